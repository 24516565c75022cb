set_option maxHeartbeats 4000000 in
set_option maxRecDepth 100000 in
theorem tX12_hasLike (l : Launch) (D : va_G) (cs : Nat → ClassId) {kp : Nat → Nat} {L : List Nat} {E : Nat → va_E} (a0 : Nat) (x1 : Int32) (x2 : Int32) (hm0 : a0 ∈ L) (hk0 : kp a0 = 12) (hp1a : 0 ≤ x1.toInt) (hp1b : x1.toInt ≤ 15) (hp2a : 0 ≤ x2.toInt) (hp2b : x2.toInt ≤ 149) (hpre0 : x1.toInt = 15 → x2.toInt ≤ 23) (hg0 : ht_ok E a0) (sz : Nat) : Met l yX12_hasLike (.code yX12_hasLike cX12_hasLike 5 (some .boolean) :: cx_big) { frames := 1, cells := 0, slots := 0, locals := 22 } (tw_P D cs kp L E [.ref a0, .int x1, .int x2] sz) (tw_Q D cs kp L (fun v kq Lq Eq => (∃ x : Int32, v = some (.int x) ∧ 0 ≤ x.toInt ∧ x.toInt ≤ 1) ∧ kp = kq ∧ L = Lq ∧ E = Eq) (va_A (va_pl L E) sz)) 0 0 (va_A (va_pl L E) sz) := by
  refine tw_ofW (by decide) (Nat.le_of_ble_eq_true rfl) ?_
  intro p e s m below meth c A ls hx hb hr hml hB hown hlocks hK hN hA TH hS hl
  have hown : s.vm.findClass "TreeMergeModel" = some m.cls := hown
  have hl : lv_has ls 5 [(0, .ref a0), (1, .int x1), (2, .int x2)] := hl
  obtain ⟨kp0, ekp⟩ : ∃ z, z = kp := ⟨_, rfl⟩
  obtain ⟨L0, eL⟩ : ∃ z, z = L := ⟨_, rfl⟩
  rw [show tw_Q D cs kp L = tw_Q D cs kp0 L0 by rw [ekp, eL]]
  have hex : ∀ a : Nat, a ∈ L0 → a ∈ L ∧ kp a = kp0 a := fun a h => ⟨by rw [← eL]; exact h, by rw [ekp]⟩
  refine lv_aload_n hx hb dX12_hasLike_0 rfl (lv_at hl 0 rfl) ?_
  refine tw_get (ci := 12) (C := RX12) (T := TX12) (N := 64) hx hb hB cx_inX12 hown hK TH hm0 hk0 rfl ⟨by decide, rfl⟩ 33 (by decide) cw_1226 (fun _ h9 => h9) dX12_hasLike_1 (fun hv => ?_)
  obtain ⟨xr1, hxr1, hmxr1, hkxr1⟩ : ∃ a : Nat, tw_fv E a0 33 = .ref a ∧ a ∈ L ∧ kp a = 339 := hv
  rw [hxr1]
  refine lv_aload_n hx hb dX12_hasLike_4 rfl (lv_at hl 0 rfl) ?_
  refine lv_iload_n hx hb dX12_hasLike_5 rfl (lv_at hl 1 rfl) ?_
  refine lv_iload_n hx hb dX12_hasLike_6 rfl (lv_at hl 2 rfl) ?_
  refine tw_Vc (o := a0) (ci := 12) (n := 2) (post := (fun v kq Lq Eq => (∃ x : Int32, v = some (.int x) ∧ 0 ≤ x.toInt ∧ x.toInt ≤ 9) ∧ kp = kq ∧ L = Lq ∧ E = Eq)) (As := [.int x1, .int x2]) (rest := [.ref xr1]) ⟨hx, hb, hml, hown, hB⟩ (fun sz => tX12_kindOf l D cs a0 x1 x2 hm0 hk0 (by omega) (by omega) (by omega) (by omega) (by  omega) sz) cg_12_301_X12_kindOf rfl rfl (by decide +kernel) ⟨Nat.le_of_ble_eq_true rfl, Nat.le_of_ble_eq_true rfl⟩ hK hN TH hS hA rfl hm0 hk0 (by decide) rfl hl.1 rfl (Nat.le_of_ble_eq_true rfl) dX12_hasLike_7 ⟨Nat.le_of_ble_eq_true rfl, Nat.le_of_ble_eq_true rfl⟩ (fun v2 kp2 L2 E2 H locs hq2 hx2 TH hS => ?_)
  obtain ⟨⟨xc3, rfl, hxc3a, hxc3b⟩, rfl, rfl, rfl⟩ := hq2
  refine W.eq (g2 := F0 m 10 ls [.int xc3, .ref xr1]) rfl ?_
  refine tw_iald (k := 339) (t0 := 0) (n := 10) (lo := 0) (hi := 2) hx hb hK TH hmxr1 hkxr1 (by decide) rfl rfl (i := xc3) (vp_in_iff.mpr ⟨by  omega, by  omega⟩) dX12_hasLike_10 (fun hxe4a hxe4b => ?_)
  obtain ⟨xe4, exe4⟩ : ∃ z : Int32, tw_iv E xr1 (Int32.toNatClampNeg xc3) = z := ⟨_, rfl⟩
  rw [exe4] at hxe4a hxe4b ⊢
  refine lv_iconst (v := 1) hx hb dX12_hasLike_11 (by decide) ?_
  refine lv_icmp_eq (tgt := 17) hx hb dX12_hasLike_12 (by decide) (fun hc5 => ?_) (fun hc5 => ?_)
  · have hf6 : xe4.toInt = 1 := by have z := (fa_eq _ _).mp hc5; have : ((1 : Int32).toInt) = 1 := (by decide); omega
    refine lv_iconst (v := 0) hx hb dX12_hasLike_17 (by decide) ?_
    refine lv_istore_n (lv' := [(3, .int 0), (0, .ref a0), (1, .int x1), (2, .int x2)]) hx hb dX12_hasLike_18 rfl hl (by decide) rfl (fun ls hl => ?_)
    have hJ19 : ∀ (n19 : Nat) (y19_3 : Int32) (H : Heap) (locs : List Loc) (ls : Array Slot), 0 ≤ y19_3.toInt → y19_3.toInt ≤ 150 → 150 - y19_3.toInt ≤ (n19 : Int) → tw_H D cs kp L E A H → va_S A s.heap H locs → lv_has ls 5 [(3, .int y19_3), (0, .ref a0), (1, .int x1), (2, .int x2)] → W p l e { frames := 1, cells := 0, slots := 0, locals := 22 } s m [.ref a0, .int x1, .int x2].toArray below meth c H locs 0 0 (MQ below (tw_Q D cs kp0 L0 (fun v kq Lq Eq => (∃ x : Int32, v = some (.int x) ∧ 0 ≤ x.toInt ∧ x.toInt ≤ 1) ∧ kp = kq ∧ L = Lq ∧ E = Eq) A) [.ref a0, .int x1, .int x2].toArray s 0 0 A) (F0 m 19 ls []) := by
      intro n19
      induction n19 using Nat.strongRecOn with
      | _ n19 ih19 =>
        intro y19_3 H locs ls hy19_3a hy19_3b hmeas19 TH hS hl
        refine lv_iload_n hx hb dX12_hasLike_19 rfl (lv_at hl 0 rfl) ?_
        refine lv_sipush (v := 150) hx hb dX12_hasLike_20 (by decide) ?_
        refine lv_icmp_ge (tgt := 141) hx hb dX12_hasLike_23 (by decide) (fun hc7 => ?_) (fun hc7 => ?_)
        · have hf8 : 150 ≤ y19_3.toInt := by have z := (fa_le _ _).mp hc7; have : ((150 : Int32).toInt) = 150 := (by decide); omega
          refine lv_iconst (v := 0) hx hb dX12_hasLike_141 (by decide) ?_
          exact tw_zret hx hb hr hlocks (by decide) TH hS hex ⟨⟨_, rfl, (show 0 ≤ Int32.toInt 0 from by have : ((0 : Int32).toInt) = 0 := (by decide); omega), (show Int32.toInt 0 ≤ 1 from by have : ((0 : Int32).toInt) = 0 := (by decide); omega)⟩, rfl, rfl, rfl⟩ (Nat.le_of_ble_eq_true rfl) (Nat.le_of_ble_eq_true rfl) dX12_hasLike_142
        · have hf9 : ¬ (150 ≤ y19_3.toInt) := fun q => hc7 ((fa_le _ _).mpr (by have : ((150 : Int32).toInt) = 150 := (by decide); omega))
          refine lv_aload_n hx hb dX12_hasLike_26 rfl (lv_at hl 1 rfl) ?_
          refine tw_get (ci := 12) (C := RX12) (T := TX12) (N := 64) hx hb hB cx_inX12 hown hK TH hm0 hk0 rfl ⟨by decide, rfl⟩ 16 (by decide) cw_1209 (fun _ h9 => h9) dX12_hasLike_27 (fun hv => ?_)
          obtain ⟨xr10, hxr10, hmxr10, hkxr10⟩ : ∃ a : Nat, tw_fv E a0 16 = .ref a ∧ a ∈ L ∧ kp a = 316 := hv
          rw [hxr10]
          refine lv_iload_n hx hb dX12_hasLike_30 rfl (lv_at hl 2 rfl) ?_
          refine tw_aald (k := 316) (t0 := 5) (n := 16) (lo := 326) (hi := 0) (ty := .boolean) hx hb hK TH hmxr10 hkxr10 (by decide) rfl rfl (i := x1) (vp_in_iff.mpr ⟨by  omega, by  omega⟩) dX12_hasLike_31 (fun xr11 exr11 hmxr11 hkxr11 => ?_)
          have hkxr11 : kp xr11 = 326 := hkxr11
          refine lv_iload_n hx hb dX12_hasLike_32 rfl (lv_at hl 0 rfl) ?_
          refine tw_zald (k := 326) (t0 := 3) (n := 150) (lo := 0) (hi := 1) hx hb hK TH hmxr11 hkxr11 (by decide) rfl rfl (i := y19_3) (vp_in_iff.mpr ⟨by  omega, by  omega⟩) dX12_hasLike_33 (fun hxe12a hxe12b => ?_)
          obtain ⟨xe12, exe12⟩ : ∃ z : Int32, tw_iv E xr11 (Int32.toNatClampNeg y19_3) = z := ⟨_, rfl⟩
          rw [exe12] at hxe12a hxe12b ⊢
          have hJ135 : ∀  (H : Heap) (locs : List Loc) (ls : Array Slot), tw_H D cs kp L E A H → va_S A s.heap H locs → lv_has ls 5 [(3, .int y19_3), (0, .ref a0), (1, .int x1), (2, .int x2)] → W p l e { frames := 1, cells := 0, slots := 0, locals := 22 } s m [.ref a0, .int x1, .int x2].toArray below meth c H locs 0 0 (MQ below (tw_Q D cs kp0 L0 (fun v kq Lq Eq => (∃ x : Int32, v = some (.int x) ∧ 0 ≤ x.toInt ∧ x.toInt ≤ 1) ∧ kp = kq ∧ L = Lq ∧ E = Eq) A) [.ref a0, .int x1, .int x2].toArray s 0 0 A) (F0 m 135 ls []) := by
            intro H locs ls TH hS hl
            obtain ⟨zi13, ezi13⟩ : ∃ z : Int32, z = y19_3 + Int32.ofInt 1 := ⟨_, rfl⟩
            have hzi13 : zi13.toInt = y19_3.toInt + 1 := by rw [ezi13]; have : ((Int32.ofInt 1).toInt) = 1 := (by decide);  exact (ia_add (by omega) (by omega)).trans (by omega)
            refine lv_iinc (v := zi13) (lv' := [(3, .int zi13), (0, .ref a0), (1, .int x1), (2, .int x2)]) hx hb dX12_hasLike_135 hl (k := 0) rfl ezi13.symm (by decide) rfl (fun ls hl => ?_)
            refine lv_goto (tgt := 19) hx hb dX12_hasLike_138 (by decide) ?_
            exact ih19 (n19 - 1) (by   omega) zi13 _ _ ls (by omega) (by omega) (by   omega) TH hS (lv_sub hl [0, 1, 2, 3] rfl)
          refine lv_if_eq (tgt := 135) hx hb dX12_hasLike_34 (by decide) (fun hc14 => ?_) (fun hc14 => ?_)
          · have hf15 : xe12.toInt = 0 := by have z := (fa_eq _ _).mp hc14; have : ((0 : Int32).toInt) = 0 := (by decide); omega
            exact hJ135  _ _ ls  TH hS (lv_sub hl [0, 1, 2, 3] rfl)
          · have hf16 : ¬ (xe12.toInt = 0) := fun q => hc14 ((fa_eq _ _).mpr (by have : ((0 : Int32).toInt) = 0 := (by decide); omega))
            refine lv_aload_n hx hb dX12_hasLike_37 rfl (lv_at hl 1 rfl) ?_
            refine tw_get (ci := 12) (C := RX12) (T := TX12) (N := 64) hx hb hB cx_inX12 hown hK TH hm0 hk0 rfl ⟨by decide, rfl⟩ 18 (by decide) cw_1211 (fun _ h9 => h9) dX12_hasLike_38 (fun hv => ?_)
            obtain ⟨xr17, hxr17, hmxr17, hkxr17⟩ : ∃ a : Nat, tw_fv E a0 18 = .ref a ∧ a ∈ L ∧ kp a = 318 := hv
            rw [hxr17]
            refine lv_iload_n hx hb dX12_hasLike_41 rfl (lv_at hl 2 rfl) ?_
            refine tw_aald (k := 318) (t0 := 4) (n := 16) (lo := 328) (hi := 0) (ty := .int) hx hb hK TH hmxr17 hkxr17 (by decide) rfl rfl (i := x1) (vp_in_iff.mpr ⟨by  omega, by  omega⟩) dX12_hasLike_42 (fun xr18 exr18 hmxr18 hkxr18 => ?_)
            have hkxr18 : kp xr18 = 328 := hkxr18
            refine lv_iload_n hx hb dX12_hasLike_43 rfl (lv_at hl 0 rfl) ?_
            refine tw_iald (k := 328) (t0 := 0) (n := 150) (lo := (-1)) (hi := 149) hx hb hK TH hmxr18 hkxr18 (by decide) rfl rfl (i := y19_3) (vp_in_iff.mpr ⟨by  omega, by  omega⟩) dX12_hasLike_44 (fun hxe19a hxe19b => ?_)
            obtain ⟨xe19, exe19⟩ : ∃ z : Int32, tw_iv E xr18 (Int32.toNatClampNeg y19_3) = z := ⟨_, rfl⟩
            rw [exe19] at hxe19a hxe19b ⊢
            refine lv_iload_n hx hb dX12_hasLike_45 rfl (lv_at hl 3 rfl) ?_
            refine lv_icmp_eq (tgt := 52) hx hb dX12_hasLike_46 (by decide) (fun hc20 => ?_) (fun hc20 => ?_)
            · have hf21 : xe19.toInt = x2.toInt := by have z := (fa_eq _ _).mp hc20;  omega
              refine lv_iload_n hx hb dX12_hasLike_52 rfl (lv_at hl 0 rfl) ?_
              refine lv_iconst (v := 1) hx hb dX12_hasLike_53 (by decide) ?_
              refine lv_iadd hx hb dX12_hasLike_54 ?_
              refine lv_topi (fun zi22 ezi22 => ?_)
              have hzi22 : zi22.toInt = y19_3.toInt + 1 := by rw [ezi22]; have : ((1 : Int32).toInt) = 1 := (by decide); have := ia_lo y19_3; have := ia_hi y19_3; exact (ia_add (by omega) (by omega)).trans (by omega)
              refine lv_istore (lv' := [(4, .int zi22), (3, .int y19_3), (0, .ref a0), (1, .int x1), (2, .int x2)]) hx hb dX12_hasLike_55 hl (by decide) rfl (fun ls hl => ?_)
              have hJ57 : ∀ (n57 : Nat) (y57_4 : Int32) (H : Heap) (locs : List Loc) (ls : Array Slot), 1 ≤ y57_4.toInt → y57_4.toInt ≤ 150 → 150 - y57_4.toInt ≤ (n57 : Int) → tw_H D cs kp L E A H → va_S A s.heap H locs → lv_has ls 5 [(4, .int y57_4), (3, .int y19_3), (0, .ref a0), (1, .int x1), (2, .int x2)] → W p l e { frames := 1, cells := 0, slots := 0, locals := 22 } s m [.ref a0, .int x1, .int x2].toArray below meth c H locs 0 0 (MQ below (tw_Q D cs kp0 L0 (fun v kq Lq Eq => (∃ x : Int32, v = some (.int x) ∧ 0 ≤ x.toInt ∧ x.toInt ≤ 1) ∧ kp = kq ∧ L = Lq ∧ E = Eq) A) [.ref a0, .int x1, .int x2].toArray s 0 0 A) (F0 m 57 ls []) := by
                intro n57
                induction n57 using Nat.strongRecOn with
                | _ n57 ih57 =>
                  intro y57_4 H locs ls hy57_4a hy57_4b hmeas57 TH hS hl
                  refine lv_iload hx hb dX12_hasLike_57 (lv_at hl 0 rfl) ?_
                  refine lv_sipush (v := 150) hx hb dX12_hasLike_59 (by decide) ?_
                  refine lv_icmp_ge (tgt := 135) hx hb dX12_hasLike_62 (by decide) (fun hc23 => ?_) (fun hc23 => ?_)
                  · have hf24 : 150 ≤ y57_4.toInt := by have z := (fa_le _ _).mp hc23; have : ((150 : Int32).toInt) = 150 := (by decide); omega
                    exact hJ135  _ _ ls  TH hS (lv_sub hl [1, 2, 3, 4] rfl)
                  · have hf25 : ¬ (150 ≤ y57_4.toInt) := fun q => hc23 ((fa_le _ _).mpr (by have : ((150 : Int32).toInt) = 150 := (by decide); omega))
                    refine lv_aload_n hx hb dX12_hasLike_65 rfl (lv_at hl 2 rfl) ?_
                    refine tw_get (ci := 12) (C := RX12) (T := TX12) (N := 64) hx hb hB cx_inX12 hown hK TH hm0 hk0 rfl ⟨by decide, rfl⟩ 16 (by decide) cw_1209 (fun _ h9 => h9) dX12_hasLike_66 (fun hv => ?_)
                    rw [hxr10]
                    refine lv_iload_n hx hb dX12_hasLike_69 rfl (lv_at hl 3 rfl) ?_
                    refine tw_aald (k := 316) (t0 := 5) (n := 16) (lo := 326) (hi := 0) (ty := .boolean) hx hb hK TH hmxr10 hkxr10 (by decide) rfl rfl (i := x1) (vp_in_iff.mpr ⟨by  omega, by  omega⟩) dX12_hasLike_70 (fun xr26 exr26 hmxr26 hkxr26 => ?_)
                    have ezxr26 : xr11 = xr26 := exr11.symm.trans exr26
                    subst ezxr26
                    refine lv_iload hx hb dX12_hasLike_71 (lv_at hl 0 rfl) ?_
                    refine tw_zald (k := 326) (t0 := 3) (n := 150) (lo := 0) (hi := 1) hx hb hK TH hmxr11 hkxr11 (by decide) rfl rfl (i := y57_4) (vp_in_iff.mpr ⟨by  omega, by  omega⟩) dX12_hasLike_73 (fun hxe27a hxe27b => ?_)
                    obtain ⟨xe27, exe27⟩ : ∃ z : Int32, tw_iv E xr11 (Int32.toNatClampNeg y57_4) = z := ⟨_, rfl⟩
                    rw [exe27] at hxe27a hxe27b ⊢
                    have hJ129 : ∀  (H : Heap) (locs : List Loc) (ls : Array Slot), tw_H D cs kp L E A H → va_S A s.heap H locs → lv_has ls 5 [(4, .int y57_4), (3, .int y19_3), (0, .ref a0), (1, .int x1), (2, .int x2)] → W p l e { frames := 1, cells := 0, slots := 0, locals := 22 } s m [.ref a0, .int x1, .int x2].toArray below meth c H locs 0 0 (MQ below (tw_Q D cs kp0 L0 (fun v kq Lq Eq => (∃ x : Int32, v = some (.int x) ∧ 0 ≤ x.toInt ∧ x.toInt ≤ 1) ∧ kp = kq ∧ L = Lq ∧ E = Eq) A) [.ref a0, .int x1, .int x2].toArray s 0 0 A) (F0 m 129 ls []) := by
                      intro H locs ls TH hS hl
                      obtain ⟨zi28, ezi28⟩ : ∃ z : Int32, z = y57_4 + Int32.ofInt 1 := ⟨_, rfl⟩
                      have hzi28 : zi28.toInt = y57_4.toInt + 1 := by rw [ezi28]; have : ((Int32.ofInt 1).toInt) = 1 := (by decide);  exact (ia_add (by omega) (by omega)).trans (by omega)
                      refine lv_iinc (v := zi28) (lv' := [(4, .int zi28), (3, .int y19_3), (0, .ref a0), (1, .int x1), (2, .int x2)]) hx hb dX12_hasLike_129 hl (k := 0) rfl ezi28.symm (by decide) rfl (fun ls hl => ?_)
                      refine lv_goto (tgt := 57) hx hb dX12_hasLike_132 (by decide) ?_
                      exact ih57 (n57 - 1) (by   omega) zi28 _ _ ls (by omega) (by omega) (by   omega) TH hS (lv_sub hl [0, 1, 2, 3, 4] rfl)
                    refine lv_if_eq (tgt := 129) hx hb dX12_hasLike_74 (by decide) (fun hc29 => ?_) (fun hc29 => ?_)
                    · have hf30 : xe27.toInt = 0 := by have z := (fa_eq _ _).mp hc29; have : ((0 : Int32).toInt) = 0 := (by decide); omega
                      exact hJ129  _ _ ls  TH hS (lv_sub hl [0, 1, 2, 3, 4] rfl)
                    · have hf31 : ¬ (xe27.toInt = 0) := fun q => hc29 ((fa_eq _ _).mpr (by have : ((0 : Int32).toInt) = 0 := (by decide); omega))
                      refine lv_aload_n hx hb dX12_hasLike_77 rfl (lv_at hl 2 rfl) ?_
                      refine tw_get (ci := 12) (C := RX12) (T := TX12) (N := 64) hx hb hB cx_inX12 hown hK TH hm0 hk0 rfl ⟨by decide, rfl⟩ 18 (by decide) cw_1211 (fun _ h9 => h9) dX12_hasLike_78 (fun hv => ?_)
                      rw [hxr17]
                      refine lv_iload_n hx hb dX12_hasLike_81 rfl (lv_at hl 3 rfl) ?_
                      refine tw_aald (k := 318) (t0 := 4) (n := 16) (lo := 328) (hi := 0) (ty := .int) hx hb hK TH hmxr17 hkxr17 (by decide) rfl rfl (i := x1) (vp_in_iff.mpr ⟨by  omega, by  omega⟩) dX12_hasLike_82 (fun xr32 exr32 hmxr32 hkxr32 => ?_)
                      have ezxr32 : xr18 = xr32 := exr18.symm.trans exr32
                      subst ezxr32
                      refine lv_iload hx hb dX12_hasLike_83 (lv_at hl 0 rfl) ?_
                      refine tw_iald (k := 328) (t0 := 0) (n := 150) (lo := (-1)) (hi := 149) hx hb hK TH hmxr18 hkxr18 (by decide) rfl rfl (i := y57_4) (vp_in_iff.mpr ⟨by  omega, by  omega⟩) dX12_hasLike_85 (fun hxe33a hxe33b => ?_)
                      obtain ⟨xe33, exe33⟩ : ∃ z : Int32, tw_iv E xr18 (Int32.toNatClampNeg y57_4) = z := ⟨_, rfl⟩
                      rw [exe33] at hxe33a hxe33b ⊢
                      refine lv_iload_n hx hb dX12_hasLike_86 rfl (lv_at hl 4 rfl) ?_
                      refine lv_icmp_ne (tgt := 129) hx hb dX12_hasLike_87 (by decide) (fun hc34 => ?_) (fun hc34 => ?_)
                      · have hf35 : ¬ (xe33.toInt = x2.toInt) := fun q => hc34 ((fa_eq _ _).mpr (by  omega))
                        exact hJ129  _ _ ls  TH hS (lv_sub hl [0, 1, 2, 3, 4] rfl)
                      · have hf36 : xe33.toInt = x2.toInt := by have z := (fa_eq _ _).mp hc34;  omega
                        refine lv_aload_n hx hb dX12_hasLike_90 rfl (lv_at hl 2 rfl) ?_
                        refine lv_iload_n hx hb dX12_hasLike_91 rfl (lv_at hl 3 rfl) ?_
                        refine lv_iload_n hx hb dX12_hasLike_92 rfl (lv_at hl 1 rfl) ?_
                        refine tw_Vc (o := a0) (ci := 12) (n := 2) (post := (fun v kq Lq Eq => (∃ x : Int32, v = some (.int x) ∧ 0 ≤ x.toInt ∧ x.toInt ≤ 9) ∧ kp = kq ∧ L = Lq ∧ E = Eq)) (As := [.int x1, .int y19_3]) (rest := []) ⟨hx, hb, hml, hown, hB⟩ (fun sz => tX12_kindOf l D cs a0 x1 y19_3 hm0 hk0 (by omega) (by omega) (by omega) (by omega) (by  have rf_xe12 : rw_h E a0 (x1.toInt) (y19_3.toInt).toNat = xe12.toInt := rw_h_of (m := a0) (i := x1) (c := y19_3) hxr10 exr11 exe12; have rf_xe19 : rw_p E a0 (x1.toInt) (y19_3.toInt).toNat = xe19.toInt := rw_p_of (m := a0) (i := x1) (c := y19_3) hxr17 exr18 exe19; have rf_xe27 : rw_h E a0 (x1.toInt) (y57_4.toInt).toNat = xe27.toInt := rw_h_of (m := a0) (i := x1) (c := y57_4) hxr10 exr11 exe27; have rf_xe33 : rw_p E a0 (x1.toInt) (y57_4.toInt).toNat = xe33.toInt := rw_p_of (m := a0) (i := x1) (c := y57_4) hxr17 exr18 exe33; intro q15; exact ht_le hg0 (by omega) (by omega) (by rw [rf_xe12]; omega) q15) sz) cg_12_301_X12_kindOf rfl rfl (by decide +kernel) ⟨Nat.le_of_ble_eq_true rfl, Nat.le_of_ble_eq_true rfl⟩ hK hN TH hS hA rfl hm0 hk0 (by decide) rfl hl.1 rfl (Nat.le_of_ble_eq_true rfl) dX12_hasLike_93 ⟨Nat.le_of_ble_eq_true rfl, Nat.le_of_ble_eq_true rfl⟩ (fun v37 kp37 L37 E37 H locs hq37 hx37 TH hS => ?_)
                        obtain ⟨⟨xc38, rfl, hxc38a, hxc38b⟩, rfl, rfl, rfl⟩ := hq37
                        refine W.eq (g2 := F0 m 96 ls [.int xc38]) rfl ?_
                        refine lv_aload_n hx hb dX12_hasLike_96 rfl (lv_at hl 2 rfl) ?_
                        refine lv_iload_n hx hb dX12_hasLike_97 rfl (lv_at hl 3 rfl) ?_
                        refine lv_iload hx hb dX12_hasLike_98 (lv_at hl 0 rfl) ?_
                        refine tw_Vc (o := a0) (ci := 12) (n := 2) (post := (fun v kq Lq Eq => (∃ x : Int32, v = some (.int x) ∧ 0 ≤ x.toInt ∧ x.toInt ≤ 9) ∧ kp = kq ∧ L = Lq ∧ E = Eq)) (As := [.int x1, .int y57_4]) (rest := [.int xc38]) ⟨hx, hb, hml, hown, hB⟩ (fun sz => tX12_kindOf l D cs a0 x1 y57_4 hm0 hk0 (by omega) (by omega) (by omega) (by omega) (by  have rf_xe12 : rw_h E a0 (x1.toInt) (y19_3.toInt).toNat = xe12.toInt := rw_h_of (m := a0) (i := x1) (c := y19_3) hxr10 exr11 exe12; have rf_xe19 : rw_p E a0 (x1.toInt) (y19_3.toInt).toNat = xe19.toInt := rw_p_of (m := a0) (i := x1) (c := y19_3) hxr17 exr18 exe19; have rf_xe27 : rw_h E a0 (x1.toInt) (y57_4.toInt).toNat = xe27.toInt := rw_h_of (m := a0) (i := x1) (c := y57_4) hxr10 exr11 exe27; have rf_xe33 : rw_p E a0 (x1.toInt) (y57_4.toInt).toNat = xe33.toInt := rw_p_of (m := a0) (i := x1) (c := y57_4) hxr17 exr18 exe33; intro q15; exact ht_le hg0 (by omega) (by omega) (by rw [rf_xe27]; omega) q15) sz) cg_12_301_X12_kindOf rfl rfl (by decide +kernel) ⟨Nat.le_of_ble_eq_true rfl, Nat.le_of_ble_eq_true rfl⟩ hK hN TH hS hA rfl hm0 hk0 (by decide) rfl hl.1 rfl (Nat.le_of_ble_eq_true rfl) dX12_hasLike_100 ⟨Nat.le_of_ble_eq_true rfl, Nat.le_of_ble_eq_true rfl⟩ (fun v39 kp39 L39 E39 H locs hq39 hx39 TH hS => ?_)
                        obtain ⟨⟨xc40, rfl, hxc40a, hxc40b⟩, rfl, rfl, rfl⟩ := hq39
                        refine W.eq (g2 := F0 m 103 ls [.int xc40, .int xc38]) rfl ?_
                        refine lv_icmp_ne (tgt := 129) hx hb dX12_hasLike_103 (by decide) (fun hc41 => ?_) (fun hc41 => ?_)
                        · have hf42 : ¬ (xc38.toInt = xc40.toInt) := fun q => hc41 ((fa_eq _ _).mpr (by  omega))
                          exact hJ129  _ _ ls  TH hS (lv_sub hl [0, 1, 2, 3, 4] rfl)
                        · have hf43 : xc38.toInt = xc40.toInt := by have z := (fa_eq _ _).mp hc41;  omega
                          refine lv_aload_n hx hb dX12_hasLike_106 rfl (lv_at hl 2 rfl) ?_
                          refine tw_get (ci := 12) (C := RX12) (T := TX12) (N := 64) hx hb hB cx_inX12 hown hK TH hm0 hk0 rfl ⟨by decide, rfl⟩ 17 (by decide) cw_1210 (fun _ h9 => h9) dX12_hasLike_107 (fun hv => ?_)
                          obtain ⟨xr44, hxr44, hmxr44, hkxr44⟩ : ∃ a : Nat, tw_fv E a0 17 = .ref a ∧ a ∈ L ∧ kp a = 317 := hv
                          rw [hxr44]
                          refine lv_iload_n hx hb dX12_hasLike_110 rfl (lv_at hl 3 rfl) ?_
                          refine tw_aald (k := 317) (t0 := 6) (n := 16) (lo := 327) (hi := 0) (ty := .long) hx hb hK TH hmxr44 hkxr44 (by decide) rfl rfl (i := x1) (vp_in_iff.mpr ⟨by  omega, by  omega⟩) dX12_hasLike_111 (fun xr45 exr45 hmxr45 hkxr45 => ?_)
                          have hkxr45 : kp xr45 = 327 := hkxr45
                          refine lv_iload_n hx hb dX12_hasLike_112 rfl (lv_at hl 1 rfl) ?_
                          refine tw_lald2 (k := 327) (n := 150) (lo := 0) (hi := 0) hx hb hK TH hmxr45 hkxr45 (by decide) rfl (i := y19_3) (vp_in_iff.mpr ⟨by  omega, by  omega⟩) dX12_hasLike_113 (fun xl46 exl46 => ?_)
                          refine lv_aload_n hx hb dX12_hasLike_114 rfl (lv_at hl 2 rfl) ?_
                          refine tw_get (ci := 12) (C := RX12) (T := TX12) (N := 64) hx hb hB cx_inX12 hown hK TH hm0 hk0 rfl ⟨by decide, rfl⟩ 17 (by decide) cw_1210 (fun _ h9 => h9) dX12_hasLike_115 (fun hv => ?_)
                          rw [hxr44]
                          refine lv_iload_n hx hb dX12_hasLike_118 rfl (lv_at hl 3 rfl) ?_
                          refine tw_aald (k := 317) (t0 := 6) (n := 16) (lo := 327) (hi := 0) (ty := .long) hx hb hK TH hmxr44 hkxr44 (by decide) rfl rfl (i := x1) (vp_in_iff.mpr ⟨by  omega, by  omega⟩) dX12_hasLike_119 (fun xr47 exr47 hmxr47 hkxr47 => ?_)
                          have ezxr47 : xr45 = xr47 := exr45.symm.trans exr47
                          subst ezxr47
                          refine lv_iload hx hb dX12_hasLike_120 (lv_at hl 0 rfl) ?_
                          refine tw_lald2 (k := 327) (n := 150) (lo := 0) (hi := 0) hx hb hK TH hmxr45 hkxr45 (by decide) rfl (i := y57_4) (vp_in_iff.mpr ⟨by  omega, by  omega⟩) dX12_hasLike_122 (fun xl48 exl48 => ?_)
                          refine W.lcmp hx hb dX12_hasLike_123 ?_
                          have hzi49 := ia_lc xl46 xl48
                          generalize lg_cmp xl46 xl48 = zi49 at hzi49 ⊢
                          refine lv_if_ne (tgt := 129) hx hb dX12_hasLike_124 (by decide) (fun hc50 => ?_) (fun hc50 => ?_)
                          · have hf51 : ¬ (zi49.toInt = 0) := fun q => hc50 ((fa_eq _ _).mpr (by have : ((0 : Int32).toInt) = 0 := (by decide); omega))
                            exact hJ129  _ _ ls  TH hS (lv_sub hl [0, 1, 2, 3, 4] rfl)
                          · have hf52 : zi49.toInt = 0 := by have z := (fa_eq _ _).mp hc50; have : ((0 : Int32).toInt) = 0 := (by decide); omega
                            refine lv_iconst (v := 1) hx hb dX12_hasLike_127 (by decide) ?_
                            exact tw_zret hx hb hr hlocks (by decide) TH hS hex ⟨⟨_, rfl, (show 0 ≤ Int32.toInt 1 from by have : ((1 : Int32).toInt) = 1 := (by decide); omega), (show Int32.toInt 1 ≤ 1 from by have : ((1 : Int32).toInt) = 1 := (by decide); omega)⟩, rfl, rfl, rfl⟩ (Nat.le_of_ble_eq_true rfl) (Nat.le_of_ble_eq_true rfl) dX12_hasLike_128
              exact hJ57 150 zi22 _ _ ls (by omega) (by omega) (by   omega) TH hS (lv_sub hl [0, 1, 2, 3, 4] rfl)
            · have hf53 : ¬ (xe19.toInt = x2.toInt) := fun q => hc20 ((fa_eq _ _).mpr (by  omega))
              refine lv_goto (tgt := 135) hx hb dX12_hasLike_49 (by decide) ?_
              exact hJ135  _ _ ls  TH hS (lv_sub hl [0, 1, 2, 3] rfl)
    exact hJ19 151 (0 : Int32) _ _ ls (by have : ((0 : Int32).toInt) = 0 := (by decide); omega) (by have : ((0 : Int32).toInt) = 0 := (by decide); omega) (by have : ((0 : Int32).toInt) = 0 := (by decide);  omega) TH hS (lv_sub hl [0, 1, 2, 3] rfl)
  · have hf54 : ¬ (xe4.toInt = 1) := fun q => hc5 ((fa_eq _ _).mpr (by have : ((1 : Int32).toInt) = 1 := (by decide); omega))
    refine lv_iconst (v := 0) hx hb dX12_hasLike_15 (by decide) ?_
    exact tw_zret hx hb hr hlocks (by decide) TH hS hex ⟨⟨_, rfl, (show 0 ≤ Int32.toInt 0 from by have : ((0 : Int32).toInt) = 0 := (by decide); omega), (show Int32.toInt 0 ≤ 1 from by have : ((0 : Int32).toInt) = 0 := (by decide); omega)⟩, rfl, rfl, rfl⟩ (Nat.le_of_ble_eq_true rfl) (Nat.le_of_ble_eq_true rfl) dX12_hasLike_16
set_option maxHeartbeats 4000000 in
set_option maxRecDepth 100000 in
theorem tX12_parentsPair (l : Launch) (D : va_G) (cs : Nat → ClassId) {kp : Nat → Nat} {L : List Nat} {E : Nat → va_E} (a0 : Nat) (x1 : Int32) (x2 : Int32) (x3 : Int32) (hm0 : a0 ∈ L) (hk0 : kp a0 = 12) (hp1a : 0 ≤ x1.toInt) (hp1b : x1.toInt ≤ 15) (hp2a : 0 ≤ x2.toInt) (hp2b : x2.toInt ≤ 39) (hp3a : 0 ≤ x3.toInt) (hp3b : x3.toInt ≤ 23) (sz : Nat) : Met l yX12_parentsPair (.code yX12_parentsPair cX12_parentsPair 4 (some .boolean) :: cx_big) { frames := 1, cells := 0, slots := 0, locals := 22 } (tw_P D cs kp L E [.ref a0, .int x1, .int x2, .int x3] sz) (tw_Q D cs kp L (fun v kq Lq Eq => (∃ x : Int32, v = some (.int x) ∧ 0 ≤ x.toInt ∧ x.toInt ≤ 1) ∧ kp = kq ∧ L = Lq ∧ E = Eq) (va_A (va_pl L E) sz)) 0 0 (va_A (va_pl L E) sz) := by
  refine tw_ofW (by decide) (Nat.le_of_ble_eq_true rfl) ?_
  intro p e s m below meth c A ls hx hb hr hml hB hown hlocks hK hN hA TH hS hl
  have hown : s.vm.findClass "TreeMergeModel" = some m.cls := hown
  have hl : lv_has ls 4 [(0, .ref a0), (1, .int x1), (2, .int x2), (3, .int x3)] := hl
  obtain ⟨kp0, ekp⟩ : ∃ z, z = kp := ⟨_, rfl⟩
  obtain ⟨L0, eL⟩ : ∃ z, z = L := ⟨_, rfl⟩
  rw [show tw_Q D cs kp L = tw_Q D cs kp0 L0 by rw [ekp, eL]]
  have hex : ∀ a : Nat, a ∈ L0 → a ∈ L ∧ kp a = kp0 a := fun a h => ⟨by rw [← eL]; exact h, by rw [ekp]⟩
  refine lv_aload_n hx hb dX12_parentsPair_0 rfl (lv_at hl 0 rfl) ?_
  refine tw_get (ci := 12) (C := RX12) (T := TX12) (N := 64) hx hb hB cx_inX12 hown hK TH hm0 hk0 rfl ⟨by decide, rfl⟩ 18 (by decide) cw_1211 (fun _ h9 => h9) dX12_parentsPair_1 (fun hv => ?_)
  obtain ⟨xr1, hxr1, hmxr1, hkxr1⟩ : ∃ a : Nat, tw_fv E a0 18 = .ref a ∧ a ∈ L ∧ kp a = 318 := hv
  rw [hxr1]
  refine lv_iload_n hx hb dX12_parentsPair_4 rfl (lv_at hl 1 rfl) ?_
  refine tw_aald (k := 318) (t0 := 4) (n := 16) (lo := 328) (hi := 0) (ty := .int) hx hb hK TH hmxr1 hkxr1 (by decide) rfl rfl (i := x1) (vp_in_iff.mpr ⟨by  omega, by  omega⟩) dX12_parentsPair_5 (fun xr2 exr2 hmxr2 hkxr2 => ?_)
  have hkxr2 : kp xr2 = 328 := hkxr2
  refine lv_aload_n hx hb dX12_parentsPair_6 rfl (lv_at hl 0 rfl) ?_
  refine tw_get (ci := 12) (C := RX12) (T := TX12) (N := 64) hx hb hB cx_inX12 hown hK TH hm0 hk0 rfl ⟨by decide, rfl⟩ 45 (by decide) cw_1238 (fun _ h9 => h9) dX12_parentsPair_7 (fun hv => ?_)
  obtain ⟨xr3, hxr3, hmxr3, hkxr3⟩ : ∃ a : Nat, tw_fv E a0 45 = .ref a ∧ a ∈ L ∧ kp a = 354 := hv
  rw [hxr3]
  refine lv_iload_n hx hb dX12_parentsPair_10 rfl (lv_at hl 2 rfl) ?_
  refine tw_iald (k := 354) (t0 := 0) (n := 40) (lo := 0) (hi := 149) hx hb hK TH hmxr3 hkxr3 (by decide) rfl rfl (i := x2) (vp_in_iff.mpr ⟨by  omega, by  omega⟩) dX12_parentsPair_11 (fun hxe4a hxe4b => ?_)
  obtain ⟨xe4, exe4⟩ : ∃ z : Int32, tw_iv E xr3 (Int32.toNatClampNeg x2) = z := ⟨_, rfl⟩
  rw [exe4] at hxe4a hxe4b ⊢
  refine tw_iald (k := 328) (t0 := 0) (n := 150) (lo := (-1)) (hi := 149) hx hb hK TH hmxr2 hkxr2 (by decide) rfl rfl (i := xe4) (vp_in_iff.mpr ⟨by  omega, by  omega⟩) dX12_parentsPair_12 (fun hxe5a hxe5b => ?_)
  obtain ⟨xe5, exe5⟩ : ∃ z : Int32, tw_iv E xr2 (Int32.toNatClampNeg xe4) = z := ⟨_, rfl⟩
  rw [exe5] at hxe5a hxe5b ⊢
  refine lv_iconst (v := (-1)) hx hb dX12_parentsPair_13 (by decide) ?_
  refine lv_icmp_eq (tgt := 30) hx hb dX12_parentsPair_14 (by decide) (fun hc6 => ?_) (fun hc6 => ?_)
  · have hf7 : xe5.toInt = (-1) := by have z := (fa_eq _ _).mp hc6; have : (((-1) : Int32).toInt) = (-1) := (by decide); omega
    refine lv_iconst (v := 0) hx hb dX12_parentsPair_30 (by decide) ?_
    exact tw_zret hx hb hr hlocks (by decide) TH hS hex ⟨⟨_, rfl, (show 0 ≤ Int32.toInt 0 from by have : ((0 : Int32).toInt) = 0 := (by decide); omega), (show Int32.toInt 0 ≤ 1 from by have : ((0 : Int32).toInt) = 0 := (by decide); omega)⟩, rfl, rfl, rfl⟩ (Nat.le_of_ble_eq_true rfl) (Nat.le_of_ble_eq_true rfl) dX12_parentsPair_31
  · have hf8 : ¬ (xe5.toInt = (-1)) := fun q => hc6 ((fa_eq _ _).mpr (by have : (((-1) : Int32).toInt) = (-1) := (by decide); omega))
    refine lv_aload_n hx hb dX12_parentsPair_17 rfl (lv_at hl 0 rfl) ?_
    refine tw_get (ci := 12) (C := RX12) (T := TX12) (N := 64) hx hb hB cx_inX12 hown hK TH hm0 hk0 rfl ⟨by decide, rfl⟩ 18 (by decide) cw_1211 (fun _ h9 => h9) dX12_parentsPair_18 (fun hv => ?_)
    rw [hxr1]
    refine lv_bipush (v := 15) hx hb dX12_parentsPair_21 (by decide) ?_
    refine tw_aald (k := 318) (t0 := 4) (n := 16) (lo := 328) (hi := 0) (ty := .int) hx hb hK TH hmxr1 hkxr1 (by decide) rfl rfl (i := 15) (vp_in_iff.mpr ⟨by have : ((15 : Int32).toInt) = 15 := (by decide); omega, by have : ((15 : Int32).toInt) = 15 := (by decide); omega⟩) dX12_parentsPair_23 (fun xr9 exr9 hmxr9 hkxr9 => ?_)
    have hkxr9 : kp xr9 = 328 := hkxr9
    refine lv_iload_n hx hb dX12_parentsPair_24 rfl (lv_at hl 3 rfl) ?_
    refine tw_iald (k := 328) (t0 := 0) (n := 150) (lo := (-1)) (hi := 149) hx hb hK TH hmxr9 hkxr9 (by decide) rfl rfl (i := x3) (vp_in_iff.mpr ⟨by  omega, by  omega⟩) dX12_parentsPair_25 (fun hxe10a hxe10b => ?_)
    obtain ⟨xe10, exe10⟩ : ∃ z : Int32, tw_iv E xr9 (Int32.toNatClampNeg x3) = z := ⟨_, rfl⟩
    rw [exe10] at hxe10a hxe10b ⊢
    refine lv_iconst (v := (-1)) hx hb dX12_parentsPair_26 (by decide) ?_
    refine lv_icmp_ne (tgt := 32) hx hb dX12_parentsPair_27 (by decide) (fun hc11 => ?_) (fun hc11 => ?_)
    · have hf12 : ¬ (xe10.toInt = (-1)) := fun q => hc11 ((fa_eq _ _).mpr (by have : (((-1) : Int32).toInt) = (-1) := (by decide); omega))
      refine lv_aload_n hx hb dX12_parentsPair_32 rfl (lv_at hl 0 rfl) ?_
      refine lv_aload_n hx hb dX12_parentsPair_33 rfl (lv_at hl 0 rfl) ?_
      refine tw_get (ci := 12) (C := RX12) (T := TX12) (N := 64) hx hb hB cx_inX12 hown hK TH hm0 hk0 rfl ⟨by decide, rfl⟩ 49 (by decide) cw_1242 (fun _ h9 => h9) dX12_parentsPair_34 (fun hv => ?_)
      obtain ⟨xr13, hxr13, hmxr13, hkxr13⟩ : ∃ a : Nat, tw_fv E a0 49 = .ref a ∧ a ∈ L ∧ kp a = 358 := hv
      rw [hxr13]
      refine lv_aload_n hx hb dX12_parentsPair_37 rfl (lv_at hl 0 rfl) ?_
      refine tw_get (ci := 12) (C := RX12) (T := TX12) (N := 64) hx hb hB cx_inX12 hown hK TH hm0 hk0 rfl ⟨by decide, rfl⟩ 18 (by decide) cw_1211 (fun _ h9 => h9) dX12_parentsPair_38 (fun hv => ?_)
      rw [hxr1]
      refine lv_iload_n hx hb dX12_parentsPair_41 rfl (lv_at hl 1 rfl) ?_
      refine tw_aald (k := 318) (t0 := 4) (n := 16) (lo := 328) (hi := 0) (ty := .int) hx hb hK TH hmxr1 hkxr1 (by decide) rfl rfl (i := x1) (vp_in_iff.mpr ⟨by  omega, by  omega⟩) dX12_parentsPair_42 (fun xr14 exr14 hmxr14 hkxr14 => ?_)
      have ezxr14 : xr2 = xr14 := exr2.symm.trans exr14
      subst ezxr14
      refine lv_aload_n hx hb dX12_parentsPair_43 rfl (lv_at hl 0 rfl) ?_
      refine tw_get (ci := 12) (C := RX12) (T := TX12) (N := 64) hx hb hB cx_inX12 hown hK TH hm0 hk0 rfl ⟨by decide, rfl⟩ 45 (by decide) cw_1238 (fun _ h9 => h9) dX12_parentsPair_44 (fun hv => ?_)
      rw [hxr3]
      refine lv_iload_n hx hb dX12_parentsPair_47 rfl (lv_at hl 2 rfl) ?_
      refine tw_iald (k := 354) (t0 := 0) (n := 40) (lo := 0) (hi := 149) hx hb hK TH hmxr3 hkxr3 (by decide) rfl rfl (i := x2) (vp_in_iff.mpr ⟨by  omega, by  omega⟩) dX12_parentsPair_48 (fun hxe15a hxe15b => ?_)
      rw [exe4]
      refine tw_iald (k := 328) (t0 := 0) (n := 150) (lo := (-1)) (hi := 149) hx hb hK TH hmxr2 hkxr2 (by decide) rfl rfl (i := xe4) (vp_in_iff.mpr ⟨by  omega, by  omega⟩) dX12_parentsPair_49 (fun hxe16a hxe16b => ?_)
      rw [exe5]
      refine tw_iald (k := 358) (t0 := 0) (n := 150) (lo := 0) (hi := 39) hx hb hK TH hmxr13 hkxr13 (by decide) rfl rfl (i := xe5) (vp_in_iff.mpr ⟨by  omega, by  omega⟩) dX12_parentsPair_50 (fun hxe17a hxe17b => ?_)
      obtain ⟨xe17, exe17⟩ : ∃ z : Int32, tw_iv E xr13 (Int32.toNatClampNeg xe5) = z := ⟨_, rfl⟩
      rw [exe17] at hxe17a hxe17b ⊢
      refine lv_aload_n hx hb dX12_parentsPair_51 rfl (lv_at hl 0 rfl) ?_
      refine tw_get (ci := 12) (C := RX12) (T := TX12) (N := 64) hx hb hB cx_inX12 hown hK TH hm0 hk0 rfl ⟨by decide, rfl⟩ 18 (by decide) cw_1211 (fun _ h9 => h9) dX12_parentsPair_52 (fun hv => ?_)
      rw [hxr1]
      refine lv_bipush (v := 15) hx hb dX12_parentsPair_55 (by decide) ?_
      refine tw_aald (k := 318) (t0 := 4) (n := 16) (lo := 328) (hi := 0) (ty := .int) hx hb hK TH hmxr1 hkxr1 (by decide) rfl rfl (i := 15) (vp_in_iff.mpr ⟨by have : ((15 : Int32).toInt) = 15 := (by decide); omega, by have : ((15 : Int32).toInt) = 15 := (by decide); omega⟩) dX12_parentsPair_57 (fun xr18 exr18 hmxr18 hkxr18 => ?_)
      have ezxr18 : xr9 = xr18 := exr9.symm.trans exr18
      subst ezxr18
      refine lv_iload_n hx hb dX12_parentsPair_58 rfl (lv_at hl 3 rfl) ?_
      refine tw_iald (k := 328) (t0 := 0) (n := 150) (lo := (-1)) (hi := 149) hx hb hK TH hmxr9 hkxr9 (by decide) rfl rfl (i := x3) (vp_in_iff.mpr ⟨by  omega, by  omega⟩) dX12_parentsPair_59 (fun hxe19a hxe19b => ?_)
      rw [exe10]
      refine tw_Vc (o := a0) (ci := 12) (n := 2) (post := (fun v kq Lq Eq => (∃ x : Int32, v = some (.int x) ∧ 0 ≤ x.toInt ∧ x.toInt ≤ 1) ∧ kp = kq ∧ L = Lq ∧ E = Eq)) (As := [.int xe17, .int xe10]) (rest := []) ⟨hx, hb, hml, hown, hB⟩ (fun sz => tX12_arePair l D cs a0 xe17 xe10 hm0 hk0 (by omega) (by omega) sz) cg_12_357_X12_arePair rfl rfl (by decide +kernel) ⟨Nat.le_of_ble_eq_true rfl, Nat.le_of_ble_eq_true rfl⟩ hK hN TH hS hA rfl hm0 hk0 (by decide) rfl hl.1 rfl (Nat.le_of_ble_eq_true rfl) dX12_parentsPair_60 ⟨Nat.le_of_ble_eq_true rfl, Nat.le_of_ble_eq_true rfl⟩ (fun v20 kp20 L20 E20 H locs hq20 hx20 TH hS => ?_)
      obtain ⟨⟨xc21, rfl, hxc21a, hxc21b⟩, rfl, rfl, rfl⟩ := hq20
      refine W.eq (g2 := F0 m 63 ls [.int xc21]) rfl ?_
      exact tw_zret hx hb hr hlocks (ia_bool (by omega) (by omega)) TH hS hex ⟨⟨_, rfl, (show 0 ≤ Int32.toInt xc21 from by  omega), (show Int32.toInt xc21 ≤ 1 from by  omega)⟩, rfl, rfl, rfl⟩ (Nat.le_of_ble_eq_true rfl) (Nat.le_of_ble_eq_true rfl) dX12_parentsPair_63
    · have hf22 : xe10.toInt = (-1) := by have z := (fa_eq _ _).mp hc11; have : (((-1) : Int32).toInt) = (-1) := (by decide); omega
      refine lv_iconst (v := 0) hx hb dX12_parentsPair_30 (by decide) ?_
      exact tw_zret hx hb hr hlocks (by decide) TH hS hex ⟨⟨_, rfl, (show 0 ≤ Int32.toInt 0 from by have : ((0 : Int32).toInt) = 0 := (by decide); omega), (show Int32.toInt 0 ≤ 1 from by have : ((0 : Int32).toInt) = 0 := (by decide); omega)⟩, rfl, rfl, rfl⟩ (Nat.le_of_ble_eq_true rfl) (Nat.le_of_ble_eq_true rfl) dX12_parentsPair_31
set_option maxHeartbeats 4000000 in
set_option maxRecDepth 100000 in
theorem tX12_costNow (l : Launch) (D : va_G) (cs : Nat → ClassId) {kp : Nat → Nat} {L : List Nat} {E : Nat → va_E} (a0 : Nat) (x1 : Int32) (hm0 : a0 ∈ L) (hk0 : kp a0 = 12) (hp1a : 0 ≤ x1.toInt) (hp1b : x1.toInt ≤ 15) (sz : Nat) : Met l yX12_costNow (.code yX12_costNow cX12_costNow 6 (some .int) :: cx_big) { frames := 2, cells := 0, slots := 0, locals := 45 } (tw_P D cs kp L E [.ref a0, .int x1] sz) (tw_Q D cs kp L (fun v kq Lq Eq => (∃ x : Int32, v = some (.int x)) ∧ kp = kq ∧ L = Lq ∧ E = Eq) (va_A (va_pl L E) sz)) 0 0 (va_A (va_pl L E) sz) := by
  refine tw_ofW (by decide) (Nat.le_of_ble_eq_true rfl) ?_
  intro p e s m below meth c A ls hx hb hr hml hB hown hlocks hK hN hA TH hS hl
  have hown : s.vm.findClass "TreeMergeModel" = some m.cls := hown
  have hl : lv_has ls 6 [(0, .ref a0), (1, .int x1)] := hl
  obtain ⟨kp0, ekp⟩ : ∃ z, z = kp := ⟨_, rfl⟩
  obtain ⟨L0, eL⟩ : ∃ z, z = L := ⟨_, rfl⟩
  rw [show tw_Q D cs kp L = tw_Q D cs kp0 L0 by rw [ekp, eL]]
  have hex : ∀ a : Nat, a ∈ L0 → a ∈ L ∧ kp a = kp0 a := fun a h => ⟨by rw [← eL]; exact h, by rw [ekp]⟩
  refine lv_iconst (v := 0) hx hb dX12_costNow_0 (by decide) ?_
  refine lv_istore_n (lv' := [(2, .int 0), (0, .ref a0), (1, .int x1)]) hx hb dX12_costNow_1 rfl hl (by decide) rfl (fun ls hl => ?_)
  refine lv_iconst (v := 0) hx hb dX12_costNow_2 (by decide) ?_
  refine lv_istore_n (lv' := [(3, .int 0), (2, .int 0), (0, .ref a0), (1, .int x1)]) hx hb dX12_costNow_3 rfl hl (by decide) rfl (fun ls hl => ?_)
  refine lv_iconst (v := 0) hx hb dX12_costNow_4 (by decide) ?_
  refine lv_istore (lv' := [(4, .int 0), (3, .int 0), (2, .int 0), (0, .ref a0), (1, .int x1)]) hx hb dX12_costNow_5 hl (by decide) rfl (fun ls hl => ?_)
  have hJ7 : ∀ (n7 : Nat) (y7_4 : Int32) (y7_3 : Int32) (y7_2 : Int32) (H : Heap) (locs : List Loc) (ls : Array Slot), 0 ≤ y7_4.toInt → y7_4.toInt ≤ 40 → 40 - y7_4.toInt ≤ (n7 : Int) → tw_H D cs kp L E A H → va_S A s.heap H locs → lv_has ls 6 [(4, .int y7_4), (3, .int y7_3), (2, .int y7_2), (0, .ref a0), (1, .int x1)] → W p l e { frames := 2, cells := 0, slots := 0, locals := 45 } s m [.ref a0, .int x1].toArray below meth c H locs 0 0 (MQ below (tw_Q D cs kp0 L0 (fun v kq Lq Eq => (∃ x : Int32, v = some (.int x)) ∧ kp = kq ∧ L = Lq ∧ E = Eq) A) [.ref a0, .int x1].toArray s 0 0 A) (F0 m 7 ls []) := by
    intro n7
    induction n7 using Nat.strongRecOn with
    | _ n7 ih7 =>
      intro y7_4 y7_3 y7_2 H locs ls hy7_4a hy7_4b hmeas7 TH hS hl
      refine lv_iload hx hb dX12_costNow_7 (lv_at hl 0 rfl) ?_
      refine lv_aload_n hx hb dX12_costNow_9 rfl (lv_at hl 3 rfl) ?_
      refine tw_get (ci := 12) (C := RX12) (T := TX12) (N := 64) hx hb hB cx_inX12 hown hK TH hm0 hk0 rfl ⟨by decide, rfl⟩ 50 (by decide) cw_1243 (fun _ h9 => h9) dX12_costNow_10 (fun hv => ?_)
      obtain ⟨xi1, hxi1, hxi1a, hxi1b⟩ : ∃ x : Int32, tw_fv E a0 50 = .int x ∧ 0 ≤ x.toInt ∧ x.toInt ≤ 40 := hv
      rw [hxi1]
      refine lv_icmp_ge (tgt := 104) hx hb dX12_costNow_13 (by decide) (fun hc2 => ?_) (fun hc2 => ?_)
      · have hf3 : xi1.toInt ≤ y7_4.toInt := by have z := (fa_le _ _).mp hc2;  omega
        refine lv_iload_n hx hb dX12_costNow_104 rfl (lv_at hl 2 rfl) ?_
        refine lv_iconst (v := 2) hx hb dX12_costNow_105 (by decide) ?_
        refine lv_aload_n hx hb dX12_costNow_106 rfl (lv_at hl 3 rfl) ?_
        refine tw_get (ci := 12) (C := RX12) (T := TX12) (N := 64) hx hb hB cx_inX12 hown hK TH hm0 hk0 rfl ⟨by decide, rfl⟩ 50 (by decide) cw_1243 (fun _ h9 => h9) dX12_costNow_107 (fun hv => ?_)
        rw [hxi1]
        refine lv_iload_n hx hb dX12_costNow_110 rfl (lv_at hl 1 rfl) ?_
        refine lv_isub hx hb dX12_costNow_111 ?_
        refine lv_topi (fun zi4 ezi4 => ?_)
        refine lv_imul hx hb dX12_costNow_112 ?_
        refine lv_topi (fun zi5 ezi5 => ?_)
        refine lv_iadd hx hb dX12_costNow_113 ?_
        refine lv_topi (fun zi6 ezi6 => ?_)
        refine lv_iconst (v := 2) hx hb dX12_costNow_114 (by decide) ?_
        refine lv_aload_n hx hb dX12_costNow_115 rfl (lv_at hl 3 rfl) ?_
        refine tw_get (ci := 12) (C := RX12) (T := TX12) (N := 64) hx hb hB cx_inX12 hown hK TH hm0 hk0 rfl ⟨by decide, rfl⟩ 28 (by decide) cw_1221 (fun _ h9 => h9) dX12_costNow_116 (fun hv => ?_)
        obtain ⟨xi7, hxi7, hxi7a, hxi7b⟩ : ∃ x : Int32, tw_fv E a0 28 = .int x ∧ 0 ≤ x.toInt ∧ x.toInt ≤ 24 := hv
        rw [hxi7]
        refine lv_iload_n hx hb dX12_costNow_119 rfl (lv_at hl 1 rfl) ?_
        refine lv_isub hx hb dX12_costNow_120 ?_
        refine lv_topi (fun zi8 ezi8 => ?_)
        refine lv_imul hx hb dX12_costNow_121 ?_
        refine lv_topi (fun zi9 ezi9 => ?_)
        refine lv_iadd hx hb dX12_costNow_122 ?_
        refine lv_topi (fun zi10 ezi10 => ?_)
        exact tw_iret hx hb hr hlocks TH hS hex ⟨⟨_, rfl⟩, rfl, rfl, rfl⟩ (Nat.le_of_ble_eq_true rfl) (Nat.le_of_ble_eq_true rfl) dX12_costNow_123
      · have hf11 : ¬ (xi1.toInt ≤ y7_4.toInt) := fun q => hc2 ((fa_le _ _).mpr (by  omega))
        refine lv_aload_n hx hb dX12_costNow_16 rfl (lv_at hl 3 rfl) ?_
        refine tw_get (ci := 12) (C := RX12) (T := TX12) (N := 64) hx hb hB cx_inX12 hown hK TH hm0 hk0 rfl ⟨by decide, rfl⟩ 46 (by decide) cw_1239 (fun _ h9 => h9) dX12_costNow_17 (fun hv => ?_)
        obtain ⟨xr12, hxr12, hmxr12, hkxr12⟩ : ∃ a : Nat, tw_fv E a0 46 = .ref a ∧ a ∈ L ∧ kp a = 355 := hv
        rw [hxr12]
        refine lv_iload hx hb dX12_costNow_20 (lv_at hl 0 rfl) ?_
        refine tw_iald (k := 355) (t0 := 0) (n := 40) (lo := (-1)) (hi := 23) hx hb hK TH hmxr12 hkxr12 (by decide) rfl rfl (i := y7_4) (vp_in_iff.mpr ⟨by  omega, by  omega⟩) dX12_costNow_22 (fun hxe13a hxe13b => ?_)
        obtain ⟨xe13, exe13⟩ : ∃ z : Int32, tw_iv E xr12 (Int32.toNatClampNeg y7_4) = z := ⟨_, rfl⟩
        rw [exe13] at hxe13a hxe13b ⊢
        refine lv_istore (lv' := [(5, .int xe13), (4, .int y7_4), (3, .int y7_3), (2, .int y7_2), (0, .ref a0), (1, .int x1)]) hx hb dX12_costNow_23 hl (by decide) rfl (fun ls hl => ?_)
        refine lv_iload hx hb dX12_costNow_25 (lv_at hl 0 rfl) ?_
        refine lv_iconst (v := (-1)) hx hb dX12_costNow_27 (by decide) ?_
        have hJ98 : ∀ (y98_3 : Int32) (y98_2 : Int32) (H : Heap) (locs : List Loc) (ls : Array Slot), tw_H D cs kp L E A H → va_S A s.heap H locs → lv_has ls 6 [(4, .int y7_4), (3, .int y98_3), (2, .int y98_2), (0, .ref a0), (1, .int x1)] → W p l e { frames := 2, cells := 0, slots := 0, locals := 45 } s m [.ref a0, .int x1].toArray below meth c H locs 0 0 (MQ below (tw_Q D cs kp0 L0 (fun v kq Lq Eq => (∃ x : Int32, v = some (.int x)) ∧ kp = kq ∧ L = Lq ∧ E = Eq) A) [.ref a0, .int x1].toArray s 0 0 A) (F0 m 98 ls []) := by
          intro y98_3 y98_2 H locs ls TH hS hl
          obtain ⟨zi14, ezi14⟩ : ∃ z : Int32, z = y7_4 + Int32.ofInt 1 := ⟨_, rfl⟩
          have hzi14 : zi14.toInt = y7_4.toInt + 1 := by rw [ezi14]; have : ((Int32.ofInt 1).toInt) = 1 := (by decide);  exact (ia_add (by omega) (by omega)).trans (by omega)
          refine lv_iinc (v := zi14) (lv' := [(4, .int zi14), (3, .int y98_3), (2, .int y98_2), (0, .ref a0), (1, .int x1)]) hx hb dX12_costNow_98 hl (k := 0) rfl ezi14.symm (by decide) rfl (fun ls hl => ?_)
          refine lv_goto (tgt := 7) hx hb dX12_costNow_101 (by decide) ?_
          exact ih7 (n7 - 1) (by   omega) zi14 y98_3 y98_2 _ _ ls (by omega) (by omega) (by   omega) TH hS (lv_sub hl [0, 1, 2, 3, 4] rfl)
        refine lv_icmp_ne (tgt := 34) hx hb dX12_costNow_28 (by decide) (fun hc15 => ?_) (fun hc15 => ?_)
        · have hf16 : ¬ (xe13.toInt = (-1)) := fun q => hc15 ((fa_eq _ _).mpr (by have : (((-1) : Int32).toInt) = (-1) := (by decide); omega))
          obtain ⟨zi17, ezi17⟩ : ∃ z : Int32, z = y7_3 + Int32.ofInt 1 := ⟨_, rfl⟩
          refine lv_iinc (v := zi17) (lv' := [(3, .int zi17), (5, .int xe13), (4, .int y7_4), (2, .int y7_2), (0, .ref a0), (1, .int x1)]) hx hb dX12_costNow_34 hl (k := 2) rfl ezi17.symm (by decide) rfl (fun ls hl => ?_)
          refine lv_iload_n hx hb dX12_costNow_37 rfl (lv_at hl 3 rfl) ?_
          refine lv_aload_n hx hb dX12_costNow_38 rfl (lv_at hl 4 rfl) ?_
          refine tw_get (ci := 12) (C := RX12) (T := TX12) (N := 64) hx hb hB cx_inX12 hown hK TH hm0 hk0 rfl ⟨by decide, rfl⟩ 17 (by decide) cw_1210 (fun _ h9 => h9) dX12_costNow_39 (fun hv => ?_)
          obtain ⟨xr18, hxr18, hmxr18, hkxr18⟩ : ∃ a : Nat, tw_fv E a0 17 = .ref a ∧ a ∈ L ∧ kp a = 317 := hv
          rw [hxr18]
          refine lv_iload_n hx hb dX12_costNow_42 rfl (lv_at hl 5 rfl) ?_
          refine tw_aald (k := 317) (t0 := 6) (n := 16) (lo := 327) (hi := 0) (ty := .long) hx hb hK TH hmxr18 hkxr18 (by decide) rfl rfl (i := x1) (vp_in_iff.mpr ⟨by  omega, by  omega⟩) dX12_costNow_43 (fun xr19 exr19 hmxr19 hkxr19 => ?_)
          have hkxr19 : kp xr19 = 327 := hkxr19
          refine lv_aload_n hx hb dX12_costNow_44 rfl (lv_at hl 4 rfl) ?_
          refine tw_get (ci := 12) (C := RX12) (T := TX12) (N := 64) hx hb hB cx_inX12 hown hK TH hm0 hk0 rfl ⟨by decide, rfl⟩ 45 (by decide) cw_1238 (fun _ h9 => h9) dX12_costNow_45 (fun hv => ?_)
          obtain ⟨xr20, hxr20, hmxr20, hkxr20⟩ : ∃ a : Nat, tw_fv E a0 45 = .ref a ∧ a ∈ L ∧ kp a = 354 := hv
          rw [hxr20]
          refine lv_iload hx hb dX12_costNow_48 (lv_at hl 2 rfl) ?_
          refine tw_iald (k := 354) (t0 := 0) (n := 40) (lo := 0) (hi := 149) hx hb hK TH hmxr20 hkxr20 (by decide) rfl rfl (i := y7_4) (vp_in_iff.mpr ⟨by  omega, by  omega⟩) dX12_costNow_50 (fun hxe21a hxe21b => ?_)
          obtain ⟨xe21, exe21⟩ : ∃ z : Int32, tw_iv E xr20 (Int32.toNatClampNeg y7_4) = z := ⟨_, rfl⟩
          rw [exe21] at hxe21a hxe21b ⊢
          refine tw_lald2 (k := 327) (n := 150) (lo := 0) (hi := 0) hx hb hK TH hmxr19 hkxr19 (by decide) rfl (i := xe21) (vp_in_iff.mpr ⟨by  omega, by  omega⟩) dX12_costNow_51 (fun xl22 exl22 => ?_)
          refine lv_aload_n hx hb dX12_costNow_52 rfl (lv_at hl 4 rfl) ?_
          refine tw_get (ci := 12) (C := RX12) (T := TX12) (N := 64) hx hb hB cx_inX12 hown hK TH hm0 hk0 rfl ⟨by decide, rfl⟩ 17 (by decide) cw_1210 (fun _ h9 => h9) dX12_costNow_53 (fun hv => ?_)
          rw [hxr18]
          refine lv_bipush (v := 15) hx hb dX12_costNow_56 (by decide) ?_
          refine tw_aald (k := 317) (t0 := 6) (n := 16) (lo := 327) (hi := 0) (ty := .long) hx hb hK TH hmxr18 hkxr18 (by decide) rfl rfl (i := 15) (vp_in_iff.mpr ⟨by have : ((15 : Int32).toInt) = 15 := (by decide); omega, by have : ((15 : Int32).toInt) = 15 := (by decide); omega⟩) dX12_costNow_58 (fun xr23 exr23 hmxr23 hkxr23 => ?_)
          have hkxr23 : kp xr23 = 327 := hkxr23
          refine lv_iload hx hb dX12_costNow_59 (lv_at hl 1 rfl) ?_
          refine tw_lald2 (k := 327) (n := 150) (lo := 0) (hi := 0) hx hb hK TH hmxr23 hkxr23 (by decide) rfl (i := xe13) (vp_in_iff.mpr ⟨by  omega, by  omega⟩) dX12_costNow_61 (fun xl24 exl24 => ?_)
          refine W.lcmp hx hb dX12_costNow_62 ?_
          have hzi25 := ia_lc xl22 xl24
          generalize lg_cmp xl22 xl24 = zi25 at hzi25 ⊢
          have hJ71 : ∀ (z71_0 : Int32) (H : Heap) (locs : List Loc) (ls : Array Slot), 0 ≤ z71_0.toInt → z71_0.toInt ≤ 1 → tw_H D cs kp L E A H → va_S A s.heap H locs → lv_has ls 6 [(3, .int zi17), (5, .int xe13), (4, .int y7_4), (0, .ref a0), (1, .int x1)] → W p l e { frames := 2, cells := 0, slots := 0, locals := 45 } s m [.ref a0, .int x1].toArray below meth c H locs 0 0 (MQ below (tw_Q D cs kp0 L0 (fun v kq Lq Eq => (∃ x : Int32, v = some (.int x)) ∧ kp = kq ∧ L = Lq ∧ E = Eq) A) [.ref a0, .int x1].toArray s 0 0 A) (F0 m 71 ls [.int z71_0, .int y7_2]) := by
            intro z71_0 H locs ls hz71_0a hz71_0b TH hS hl
            refine lv_iadd hx hb dX12_costNow_71 ?_
            refine lv_topi (fun zi26 ezi26 => ?_)
            refine lv_istore_n (lv' := [(2, .int zi26), (3, .int zi17), (5, .int xe13), (4, .int y7_4), (0, .ref a0), (1, .int x1)]) hx hb dX12_costNow_72 rfl hl (by decide) rfl (fun ls hl => ?_)
            refine lv_iload_n hx hb dX12_costNow_73 rfl (lv_at hl 0 rfl) ?_
            refine lv_iload hx hb dX12_costNow_74 (lv_at hl 3 rfl) ?_
            have hJ96 : ∀ (z96_0 : Int32) (H : Heap) (locs : List Loc) (ls : Array Slot), 0 ≤ z96_0.toInt → z96_0.toInt ≤ 1 → tw_H D cs kp L E A H → va_S A s.heap H locs → lv_has ls 6 [(3, .int zi17), (4, .int y7_4), (0, .ref a0), (1, .int x1)] → W p l e { frames := 2, cells := 0, slots := 0, locals := 45 } s m [.ref a0, .int x1].toArray below meth c H locs 0 0 (MQ below (tw_Q D cs kp0 L0 (fun v kq Lq Eq => (∃ x : Int32, v = some (.int x)) ∧ kp = kq ∧ L = Lq ∧ E = Eq) A) [.ref a0, .int x1].toArray s 0 0 A) (F0 m 96 ls [.int z96_0, .int zi26]) := by
              intro z96_0 H locs ls hz96_0a hz96_0b TH hS hl
              refine lv_iadd hx hb dX12_costNow_96 ?_
              refine lv_topi (fun zi27 ezi27 => ?_)
              refine lv_istore_n (lv' := [(2, .int zi27), (3, .int zi17), (4, .int y7_4), (0, .ref a0), (1, .int x1)]) hx hb dX12_costNow_97 rfl hl (by decide) rfl (fun ls hl => ?_)
              exact hJ98 zi17 zi27 _ _ ls  TH hS (lv_sub hl [2, 1, 0, 3, 4] rfl)
            have hJ91 : ∀  (H : Heap) (locs : List Loc) (ls : Array Slot), tw_H D cs kp L E A H → va_S A s.heap H locs → lv_has ls 6 [(3, .int zi17), (4, .int y7_4), (0, .ref a0), (1, .int x1)] → W p l e { frames := 2, cells := 0, slots := 0, locals := 45 } s m [.ref a0, .int x1].toArray below meth c H locs 0 0 (MQ below (tw_Q D cs kp0 L0 (fun v kq Lq Eq => (∃ x : Int32, v = some (.int x)) ∧ kp = kq ∧ L = Lq ∧ E = Eq) A) [.ref a0, .int x1].toArray s 0 0 A) (F0 m 91 ls [.int zi26]) := by
              intro H locs ls TH hS hl
              refine lv_iconst (v := 0) hx hb dX12_costNow_91 (by decide) ?_
              refine lv_goto (tgt := 96) hx hb dX12_costNow_92 (by decide) ?_
              exact hJ96 (0 : Int32) _ _ ls (by have : ((0 : Int32).toInt) = 0 := (by decide); omega) (by have : ((0 : Int32).toInt) = 0 := (by decide); omega) TH hS (lv_sub hl [0, 1, 2, 3] rfl)
            refine lv_if_eq (tgt := 91) hx hb dX12_costNow_76 (by decide) (fun hc28 => ?_) (fun hc28 => ?_)
            · have hf29 : y7_4.toInt = 0 := by have z := (fa_eq _ _).mp hc28; have : ((0 : Int32).toInt) = 0 := (by decide); omega
              exact hJ91  _ _ ls  TH hS (lv_sub hl [1, 3, 4, 5] rfl)
            · have hf30 : ¬ (y7_4.toInt = 0) := fun q => hc28 ((fa_eq _ _).mpr (by have : ((0 : Int32).toInt) = 0 := (by decide); omega))
              refine lv_aload_n hx hb dX12_costNow_79 rfl (lv_at hl 4 rfl) ?_
              refine lv_iload_n hx hb dX12_costNow_80 rfl (lv_at hl 5 rfl) ?_
              refine lv_iload hx hb dX12_costNow_81 (lv_at hl 3 rfl) ?_
              refine lv_iload hx hb dX12_costNow_83 (lv_at hl 2 rfl) ?_
              refine tw_Vc (o := a0) (ci := 12) (n := 3) (post := (fun v kq Lq Eq => (∃ x : Int32, v = some (.int x) ∧ 0 ≤ x.toInt ∧ x.toInt ≤ 1) ∧ kp = kq ∧ L = Lq ∧ E = Eq)) (As := [.int x1, .int y7_4, .int xe13]) (rest := [.int zi26]) ⟨hx, hb, hml, hown, hB⟩ (fun sz => tX12_parentsPair l D cs a0 x1 y7_4 xe13 hm0 hk0 (by omega) (by omega) (by omega) (by omega) (by omega) (by omega) sz) cg_12_360_X12_parentsPair rfl rfl (by decide +kernel) ⟨Nat.le_of_ble_eq_true rfl, Nat.le_of_ble_eq_true rfl⟩ hK hN TH hS hA rfl hm0 hk0 (by decide) rfl hl.1 rfl (Nat.le_of_ble_eq_true rfl) dX12_costNow_85 ⟨Nat.le_of_ble_eq_true rfl, Nat.le_of_ble_eq_true rfl⟩ (fun v31 kp31 L31 E31 H locs hq31 hx31 TH hS => ?_)
              obtain ⟨⟨xc32, rfl, hxc32a, hxc32b⟩, rfl, rfl, rfl⟩ := hq31
              refine W.eq (g2 := F0 m 88 ls [.int xc32, .int zi26]) rfl ?_
              refine lv_if_eq (tgt := 95) hx hb dX12_costNow_88 (by decide) (fun hc33 => ?_) (fun hc33 => ?_)
              · have hf34 : xc32.toInt = 0 := by have z := (fa_eq _ _).mp hc33; have : ((0 : Int32).toInt) = 0 := (by decide); omega
                refine lv_iconst (v := 1) hx hb dX12_costNow_95 (by decide) ?_
                exact hJ96 (1 : Int32) _ _ ls (by have : ((1 : Int32).toInt) = 1 := (by decide); omega) (by have : ((1 : Int32).toInt) = 1 := (by decide); omega) TH hS (lv_sub hl [1, 3, 4, 5] rfl)
              · have hf35 : ¬ (xc32.toInt = 0) := fun q => hc33 ((fa_eq _ _).mpr (by have : ((0 : Int32).toInt) = 0 := (by decide); omega))
                exact hJ91  _ _ ls  TH hS (lv_sub hl [1, 3, 4, 5] rfl)
          refine lv_if_ne (tgt := 70) hx hb dX12_costNow_63 (by decide) (fun hc36 => ?_) (fun hc36 => ?_)
          · have hf37 : ¬ (zi25.toInt = 0) := fun q => hc36 ((fa_eq _ _).mpr (by have : ((0 : Int32).toInt) = 0 := (by decide); omega))
            refine lv_iconst (v := 1) hx hb dX12_costNow_70 (by decide) ?_
            exact hJ71 (1 : Int32) _ _ ls (by have : ((1 : Int32).toInt) = 1 := (by decide); omega) (by have : ((1 : Int32).toInt) = 1 := (by decide); omega) TH hS (lv_sub hl [0, 1, 2, 4, 5] rfl)
          · have hf38 : zi25.toInt = 0 := by have z := (fa_eq _ _).mp hc36; have : ((0 : Int32).toInt) = 0 := (by decide); omega
            refine lv_iconst (v := 0) hx hb dX12_costNow_66 (by decide) ?_
            refine lv_goto (tgt := 71) hx hb dX12_costNow_67 (by decide) ?_
            exact hJ71 (0 : Int32) _ _ ls (by have : ((0 : Int32).toInt) = 0 := (by decide); omega) (by have : ((0 : Int32).toInt) = 0 := (by decide); omega) TH hS (lv_sub hl [0, 1, 2, 4, 5] rfl)
        · have hf39 : xe13.toInt = (-1) := by have z := (fa_eq _ _).mp hc15; have : (((-1) : Int32).toInt) = (-1) := (by decide); omega
          refine lv_goto (tgt := 98) hx hb dX12_costNow_31 (by decide) ?_
          exact hJ98 y7_3 y7_2 _ _ ls  TH hS (lv_sub hl [1, 2, 3, 4, 5] rfl)
  exact hJ7 41 (0 : Int32) (0 : Int32) (0 : Int32) _ _ ls (by have : ((0 : Int32).toInt) = 0 := (by decide); omega) (by have : ((0 : Int32).toInt) = 0 := (by decide); omega) (by have : ((0 : Int32).toInt) = 0 := (by decide);  omega) TH hS (lv_sub hl [0, 1, 2, 3, 4] rfl)
set_option maxHeartbeats 4000000 in
set_option maxRecDepth 100000 in
theorem tX12_shrinks (l : Launch) (D : va_G) (cs : Nat → ClassId) {kp : Nat → Nat} {L : List Nat} {E : Nat → va_E} (a0 : Nat) (x1 : Int32) (hm0 : a0 ∈ L) (hk0 : kp a0 = 12) (sz : Nat) : Met l yX12_shrinks (.code yX12_shrinks cX12_shrinks 4 none :: cx_big) { frames := 2, cells := 0, slots := 0, locals := 47 } (tw_P D cs kp L E [.ref a0, .int x1] sz) (tw_Q D cs kp L (fun v kq Lq Eq => v = none ∧ kp = kq ∧ L = Lq ∧ tw_fr kp L [] [329] E Eq) (va_A (va_pl L E) sz)) 0 0 (va_A (va_pl L E) sz) := by
  refine tw_ofW (by decide) (Nat.le_of_ble_eq_true rfl) ?_
  intro p e s m below meth c A ls hx hb hr hml hB hown hlocks hK hN hA TH hS hl
  have hown : s.vm.findClass "TreeMergeModel" = some m.cls := hown
  have hl : lv_has ls 4 [(0, .ref a0), (1, .int x1)] := hl
  obtain ⟨kp0, ekp⟩ : ∃ z, z = kp := ⟨_, rfl⟩
  obtain ⟨L0, eL⟩ : ∃ z, z = L := ⟨_, rfl⟩
  rw [show tw_Q D cs kp L = tw_Q D cs kp0 L0 by rw [ekp, eL]]
  have hex : ∀ a : Nat, a ∈ L0 → a ∈ L ∧ kp a = kp0 a := fun a h => ⟨by rw [← eL]; exact h, by rw [ekp]⟩
  have hF : tw_fr kp L [] [329] E E := tw_fr.rf
  refine lv_iconst (v := 0) hx hb dX12_shrinks_0 (by decide) ?_
  refine lv_istore_n (lv' := [(2, .int 0), (0, .ref a0), (1, .int x1)]) hx hb dX12_shrinks_1 rfl hl (by decide) rfl (fun ls hl => ?_)
  refine lv_aload_n hx hb dX12_shrinks_2 rfl (lv_at hl 1 rfl) ?_
  refine lv_bipush (v := 12) hx hb dX12_shrinks_3 (by decide) ?_
  refine lv_iload_n hx hb dX12_shrinks_5 rfl (lv_at hl 2 rfl) ?_
  refine tw_Vc (o := a0) (ci := 12) (n := 2) (post := (fun v kq Lq Eq => (∃ x : Int32, v = some (.int x) ∧ (-1) ≤ x.toInt ∧ x.toInt ≤ 149 ∧ (rt_kbk (rw_h E a0 (12 : Int32).toInt) (rw_p E a0 (12 : Int32).toInt) (rw_q E a0 (12 : Int32).toInt) 150 x1.toInt (-1) x.toInt)) ∧ kp = kq ∧ L = Lq ∧ E = Eq)) (As := [.int 12, .int x1]) (rest := []) ⟨hx, hb, hml, hown, hB⟩ (fun sz => tX12_firstKid l D cs a0 (12 : Int32) x1 hm0 hk0 (by have : ((12 : Int32).toInt) = 12 := (by decide); omega) (by have : ((12 : Int32).toInt) = 12 := (by decide); omega) sz) cg_12_291_X12_firstKid rfl rfl (by decide +kernel) ⟨Nat.le_of_ble_eq_true rfl, Nat.le_of_ble_eq_true rfl⟩ hK hN TH hS hA rfl hm0 hk0 (by decide) rfl hl.1 rfl (Nat.le_of_ble_eq_true rfl) dX12_shrinks_6 ⟨Nat.le_of_ble_eq_true rfl, Nat.le_of_ble_eq_true rfl⟩ (fun v1 kp1 L1 E1 H locs hq1 hx1 TH hS => ?_)
  obtain ⟨⟨xc2, rfl, hxc2a, hxc2b, hpoxc2_0⟩, rfl, rfl, rfl⟩ := hq1
  refine W.eq (g2 := F0 m 9 ls [.int xc2]) rfl ?_
  refine lv_istore_n (lv' := [(3, .int xc2), (2, .int 0), (0, .ref a0), (1, .int x1)]) hx hb dX12_shrinks_9 rfl hl (by decide) rfl (fun ls hl => ?_)
  have hJ10 : ∀ (n10 : Nat) (y10_3 : Int32) (y10_2 : Int32) (Eg10 : Nat → va_E) (H : Heap) (locs : List Loc) (ls : Array Slot), (-1) ≤ y10_3.toInt → y10_3.toInt ≤ 149 → (sk_inv (rw_h Eg10 a0 12) (rw_p Eg10 a0 12) (rw_q Eg10 a0 12) (x1.toInt) (y10_2.toInt) (y10_3.toInt)) → (0 ≤ y10_2.toInt ∧ y10_2.toInt + (sk_m (rw_h Eg10 a0 12) (rw_p Eg10 a0 12) (rw_q Eg10 a0 12) (x1.toInt) (y10_2.toInt) (y10_3.toInt) : Int) ≤ 150) → (sk_m (rw_h Eg10 a0 12) (rw_p Eg10 a0 12) (rw_q Eg10 a0 12) (x1.toInt) (y10_2.toInt) (y10_3.toInt) : Int) ≤ (n10 : Int) → tw_fr kp L [] [329] E Eg10 → tw_H D cs kp L Eg10 A H → va_S A s.heap H locs → lv_has ls 4 [(3, .int y10_3), (2, .int y10_2), (0, .ref a0), (1, .int x1)] → W p l e { frames := 2, cells := 0, slots := 0, locals := 47 } s m [.ref a0, .int x1].toArray below meth c H locs 0 0 (MQ below (tw_Q D cs kp0 L0 (fun v kq Lq Eq => v = none ∧ kp = kq ∧ L = Lq ∧ tw_fr kp L [] [329] E Eq) A) [.ref a0, .int x1].toArray s 0 0 A) (F0 m 10 ls []) := by
    intro n10
    induction n10 using Nat.strongRecOn with
    | _ n10 ih10 =>
      intro y10_3 y10_2 Eg10 H locs ls hy10_3a hy10_3b hin10_0 hin10_1 hmeas10 hG10 TH hS hl
      have hF := hF.tr hG10 (fun _ h => ⟨h, rfl⟩) (by decide) (by decide)
      refine lv_iload_n hx hb dX12_shrinks_10 rfl (lv_at hl 0 rfl) ?_
      refine lv_iconst (v := (-1)) hx hb dX12_shrinks_11 (by decide) ?_
      refine lv_icmp_eq (tgt := 39) hx hb dX12_shrinks_12 (by decide) (fun hc3 => ?_) (fun hc3 => ?_)
      · have hf4 : y10_3.toInt = (-1) := by have z := (fa_eq _ _).mp hc3; have : (((-1) : Int32).toInt) = (-1) := (by decide); omega
        exact tw_vret hx hb hr hlocks TH hS hex ⟨rfl, rfl, rfl, hF⟩ (Nat.le_of_ble_eq_true rfl) (Nat.le_of_ble_eq_true rfl) dX12_shrinks_39
      · have hf5 : ¬ (y10_3.toInt = (-1)) := fun q => hc3 ((fa_eq _ _).mpr (by have : (((-1) : Int32).toInt) = (-1) := (by decide); omega))
        have hkc := hin10_0.resolve_left (by omega)
        refine lv_aload_n hx hb dX12_shrinks_15 rfl (lv_at hl 2 rfl) ?_
        refine tw_get (ci := 12) (C := RX12) (T := TX12) (N := 64) hx hb hB cx_inX12 hown hK TH hm0 hk0 rfl ⟨by decide, rfl⟩ 19 (by decide) cw_1212 (fun _ h9 => h9) dX12_shrinks_16 (fun hv => ?_)
        obtain ⟨xr6, hxr6, hmxr6, hkxr6⟩ : ∃ a : Nat, tw_fv Eg10 a0 19 = .ref a ∧ a ∈ L ∧ kp a = 319 := hv
        rw [hxr6]
        refine lv_bipush (v := 12) hx hb dX12_shrinks_19 (by decide) ?_
        refine tw_aald (k := 319) (t0 := 4) (n := 16) (lo := 329) (hi := 0) (ty := .int) hx hb hK TH hmxr6 hkxr6 (by decide) rfl rfl (i := 12) (vp_in_iff.mpr ⟨by have : ((12 : Int32).toInt) = 12 := (by decide); omega, by have : ((12 : Int32).toInt) = 12 := (by decide); omega⟩) dX12_shrinks_21 (fun xr7 exr7 hmxr7 hkxr7 => ?_)
        have hkxr7 : kp xr7 = 329 := hkxr7
        refine lv_iload_n hx hb dX12_shrinks_22 rfl (lv_at hl 0 rfl) ?_
        refine lv_iload_n hx hb dX12_shrinks_23 rfl (lv_at hl 1 rfl) ?_
        refine tw_iast (k := 329) (n := 150) (lo := (-2147483648)) (hi := 2147483647) hx hb hK TH hS hmxr7 hkxr7 (by decide) rfl (i := y10_3) (x := y10_2) (vp_in_iff.mpr ⟨by  omega, by  omega⟩) (ia_lo _) (ia_hi _) dX12_shrinks_24 (fun H locs E8 TH hS hp9 hp10 hp11 => ?_)
        have hst12 : tw_fr kp L [] [329] Eg10 E8 := tw_fr.ast tw_fr.rf (fun _ => hkxr7) hp9 hp10 (by decide)
        have hF := hF.tr hst12 (fun _ h => ⟨h, rfl⟩) (by decide) (by decide)
        have hG10 := hG10.tr hst12 (fun _ h => ⟨h, rfl⟩) (by decide) (by decide)
        have hmf13 : tw_fv E8 a0 19 = .ref xr6 := (hst12.1 a0 19 hm0 (by rw [hk0]; decide)).trans hxr6
        obtain ⟨zi14, ezi14⟩ : ∃ z : Int32, z = y10_2 + Int32.ofInt 1 := ⟨_, rfl⟩
        have hzi14 : zi14.toInt = y10_2.toInt + 1 := by rw [ezi14]; have : ((Int32.ofInt 1).toInt) = 1 := (by decide);  exact (ia_add (by omega) (by omega)).trans (by omega)
        refine lv_iinc (v := zi14) (lv' := [(2, .int zi14), (3, .int y10_3), (0, .ref a0), (1, .int x1)]) hx hb dX12_shrinks_25 hl (k := 1) rfl ezi14.symm (by decide) rfl (fun ls hl => ?_)
        refine lv_aload_n hx hb dX12_shrinks_28 rfl (lv_at hl 2 rfl) ?_
        refine lv_bipush (v := 12) hx hb dX12_shrinks_29 (by decide) ?_
        refine lv_iload_n hx hb dX12_shrinks_31 rfl (lv_at hl 1 rfl) ?_
        refine tw_Vc (o := a0) (ci := 12) (n := 2) (post := (fun v kq Lq Eq => (∃ x : Int32, v = some (.int x) ∧ (-1) ≤ x.toInt ∧ x.toInt ≤ 149 ∧ (rt_kbk (rw_h E8 a0 (12 : Int32).toInt) (rw_p E8 a0 (12 : Int32).toInt) (rw_q E8 a0 (12 : Int32).toInt) 150 (rw_p E8 a0 (12 : Int32).toInt (y10_3.toInt).toNat) (rw_q E8 a0 (12 : Int32).toInt (y10_3.toInt).toNat) x.toInt)) ∧ kp = kq ∧ L = Lq ∧ E8 = Eq)) (As := [.int 12, .int y10_3]) (rest := []) ⟨hx, hb, hml, hown, hB⟩ (fun sz => tX12_nextKid l D cs a0 (12 : Int32) y10_3 hm0 hk0 (by have : ((12 : Int32).toInt) = 12 := (by decide); omega) (by have : ((12 : Int32).toInt) = 12 := (by decide); omega) (by omega) (by omega) sz) cg_12_294_X12_nextKid rfl rfl (by decide +kernel) ⟨Nat.le_of_ble_eq_true rfl, Nat.le_of_ble_eq_true rfl⟩ hK hN TH hS hA rfl hm0 hk0 (by decide) rfl hl.1 rfl (Nat.le_of_ble_eq_true rfl) dX12_shrinks_32 ⟨Nat.le_of_ble_eq_true rfl, Nat.le_of_ble_eq_true rfl⟩ (fun v15 kp15 L15 E15 H locs hq15 hx15 TH hS => ?_)
        obtain ⟨⟨xc16, rfl, hxc16a, hxc16b, hpoxc16_0⟩, rfl, rfl, rfl⟩ := hq15
        refine W.eq (g2 := F0 m 35 ls [.int xc16]) rfl ?_
        refine lv_istore_n (lv' := [(3, .int xc16), (2, .int zi14), (0, .ref a0), (1, .int x1)]) hx hb dX12_shrinks_35 rfl hl (by decide) rfl (fun ls hl => ?_)
        refine lv_goto (tgt := 10) hx hb dX12_shrinks_36 (by decide) ?_
        exact ih10 (n10 - 1) (by  have e12 : ((12 : Int32).toInt) = 12 := (by decide); have eh := rw_h_fr TH hst12 hm0 hk0 (by decide) (by decide) (by decide) (i := 12) (by decide); have ep := rw_p_fr TH hst12 hm0 hk0 (by decide) (by decide) (by decide) (i := 12) (by decide); have eq := rw_q_st (m := a0) (i := 12) (c := y10_3) hxr6 exr7 hkxr6 hkxr7 hp9 hp10 hp11; have nx := hpoxc16_0; rw [e12] at eq nx; rw [eh, ep] at nx; have z := sk_next eq hin10_0 (by omega) (show zi14.toInt = y10_2.toInt + 1 by omega) nx; have z2 := z.2; (try rw [eh, ep]);  omega) xc16 zi14 _ _ _ ls (by omega) (by omega) (by  have e12 : ((12 : Int32).toInt) = 12 := (by decide); have eh := rw_h_fr TH hst12 hm0 hk0 (by decide) (by decide) (by decide) (i := 12) (by decide); have ep := rw_p_fr TH hst12 hm0 hk0 (by decide) (by decide) (by decide) (i := 12) (by decide); have eq := rw_q_st (m := a0) (i := 12) (c := y10_3) hxr6 exr7 hkxr6 hkxr7 hp9 hp10 hp11; have nx := hpoxc16_0; rw [e12] at eq nx; rw [eh, ep] at nx; have z := sk_next eq hin10_0 (by omega) (show zi14.toInt = y10_2.toInt + 1 by omega) nx; rw [← eh, ← ep] at z; exact z.1) (by  have e12 : ((12 : Int32).toInt) = 12 := (by decide); have eh := rw_h_fr TH hst12 hm0 hk0 (by decide) (by decide) (by decide) (i := 12) (by decide); have ep := rw_p_fr TH hst12 hm0 hk0 (by decide) (by decide) (by decide) (i := 12) (by decide); have eq := rw_q_st (m := a0) (i := 12) (c := y10_3) hxr6 exr7 hkxr6 hkxr7 hp9 hp10 hp11; have nx := hpoxc16_0; rw [e12] at eq nx; rw [eh, ep] at nx; have z := sk_next eq hin10_0 (by omega) (show zi14.toInt = y10_2.toInt + 1 by omega) nx; have z2 := z.2; (try rw [eh, ep]); omega) (by  have e12 : ((12 : Int32).toInt) = 12 := (by decide); have eh := rw_h_fr TH hst12 hm0 hk0 (by decide) (by decide) (by decide) (i := 12) (by decide); have ep := rw_p_fr TH hst12 hm0 hk0 (by decide) (by decide) (by decide) (i := 12) (by decide); have eq := rw_q_st (m := a0) (i := 12) (c := y10_3) hxr6 exr7 hkxr6 hkxr7 hp9 hp10 hp11; have nx := hpoxc16_0; rw [e12] at eq nx; rw [eh, ep] at nx; have z := sk_next eq hin10_0 (by omega) (show zi14.toInt = y10_2.toInt + 1 by omega) nx; have z2 := z.2; (try rw [eh, ep]);  omega) hG10 TH hS (lv_sub hl [0, 1, 2, 3] rfl)
  exact hJ10 151 xc2 (0 : Int32) _ _ _ ls (by omega) (by omega) (by have : ((0 : Int32).toInt) = 0 := (by decide); have e12 : ((12 : Int32).toInt) = 12 := (by decide); have q := hpoxc2_0; rw [e12] at q; exact sk_first q) (by have : ((0 : Int32).toInt) = 0 := (by decide); have := sk_m_le (h := rw_h E a0 12) (p := rw_p E a0 12) (q := rw_q E a0 12) (n := x1.toInt) (k := (0 : Int32).toInt) (c := xc2.toInt); omega) (by have : ((0 : Int32).toInt) = 0 := (by decide); have := sk_m_le (h := rw_h E a0 12) (p := rw_p E a0 12) (q := rw_q E a0 12) (n := x1.toInt) (k := (0 : Int32).toInt) (c := xc2.toInt); omega) tw_fr.rf TH hS (lv_sub hl [0, 1, 2, 3] rfl)
set_option maxHeartbeats 4000000 in
set_option maxRecDepth 100000 in
theorem tX12_next (l : Launch) (D : va_G) (cs : Nat → ClassId) {kp : Nat → Nat} {L : List Nat} {E : Nat → va_E} (a0 : Nat) (x1 : Int32) (x2 : Int32) (x3 : Int32) (hm0 : a0 ∈ L) (hk0 : kp a0 = 12) (hp1a : 0 ≤ x1.toInt) (hp1b : x1.toInt ≤ 15) (hp2a : 0 ≤ x2.toInt) (hp2b : x2.toInt ≤ 149) (hp3a : 0 ≤ x3.toInt) (hp3b : x3.toInt ≤ 149) (hpre0 : rw_h E a0 x1.toInt (x2.toInt).toNat ≠ 0) (hpre1 : rw_h E a0 x1.toInt (x3.toInt).toNat ≠ 0) (hpre2 : rw_p E a0 x1.toInt (x3.toInt).toNat = -1) (hg0 : rw_ok E a0 (x1.toInt)) (sz : Nat) : Met l yX12_next (.code yX12_next cX12_next 6 (some .int) :: cx_big) { frames := 2, cells := 0, slots := 0, locals := 47 } (tw_P D cs kp L E [.ref a0, .int x1, .int x2, .int x3] sz) (tw_Q D cs kp L (fun v kq Lq Eq => (∃ x : Int32, v = some (.int x) ∧ (-1) ≤ x.toInt ∧ x.toInt ≤ 149 ∧ (x.toInt = -1 ∨ (rw_h E a0 x1.toInt (x.toInt).toNat ≠ 0 ∧ rt_lt (rt_K (rw_p E a0 x1.toInt) (rw_q E a0 x1.toInt) x2.toInt) (rt_K (rw_p E a0 x1.toInt) (rw_q E a0 x1.toInt) x.toInt)))) ∧ kp = kq ∧ L = Lq ∧ E = Eq) (va_A (va_pl L E) sz)) 0 0 (va_A (va_pl L E) sz) := by
  refine tw_ofW (by decide) (Nat.le_of_ble_eq_true rfl) ?_
  intro p e s m below meth c A ls hx hb hr hml hB hown hlocks hK hN hA TH hS hl
  have hown : s.vm.findClass "TreeMergeModel" = some m.cls := hown
  have hl : lv_has ls 6 [(0, .ref a0), (1, .int x1), (2, .int x2), (3, .int x3)] := hl
  obtain ⟨kp0, ekp⟩ : ∃ z, z = kp := ⟨_, rfl⟩
  obtain ⟨L0, eL⟩ : ∃ z, z = L := ⟨_, rfl⟩
  rw [show tw_Q D cs kp L = tw_Q D cs kp0 L0 by rw [ekp, eL]]
  have hex : ∀ a : Nat, a ∈ L0 → a ∈ L ∧ kp a = kp0 a := fun a h => ⟨by rw [← eL]; exact h, by rw [ekp]⟩
  refine lv_aload_n hx hb dX12_next_0 rfl (lv_at hl 0 rfl) ?_
  refine lv_iload_n hx hb dX12_next_1 rfl (lv_at hl 1 rfl) ?_
  refine lv_iload_n hx hb dX12_next_2 rfl (lv_at hl 2 rfl) ?_
  refine tw_Vc (o := a0) (ci := 12) (n := 2) (post := (fun v kq Lq Eq => (∃ x : Int32, v = some (.int x) ∧ (-1) ≤ x.toInt ∧ x.toInt ≤ 149 ∧ (rt_kbk (rw_h E a0 x1.toInt) (rw_p E a0 x1.toInt) (rw_q E a0 x1.toInt) 150 x2.toInt (-1) x.toInt)) ∧ kp = kq ∧ L = Lq ∧ E = Eq)) (As := [.int x1, .int x2]) (rest := []) ⟨hx, hb, hml, hown, hB⟩ (fun sz => tX12_firstKid l D cs a0 x1 x2 hm0 hk0 (by omega) (by omega) sz) cg_12_291_X12_firstKid rfl rfl (by decide +kernel) ⟨Nat.le_of_ble_eq_true rfl, Nat.le_of_ble_eq_true rfl⟩ hK hN TH hS hA rfl hm0 hk0 (by decide) rfl hl.1 rfl (Nat.le_of_ble_eq_true rfl) dX12_next_3 ⟨Nat.le_of_ble_eq_true rfl, Nat.le_of_ble_eq_true rfl⟩ (fun v1 kp1 L1 E1 H locs hq1 hx1 TH hS => ?_)
  obtain ⟨⟨xc2, rfl, hxc2a, hxc2b, hpoxc2_0⟩, rfl, rfl, rfl⟩ := hq1
  refine W.eq (g2 := F0 m 6 ls [.int xc2]) rfl ?_
  refine lv_istore (lv' := [(4, .int xc2), (0, .ref a0), (1, .int x1), (2, .int x2), (3, .int x3)]) hx hb dX12_next_6 hl (by decide) rfl (fun ls hl => ?_)
  refine lv_iload_n hx hb dX12_next_8 rfl (lv_at hl 3 rfl) ?_
  refine lv_istore (lv' := [(5, .int x2), (4, .int xc2), (0, .ref a0), (1, .int x1), (2, .int x2), (3, .int x3)]) hx hb dX12_next_9 hl (by decide) rfl (fun ls hl => ?_)
  have hJ11 : ∀ (n11 : Nat) (y11_5 : Int32) (y11_4 : Int32) (H : Heap) (locs : List Loc) (ls : Array Slot), (-1) ≤ y11_5.toInt → y11_5.toInt ≤ 149 → (-1) ≤ y11_4.toInt → y11_4.toInt ≤ 149 → (nx_inv (rw_h E a0 (x1.toInt)) (rw_p E a0 (x1.toInt)) (rw_q E a0 (x1.toInt)) (x2.toInt) (y11_4.toInt) (y11_5.toInt)) → (rt_dep (rw_p E a0 (x1.toInt)) (y11_5.toInt) : Int) ≤ (n11 : Int) → tw_H D cs kp L E A H → va_S A s.heap H locs → lv_has ls 6 [(5, .int y11_5), (4, .int y11_4), (0, .ref a0), (1, .int x1), (2, .int x2), (3, .int x3)] → W p l e { frames := 2, cells := 0, slots := 0, locals := 47 } s m [.ref a0, .int x1, .int x2, .int x3].toArray below meth c H locs 0 0 (MQ below (tw_Q D cs kp0 L0 (fun v kq Lq Eq => (∃ x : Int32, v = some (.int x) ∧ (-1) ≤ x.toInt ∧ x.toInt ≤ 149 ∧ (x.toInt = -1 ∨ (rw_h E a0 x1.toInt (x.toInt).toNat ≠ 0 ∧ rt_lt (rt_K (rw_p E a0 x1.toInt) (rw_q E a0 x1.toInt) x2.toInt) (rt_K (rw_p E a0 x1.toInt) (rw_q E a0 x1.toInt) x.toInt)))) ∧ kp = kq ∧ L = Lq ∧ E = Eq) A) [.ref a0, .int x1, .int x2, .int x3].toArray s 0 0 A) (F0 m 11 ls []) := by
    intro n11
    induction n11 using Nat.strongRecOn with
    | _ n11 ih11 =>
      intro y11_5 y11_4 H locs ls hy11_5a hy11_5b hy11_4a hy11_4b hin11_0 hmeas11 TH hS hl
      refine lv_iload hx hb dX12_next_11 (lv_at hl 1 rfl) ?_
      refine lv_iconst (v := (-1)) hx hb dX12_next_13 (by decide) ?_
      refine lv_icmp_ne (tgt := 46) hx hb dX12_next_14 (by decide) (fun hc3 => ?_) (fun hc3 => ?_)
      · have hf4 : ¬ (y11_4.toInt = (-1)) := fun q => hc3 ((fa_eq _ _).mpr (by have : (((-1) : Int32).toInt) = (-1) := (by decide); omega))
        refine lv_iload hx hb dX12_next_46 (lv_at hl 1 rfl) ?_
        exact tw_iret hx hb hr hlocks TH hS hex ⟨⟨_, rfl, (show (-1) ≤ Int32.toInt y11_4 from by  omega), (show Int32.toInt y11_4 ≤ 149 from by  omega), (by  rcases hin11_0.2.2 with q | q; exact Or.inl q; exact Or.inr ⟨q.2.2.1, q.2.2.2⟩)⟩, rfl, rfl, rfl⟩ (Nat.le_of_ble_eq_true rfl) (Nat.le_of_ble_eq_true rfl) dX12_next_48
      · have hf5 : y11_4.toInt = (-1) := by have z := (fa_eq _ _).mp hc3; have : (((-1) : Int32).toInt) = (-1) := (by decide); omega
        refine lv_iload hx hb dX12_next_17 (lv_at hl 0 rfl) ?_
        refine lv_iload_n hx hb dX12_next_19 rfl (lv_at hl 5 rfl) ?_
        refine lv_icmp_eq (tgt := 46) hx hb dX12_next_20 (by decide) (fun hc6 => ?_) (fun hc6 => ?_)
        · have hf7 : y11_5.toInt = x3.toInt := by have z := (fa_eq _ _).mp hc6;  omega
          refine lv_iload hx hb dX12_next_46 (lv_at hl 1 rfl) ?_
          exact tw_iret hx hb hr hlocks TH hS hex ⟨⟨_, rfl, (show (-1) ≤ Int32.toInt y11_4 from by  omega), (show Int32.toInt y11_4 ≤ 149 from by  omega), (by  rcases hin11_0.2.2 with q | q; exact Or.inl q; exact Or.inr ⟨q.2.2.1, q.2.2.2⟩)⟩, rfl, rfl, rfl⟩ (Nat.le_of_ble_eq_true rfl) (Nat.le_of_ble_eq_true rfl) dX12_next_48
        · have hf8 : ¬ (y11_5.toInt = x3.toInt) := fun q => hc6 ((fa_eq _ _).mpr (by  omega))
          have hu5 := hin11_0.2.1
          refine lv_aload_n hx hb dX12_next_23 rfl (lv_at hl 2 rfl) ?_
          refine lv_iload_n hx hb dX12_next_24 rfl (lv_at hl 3 rfl) ?_
          refine lv_iload hx hb dX12_next_25 (lv_at hl 0 rfl) ?_
          refine tw_Vc (o := a0) (ci := 12) (n := 2) (post := (fun v kq Lq Eq => (∃ x : Int32, v = some (.int x) ∧ (-1) ≤ x.toInt ∧ x.toInt ≤ 149 ∧ (rt_kbk (rw_h E a0 x1.toInt) (rw_p E a0 x1.toInt) (rw_q E a0 x1.toInt) 150 (rw_p E a0 x1.toInt (y11_5.toInt).toNat) (rw_q E a0 x1.toInt (y11_5.toInt).toNat) x.toInt)) ∧ kp = kq ∧ L = Lq ∧ E = Eq)) (As := [.int x1, .int y11_5]) (rest := []) ⟨hx, hb, hml, hown, hB⟩ (fun sz => tX12_nextKid l D cs a0 x1 y11_5 hm0 hk0 (by omega) (by omega) (by omega) (by omega) sz) cg_12_294_X12_nextKid rfl rfl (by decide +kernel) ⟨Nat.le_of_ble_eq_true rfl, Nat.le_of_ble_eq_true rfl⟩ hK hN TH hS hA rfl hm0 hk0 (by decide) rfl hl.1 rfl (Nat.le_of_ble_eq_true rfl) dX12_next_27 ⟨Nat.le_of_ble_eq_true rfl, Nat.le_of_ble_eq_true rfl⟩ (fun v9 kp9 L9 E9 H locs hq9 hx9 TH hS => ?_)
          obtain ⟨⟨xc10, rfl, hxc10a, hxc10b, hpoxc10_0⟩, rfl, rfl, rfl⟩ := hq9
          refine W.eq (g2 := F0 m 30 ls [.int xc10]) rfl ?_
          refine lv_istore (lv' := [(4, .int xc10), (5, .int y11_5), (0, .ref a0), (1, .int x1), (2, .int x2), (3, .int x3)]) hx hb dX12_next_30 hl (by decide) rfl (fun ls hl => ?_)
          refine lv_aload_n hx hb dX12_next_32 rfl (lv_at hl 2 rfl) ?_
          refine tw_get (ci := 12) (C := RX12) (T := TX12) (N := 64) hx hb hB cx_inX12 hown hK TH hm0 hk0 rfl ⟨by decide, rfl⟩ 18 (by decide) cw_1211 (fun _ h9 => h9) dX12_next_33 (fun hv => ?_)
          obtain ⟨xr11, hxr11, hmxr11, hkxr11⟩ : ∃ a : Nat, tw_fv E a0 18 = .ref a ∧ a ∈ L ∧ kp a = 318 := hv
          rw [hxr11]
          refine lv_iload_n hx hb dX12_next_36 rfl (lv_at hl 3 rfl) ?_
          refine tw_aald (k := 318) (t0 := 4) (n := 16) (lo := 328) (hi := 0) (ty := .int) hx hb hK TH hmxr11 hkxr11 (by decide) rfl rfl (i := x1) (vp_in_iff.mpr ⟨by  omega, by  omega⟩) dX12_next_37 (fun xr12 exr12 hmxr12 hkxr12 => ?_)
          have hkxr12 : kp xr12 = 328 := hkxr12
          refine lv_iload hx hb dX12_next_38 (lv_at hl 1 rfl) ?_
          refine tw_iald (k := 328) (t0 := 0) (n := 150) (lo := (-1)) (hi := 149) hx hb hK TH hmxr12 hkxr12 (by decide) rfl rfl (i := y11_5) (vp_in_iff.mpr ⟨by  omega, by  omega⟩) dX12_next_40 (fun hxe13a hxe13b => ?_)
          obtain ⟨xe13, exe13⟩ : ∃ z : Int32, tw_iv E xr12 (Int32.toNatClampNeg y11_5) = z := ⟨_, rfl⟩
          rw [exe13] at hxe13a hxe13b ⊢
          refine lv_istore (lv' := [(5, .int xe13), (4, .int xc10), (0, .ref a0), (1, .int x1), (2, .int x2), (3, .int x3)]) hx hb dX12_next_41 hl (by decide) rfl (fun ls hl => ?_)
          refine lv_goto (tgt := 11) hx hb dX12_next_43 (by decide) ?_
          exact ih11 (n11 - 1) (by  have rf_xe13 : rw_p E a0 (x1.toInt) (y11_5.toInt).toNat = xe13.toInt := rw_p_of (m := a0) (i := x1) (c := y11_5) hxr11 exr12 exe13; have hd := rt_dep_up hg0.1 hg0.2.1 hin11_0.2.1.1 hin11_0.2.1.2.1 hin11_0.2.1.2.2; rw [rf_xe13] at hd;  omega) xe13 xc10 _ _ ls (by omega) (by omega) (by omega) (by omega) (by  have rf_xe13 : rw_p E a0 (x1.toInt) (y11_5.toInt).toNat = xe13.toInt := rw_p_of (m := a0) (i := x1) (c := y11_5) hxr11 exr12 exe13; exact nx_step hg0.1 hg0.2.1 hg0.2.2 (by omega) (by omega) hpre0 (by omega) (by omega) hpre1 hpre2 hin11_0 (by omega) hpoxc10_0 rf_xe13) (by  have rf_xe13 : rw_p E a0 (x1.toInt) (y11_5.toInt).toNat = xe13.toInt := rw_p_of (m := a0) (i := x1) (c := y11_5) hxr11 exr12 exe13; have hd := rt_dep_up hg0.1 hg0.2.1 hin11_0.2.1.1 hin11_0.2.1.2.1 hin11_0.2.1.2.2; rw [rf_xe13] at hd;  omega) TH hS (lv_sub hl [0, 1, 2, 3, 4, 5] rfl)
  exact hJ11 152 x2 xc2 _ _ ls (by omega) (by omega) (by omega) (by omega) (by  exact nx_init hg0.1 hg0.2.1 (by omega) (by omega) hpre0 hpoxc2_0) (by  have := rt_dep_le (p := rw_p E a0 (x1.toInt)) (x2.toInt); omega) TH hS (lv_sub hl [0, 1, 2, 3, 4, 5] rfl)
set_option maxHeartbeats 4000000 in
set_option maxRecDepth 100000 in
theorem tX12_isUnder (l : Launch) (D : va_G) (cs : Nat → ClassId) {kp : Nat → Nat} {L : List Nat} {E : Nat → va_E} (a0 : Nat) (x1 : Int32) (x2 : Int32) (x3 : Int32) (hm0 : a0 ∈ L) (hk0 : kp a0 = 12) (hp1a : 0 ≤ x1.toInt) (hp1b : x1.toInt ≤ 15) (hp2a : 0 ≤ x2.toInt) (hp2b : x2.toInt ≤ 149) (hpre0 : rw_h E a0 x1.toInt (x2.toInt).toNat ≠ 0) (hg0 : rw_ok E a0 (x1.toInt)) (sz : Nat) : Met l yX12_isUnder (.code yX12_isUnder cX12_isUnder 5 (some .boolean) :: cx_big) { frames := 0, cells := 0, slots := 0, locals := 0 } (tw_P D cs kp L E [.ref a0, .int x1, .int x2, .int x3] sz) (tw_Q D cs kp L (fun v kq Lq Eq => (∃ x : Int32, v = some (.int x) ∧ 0 ≤ x.toInt ∧ x.toInt ≤ 1 ∧ (x.toInt = 0 → 0 ≤ x3.toInt → ∀ k : Nat, rt_up (rw_p E a0 x1.toInt) k x2.toInt ≠ x3.toInt)) ∧ kp = kq ∧ L = Lq ∧ E = Eq) (va_A (va_pl L E) sz)) 0 0 (va_A (va_pl L E) sz) := by
  refine tw_ofW (by decide) (Nat.le_of_ble_eq_true rfl) ?_
  intro p e s m below meth c A ls hx hb hr hml hB hown hlocks hK hN hA TH hS hl
  have hown : s.vm.findClass "TreeMergeModel" = some m.cls := hown
  have hl : lv_has ls 5 [(0, .ref a0), (1, .int x1), (2, .int x2), (3, .int x3)] := hl
  obtain ⟨kp0, ekp⟩ : ∃ z, z = kp := ⟨_, rfl⟩
  obtain ⟨L0, eL⟩ : ∃ z, z = L := ⟨_, rfl⟩
  rw [show tw_Q D cs kp L = tw_Q D cs kp0 L0 by rw [ekp, eL]]
  have hex : ∀ a : Nat, a ∈ L0 → a ∈ L ∧ kp a = kp0 a := fun a h => ⟨by rw [← eL]; exact h, by rw [ekp]⟩
  refine lv_iload_n hx hb dX12_isUnder_0 rfl (lv_at hl 2 rfl) ?_
  refine lv_istore (lv' := [(4, .int x2), (0, .ref a0), (1, .int x1), (2, .int x2), (3, .int x3)]) hx hb dX12_isUnder_1 hl (by decide) rfl (fun ls hl => ?_)
  have hJ3 : ∀ (n3 : Nat) (y3_4 : Int32) (H : Heap) (locs : List Loc) (ls : Array Slot), (-1) ≤ y3_4.toInt → y3_4.toInt ≤ 149 → (iu_inv (rw_h E a0 (x1.toInt)) (rw_p E a0 (x1.toInt)) (x2.toInt) (y3_4.toInt) (x3.toInt)) → (rt_dep (rw_p E a0 (x1.toInt)) (y3_4.toInt) : Int) ≤ (n3 : Int) → tw_H D cs kp L E A H → va_S A s.heap H locs → lv_has ls 5 [(4, .int y3_4), (0, .ref a0), (1, .int x1), (2, .int x2), (3, .int x3)] → W p l e { frames := 0, cells := 0, slots := 0, locals := 0 } s m [.ref a0, .int x1, .int x2, .int x3].toArray below meth c H locs 0 0 (MQ below (tw_Q D cs kp0 L0 (fun v kq Lq Eq => (∃ x : Int32, v = some (.int x) ∧ 0 ≤ x.toInt ∧ x.toInt ≤ 1 ∧ (x.toInt = 0 → 0 ≤ x3.toInt → ∀ k : Nat, rt_up (rw_p E a0 x1.toInt) k x2.toInt ≠ x3.toInt)) ∧ kp = kq ∧ L = Lq ∧ E = Eq) A) [.ref a0, .int x1, .int x2, .int x3].toArray s 0 0 A) (F0 m 3 ls []) := by
    intro n3
    induction n3 using Nat.strongRecOn with
    | _ n3 ih3 =>
      intro y3_4 H locs ls hy3_4a hy3_4b hin3_0 hmeas3 TH hS hl
      refine lv_iload hx hb dX12_isUnder_3 (lv_at hl 0 rfl) ?_
      refine lv_iconst (v := (-1)) hx hb dX12_isUnder_5 (by decide) ?_
      refine lv_icmp_eq (tgt := 29) hx hb dX12_isUnder_6 (by decide) (fun hc1 => ?_) (fun hc1 => ?_)
      · have hf2 : y3_4.toInt = (-1) := by have z := (fa_eq _ _).mp hc1; have : (((-1) : Int32).toInt) = (-1) := (by decide); omega
        refine lv_iload hx hb dX12_isUnder_29 (lv_at hl 0 rfl) ?_
        refine lv_iload_n hx hb dX12_isUnder_31 rfl (lv_at hl 4 rfl) ?_
        refine lv_icmp_ne (tgt := 39) hx hb dX12_isUnder_32 (by decide) (fun hc3 => ?_) (fun hc3 => ?_)
        · have hf4 : ¬ (y3_4.toInt = x3.toInt) := fun q => hc3 ((fa_eq _ _).mpr (by  omega))
          refine lv_iconst (v := 0) hx hb dX12_isUnder_39 (by decide) ?_
          exact tw_zret hx hb hr hlocks (by decide) TH hS hex ⟨⟨_, rfl, (show 0 ≤ Int32.toInt 0 from by have : ((0 : Int32).toInt) = 0 := (by decide); omega), (show Int32.toInt 0 ≤ 1 from by have : ((0 : Int32).toInt) = 0 := (by decide); omega), (by have : ((0 : Int32).toInt) = 0 := (by decide); intro _ h3 k; have e4 : y3_4.toInt = -1 := (by omega); rw [e4] at hin3_0; exact iu_no hin3_0 h3 k)⟩, rfl, rfl, rfl⟩ (Nat.le_of_ble_eq_true rfl) (Nat.le_of_ble_eq_true rfl) dX12_isUnder_40
        · have hf5 : y3_4.toInt = x3.toInt := by have z := (fa_eq _ _).mp hc3;  omega
          refine lv_iconst (v := 1) hx hb dX12_isUnder_35 (by decide) ?_
          refine lv_goto (tgt := 40) hx hb dX12_isUnder_36 (by decide) ?_
          exact tw_zret hx hb hr hlocks (by decide) TH hS hex ⟨⟨_, rfl, (show 0 ≤ Int32.toInt 1 from by have : ((1 : Int32).toInt) = 1 := (by decide); omega), (show Int32.toInt 1 ≤ 1 from by have : ((1 : Int32).toInt) = 1 := (by decide); omega), (by have : ((1 : Int32).toInt) = 1 := (by decide); intro q; exfalso; exact absurd q (by decide))⟩, rfl, rfl, rfl⟩ (Nat.le_of_ble_eq_true rfl) (Nat.le_of_ble_eq_true rfl) dX12_isUnder_40
      · have hf6 : ¬ (y3_4.toInt = (-1)) := fun q => hc1 ((fa_eq _ _).mpr (by have : (((-1) : Int32).toInt) = (-1) := (by decide); omega))
        refine lv_iload hx hb dX12_isUnder_9 (lv_at hl 0 rfl) ?_
        refine lv_iload_n hx hb dX12_isUnder_11 rfl (lv_at hl 4 rfl) ?_
        refine lv_icmp_eq (tgt := 29) hx hb dX12_isUnder_12 (by decide) (fun hc7 => ?_) (fun hc7 => ?_)
        · have hf8 : y3_4.toInt = x3.toInt := by have z := (fa_eq _ _).mp hc7;  omega
          refine lv_iload hx hb dX12_isUnder_29 (lv_at hl 0 rfl) ?_
          refine lv_iload_n hx hb dX12_isUnder_31 rfl (lv_at hl 4 rfl) ?_
          refine lv_icmp_ne (tgt := 39) hx hb dX12_isUnder_32 (by decide) (fun hc9 => ?_) (fun hc9 => ?_)
          · have hf10 : ¬ (y3_4.toInt = x3.toInt) := fun q => hc9 ((fa_eq _ _).mpr (by  omega))
            refine lv_iconst (v := 0) hx hb dX12_isUnder_39 (by decide) ?_
            exact tw_zret hx hb hr hlocks (by decide) TH hS hex ⟨⟨_, rfl, (show 0 ≤ Int32.toInt 0 from by have : ((0 : Int32).toInt) = 0 := (by decide); omega), (show Int32.toInt 0 ≤ 1 from by have : ((0 : Int32).toInt) = 0 := (by decide); omega), (by have : ((0 : Int32).toInt) = 0 := (by decide); intro _ h3 k; have e4 : y3_4.toInt = -1 := (by omega); rw [e4] at hin3_0; exact iu_no hin3_0 h3 k)⟩, rfl, rfl, rfl⟩ (Nat.le_of_ble_eq_true rfl) (Nat.le_of_ble_eq_true rfl) dX12_isUnder_40
          · have hf11 : y3_4.toInt = x3.toInt := by have z := (fa_eq _ _).mp hc9;  omega
            refine lv_iconst (v := 1) hx hb dX12_isUnder_35 (by decide) ?_
            refine lv_goto (tgt := 40) hx hb dX12_isUnder_36 (by decide) ?_
            exact tw_zret hx hb hr hlocks (by decide) TH hS hex ⟨⟨_, rfl, (show 0 ≤ Int32.toInt 1 from by have : ((1 : Int32).toInt) = 1 := (by decide); omega), (show Int32.toInt 1 ≤ 1 from by have : ((1 : Int32).toInt) = 1 := (by decide); omega), (by have : ((1 : Int32).toInt) = 1 := (by decide); intro q; exfalso; exact absurd q (by decide))⟩, rfl, rfl, rfl⟩ (Nat.le_of_ble_eq_true rfl) (Nat.le_of_ble_eq_true rfl) dX12_isUnder_40
        · have hf12 : ¬ (y3_4.toInt = x3.toInt) := fun q => hc7 ((fa_eq _ _).mpr (by  omega))
          have hu4 := hin3_0.1.resolve_left (by omega)
          refine lv_aload_n hx hb dX12_isUnder_15 rfl (lv_at hl 1 rfl) ?_
          refine tw_get (ci := 12) (C := RX12) (T := TX12) (N := 64) hx hb hB cx_inX12 hown hK TH hm0 hk0 rfl ⟨by decide, rfl⟩ 18 (by decide) cw_1211 (fun _ h9 => h9) dX12_isUnder_16 (fun hv => ?_)
          obtain ⟨xr13, hxr13, hmxr13, hkxr13⟩ : ∃ a : Nat, tw_fv E a0 18 = .ref a ∧ a ∈ L ∧ kp a = 318 := hv
          rw [hxr13]
          refine lv_iload_n hx hb dX12_isUnder_19 rfl (lv_at hl 2 rfl) ?_
          refine tw_aald (k := 318) (t0 := 4) (n := 16) (lo := 328) (hi := 0) (ty := .int) hx hb hK TH hmxr13 hkxr13 (by decide) rfl rfl (i := x1) (vp_in_iff.mpr ⟨by  omega, by  omega⟩) dX12_isUnder_20 (fun xr14 exr14 hmxr14 hkxr14 => ?_)
          have hkxr14 : kp xr14 = 328 := hkxr14
          refine lv_iload hx hb dX12_isUnder_21 (lv_at hl 0 rfl) ?_
          refine tw_iald (k := 328) (t0 := 0) (n := 150) (lo := (-1)) (hi := 149) hx hb hK TH hmxr14 hkxr14 (by decide) rfl rfl (i := y3_4) (vp_in_iff.mpr ⟨by  omega, by  omega⟩) dX12_isUnder_23 (fun hxe15a hxe15b => ?_)
          obtain ⟨xe15, exe15⟩ : ∃ z : Int32, tw_iv E xr14 (Int32.toNatClampNeg y3_4) = z := ⟨_, rfl⟩
          rw [exe15] at hxe15a hxe15b ⊢
          refine lv_istore (lv' := [(4, .int xe15), (0, .ref a0), (1, .int x1), (2, .int x2), (3, .int x3)]) hx hb dX12_isUnder_24 hl (by decide) rfl (fun ls hl => ?_)
          refine lv_goto (tgt := 3) hx hb dX12_isUnder_26 (by decide) ?_
          exact ih3 (n3 - 1) (by  have rf_xe15 : rw_p E a0 (x1.toInt) (y3_4.toInt).toNat = xe15.toInt := rw_p_of (m := a0) (i := x1) (c := y3_4) hxr13 exr14 exe15; have hu := hin3_0.1.resolve_left (by omega); have hd := rt_dep_up hg0.1 hg0.2.1 hu.1 hu.2.1 hu.2.2; rw [rf_xe15] at hd;  omega) xe15 _ _ ls (by omega) (by omega) (by  have rf_xe15 : rw_p E a0 (x1.toInt) (y3_4.toInt).toNat = xe15.toInt := rw_p_of (m := a0) (i := x1) (c := y3_4) hxr13 exr14 exe15; exact iu_step hg0.1 hin3_0 (by omega) (by omega) rf_xe15) (by  have rf_xe15 : rw_p E a0 (x1.toInt) (y3_4.toInt).toNat = xe15.toInt := rw_p_of (m := a0) (i := x1) (c := y3_4) hxr13 exr14 exe15; have hu := hin3_0.1.resolve_left (by omega); have hd := rt_dep_up hg0.1 hg0.2.1 hu.1 hu.2.1 hu.2.2; rw [rf_xe15] at hd;  omega) TH hS (lv_sub hl [0, 1, 2, 3, 4] rfl)
  exact hJ3 152 x2 _ _ ls (by omega) (by omega) (by  exact iu_init (by omega) (by omega) hpre0) (by  have := rt_dep_le (p := rw_p E a0 (x1.toInt)) (x2.toInt); omega) TH hS (lv_sub hl [0, 1, 2, 3, 4] rfl)
set_option maxHeartbeats 4000000 in
set_option maxRecDepth 100000 in
theorem tX12_deepOf (l : Launch) (D : va_G) (cs : Nat → ClassId) {kp : Nat → Nat} {L : List Nat} {E : Nat → va_E} (a0 : Nat) (x1 : Int32) (x2 : Int32) (hm0 : a0 ∈ L) (hk0 : kp a0 = 12) (hp1a : 0 ≤ x1.toInt) (hp1b : x1.toInt ≤ 15) (hp2a : 0 ≤ x2.toInt) (hp2b : x2.toInt ≤ 149) (hpre0 : rw_h E a0 x1.toInt (x2.toInt).toNat ≠ 0) (hg0 : rw_ok E a0 (x1.toInt)) (sz : Nat) : Met l yX12_deepOf (.code yX12_deepOf cX12_deepOf 5 (some .int) :: cx_big) { frames := 0, cells := 0, slots := 0, locals := 0 } (tw_P D cs kp L E [.ref a0, .int x1, .int x2] sz) (tw_Q D cs kp L (fun v kq Lq Eq => (∃ x : Int32, v = some (.int x)) ∧ kp = kq ∧ L = Lq ∧ E = Eq) (va_A (va_pl L E) sz)) 0 0 (va_A (va_pl L E) sz) := by
  refine tw_ofW (by decide) (Nat.le_of_ble_eq_true rfl) ?_
  intro p e s m below meth c A ls hx hb hr hml hB hown hlocks hK hN hA TH hS hl
  have hown : s.vm.findClass "TreeMergeModel" = some m.cls := hown
  have hl : lv_has ls 5 [(0, .ref a0), (1, .int x1), (2, .int x2)] := hl
  obtain ⟨kp0, ekp⟩ : ∃ z, z = kp := ⟨_, rfl⟩
  obtain ⟨L0, eL⟩ : ∃ z, z = L := ⟨_, rfl⟩
  rw [show tw_Q D cs kp L = tw_Q D cs kp0 L0 by rw [ekp, eL]]
  have hex : ∀ a : Nat, a ∈ L0 → a ∈ L ∧ kp a = kp0 a := fun a h => ⟨by rw [← eL]; exact h, by rw [ekp]⟩
  refine lv_iconst (v := 0) hx hb dX12_deepOf_0 (by decide) ?_
  refine lv_istore_n (lv' := [(3, .int 0), (0, .ref a0), (1, .int x1), (2, .int x2)]) hx hb dX12_deepOf_1 rfl hl (by decide) rfl (fun ls hl => ?_)
  refine lv_iload_n hx hb dX12_deepOf_2 rfl (lv_at hl 3 rfl) ?_
  refine lv_istore (lv' := [(4, .int x2), (3, .int 0), (0, .ref a0), (1, .int x1), (2, .int x2)]) hx hb dX12_deepOf_3 hl (by decide) rfl (fun ls hl => ?_)
  have hJ5 : ∀ (n5 : Nat) (y5_4 : Int32) (y5_3 : Int32) (H : Heap) (locs : List Loc) (ls : Array Slot), (-1) ≤ y5_4.toInt → y5_4.toInt ≤ 149 → (y5_4.toInt = -1 ∨ (0 ≤ y5_4.toInt ∧ y5_4.toInt < 150 ∧ rw_h E a0 (x1.toInt) (y5_4.toInt).toNat ≠ 0)) → (rt_dep (rw_p E a0 (x1.toInt)) (y5_4.toInt) : Int) ≤ (n5 : Int) → tw_H D cs kp L E A H → va_S A s.heap H locs → lv_has ls 5 [(4, .int y5_4), (3, .int y5_3), (0, .ref a0), (1, .int x1)] → W p l e { frames := 0, cells := 0, slots := 0, locals := 0 } s m [.ref a0, .int x1, .int x2].toArray below meth c H locs 0 0 (MQ below (tw_Q D cs kp0 L0 (fun v kq Lq Eq => (∃ x : Int32, v = some (.int x)) ∧ kp = kq ∧ L = Lq ∧ E = Eq) A) [.ref a0, .int x1, .int x2].toArray s 0 0 A) (F0 m 5 ls []) := by
    intro n5
    induction n5 using Nat.strongRecOn with
    | _ n5 ih5 =>
      intro y5_4 y5_3 H locs ls hy5_4a hy5_4b hin5_0 hmeas5 TH hS hl
      refine lv_iload hx hb dX12_deepOf_5 (lv_at hl 0 rfl) ?_
      refine lv_iconst (v := (-1)) hx hb dX12_deepOf_7 (by decide) ?_
      refine lv_icmp_eq (tgt := 28) hx hb dX12_deepOf_8 (by decide) (fun hc1 => ?_) (fun hc1 => ?_)
      · have hf2 : y5_4.toInt = (-1) := by have z := (fa_eq _ _).mp hc1; have : (((-1) : Int32).toInt) = (-1) := (by decide); omega
        refine lv_iload_n hx hb dX12_deepOf_28 rfl (lv_at hl 1 rfl) ?_
        exact tw_iret hx hb hr hlocks TH hS hex ⟨⟨_, rfl⟩, rfl, rfl, rfl⟩ (Nat.le_of_ble_eq_true rfl) (Nat.le_of_ble_eq_true rfl) dX12_deepOf_29
      · have hf3 : ¬ (y5_4.toInt = (-1)) := fun q => hc1 ((fa_eq _ _).mpr (by have : (((-1) : Int32).toInt) = (-1) := (by decide); omega))
        have hu4 := hin5_0.resolve_left (by omega)
        obtain ⟨zi4, ezi4⟩ : ∃ z : Int32, z = y5_3 + Int32.ofInt 1 := ⟨_, rfl⟩
        refine lv_iinc (v := zi4) (lv' := [(3, .int zi4), (4, .int y5_4), (0, .ref a0), (1, .int x1)]) hx hb dX12_deepOf_11 hl (k := 1) rfl ezi4.symm (by decide) rfl (fun ls hl => ?_)
        refine lv_aload_n hx hb dX12_deepOf_14 rfl (lv_at hl 2 rfl) ?_
        refine tw_get (ci := 12) (C := RX12) (T := TX12) (N := 64) hx hb hB cx_inX12 hown hK TH hm0 hk0 rfl ⟨by decide, rfl⟩ 18 (by decide) cw_1211 (fun _ h9 => h9) dX12_deepOf_15 (fun hv => ?_)
        obtain ⟨xr5, hxr5, hmxr5, hkxr5⟩ : ∃ a : Nat, tw_fv E a0 18 = .ref a ∧ a ∈ L ∧ kp a = 318 := hv
        rw [hxr5]
        refine lv_iload_n hx hb dX12_deepOf_18 rfl (lv_at hl 3 rfl) ?_
        refine tw_aald (k := 318) (t0 := 4) (n := 16) (lo := 328) (hi := 0) (ty := .int) hx hb hK TH hmxr5 hkxr5 (by decide) rfl rfl (i := x1) (vp_in_iff.mpr ⟨by  omega, by  omega⟩) dX12_deepOf_19 (fun xr6 exr6 hmxr6 hkxr6 => ?_)
        have hkxr6 : kp xr6 = 328 := hkxr6
        refine lv_iload hx hb dX12_deepOf_20 (lv_at hl 1 rfl) ?_
        refine tw_iald (k := 328) (t0 := 0) (n := 150) (lo := (-1)) (hi := 149) hx hb hK TH hmxr6 hkxr6 (by decide) rfl rfl (i := y5_4) (vp_in_iff.mpr ⟨by  omega, by  omega⟩) dX12_deepOf_22 (fun hxe7a hxe7b => ?_)
        obtain ⟨xe7, exe7⟩ : ∃ z : Int32, tw_iv E xr6 (Int32.toNatClampNeg y5_4) = z := ⟨_, rfl⟩
        rw [exe7] at hxe7a hxe7b ⊢
        refine lv_istore (lv' := [(4, .int xe7), (3, .int zi4), (0, .ref a0), (1, .int x1)]) hx hb dX12_deepOf_23 hl (by decide) rfl (fun ls hl => ?_)
        refine lv_goto (tgt := 5) hx hb dX12_deepOf_25 (by decide) ?_
        exact ih5 (n5 - 1) (by  have rf_xe7 : rw_p E a0 (x1.toInt) (y5_4.toInt).toNat = xe7.toInt := rw_p_of (m := a0) (i := x1) (c := y5_4) hxr5 exr6 exe7; have hu := hin5_0.resolve_left (by omega); have hd := rt_dep_up hg0.1 hg0.2.1 hu.1 hu.2.1 hu.2.2; rw [rf_xe7] at hd;  omega) xe7 zi4 _ _ ls (by omega) (by omega) (by  have rf_xe7 : rw_p E a0 (x1.toInt) (y5_4.toInt).toNat = xe7.toInt := rw_p_of (m := a0) (i := x1) (c := y5_4) hxr5 exr6 exe7; have hu := hin5_0.resolve_left (by omega); have hz := hg0.1 (y5_4.toInt).toNat (by omega) hu.2.2; rw [rf_xe7] at hz; rcases hz with z | z; exact Or.inl z; exact Or.inr z) (by  have rf_xe7 : rw_p E a0 (x1.toInt) (y5_4.toInt).toNat = xe7.toInt := rw_p_of (m := a0) (i := x1) (c := y5_4) hxr5 exr6 exe7; have hu := hin5_0.resolve_left (by omega); have hd := rt_dep_up hg0.1 hg0.2.1 hu.1 hu.2.1 hu.2.2; rw [rf_xe7] at hd;  omega) TH hS (lv_sub hl [0, 1, 2, 3] rfl)
  exact hJ5 152 x2 (0 : Int32) _ _ ls (by omega) (by omega) (by have : ((0 : Int32).toInt) = 0 := (by decide); exact Or.inr ⟨by omega, by omega, hpre0⟩) (by have : ((0 : Int32).toInt) = 0 := (by decide); have := rt_dep_le (p := rw_p E a0 (x1.toInt)) (x2.toInt); omega) TH hS (lv_sub hl [0, 1, 2, 3] rfl)
set_option maxHeartbeats 4000000 in
set_option maxRecDepth 100000 in
theorem tX12_fitsList (l : Launch) (D : va_G) (cs : Nat → ClassId) {kp : Nat → Nat} {L : List Nat} {E : Nat → va_E} (a0 : Nat) (x1 : Int32) (x2 : Int32) (x3 : Int32) (hm0 : a0 ∈ L) (hk0 : kp a0 = 12) (hp1a : 0 ≤ x1.toInt) (hp1b : x1.toInt ≤ 15) (hp3a : 0 ≤ x3.toInt) (hp3b : x3.toInt ≤ 9) (hg0 : ht_ok E a0) (sz : Nat) : Met l yX12_fitsList (.code yX12_fitsList cX12_fitsList 7 (some .boolean) :: cx_big) { frames := 2, cells := 0, slots := 0, locals := 47 } (tw_P D cs kp L E [.ref a0, .int x1, .int x2, .int x3] sz) (tw_Q D cs kp L (fun v kq Lq Eq => (∃ x : Int32, v = some (.int x) ∧ 0 ≤ x.toInt ∧ x.toInt ≤ 1) ∧ kp = kq ∧ L = Lq ∧ tw_fr kp L [] [348, 349] E Eq) (va_A (va_pl L E) sz)) 0 0 (va_A (va_pl L E) sz) := by
  refine tw_ofW (by decide) (Nat.le_of_ble_eq_true rfl) ?_
  intro p e s m below meth c A ls hx hb hr hml hB hown hlocks hK hN hA TH hS hl
  have hown : s.vm.findClass "TreeMergeModel" = some m.cls := hown
  have hl : lv_has ls 7 [(0, .ref a0), (1, .int x1), (2, .int x2), (3, .int x3)] := hl
  obtain ⟨kp0, ekp⟩ : ∃ z, z = kp := ⟨_, rfl⟩
  obtain ⟨L0, eL⟩ : ∃ z, z = L := ⟨_, rfl⟩
  rw [show tw_Q D cs kp L = tw_Q D cs kp0 L0 by rw [ekp, eL]]
  have hex : ∀ a : Nat, a ∈ L0 → a ∈ L ∧ kp a = kp0 a := fun a h => ⟨by rw [← eL]; exact h, by rw [ekp]⟩
  have hF : tw_fr kp L [] [348, 349] E E := tw_fr.rf
  refine lv_aload_n hx hb dX12_fitsList_0 rfl (lv_at hl 0 rfl) ?_
  refine tw_get (ci := 12) (C := RX12) (T := TX12) (N := 64) hx hb hB cx_inX12 hown hK TH hm0 hk0 rfl ⟨by decide, rfl⟩ 34 (by decide) cw_1227 (fun _ h9 => h9) dX12_fitsList_1 (fun hv => ?_)
  obtain ⟨xr1, hxr1, hmxr1, hkxr1⟩ : ∃ a : Nat, tw_fv E a0 34 = .ref a ∧ a ∈ L ∧ kp a = 340 := hv
  rw [hxr1]
  refine lv_iload_n hx hb dX12_fitsList_4 rfl (lv_at hl 3 rfl) ?_
  refine tw_iald (k := 340) (t0 := 0) (n := 10) (lo := 0) (hi := 252) hx hb hK TH hmxr1 hkxr1 (by decide) rfl rfl (i := x3) (vp_in_iff.mpr ⟨by  omega, by  omega⟩) dX12_fitsList_5 (fun hxe2a hxe2b => ?_)
  obtain ⟨xe2, exe2⟩ : ∃ z : Int32, tw_iv E xr1 (Int32.toNatClampNeg x3) = z := ⟨_, rfl⟩
  rw [exe2] at hxe2a hxe2b ⊢
  refine lv_istore (lv' := [(4, .int xe2), (0, .ref a0), (1, .int x1), (2, .int x2), (3, .int x3)]) hx hb dX12_fitsList_6 hl (by decide) rfl (fun ls hl => ?_)
  refine lv_iconst (v := 0) hx hb dX12_fitsList_8 (by decide) ?_
  refine lv_istore (lv' := [(5, .int 0), (4, .int xe2), (0, .ref a0), (1, .int x1), (2, .int x2), (3, .int x3)]) hx hb dX12_fitsList_9 hl (by decide) rfl (fun ls hl => ?_)
  have hJ11 : ∀ (n11 : Nat) (y11_5 : Int32) (Eg11 : Nat → va_E) (H : Heap) (locs : List Loc) (ls : Array Slot), 0 ≤ y11_5.toInt → y11_5.toInt ≤ 255 → 253 - y11_5.toInt ≤ (n11 : Int) → tw_fr kp L [] [348] E Eg11 → ht_ok Eg11 a0 → tw_H D cs kp L Eg11 A H → va_S A s.heap H locs → lv_has ls 7 [(5, .int y11_5), (4, .int xe2), (0, .ref a0), (1, .int x1), (2, .int x2), (3, .int x3)] → W p l e { frames := 2, cells := 0, slots := 0, locals := 47 } s m [.ref a0, .int x1, .int x2, .int x3].toArray below meth c H locs 0 0 (MQ below (tw_Q D cs kp0 L0 (fun v kq Lq Eq => (∃ x : Int32, v = some (.int x) ∧ 0 ≤ x.toInt ∧ x.toInt ≤ 1) ∧ kp = kq ∧ L = Lq ∧ tw_fr kp L [] [348, 349] E Eq) A) [.ref a0, .int x1, .int x2, .int x3].toArray s 0 0 A) (F0 m 11 ls []) := by
    intro n11
    induction n11 using Nat.strongRecOn with
    | _ n11 ih11 =>
      intro y11_5 Eg11 H locs ls hy11_5a hy11_5b hmeas11 hG11 hg0 TH hS hl
      have hF := hF.tr hG11 (fun _ h => ⟨h, rfl⟩) (by decide) (by decide)
      have hmf3 : tw_fv Eg11 a0 34 = .ref xr1 := (hG11.1 a0 34 hm0 (by rw [hk0]; decide)).trans hxr1
      refine lv_iload hx hb dX12_fitsList_11 (lv_at hl 0 rfl) ?_
      refine lv_iload hx hb dX12_fitsList_13 (lv_at hl 1 rfl) ?_
      refine lv_icmp_gt (tgt := 41) hx hb dX12_fitsList_15 (by decide) (fun hc4 => ?_) (fun hc4 => ?_)
      · have hf5 : xe2.toInt < y11_5.toInt := by have z := (fa_lt _ _).mp hc4;  omega
        refine lv_aload_n hx hb dX12_fitsList_41 rfl (lv_at hl 2 rfl) ?_
        refine lv_aload_n hx hb dX12_fitsList_42 rfl (lv_at hl 2 rfl) ?_
        refine tw_get (ci := 12) (C := RX12) (T := TX12) (N := 64) hx hb hB cx_inX12 hown hK TH hm0 hk0 rfl ⟨by decide, rfl⟩ 42 (by decide) cw_1235 (fun _ h9 => h9) dX12_fitsList_43 (fun hv => ?_)
        obtain ⟨xr6, hxr6, hmxr6, hkxr6⟩ : ∃ a : Nat, tw_fv Eg11 a0 42 = .ref a ∧ a ∈ L ∧ kp a = 348 := hv
        rw [hxr6]
        refine lv_iload_n hx hb dX12_fitsList_46 rfl (lv_at hl 5 rfl) ?_
        refine tw_Vc (o := a0) (ci := 12) (n := 2) (post := (fun v kq Lq Eq => v = none ∧ kp = kq ∧ L = Lq ∧ tw_fr kp L [] [348] Eg11 Eq)) (As := [.ref xr6, .int x3]) (rest := []) ⟨hx, hb, hml, hown, hB⟩ (fun sz => tX12_closes l D cs a0 xr6 x3 hm0 hk0 hmxr6 hkxr6 (by omega) (by omega) sz) cg_12_311_X12_closes rfl rfl (by decide +kernel) ⟨Nat.le_of_ble_eq_true rfl, Nat.le_of_ble_eq_true rfl⟩ hK hN TH hS hA rfl hm0 hk0 (by decide) rfl hl.1 rfl (Nat.le_of_ble_eq_true rfl) dX12_fitsList_47 ⟨Nat.le_of_ble_eq_true rfl, Nat.le_of_ble_eq_true rfl⟩ (fun v7 kp7 L7 E7 H locs hq7 hx7 TH hS => ?_)
        obtain ⟨rfl, rfl, rfl, hst7⟩ := hq7
        have hF := hF.tr hst7 (fun _ h => ⟨h, rfl⟩) (by decide) (by decide)
        have hG11 := hG11.tr hst7 (fun _ h => ⟨h, rfl⟩) (by decide) (by decide)
        have hmf9 : tw_fv E7 a0 34 = .ref xr1 := (hst7.1 a0 34 hm0 (by rw [hk0]; decide)).trans hmf3
        have hmf10 : tw_fv E7 a0 42 = .ref xr6 := (hst7.1 a0 42 hm0 (by rw [hk0]; decide)).trans hxr6
        have hg0 : ht_ok E7 a0 := ht_ok_fr TH hst7 hm0 hk0 (by decide) (by decide) hg0
        refine W.eq (g2 := F0 m 50 ls []) rfl ?_
        refine lv_aload_n hx hb dX12_fitsList_50 rfl (lv_at hl 2 rfl) ?_
        refine lv_iload_n hx hb dX12_fitsList_51 rfl (lv_at hl 3 rfl) ?_
        refine lv_iload_n hx hb dX12_fitsList_52 rfl (lv_at hl 4 rfl) ?_
        refine tw_Vc (o := a0) (ci := 12) (n := 2) (post := (fun v kq Lq Eq => (∃ x : Int32, v = some (.int x) ∧ (-1) ≤ x.toInt ∧ x.toInt ≤ 149 ∧ (rt_kbk (rw_h E7 a0 x1.toInt) (rw_p E7 a0 x1.toInt) (rw_q E7 a0 x1.toInt) 150 x2.toInt (-1) x.toInt)) ∧ kp = kq ∧ L = Lq ∧ E7 = Eq)) (As := [.int x1, .int x2]) (rest := []) ⟨hx, hb, hml, hown, hB⟩ (fun sz => tX12_firstKid l D cs a0 x1 x2 hm0 hk0 (by omega) (by omega) sz) cg_12_291_X12_firstKid rfl rfl (by decide +kernel) ⟨Nat.le_of_ble_eq_true rfl, Nat.le_of_ble_eq_true rfl⟩ hK hN TH hS hA rfl hm0 hk0 (by decide) rfl hl.1 rfl (Nat.le_of_ble_eq_true rfl) dX12_fitsList_53 ⟨Nat.le_of_ble_eq_true rfl, Nat.le_of_ble_eq_true rfl⟩ (fun v11 kp11 L11 E11 H locs hq11 hx11 TH hS => ?_)
        obtain ⟨⟨xc12, rfl, hxc12a, hxc12b, hpoxc12_0⟩, rfl, rfl, rfl⟩ := hq11
        refine W.eq (g2 := F0 m 56 ls [.int xc12]) rfl ?_
        refine lv_istore (lv' := [(5, .int xc12), (4, .int xe2), (0, .ref a0), (1, .int x1), (2, .int x2), (3, .int x3)]) hx hb dX12_fitsList_56 hl (by decide) rfl (fun ls hl => ?_)
        have hJ58 : ∀ (n58 : Nat) (y58_5 : Int32) (Eg58 : Nat → va_E) (H : Heap) (locs : List Loc) (ls : Array Slot), (-1) ≤ y58_5.toInt → y58_5.toInt ≤ 149 → (kd_is (rw_h E a0 (x1.toInt)) (rw_p E a0 (x1.toInt)) (x2.toInt) (y58_5.toInt)) → (rt_kz (rw_h E a0 (x1.toInt)) (rw_p E a0 (x1.toInt)) (rw_q E a0 (x1.toInt)) (x2.toInt) (y58_5.toInt) : Int) ≤ (n58 : Int) → tw_fr kp L [] [348, 349] E7 Eg58 → ht_ok Eg58 a0 → tw_H D cs kp L Eg58 A H → va_S A s.heap H locs → lv_has ls 7 [(5, .int y58_5), (4, .int xe2), (0, .ref a0), (1, .int x1), (2, .int x2), (3, .int x3)] → W p l e { frames := 2, cells := 0, slots := 0, locals := 47 } s m [.ref a0, .int x1, .int x2, .int x3].toArray below meth c H locs 0 0 (MQ below (tw_Q D cs kp0 L0 (fun v kq Lq Eq => (∃ x : Int32, v = some (.int x) ∧ 0 ≤ x.toInt ∧ x.toInt ≤ 1) ∧ kp = kq ∧ L = Lq ∧ tw_fr kp L [] [348, 349] E Eq) A) [.ref a0, .int x1, .int x2, .int x3].toArray s 0 0 A) (F0 m 58 ls []) := by
          intro n58
          induction n58 using Nat.strongRecOn with
          | _ n58 ih58 =>
            intro y58_5 Eg58 H locs ls hy58_5a hy58_5b hin58_0 hmeas58 hG58 hg0 TH hS hl
            have hF := hF.tr hG58 (fun _ h => ⟨h, rfl⟩) (by decide) (by decide)
            have hmf13 : tw_fv Eg58 a0 34 = .ref xr1 := (hG58.1 a0 34 hm0 (by rw [hk0]; decide)).trans hmf9
            have hmf14 : tw_fv Eg58 a0 42 = .ref xr6 := (hG58.1 a0 42 hm0 (by rw [hk0]; decide)).trans hmf10
            refine lv_iload hx hb dX12_fitsList_58 (lv_at hl 0 rfl) ?_
            refine lv_iconst (v := (-1)) hx hb dX12_fitsList_60 (by decide) ?_
            refine lv_icmp_eq (tgt := 222) hx hb dX12_fitsList_61 (by decide) (fun hc15 => ?_) (fun hc15 => ?_)
            · have hf16 : y58_5.toInt = (-1) := by have z := (fa_eq _ _).mp hc15; have : (((-1) : Int32).toInt) = (-1) := (by decide); omega
              refine lv_aload_n hx hb dX12_fitsList_222 rfl (lv_at hl 2 rfl) ?_
              refine tw_get (ci := 12) (C := RX12) (T := TX12) (N := 64) hx hb hB cx_inX12 hown hK TH hm0 hk0 rfl ⟨by decide, rfl⟩ 42 (by decide) cw_1235 (fun _ h9 => h9) dX12_fitsList_223 (fun hv => ?_)
              rw [hmf14]
              refine lv_iload hx hb dX12_fitsList_226 (lv_at hl 1 rfl) ?_
              refine tw_zald (k := 348) (t0 := 3) (n := 253) (lo := 0) (hi := 1) hx hb hK TH hmxr6 hkxr6 (by decide) rfl rfl (i := xe2) (vp_in_iff.mpr ⟨by  omega, by  omega⟩) dX12_fitsList_228 (fun hxe17a hxe17b => ?_)
              obtain ⟨xe17, exe17⟩ : ∃ z : Int32, tw_iv Eg58 xr6 (Int32.toNatClampNeg xe2) = z := ⟨_, rfl⟩
              rw [exe17] at hxe17a hxe17b ⊢
              exact tw_zret hx hb hr hlocks (ia_bool (by omega) (by omega)) TH hS hex ⟨⟨_, rfl, (show 0 ≤ Int32.toInt xe17 from by  omega), (show Int32.toInt xe17 ≤ 1 from by  omega)⟩, rfl, rfl, hF⟩ (Nat.le_of_ble_eq_true rfl) (Nat.le_of_ble_eq_true rfl) dX12_fitsList_229
            · have hf18 : ¬ (y58_5.toInt = (-1)) := fun q => hc15 ((fa_eq _ _).mpr (by have : (((-1) : Int32).toInt) = (-1) := (by decide); omega))
              have hkc5 := hin58_0.resolve_left (by omega)
              refine lv_iconst (v := 0) hx hb dX12_fitsList_64 (by decide) ?_
              refine lv_istore (lv' := [(6, .int 0), (5, .int y58_5), (4, .int xe2), (0, .ref a0), (1, .int x1), (2, .int x2), (3, .int x3)]) hx hb dX12_fitsList_65 hl (by decide) rfl (fun ls hl => ?_)
              have hJ67 : ∀ (n67 : Nat) (y67_6 : Int32) (Eg67 : Nat → va_E) (H : Heap) (locs : List Loc) (ls : Array Slot), 0 ≤ y67_6.toInt → y67_6.toInt ≤ 255 → 253 - y67_6.toInt ≤ (n67 : Int) → tw_fr kp L [] [349] Eg58 Eg67 → ht_ok Eg67 a0 → tw_H D cs kp L Eg67 A H → va_S A s.heap H locs → lv_has ls 7 [(6, .int y67_6), (5, .int y58_5), (4, .int xe2), (0, .ref a0), (1, .int x1), (2, .int x2), (3, .int x3)] → W p l e { frames := 2, cells := 0, slots := 0, locals := 47 } s m [.ref a0, .int x1, .int x2, .int x3].toArray below meth c H locs 0 0 (MQ below (tw_Q D cs kp0 L0 (fun v kq Lq Eq => (∃ x : Int32, v = some (.int x) ∧ 0 ≤ x.toInt ∧ x.toInt ≤ 1) ∧ kp = kq ∧ L = Lq ∧ tw_fr kp L [] [348, 349] E Eq) A) [.ref a0, .int x1, .int x2, .int x3].toArray s 0 0 A) (F0 m 67 ls []) := by
                intro n67
                induction n67 using Nat.strongRecOn with
                | _ n67 ih67 =>
                  intro y67_6 Eg67 H locs ls hy67_6a hy67_6b hmeas67 hG67 hg0 TH hS hl
                  have hF := hF.tr hG67 (fun _ h => ⟨h, rfl⟩) (by decide) (by decide)
                  have hG58 := hG58.tr hG67 (fun _ h => ⟨h, rfl⟩) (by decide) (by decide)
                  have hmf19 : tw_fv Eg67 a0 34 = .ref xr1 := (hG67.1 a0 34 hm0 (by rw [hk0]; decide)).trans hmf13
                  have hmf20 : tw_fv Eg67 a0 42 = .ref xr6 := (hG67.1 a0 42 hm0 (by rw [hk0]; decide)).trans hmf14
                  refine lv_iload hx hb dX12_fitsList_67 (lv_at hl 0 rfl) ?_
                  refine lv_iload hx hb dX12_fitsList_69 (lv_at hl 2 rfl) ?_
                  refine lv_icmp_gt (tgt := 88) hx hb dX12_fitsList_71 (by decide) (fun hc21 => ?_) (fun hc21 => ?_)
                  · have hf22 : xe2.toInt < y67_6.toInt := by have z := (fa_lt _ _).mp hc21;  omega
                    refine lv_iconst (v := 0) hx hb dX12_fitsList_88 (by decide) ?_
                    refine lv_istore (lv' := [(6, .int 0), (5, .int y58_5), (4, .int xe2), (0, .ref a0), (1, .int x1), (2, .int x2), (3, .int x3)]) hx hb dX12_fitsList_89 hl (by decide) rfl (fun ls hl => ?_)
                    have hJ91 : ∀ (n91 : Nat) (y91_6 : Int32) (Eg91 : Nat → va_E) (H : Heap) (locs : List Loc) (ls : Array Slot), 0 ≤ y91_6.toInt → y91_6.toInt ≤ 252 → 253 - y91_6.toInt ≤ (n91 : Int) → tw_fr kp L [] [349] Eg67 Eg91 → ht_ok Eg91 a0 → tw_H D cs kp L Eg91 A H → va_S A s.heap H locs → lv_has ls 7 [(6, .int y91_6), (5, .int y58_5), (4, .int xe2), (0, .ref a0), (1, .int x1), (2, .int x2), (3, .int x3)] → W p l e { frames := 2, cells := 0, slots := 0, locals := 47 } s m [.ref a0, .int x1, .int x2, .int x3].toArray below meth c H locs 0 0 (MQ below (tw_Q D cs kp0 L0 (fun v kq Lq Eq => (∃ x : Int32, v = some (.int x) ∧ 0 ≤ x.toInt ∧ x.toInt ≤ 1) ∧ kp = kq ∧ L = Lq ∧ tw_fr kp L [] [348, 349] E Eq) A) [.ref a0, .int x1, .int x2, .int x3].toArray s 0 0 A) (F0 m 91 ls []) := by
                      intro n91
                      induction n91 using Nat.strongRecOn with
                      | _ n91 ih91 =>
                        intro y91_6 Eg91 H locs ls hy91_6a hy91_6b hmeas91 hG91 hg0 TH hS hl
                        have hF := hF.tr hG91 (fun _ h => ⟨h, rfl⟩) (by decide) (by decide)
                        have hG58 := hG58.tr hG91 (fun _ h => ⟨h, rfl⟩) (by decide) (by decide)
                        have hG67 := hG67.tr hG91 (fun _ h => ⟨h, rfl⟩) (by decide) (by decide)
                        have hmf23 : tw_fv Eg91 a0 34 = .ref xr1 := (hG91.1 a0 34 hm0 (by rw [hk0]; decide)).trans hmf19
                        have hmf24 : tw_fv Eg91 a0 42 = .ref xr6 := (hG91.1 a0 42 hm0 (by rw [hk0]; decide)).trans hmf20
                        refine lv_iload hx hb dX12_fitsList_91 (lv_at hl 0 rfl) ?_
                        refine lv_iload hx hb dX12_fitsList_93 (lv_at hl 2 rfl) ?_
                        refine lv_icmp_ge (tgt := 171) hx hb dX12_fitsList_95 (by decide) (fun hc25 => ?_) (fun hc25 => ?_)
                        · have hf26 : xe2.toInt ≤ y91_6.toInt := by have z := (fa_le _ _).mp hc25;  omega
                          refine lv_aload_n hx hb dX12_fitsList_171 rfl (lv_at hl 3 rfl) ?_
                          refine lv_aload_n hx hb dX12_fitsList_172 rfl (lv_at hl 3 rfl) ?_
                          refine tw_get (ci := 12) (C := RX12) (T := TX12) (N := 64) hx hb hB cx_inX12 hown hK TH hm0 hk0 rfl ⟨by decide, rfl⟩ 43 (by decide) cw_1236 (fun _ h9 => h9) dX12_fitsList_173 (fun hv => ?_)
                          obtain ⟨xr27, hxr27, hmxr27, hkxr27⟩ : ∃ a : Nat, tw_fv Eg91 a0 43 = .ref a ∧ a ∈ L ∧ kp a = 349 := hv
                          rw [hxr27]
                          refine lv_iload_n hx hb dX12_fitsList_176 rfl (lv_at hl 6 rfl) ?_
                          refine tw_Vc (o := a0) (ci := 12) (n := 2) (post := (fun v kq Lq Eq => v = none ∧ kp = kq ∧ L = Lq ∧ tw_fr kp L [] [349] Eg91 Eq)) (As := [.ref xr27, .int x3]) (rest := []) ⟨hx, hb, hml, hown, hB⟩ (fun sz => tX12_closes_v1 l D cs a0 xr27 x3 hm0 hk0 hmxr27 hkxr27 (by omega) (by omega) sz) cg_12_311_X12_closes rfl rfl (by decide +kernel) ⟨Nat.le_of_ble_eq_true rfl, Nat.le_of_ble_eq_true rfl⟩ hK hN TH hS hA rfl hm0 hk0 (by decide) rfl hl.1 rfl (Nat.le_of_ble_eq_true rfl) dX12_fitsList_177 ⟨Nat.le_of_ble_eq_true rfl, Nat.le_of_ble_eq_true rfl⟩ (fun v28 kp28 L28 E28 H locs hq28 hx28 TH hS => ?_)
                          obtain ⟨rfl, rfl, rfl, hst28⟩ := hq28
                          have hF := hF.tr hst28 (fun _ h => ⟨h, rfl⟩) (by decide) (by decide)
                          have hG58 := hG58.tr hst28 (fun _ h => ⟨h, rfl⟩) (by decide) (by decide)
                          have hG67 := hG67.tr hst28 (fun _ h => ⟨h, rfl⟩) (by decide) (by decide)
                          have hG91 := hG91.tr hst28 (fun _ h => ⟨h, rfl⟩) (by decide) (by decide)
                          have hmf30 : tw_fv E28 a0 34 = .ref xr1 := (hst28.1 a0 34 hm0 (by rw [hk0]; decide)).trans hmf23
                          have hmf31 : tw_fv E28 a0 42 = .ref xr6 := (hst28.1 a0 42 hm0 (by rw [hk0]; decide)).trans hmf24
                          have hmf32 : tw_fv E28 a0 43 = .ref xr27 := (hst28.1 a0 43 hm0 (by rw [hk0]; decide)).trans hxr27
                          have hg0 : ht_ok E28 a0 := ht_ok_fr TH hst28 hm0 hk0 (by decide) (by decide) hg0
                          refine W.eq (g2 := F0 m 180 ls []) rfl ?_
                          refine lv_iconst (v := 0) hx hb dX12_fitsList_180 (by decide) ?_
                          refine lv_istore (lv' := [(6, .int 0), (5, .int y58_5), (4, .int xe2), (0, .ref a0), (1, .int x1), (2, .int x2), (3, .int x3)]) hx hb dX12_fitsList_181 hl (by decide) rfl (fun ls hl => ?_)
                          have hJ183 : ∀ (n183 : Nat) (y183_6 : Int32) (Eg183 : Nat → va_E) (H : Heap) (locs : List Loc) (ls : Array Slot), 0 ≤ y183_6.toInt → y183_6.toInt ≤ 255 → 253 - y183_6.toInt ≤ (n183 : Int) → tw_fr kp L [] [348] E28 Eg183 → ht_ok Eg183 a0 → tw_H D cs kp L Eg183 A H → va_S A s.heap H locs → lv_has ls 7 [(6, .int y183_6), (5, .int y58_5), (4, .int xe2), (0, .ref a0), (1, .int x1), (2, .int x2), (3, .int x3)] → W p l e { frames := 2, cells := 0, slots := 0, locals := 47 } s m [.ref a0, .int x1, .int x2, .int x3].toArray below meth c H locs 0 0 (MQ below (tw_Q D cs kp0 L0 (fun v kq Lq Eq => (∃ x : Int32, v = some (.int x) ∧ 0 ≤ x.toInt ∧ x.toInt ≤ 1) ∧ kp = kq ∧ L = Lq ∧ tw_fr kp L [] [348, 349] E Eq) A) [.ref a0, .int x1, .int x2, .int x3].toArray s 0 0 A) (F0 m 183 ls []) := by
                            intro n183
                            induction n183 using Nat.strongRecOn with
                            | _ n183 ih183 =>
                              intro y183_6 Eg183 H locs ls hy183_6a hy183_6b hmeas183 hG183 hg0 TH hS hl
                              have hF := hF.tr hG183 (fun _ h => ⟨h, rfl⟩) (by decide) (by decide)
                              have hG58 := hG58.tr hG183 (fun _ h => ⟨h, rfl⟩) (by decide) (by decide)
                              have hmf33 : tw_fv Eg183 a0 34 = .ref xr1 := (hG183.1 a0 34 hm0 (by rw [hk0]; decide)).trans hmf30
                              have hmf34 : tw_fv Eg183 a0 42 = .ref xr6 := (hG183.1 a0 42 hm0 (by rw [hk0]; decide)).trans hmf31
                              have hmf35 : tw_fv Eg183 a0 43 = .ref xr27 := (hG183.1 a0 43 hm0 (by rw [hk0]; decide)).trans hmf32
                              refine lv_iload hx hb dX12_fitsList_183 (lv_at hl 0 rfl) ?_
                              refine lv_iload hx hb dX12_fitsList_185 (lv_at hl 2 rfl) ?_
                              refine lv_icmp_gt (tgt := 210) hx hb dX12_fitsList_187 (by decide) (fun hc36 => ?_) (fun hc36 => ?_)
                              · have hf37 : xe2.toInt < y183_6.toInt := by have z := (fa_lt _ _).mp hc36;  omega
                                refine lv_aload_n hx hb dX12_fitsList_210 rfl (lv_at hl 3 rfl) ?_
                                refine lv_iload_n hx hb dX12_fitsList_211 rfl (lv_at hl 4 rfl) ?_
                                refine lv_iload hx hb dX12_fitsList_212 (lv_at hl 1 rfl) ?_
                                refine tw_Vc (o := a0) (ci := 12) (n := 2) (post := (fun v kq Lq Eq => (∃ x : Int32, v = some (.int x) ∧ (-1) ≤ x.toInt ∧ x.toInt ≤ 149 ∧ (rt_kbk (rw_h Eg183 a0 x1.toInt) (rw_p Eg183 a0 x1.toInt) (rw_q Eg183 a0 x1.toInt) 150 (rw_p Eg183 a0 x1.toInt (y58_5.toInt).toNat) (rw_q Eg183 a0 x1.toInt (y58_5.toInt).toNat) x.toInt)) ∧ kp = kq ∧ L = Lq ∧ Eg183 = Eq)) (As := [.int x1, .int y58_5]) (rest := []) ⟨hx, hb, hml, hown, hB⟩ (fun sz => tX12_nextKid l D cs a0 x1 y58_5 hm0 hk0 (by omega) (by omega) (by omega) (by omega) sz) cg_12_294_X12_nextKid rfl rfl (by decide +kernel) ⟨Nat.le_of_ble_eq_true rfl, Nat.le_of_ble_eq_true rfl⟩ hK hN TH hS hA rfl hm0 hk0 (by decide) rfl hl.1 rfl (Nat.le_of_ble_eq_true rfl) dX12_fitsList_214 ⟨Nat.le_of_ble_eq_true rfl, Nat.le_of_ble_eq_true rfl⟩ (fun v38 kp38 L38 E38 H locs hq38 hx38 TH hS => ?_)
                                obtain ⟨⟨xc39, rfl, hxc39a, hxc39b, hpoxc39_0⟩, rfl, rfl, rfl⟩ := hq38
                                refine W.eq (g2 := F0 m 217 ls [.int xc39]) rfl ?_
                                refine lv_istore (lv' := [(5, .int xc39), (6, .int y183_6), (4, .int xe2), (0, .ref a0), (1, .int x1), (2, .int x2), (3, .int x3)]) hx hb dX12_fitsList_217 hl (by decide) rfl (fun ls hl => ?_)
                                refine lv_goto (tgt := 58) hx hb dX12_fitsList_219 (by decide) ?_
                                exact ih58 (n58 - 1) (by  have fh := rw_h_fr TH hF hm0 hk0 (by decide) (by decide) (by decide) (i := x1.toInt) (by omega); have fp := rw_p_fr TH hF hm0 hk0 (by decide) (by decide) (by decide) (i := x1.toInt) (by omega); have fq := rw_q_fr TH hF hm0 hk0 (by decide) (by decide) (by decide) (i := x1.toInt) (by omega); have q := hpoxc39_0; rw [fh, fp, fq] at q; have hkc := hin58_0.resolve_left (by omega); rw [hkc.2.2.2.2] at q; have hfall := rt_kz_fall hkc.1 hkc.2.2 q;  omega) xc39 _ _ _ ls (by omega) (by omega) (by  have fh := rw_h_fr TH hF hm0 hk0 (by decide) (by decide) (by decide) (i := x1.toInt) (by omega); have fp := rw_p_fr TH hF hm0 hk0 (by decide) (by decide) (by decide) (i := x1.toInt) (by omega); have fq := rw_q_fr TH hF hm0 hk0 (by decide) (by decide) (by decide) (i := x1.toInt) (by omega); have q := hpoxc39_0; rw [fh, fp, fq] at q; have hkc := hin58_0.resolve_left (by omega); rw [hkc.2.2.2.2] at q; exact kd_is_of q) (by  have fh := rw_h_fr TH hF hm0 hk0 (by decide) (by decide) (by decide) (i := x1.toInt) (by omega); have fp := rw_p_fr TH hF hm0 hk0 (by decide) (by decide) (by decide) (i := x1.toInt) (by omega); have fq := rw_q_fr TH hF hm0 hk0 (by decide) (by decide) (by decide) (i := x1.toInt) (by omega); have q := hpoxc39_0; rw [fh, fp, fq] at q; have hkc := hin58_0.resolve_left (by omega); rw [hkc.2.2.2.2] at q; have hfall := rt_kz_fall hkc.1 hkc.2.2 q;  omega) hG58 hg0 TH hS (lv_sub hl [0, 2, 3, 4, 5, 6] rfl)
                              · have hf40 : ¬ (xe2.toInt < y183_6.toInt) := fun q => hc36 ((fa_lt _ _).mpr (by  omega))
                                refine lv_aload_n hx hb dX12_fitsList_190 rfl (lv_at hl 3 rfl) ?_
                                refine tw_get (ci := 12) (C := RX12) (T := TX12) (N := 64) hx hb hB cx_inX12 hown hK TH hm0 hk0 rfl ⟨by decide, rfl⟩ 42 (by decide) cw_1235 (fun _ h9 => h9) dX12_fitsList_191 (fun hv => ?_)
                                rw [hmf34]
                                refine lv_iload hx hb dX12_fitsList_194 (lv_at hl 0 rfl) ?_
                                refine lv_aload_n hx hb dX12_fitsList_196 rfl (lv_at hl 3 rfl) ?_
                                refine tw_get (ci := 12) (C := RX12) (T := TX12) (N := 64) hx hb hB cx_inX12 hown hK TH hm0 hk0 rfl ⟨by decide, rfl⟩ 43 (by decide) cw_1236 (fun _ h9 => h9) dX12_fitsList_197 (fun hv => ?_)
                                rw [hmf35]
                                refine lv_iload hx hb dX12_fitsList_200 (lv_at hl 0 rfl) ?_
                                refine tw_zald (k := 349) (t0 := 3) (n := 253) (lo := 0) (hi := 1) hx hb hK TH hmxr27 hkxr27 (by decide) rfl rfl (i := y183_6) (vp_in_iff.mpr ⟨by  omega, by  omega⟩) dX12_fitsList_202 (fun hxe41a hxe41b => ?_)
                                obtain ⟨xe41, exe41⟩ : ∃ z : Int32, tw_iv Eg183 xr27 (Int32.toNatClampNeg y183_6) = z := ⟨_, rfl⟩
                                rw [exe41] at hxe41a hxe41b ⊢
                                refine tw_zast (k := 348) (n := 253) (lo := 0) (hi := 1) hx hb hK TH hS hmxr6 hkxr6 (by decide) rfl (i := y183_6) (x := xe41) (vp_in_iff.mpr ⟨by  omega, by  omega⟩) (by omega) (by omega) (by omega) (by omega) dX12_fitsList_203 (fun H locs E42 TH hS hp43 hp44 hp45 => ?_)
                                have hst46 : tw_fr kp L [] [348] Eg183 E42 := tw_fr.ast tw_fr.rf (fun _ => hkxr6) hp43 hp44 (by decide)
                                have hF := hF.tr hst46 (fun _ h => ⟨h, rfl⟩) (by decide) (by decide)
                                have hG58 := hG58.tr hst46 (fun _ h => ⟨h, rfl⟩) (by decide) (by decide)
                                have hG183 := hG183.tr hst46 (fun _ h => ⟨h, rfl⟩) (by decide) (by decide)
                                have hmf47 : tw_fv E42 a0 34 = .ref xr1 := (hst46.1 a0 34 hm0 (by rw [hk0]; decide)).trans hmf33
                                have hmf48 : tw_fv E42 a0 42 = .ref xr6 := (hst46.1 a0 42 hm0 (by rw [hk0]; decide)).trans hmf34
                                have hmf49 : tw_fv E42 a0 43 = .ref xr27 := (hst46.1 a0 43 hm0 (by rw [hk0]; decide)).trans hmf35
                                have hg0 : ht_ok E42 a0 := ht_ok_fr TH hst46 hm0 hk0 (by decide) (by decide) hg0
                                obtain ⟨zi50, ezi50⟩ : ∃ z : Int32, z = y183_6 + Int32.ofInt 1 := ⟨_, rfl⟩
                                have hzi50 : zi50.toInt = y183_6.toInt + 1 := by rw [ezi50]; have : ((Int32.ofInt 1).toInt) = 1 := (by decide);  exact (ia_add (by omega) (by omega)).trans (by omega)
                                refine lv_iinc (v := zi50) (lv' := [(6, .int zi50), (5, .int y58_5), (4, .int xe2), (0, .ref a0), (1, .int x1), (2, .int x2), (3, .int x3)]) hx hb dX12_fitsList_204 hl (k := 0) rfl ezi50.symm (by decide) rfl (fun ls hl => ?_)
                                refine lv_goto (tgt := 183) hx hb dX12_fitsList_207 (by decide) ?_
                                exact ih183 (n183 - 1) (by   omega) zi50 _ _ _ ls (by omega) (by omega) (by   omega) hG183 hg0 TH hS (lv_sub hl [0, 1, 2, 3, 4, 5, 6] rfl)
                          exact hJ183 254 (0 : Int32) _ _ _ ls (by have : ((0 : Int32).toInt) = 0 := (by decide); omega) (by have : ((0 : Int32).toInt) = 0 := (by decide); omega) (by have : ((0 : Int32).toInt) = 0 := (by decide);  omega) tw_fr.rf hg0 TH hS (lv_sub hl [0, 1, 2, 3, 4, 5, 6] rfl)
                        · have hf51 : ¬ (xe2.toInt ≤ y91_6.toInt) := fun q => hc25 ((fa_le _ _).mpr (by  omega))
                          refine lv_aload_n hx hb dX12_fitsList_98 rfl (lv_at hl 3 rfl) ?_
                          refine tw_get (ci := 12) (C := RX12) (T := TX12) (N := 64) hx hb hB cx_inX12 hown hK TH hm0 hk0 rfl ⟨by decide, rfl⟩ 42 (by decide) cw_1235 (fun _ h9 => h9) dX12_fitsList_99 (fun hv => ?_)
                          rw [hmf24]
                          refine lv_iload hx hb dX12_fitsList_102 (lv_at hl 0 rfl) ?_
                          refine tw_zald (k := 348) (t0 := 3) (n := 253) (lo := 0) (hi := 1) hx hb hK TH hmxr6 hkxr6 (by decide) rfl rfl (i := y91_6) (vp_in_iff.mpr ⟨by  omega, by  omega⟩) dX12_fitsList_104 (fun hxe52a hxe52b => ?_)
                          obtain ⟨xe52, exe52⟩ : ∃ z : Int32, tw_iv Eg91 xr6 (Int32.toNatClampNeg y91_6) = z := ⟨_, rfl⟩
                          rw [exe52] at hxe52a hxe52b ⊢
                          have hJ165 : ∀  (Eg165 : Nat → va_E) (H : Heap) (locs : List Loc) (ls : Array Slot), tw_fr kp L [] [349] Eg91 Eg165 → ht_ok Eg165 a0 → tw_H D cs kp L Eg165 A H → va_S A s.heap H locs → lv_has ls 7 [(6, .int y91_6), (5, .int y58_5), (4, .int xe2), (0, .ref a0), (1, .int x1), (2, .int x2), (3, .int x3)] → W p l e { frames := 2, cells := 0, slots := 0, locals := 47 } s m [.ref a0, .int x1, .int x2, .int x3].toArray below meth c H locs 0 0 (MQ below (tw_Q D cs kp0 L0 (fun v kq Lq Eq => (∃ x : Int32, v = some (.int x) ∧ 0 ≤ x.toInt ∧ x.toInt ≤ 1) ∧ kp = kq ∧ L = Lq ∧ tw_fr kp L [] [348, 349] E Eq) A) [.ref a0, .int x1, .int x2, .int x3].toArray s 0 0 A) (F0 m 165 ls []) := by
                            intro Eg165 H locs ls hG165 hg0 TH hS hl
                            have hF := hF.tr hG165 (fun _ h => ⟨h, rfl⟩) (by decide) (by decide)
                            have hG58 := hG58.tr hG165 (fun _ h => ⟨h, rfl⟩) (by decide) (by decide)
                            have hG67 := hG67.tr hG165 (fun _ h => ⟨h, rfl⟩) (by decide) (by decide)
                            have hG91 := hG91.tr hG165 (fun _ h => ⟨h, rfl⟩) (by decide) (by decide)
                            have hmf53 : tw_fv Eg165 a0 34 = .ref xr1 := (hG165.1 a0 34 hm0 (by rw [hk0]; decide)).trans hmf23
                            have hmf54 : tw_fv Eg165 a0 42 = .ref xr6 := (hG165.1 a0 42 hm0 (by rw [hk0]; decide)).trans hmf24
                            obtain ⟨zi55, ezi55⟩ : ∃ z : Int32, z = y91_6 + Int32.ofInt 1 := ⟨_, rfl⟩
                            have hzi55 : zi55.toInt = y91_6.toInt + 1 := by rw [ezi55]; have : ((Int32.ofInt 1).toInt) = 1 := (by decide);  exact (ia_add (by omega) (by omega)).trans (by omega)
                            refine lv_iinc (v := zi55) (lv' := [(6, .int zi55), (5, .int y58_5), (4, .int xe2), (0, .ref a0), (1, .int x1), (2, .int x2), (3, .int x3)]) hx hb dX12_fitsList_165 hl (k := 0) rfl ezi55.symm (by decide) rfl (fun ls hl => ?_)
                            refine lv_goto (tgt := 91) hx hb dX12_fitsList_168 (by decide) ?_
                            exact ih91 (n91 - 1) (by   omega) zi55 _ _ _ ls (by omega) (by omega) (by   omega) hG91 hg0 TH hS (lv_sub hl [0, 1, 2, 3, 4, 5, 6] rfl)
                          have hG165 : tw_fr kp L [] [349] Eg91 Eg91 := tw_fr.rf
                          refine lv_if_eq (tgt := 165) hx hb dX12_fitsList_105 (by decide) (fun hc56 => ?_) (fun hc56 => ?_)
                          · have hf57 : xe52.toInt = 0 := by have z := (fa_eq _ _).mp hc56; have : ((0 : Int32).toInt) = 0 := (by decide); omega
                            exact hJ165  _ _ _ ls hG165 hg0 TH hS (lv_sub hl [0, 1, 2, 3, 4, 5, 6] rfl)
                          · have hf58 : ¬ (xe52.toInt = 0) := fun q => hc56 ((fa_eq _ _).mpr (by have : ((0 : Int32).toInt) = 0 := (by decide); omega))
                            refine lv_aload_n hx hb dX12_fitsList_108 rfl (lv_at hl 3 rfl) ?_
                            refine tw_get (ci := 12) (C := RX12) (T := TX12) (N := 64) hx hb hB cx_inX12 hown hK TH hm0 hk0 rfl ⟨by decide, rfl⟩ 36 (by decide) cw_1229 (fun _ h9 => h9) dX12_fitsList_109 (fun hv => ?_)
                            obtain ⟨xr59, hxr59, hmxr59, hkxr59⟩ : ∃ a : Nat, tw_fv Eg91 a0 36 = .ref a ∧ a ∈ L ∧ kp a = 342 := hv
                            rw [hxr59]
                            refine lv_iload_n hx hb dX12_fitsList_112 rfl (lv_at hl 6 rfl) ?_
                            refine tw_aald (k := 342) (t0 := 4) (n := 10) (lo := 352) (hi := 0) (ty := .int) hx hb hK TH hmxr59 hkxr59 (by decide) rfl rfl (i := x3) (vp_in_iff.mpr ⟨by  omega, by  omega⟩) dX12_fitsList_113 (fun xr60 exr60 hmxr60 hkxr60 => ?_)
                            have hkxr60 : kp xr60 = 352 := hkxr60
                            refine lv_iload hx hb dX12_fitsList_114 (lv_at hl 0 rfl) ?_
                            refine tw_iald (k := 352) (t0 := 0) (n := 252) (lo := (-1)) (hi := 9) hx hb hK TH hmxr60 hkxr60 (by decide) rfl rfl (i := y91_6) (vp_in_iff.mpr ⟨by  omega, by  omega⟩) dX12_fitsList_116 (fun hxe61a hxe61b => ?_)
                            obtain ⟨xe61, exe61⟩ : ∃ z : Int32, tw_iv Eg91 xr60 (Int32.toNatClampNeg y91_6) = z := ⟨_, rfl⟩
                            rw [exe61] at hxe61a hxe61b ⊢
                            refine lv_aload_n hx hb dX12_fitsList_117 rfl (lv_at hl 3 rfl) ?_
                            refine lv_iload_n hx hb dX12_fitsList_118 rfl (lv_at hl 4 rfl) ?_
                            refine lv_iload hx hb dX12_fitsList_119 (lv_at hl 1 rfl) ?_
                            refine tw_Vc (o := a0) (ci := 12) (n := 2) (post := (fun v kq Lq Eq => (∃ x : Int32, v = some (.int x) ∧ 0 ≤ x.toInt ∧ x.toInt ≤ 9) ∧ kp = kq ∧ L = Lq ∧ Eg91 = Eq)) (As := [.int x1, .int y58_5]) (rest := [.int xe61]) ⟨hx, hb, hml, hown, hB⟩ (fun sz => tX12_kindOf l D cs a0 x1 y58_5 hm0 hk0 (by omega) (by omega) (by omega) (by omega) (by  have fh := rw_h_fr TH hF hm0 hk0 (by decide) (by decide) (by decide) (i := x1.toInt) (by omega); have fp := rw_p_fr TH hF hm0 hk0 (by decide) (by decide) (by decide) (i := x1.toInt) (by omega); have fq := rw_q_fr TH hF hm0 hk0 (by decide) (by decide) (by decide) (i := x1.toInt) (by omega); intro q15; have hkc := hin58_0.resolve_left (by omega); exact ht_le hg0 hkc.1 hkc.2.1 (by rw [fh]; exact hkc.2.2.2.1) q15) sz) cg_12_301_X12_kindOf rfl rfl (by decide +kernel) ⟨Nat.le_of_ble_eq_true rfl, Nat.le_of_ble_eq_true rfl⟩ hK hN TH hS hA rfl hm0 hk0 (by decide) rfl hl.1 rfl (Nat.le_of_ble_eq_true rfl) dX12_fitsList_121 ⟨Nat.le_of_ble_eq_true rfl, Nat.le_of_ble_eq_true rfl⟩ (fun v62 kp62 L62 E62 H locs hq62 hx62 TH hS => ?_)
                            obtain ⟨⟨xc63, rfl, hxc63a, hxc63b⟩, rfl, rfl, rfl⟩ := hq62
                            refine W.eq (g2 := F0 m 124 ls [.int xc63, .int xe61]) rfl ?_
                            refine lv_icmp_eq (tgt := 130) hx hb dX12_fitsList_124 (by decide) (fun hc64 => ?_) (fun hc64 => ?_)
                            · have hf65 : xe61.toInt = xc63.toInt := by have z := (fa_eq _ _).mp hc64;  omega
                              refine lv_aload_n hx hb dX12_fitsList_130 rfl (lv_at hl 3 rfl) ?_
                              refine tw_get (ci := 12) (C := RX12) (T := TX12) (N := 64) hx hb hB cx_inX12 hown hK TH hm0 hk0 rfl ⟨by decide, rfl⟩ 35 (by decide) cw_1228 (fun _ h9 => h9) dX12_fitsList_131 (fun hv => ?_)
                              obtain ⟨xr66, hxr66, hmxr66, hkxr66⟩ : ∃ a : Nat, tw_fv Eg91 a0 35 = .ref a ∧ a ∈ L ∧ kp a = 341 := hv
                              rw [hxr66]
                              refine lv_iload_n hx hb dX12_fitsList_134 rfl (lv_at hl 6 rfl) ?_
                              refine tw_aald (k := 341) (t0 := 4) (n := 10) (lo := 351) (hi := 0) (ty := .int) hx hb hK TH hmxr66 hkxr66 (by decide) rfl rfl (i := x3) (vp_in_iff.mpr ⟨by  omega, by  omega⟩) dX12_fitsList_135 (fun xr67 exr67 hmxr67 hkxr67 => ?_)
                              have hkxr67 : kp xr67 = 351 := hkxr67
                              refine lv_iload hx hb dX12_fitsList_136 (lv_at hl 0 rfl) ?_
                              refine tw_iald (k := 351) (t0 := 0) (n := 252) (lo := (-128)) (hi := 127) hx hb hK TH hmxr67 hkxr67 (by decide) rfl rfl (i := y91_6) (vp_in_iff.mpr ⟨by  omega, by  omega⟩) dX12_fitsList_138 (fun hxe68a hxe68b => ?_)
                              obtain ⟨xe68, exe68⟩ : ∃ z : Int32, tw_iv Eg91 xr67 (Int32.toNatClampNeg y91_6) = z := ⟨_, rfl⟩
                              rw [exe68] at hxe68a hxe68b ⊢
                              refine lv_bipush (v := 42) hx hb dX12_fitsList_139 (by decide) ?_
                              refine lv_icmp_ne (tgt := 155) hx hb dX12_fitsList_141 (by decide) (fun hc69 => ?_) (fun hc69 => ?_)
                              · have hf70 : ¬ (xe68.toInt = 42) := fun q => hc69 ((fa_eq _ _).mpr (by have : ((42 : Int32).toInt) = 42 := (by decide); omega))
                                refine lv_aload_n hx hb dX12_fitsList_155 rfl (lv_at hl 3 rfl) ?_
                                refine tw_get (ci := 12) (C := RX12) (T := TX12) (N := 64) hx hb hB cx_inX12 hown hK TH hm0 hk0 rfl ⟨by decide, rfl⟩ 43 (by decide) cw_1236 (fun _ h9 => h9) dX12_fitsList_156 (fun hv => ?_)
                                obtain ⟨xr71, hxr71, hmxr71, hkxr71⟩ : ∃ a : Nat, tw_fv Eg91 a0 43 = .ref a ∧ a ∈ L ∧ kp a = 349 := hv
                                rw [hxr71]
                                refine lv_iload hx hb dX12_fitsList_159 (lv_at hl 0 rfl) ?_
                                refine lv_iconst (v := 1) hx hb dX12_fitsList_161 (by decide) ?_
                                refine lv_iadd hx hb dX12_fitsList_162 ?_
                                refine lv_topi (fun zi72 ezi72 => ?_)
                                have hzi72 : zi72.toInt = y91_6.toInt + 1 := by rw [ezi72]; have : ((1 : Int32).toInt) = 1 := (by decide); have := ia_lo y91_6; have := ia_hi y91_6; exact (ia_add (by omega) (by omega)).trans (by omega)
                                refine lv_iconst (v := 1) hx hb dX12_fitsList_163 (by decide) ?_
                                refine tw_zast (k := 349) (n := 253) (lo := 0) (hi := 1) hx hb hK TH hS hmxr71 hkxr71 (by decide) rfl (i := zi72) (x := 1) (vp_in_iff.mpr ⟨by  omega, by  omega⟩) (by have : ((1 : Int32).toInt) = 1 := (by decide); omega) (by have : ((1 : Int32).toInt) = 1 := (by decide); omega) (by have : ((1 : Int32).toInt) = 1 := (by decide); omega) (by have : ((1 : Int32).toInt) = 1 := (by decide); omega) dX12_fitsList_164 (fun H locs E73 TH hS hp74 hp75 hp76 => ?_)
                                have hst77 : tw_fr kp L [] [349] Eg91 E73 := tw_fr.ast tw_fr.rf (fun _ => hkxr71) hp74 hp75 (by decide)
                                have hF := hF.tr hst77 (fun _ h => ⟨h, rfl⟩) (by decide) (by decide)
                                have hG58 := hG58.tr hst77 (fun _ h => ⟨h, rfl⟩) (by decide) (by decide)
                                have hG67 := hG67.tr hst77 (fun _ h => ⟨h, rfl⟩) (by decide) (by decide)
                                have hG91 := hG91.tr hst77 (fun _ h => ⟨h, rfl⟩) (by decide) (by decide)
                                have hG165 := hG165.tr hst77 (fun _ h => ⟨h, rfl⟩) (by decide) (by decide)
                                have hmf78 : tw_fv E73 a0 34 = .ref xr1 := (hst77.1 a0 34 hm0 (by rw [hk0]; decide)).trans hmf23
                                have hmf79 : tw_fv E73 a0 42 = .ref xr6 := (hst77.1 a0 42 hm0 (by rw [hk0]; decide)).trans hmf24
                                have hmf80 : tw_fv E73 a0 36 = .ref xr59 := (hst77.1 a0 36 hm0 (by rw [hk0]; decide)).trans hxr59
                                have hmf81 : tw_fv E73 a0 35 = .ref xr66 := (hst77.1 a0 35 hm0 (by rw [hk0]; decide)).trans hxr66
                                have hmf82 : tw_fv E73 a0 43 = .ref xr71 := (hst77.1 a0 43 hm0 (by rw [hk0]; decide)).trans hxr71
                                have hg0 : ht_ok E73 a0 := ht_ok_fr TH hst77 hm0 hk0 (by decide) (by decide) hg0
                                exact hJ165  _ _ _ ls hG165 hg0 TH hS (lv_sub hl [0, 1, 2, 3, 4, 5, 6] rfl)
                              · have hf83 : xe68.toInt = 42 := by have z := (fa_eq _ _).mp hc69; have : ((42 : Int32).toInt) = 42 := (by decide); omega
                                refine lv_aload_n hx hb dX12_fitsList_144 rfl (lv_at hl 3 rfl) ?_
                                refine tw_get (ci := 12) (C := RX12) (T := TX12) (N := 64) hx hb hB cx_inX12 hown hK TH hm0 hk0 rfl ⟨by decide, rfl⟩ 43 (by decide) cw_1236 (fun _ h9 => h9) dX12_fitsList_145 (fun hv => ?_)
                                obtain ⟨xr84, hxr84, hmxr84, hkxr84⟩ : ∃ a : Nat, tw_fv Eg91 a0 43 = .ref a ∧ a ∈ L ∧ kp a = 349 := hv
                                rw [hxr84]
                                refine lv_iload hx hb dX12_fitsList_148 (lv_at hl 0 rfl) ?_
                                refine lv_iconst (v := 1) hx hb dX12_fitsList_150 (by decide) ?_
                                refine tw_zast (k := 349) (n := 253) (lo := 0) (hi := 1) hx hb hK TH hS hmxr84 hkxr84 (by decide) rfl (i := y91_6) (x := 1) (vp_in_iff.mpr ⟨by  omega, by  omega⟩) (by have : ((1 : Int32).toInt) = 1 := (by decide); omega) (by have : ((1 : Int32).toInt) = 1 := (by decide); omega) (by have : ((1 : Int32).toInt) = 1 := (by decide); omega) (by have : ((1 : Int32).toInt) = 1 := (by decide); omega) dX12_fitsList_151 (fun H locs E85 TH hS hp86 hp87 hp88 => ?_)
                                have hst89 : tw_fr kp L [] [349] Eg91 E85 := tw_fr.ast tw_fr.rf (fun _ => hkxr84) hp86 hp87 (by decide)
                                have hF := hF.tr hst89 (fun _ h => ⟨h, rfl⟩) (by decide) (by decide)
                                have hG58 := hG58.tr hst89 (fun _ h => ⟨h, rfl⟩) (by decide) (by decide)
                                have hG67 := hG67.tr hst89 (fun _ h => ⟨h, rfl⟩) (by decide) (by decide)
                                have hG91 := hG91.tr hst89 (fun _ h => ⟨h, rfl⟩) (by decide) (by decide)
                                have hG165 := hG165.tr hst89 (fun _ h => ⟨h, rfl⟩) (by decide) (by decide)
                                have hmf90 : tw_fv E85 a0 34 = .ref xr1 := (hst89.1 a0 34 hm0 (by rw [hk0]; decide)).trans hmf23
                                have hmf91 : tw_fv E85 a0 42 = .ref xr6 := (hst89.1 a0 42 hm0 (by rw [hk0]; decide)).trans hmf24
                                have hmf92 : tw_fv E85 a0 36 = .ref xr59 := (hst89.1 a0 36 hm0 (by rw [hk0]; decide)).trans hxr59
                                have hmf93 : tw_fv E85 a0 35 = .ref xr66 := (hst89.1 a0 35 hm0 (by rw [hk0]; decide)).trans hxr66
                                have hmf94 : tw_fv E85 a0 43 = .ref xr84 := (hst89.1 a0 43 hm0 (by rw [hk0]; decide)).trans hxr84
                                have hg0 : ht_ok E85 a0 := ht_ok_fr TH hst89 hm0 hk0 (by decide) (by decide) hg0
                                refine lv_goto (tgt := 165) hx hb dX12_fitsList_152 (by decide) ?_
                                exact hJ165  _ _ _ ls hG165 hg0 TH hS (lv_sub hl [0, 1, 2, 3, 4, 5, 6] rfl)
                            · have hf95 : ¬ (xe61.toInt = xc63.toInt) := fun q => hc64 ((fa_eq _ _).mpr (by  omega))
                              refine lv_goto (tgt := 165) hx hb dX12_fitsList_127 (by decide) ?_
                              exact hJ165  _ _ _ ls hG165 hg0 TH hS (lv_sub hl [0, 1, 2, 3, 4, 5, 6] rfl)
                    exact hJ91 254 (0 : Int32) _ _ _ ls (by have : ((0 : Int32).toInt) = 0 := (by decide); omega) (by have : ((0 : Int32).toInt) = 0 := (by decide); omega) (by have : ((0 : Int32).toInt) = 0 := (by decide);  omega) tw_fr.rf hg0 TH hS (lv_sub hl [0, 1, 2, 3, 4, 5, 6] rfl)
                  · have hf96 : ¬ (xe2.toInt < y67_6.toInt) := fun q => hc21 ((fa_lt _ _).mpr (by  omega))
                    refine lv_aload_n hx hb dX12_fitsList_74 rfl (lv_at hl 3 rfl) ?_
                    refine tw_get (ci := 12) (C := RX12) (T := TX12) (N := 64) hx hb hB cx_inX12 hown hK TH hm0 hk0 rfl ⟨by decide, rfl⟩ 43 (by decide) cw_1236 (fun _ h9 => h9) dX12_fitsList_75 (fun hv => ?_)
                    obtain ⟨xr97, hxr97, hmxr97, hkxr97⟩ : ∃ a : Nat, tw_fv Eg67 a0 43 = .ref a ∧ a ∈ L ∧ kp a = 349 := hv
                    rw [hxr97]
                    refine lv_iload hx hb dX12_fitsList_78 (lv_at hl 0 rfl) ?_
                    refine lv_iconst (v := 0) hx hb dX12_fitsList_80 (by decide) ?_
                    refine tw_zast (k := 349) (n := 253) (lo := 0) (hi := 1) hx hb hK TH hS hmxr97 hkxr97 (by decide) rfl (i := y67_6) (x := 0) (vp_in_iff.mpr ⟨by  omega, by  omega⟩) (by have : ((0 : Int32).toInt) = 0 := (by decide); omega) (by have : ((0 : Int32).toInt) = 0 := (by decide); omega) (by have : ((0 : Int32).toInt) = 0 := (by decide); omega) (by have : ((0 : Int32).toInt) = 0 := (by decide); omega) dX12_fitsList_81 (fun H locs E98 TH hS hp99 hp100 hp101 => ?_)
                    have hst102 : tw_fr kp L [] [349] Eg67 E98 := tw_fr.ast tw_fr.rf (fun _ => hkxr97) hp99 hp100 (by decide)
                    have hF := hF.tr hst102 (fun _ h => ⟨h, rfl⟩) (by decide) (by decide)
                    have hG58 := hG58.tr hst102 (fun _ h => ⟨h, rfl⟩) (by decide) (by decide)
                    have hG67 := hG67.tr hst102 (fun _ h => ⟨h, rfl⟩) (by decide) (by decide)
                    have hmf103 : tw_fv E98 a0 34 = .ref xr1 := (hst102.1 a0 34 hm0 (by rw [hk0]; decide)).trans hmf19
                    have hmf104 : tw_fv E98 a0 42 = .ref xr6 := (hst102.1 a0 42 hm0 (by rw [hk0]; decide)).trans hmf20
                    have hmf105 : tw_fv E98 a0 43 = .ref xr97 := (hst102.1 a0 43 hm0 (by rw [hk0]; decide)).trans hxr97
                    have hg0 : ht_ok E98 a0 := ht_ok_fr TH hst102 hm0 hk0 (by decide) (by decide) hg0
                    obtain ⟨zi106, ezi106⟩ : ∃ z : Int32, z = y67_6 + Int32.ofInt 1 := ⟨_, rfl⟩
                    have hzi106 : zi106.toInt = y67_6.toInt + 1 := by rw [ezi106]; have : ((Int32.ofInt 1).toInt) = 1 := (by decide);  exact (ia_add (by omega) (by omega)).trans (by omega)
                    refine lv_iinc (v := zi106) (lv' := [(6, .int zi106), (5, .int y58_5), (4, .int xe2), (0, .ref a0), (1, .int x1), (2, .int x2), (3, .int x3)]) hx hb dX12_fitsList_82 hl (k := 0) rfl ezi106.symm (by decide) rfl (fun ls hl => ?_)
                    refine lv_goto (tgt := 67) hx hb dX12_fitsList_85 (by decide) ?_
                    exact ih67 (n67 - 1) (by   omega) zi106 _ _ _ ls (by omega) (by omega) (by   omega) hG67 hg0 TH hS (lv_sub hl [0, 1, 2, 3, 4, 5, 6] rfl)
              exact hJ67 254 (0 : Int32) _ _ _ ls (by have : ((0 : Int32).toInt) = 0 := (by decide); omega) (by have : ((0 : Int32).toInt) = 0 := (by decide); omega) (by have : ((0 : Int32).toInt) = 0 := (by decide);  omega) tw_fr.rf hg0 TH hS (lv_sub hl [0, 1, 2, 3, 4, 5, 6] rfl)
        exact hJ58 151 xc12 _ _ _ ls (by omega) (by omega) (by  have fh := rw_h_fr TH hF hm0 hk0 (by decide) (by decide) (by decide) (i := x1.toInt) (by omega); have fp := rw_p_fr TH hF hm0 hk0 (by decide) (by decide) (by decide) (i := x1.toInt) (by omega); have fq := rw_q_fr TH hF hm0 hk0 (by decide) (by decide) (by decide) (i := x1.toInt) (by omega); have q := hpoxc12_0; rw [fh, fp, fq] at q; exact kd_is_of q) (by  have := rt_kz_le (h := rw_h E a0 (x1.toInt)) (p := rw_p E a0 (x1.toInt)) (q := rw_q E a0 (x1.toInt)) (n := x2.toInt) (c := xc12.toInt); omega) tw_fr.rf hg0 TH hS (lv_sub hl [0, 1, 2, 3, 4, 5] rfl)
      · have hf107 : ¬ (xe2.toInt < y11_5.toInt) := fun q => hc4 ((fa_lt _ _).mpr (by  omega))
        refine lv_aload_n hx hb dX12_fitsList_18 rfl (lv_at hl 2 rfl) ?_
        refine tw_get (ci := 12) (C := RX12) (T := TX12) (N := 64) hx hb hB cx_inX12 hown hK TH hm0 hk0 rfl ⟨by decide, rfl⟩ 42 (by decide) cw_1235 (fun _ h9 => h9) dX12_fitsList_19 (fun hv => ?_)
        obtain ⟨xr108, hxr108, hmxr108, hkxr108⟩ : ∃ a : Nat, tw_fv Eg11 a0 42 = .ref a ∧ a ∈ L ∧ kp a = 348 := hv
        rw [hxr108]
        refine lv_iload hx hb dX12_fitsList_22 (lv_at hl 0 rfl) ?_
        refine lv_iload hx hb dX12_fitsList_24 (lv_at hl 0 rfl) ?_
        have hJ34 : ∀ (z34_0 : Int32) (H : Heap) (locs : List Loc) (ls : Array Slot), 0 ≤ z34_0.toInt → z34_0.toInt ≤ 1 → tw_H D cs kp L Eg11 A H → va_S A s.heap H locs → lv_has ls 7 [(5, .int y11_5), (4, .int xe2), (0, .ref a0), (1, .int x1), (2, .int x2), (3, .int x3)] → W p l e { frames := 2, cells := 0, slots := 0, locals := 47 } s m [.ref a0, .int x1, .int x2, .int x3].toArray below meth c H locs 0 0 (MQ below (tw_Q D cs kp0 L0 (fun v kq Lq Eq => (∃ x : Int32, v = some (.int x) ∧ 0 ≤ x.toInt ∧ x.toInt ≤ 1) ∧ kp = kq ∧ L = Lq ∧ tw_fr kp L [] [348, 349] E Eq) A) [.ref a0, .int x1, .int x2, .int x3].toArray s 0 0 A) (F0 m 34 ls [.int z34_0, .int y11_5, .ref xr108]) := by
          intro z34_0 H locs ls hz34_0a hz34_0b TH hS hl
          refine tw_zast (k := 348) (n := 253) (lo := 0) (hi := 1) hx hb hK TH hS hmxr108 hkxr108 (by decide) rfl (i := y11_5) (x := z34_0) (vp_in_iff.mpr ⟨by  omega, by  omega⟩) (by omega) (by omega) (by omega) (by omega) dX12_fitsList_34 (fun H locs E109 TH hS hp110 hp111 hp112 => ?_)
          have hst113 : tw_fr kp L [] [348] Eg11 E109 := tw_fr.ast tw_fr.rf (fun _ => hkxr108) hp110 hp111 (by decide)
          have hF := hF.tr hst113 (fun _ h => ⟨h, rfl⟩) (by decide) (by decide)
          have hG11 := hG11.tr hst113 (fun _ h => ⟨h, rfl⟩) (by decide) (by decide)
          have hmf114 : tw_fv E109 a0 34 = .ref xr1 := (hst113.1 a0 34 hm0 (by rw [hk0]; decide)).trans hmf3
          have hmf115 : tw_fv E109 a0 42 = .ref xr108 := (hst113.1 a0 42 hm0 (by rw [hk0]; decide)).trans hxr108
          have hg0 : ht_ok E109 a0 := ht_ok_fr TH hst113 hm0 hk0 (by decide) (by decide) hg0
          obtain ⟨zi116, ezi116⟩ : ∃ z : Int32, z = y11_5 + Int32.ofInt 1 := ⟨_, rfl⟩
          have hzi116 : zi116.toInt = y11_5.toInt + 1 := by rw [ezi116]; have : ((Int32.ofInt 1).toInt) = 1 := (by decide);  exact (ia_add (by omega) (by omega)).trans (by omega)
          refine lv_iinc (v := zi116) (lv' := [(5, .int zi116), (4, .int xe2), (0, .ref a0), (1, .int x1), (2, .int x2), (3, .int x3)]) hx hb dX12_fitsList_35 hl (k := 0) rfl ezi116.symm (by decide) rfl (fun ls hl => ?_)
          refine lv_goto (tgt := 11) hx hb dX12_fitsList_38 (by decide) ?_
          exact ih11 (n11 - 1) (by   omega) zi116 _ _ _ ls (by omega) (by omega) (by   omega) hG11 hg0 TH hS (lv_sub hl [0, 1, 2, 3, 4, 5] rfl)
        refine lv_if_ne (tgt := 33) hx hb dX12_fitsList_26 (by decide) (fun hc117 => ?_) (fun hc117 => ?_)
        · have hf118 : ¬ (y11_5.toInt = 0) := fun q => hc117 ((fa_eq _ _).mpr (by have : ((0 : Int32).toInt) = 0 := (by decide); omega))
          refine lv_iconst (v := 0) hx hb dX12_fitsList_33 (by decide) ?_
          exact hJ34 (0 : Int32) _ _ ls (by have : ((0 : Int32).toInt) = 0 := (by decide); omega) (by have : ((0 : Int32).toInt) = 0 := (by decide); omega) TH hS (lv_sub hl [0, 1, 2, 3, 4, 5] rfl)
        · have hf119 : y11_5.toInt = 0 := by have z := (fa_eq _ _).mp hc117; have : ((0 : Int32).toInt) = 0 := (by decide); omega
          refine lv_iconst (v := 1) hx hb dX12_fitsList_29 (by decide) ?_
          refine lv_goto (tgt := 34) hx hb dX12_fitsList_30 (by decide) ?_
          exact hJ34 (1 : Int32) _ _ ls (by have : ((1 : Int32).toInt) = 1 := (by decide); omega) (by have : ((1 : Int32).toInt) = 1 := (by decide); omega) TH hS (lv_sub hl [0, 1, 2, 3, 4, 5] rfl)
  exact hJ11 254 (0 : Int32) _ _ _ ls (by have : ((0 : Int32).toInt) = 0 := (by decide); omega) (by have : ((0 : Int32).toInt) = 0 := (by decide); omega) (by have : ((0 : Int32).toInt) = 0 := (by decide);  omega) tw_fr.rf hg0 TH hS (lv_sub hl [0, 1, 2, 3, 4, 5] rfl)
set_option maxHeartbeats 4000000 in
set_option maxRecDepth 100000 in
theorem tX12_fitsBut (l : Launch) (D : va_G) (cs : Nat → ClassId) {kp : Nat → Nat} {L : List Nat} {E : Nat → va_E} (a0 : Nat) (x1 : Int32) (x2 : Int32) (hm0 : a0 ∈ L) (hk0 : kp a0 = 12) (hp1a : 0 ≤ x1.toInt) (hp1b : x1.toInt ≤ 15) (hp2a : 0 ≤ x2.toInt) (hp2b : x2.toInt ≤ 149) (hpre0 : x1.toInt = 15 → x2.toInt ≤ 23) (hg0 : ht_ok E a0) (sz : Nat) : Met l yX12_fitsBut (.code yX12_fitsBut cX12_fitsBut 4 (some .boolean) :: cx_big) { frames := 3, cells := 0, slots := 0, locals := 73 } (tw_P D cs kp L E [.ref a0, .int x1, .int x2] sz) (tw_Q D cs kp L (fun v kq Lq Eq => (∃ x : Int32, v = some (.int x) ∧ 0 ≤ x.toInt ∧ x.toInt ≤ 1) ∧ kp = kq ∧ L = Lq ∧ tw_fr kp L [] [348, 349] E Eq) (va_A (va_pl L E) sz)) 0 0 (va_A (va_pl L E) sz) := by
  refine tw_ofW (by decide) (Nat.le_of_ble_eq_true rfl) ?_
  intro p e s m below meth c A ls hx hb hr hml hB hown hlocks hK hN hA TH hS hl
  have hown : s.vm.findClass "TreeMergeModel" = some m.cls := hown
  have hl : lv_has ls 4 [(0, .ref a0), (1, .int x1), (2, .int x2)] := hl
  obtain ⟨kp0, ekp⟩ : ∃ z, z = kp := ⟨_, rfl⟩
  obtain ⟨L0, eL⟩ : ∃ z, z = L := ⟨_, rfl⟩
  rw [show tw_Q D cs kp L = tw_Q D cs kp0 L0 by rw [ekp, eL]]
  have hex : ∀ a : Nat, a ∈ L0 → a ∈ L ∧ kp a = kp0 a := fun a h => ⟨by rw [← eL]; exact h, by rw [ekp]⟩
  have hF : tw_fr kp L [] [348, 349] E E := tw_fr.rf
  refine lv_aload_n hx hb dX12_fitsBut_0 rfl (lv_at hl 0 rfl) ?_
  refine lv_iload_n hx hb dX12_fitsBut_1 rfl (lv_at hl 1 rfl) ?_
  refine lv_iload_n hx hb dX12_fitsBut_2 rfl (lv_at hl 2 rfl) ?_
  refine tw_Vc (o := a0) (ci := 12) (n := 2) (post := (fun v kq Lq Eq => (∃ x : Int32, v = some (.int x) ∧ 0 ≤ x.toInt ∧ x.toInt ≤ 9) ∧ kp = kq ∧ L = Lq ∧ E = Eq)) (As := [.int x1, .int x2]) (rest := []) ⟨hx, hb, hml, hown, hB⟩ (fun sz => tX12_kindOf l D cs a0 x1 x2 hm0 hk0 (by omega) (by omega) (by omega) (by omega) (by  omega) sz) cg_12_301_X12_kindOf rfl rfl (by decide +kernel) ⟨Nat.le_of_ble_eq_true rfl, Nat.le_of_ble_eq_true rfl⟩ hK hN TH hS hA rfl hm0 hk0 (by decide) rfl hl.1 rfl (Nat.le_of_ble_eq_true rfl) dX12_fitsBut_3 ⟨Nat.le_of_ble_eq_true rfl, Nat.le_of_ble_eq_true rfl⟩ (fun v1 kp1 L1 E1 H locs hq1 hx1 TH hS => ?_)
  obtain ⟨⟨xc2, rfl, hxc2a, hxc2b⟩, rfl, rfl, rfl⟩ := hq1
  refine W.eq (g2 := F0 m 6 ls [.int xc2]) rfl ?_
  refine lv_istore_n (lv' := [(3, .int xc2), (0, .ref a0), (1, .int x1), (2, .int x2)]) hx hb dX12_fitsBut_6 rfl hl (by decide) rfl (fun ls hl => ?_)
  refine lv_aload_n hx hb dX12_fitsBut_7 rfl (lv_at hl 1 rfl) ?_
  refine tw_get (ci := 12) (C := RX12) (T := TX12) (N := 64) hx hb hB cx_inX12 hown hK TH hm0 hk0 rfl ⟨by decide, rfl⟩ 33 (by decide) cw_1226 (fun _ h9 => h9) dX12_fitsBut_8 (fun hv => ?_)
  obtain ⟨xr3, hxr3, hmxr3, hkxr3⟩ : ∃ a : Nat, tw_fv E a0 33 = .ref a ∧ a ∈ L ∧ kp a = 339 := hv
  rw [hxr3]
  refine lv_iload_n hx hb dX12_fitsBut_11 rfl (lv_at hl 0 rfl) ?_
  refine tw_iald (k := 339) (t0 := 0) (n := 10) (lo := 0) (hi := 2) hx hb hK TH hmxr3 hkxr3 (by decide) rfl rfl (i := xc2) (vp_in_iff.mpr ⟨by  omega, by  omega⟩) dX12_fitsBut_12 (fun hxe4a hxe4b => ?_)
  obtain ⟨xe4, exe4⟩ : ∃ z : Int32, tw_iv E xr3 (Int32.toNatClampNeg xc2) = z := ⟨_, rfl⟩
  rw [exe4] at hxe4a hxe4b ⊢
  refine lv_if_ne (tgt := 31) hx hb dX12_fitsBut_13 (by decide) (fun hc5 => ?_) (fun hc5 => ?_)
  · have hf6 : ¬ (xe4.toInt = 0) := fun q => hc5 ((fa_eq _ _).mpr (by have : ((0 : Int32).toInt) = 0 := (by decide); omega))
    refine lv_aload_n hx hb dX12_fitsBut_31 rfl (lv_at hl 1 rfl) ?_
    refine tw_get (ci := 12) (C := RX12) (T := TX12) (N := 64) hx hb hB cx_inX12 hown hK TH hm0 hk0 rfl ⟨by decide, rfl⟩ 33 (by decide) cw_1226 (fun _ h9 => h9) dX12_fitsBut_32 (fun hv => ?_)
    rw [hxr3]
    refine lv_iload_n hx hb dX12_fitsBut_35 rfl (lv_at hl 0 rfl) ?_
    refine tw_iald (k := 339) (t0 := 0) (n := 10) (lo := 0) (hi := 2) hx hb hK TH hmxr3 hkxr3 (by decide) rfl rfl (i := xc2) (vp_in_iff.mpr ⟨by  omega, by  omega⟩) dX12_fitsBut_36 (fun hxe7a hxe7b => ?_)
    rw [exe4]
    refine lv_iconst (v := 1) hx hb dX12_fitsBut_37 (by decide) ?_
    refine lv_icmp_ne (tgt := 51) hx hb dX12_fitsBut_38 (by decide) (fun hc8 => ?_) (fun hc8 => ?_)
    · have hf9 : ¬ (xe4.toInt = 1) := fun q => hc8 ((fa_eq _ _).mpr (by have : ((1 : Int32).toInt) = 1 := (by decide); omega))
      refine lv_aload_n hx hb dX12_fitsBut_51 rfl (lv_at hl 1 rfl) ?_
      refine lv_iload_n hx hb dX12_fitsBut_52 rfl (lv_at hl 2 rfl) ?_
      refine lv_iload_n hx hb dX12_fitsBut_53 rfl (lv_at hl 3 rfl) ?_
      refine lv_iload_n hx hb dX12_fitsBut_54 rfl (lv_at hl 0 rfl) ?_
      refine tw_Vc (o := a0) (ci := 12) (n := 3) (post := (fun v kq Lq Eq => (∃ x : Int32, v = some (.int x) ∧ 0 ≤ x.toInt ∧ x.toInt ≤ 1) ∧ kp = kq ∧ L = Lq ∧ tw_fr kp L [] [348, 349] E Eq)) (As := [.int x1, .int x2, .int xc2]) (rest := []) ⟨hx, hb, hml, hown, hB⟩ (fun sz => tX12_fitsList l D cs a0 x1 x2 xc2 hm0 hk0 (by omega) (by omega) (by omega) (by omega) hg0 sz) cg_12_321_X12_fitsList rfl rfl (by decide +kernel) ⟨Nat.le_of_ble_eq_true rfl, Nat.le_of_ble_eq_true rfl⟩ hK hN TH hS hA rfl hm0 hk0 (by decide) rfl hl.1 rfl (Nat.le_of_ble_eq_true rfl) dX12_fitsBut_55 ⟨Nat.le_of_ble_eq_true rfl, Nat.le_of_ble_eq_true rfl⟩ (fun v10 kp10 L10 E10 H locs hq10 hx10 TH hS => ?_)
      obtain ⟨⟨xc11, rfl, hxc11a, hxc11b⟩, rfl, rfl, hst10⟩ := hq10
      have hF := hF.tr hst10 (fun _ h => ⟨h, rfl⟩) (by decide) (by decide)
      have hmf12 : tw_fv E10 a0 33 = .ref xr3 := (hst10.1 a0 33 hm0 (by rw [hk0]; decide)).trans hxr3
      have hg0 : ht_ok E10 a0 := ht_ok_fr TH hst10 hm0 hk0 (by decide) (by decide) hg0
      refine W.eq (g2 := F0 m 58 ls [.int xc11]) rfl ?_
      exact tw_zret hx hb hr hlocks (ia_bool (by omega) (by omega)) TH hS hex ⟨⟨_, rfl, (show 0 ≤ Int32.toInt xc11 from by  omega), (show Int32.toInt xc11 ≤ 1 from by  omega)⟩, rfl, rfl, hF⟩ (Nat.le_of_ble_eq_true rfl) (Nat.le_of_ble_eq_true rfl) dX12_fitsBut_58
    · have hf13 : xe4.toInt = 1 := by have z := (fa_eq _ _).mp hc8; have : ((1 : Int32).toInt) = 1 := (by decide); omega
      refine lv_aload_n hx hb dX12_fitsBut_41 rfl (lv_at hl 1 rfl) ?_
      refine lv_iload_n hx hb dX12_fitsBut_42 rfl (lv_at hl 2 rfl) ?_
      refine lv_iload_n hx hb dX12_fitsBut_43 rfl (lv_at hl 3 rfl) ?_
      refine lv_iload_n hx hb dX12_fitsBut_44 rfl (lv_at hl 0 rfl) ?_
      refine tw_Vc (o := a0) (ci := 12) (n := 3) (post := (fun v kq Lq Eq => (∃ x : Int32, v = some (.int x) ∧ 0 ≤ x.toInt ∧ x.toInt ≤ 1) ∧ kp = kq ∧ L = Lq ∧ E = Eq)) (As := [.int x1, .int x2, .int xc2]) (rest := []) ⟨hx, hb, hml, hown, hB⟩ (fun sz => tX12_fitsSet l D cs a0 x1 x2 xc2 hm0 hk0 (by omega) (by omega) (by omega) (by omega) hg0 sz) cg_12_318_X12_fitsSet rfl rfl (by decide +kernel) ⟨Nat.le_of_ble_eq_true rfl, Nat.le_of_ble_eq_true rfl⟩ hK hN TH hS hA rfl hm0 hk0 (by decide) rfl hl.1 rfl (Nat.le_of_ble_eq_true rfl) dX12_fitsBut_45 ⟨Nat.le_of_ble_eq_true rfl, Nat.le_of_ble_eq_true rfl⟩ (fun v14 kp14 L14 E14 H locs hq14 hx14 TH hS => ?_)
      obtain ⟨⟨xc15, rfl, hxc15a, hxc15b⟩, rfl, rfl, rfl⟩ := hq14
      refine W.eq (g2 := F0 m 48 ls [.int xc15]) rfl ?_
      refine lv_goto (tgt := 58) hx hb dX12_fitsBut_48 (by decide) ?_
      exact tw_zret hx hb hr hlocks (ia_bool (by omega) (by omega)) TH hS hex ⟨⟨_, rfl, (show 0 ≤ Int32.toInt xc15 from by  omega), (show Int32.toInt xc15 ≤ 1 from by  omega)⟩, rfl, rfl, hF⟩ (Nat.le_of_ble_eq_true rfl) (Nat.le_of_ble_eq_true rfl) dX12_fitsBut_58
  · have hf16 : xe4.toInt = 0 := by have z := (fa_eq _ _).mp hc5; have : ((0 : Int32).toInt) = 0 := (by decide); omega
    refine lv_aload_n hx hb dX12_fitsBut_16 rfl (lv_at hl 1 rfl) ?_
    refine lv_iload_n hx hb dX12_fitsBut_17 rfl (lv_at hl 2 rfl) ?_
    refine lv_iload_n hx hb dX12_fitsBut_18 rfl (lv_at hl 3 rfl) ?_
    refine tw_Vc (o := a0) (ci := 12) (n := 2) (post := (fun v kq Lq Eq => (∃ x : Int32, v = some (.int x) ∧ 0 ≤ x.toInt ∧ x.toInt ≤ 150 ∧ (x.toInt = 0 → nk_inv (rw_h E a0 x1.toInt) (rw_p E a0 x1.toInt) x2.toInt 150)) ∧ kp = kq ∧ L = Lq ∧ E = Eq)) (As := [.int x1, .int x2]) (rest := []) ⟨hx, hb, hml, hown, hB⟩ (fun sz => tX12_kidsOf l D cs a0 x1 x2 hm0 hk0 (by omega) (by omega) sz) cg_12_315_X12_kidsOf rfl rfl (by decide +kernel) ⟨Nat.le_of_ble_eq_true rfl, Nat.le_of_ble_eq_true rfl⟩ hK hN TH hS hA rfl hm0 hk0 (by decide) rfl hl.1 rfl (Nat.le_of_ble_eq_true rfl) dX12_fitsBut_19 ⟨Nat.le_of_ble_eq_true rfl, Nat.le_of_ble_eq_true rfl⟩ (fun v17 kp17 L17 E17 H locs hq17 hx17 TH hS => ?_)
    obtain ⟨⟨xc18, rfl, hxc18a, hxc18b, hpoxc18_0⟩, rfl, rfl, rfl⟩ := hq17
    refine W.eq (g2 := F0 m 22 ls [.int xc18]) rfl ?_
    refine lv_if_ne (tgt := 29) hx hb dX12_fitsBut_22 (by decide) (fun hc19 => ?_) (fun hc19 => ?_)
    · have hf20 : ¬ (xc18.toInt = 0) := fun q => hc19 ((fa_eq _ _).mpr (by have : ((0 : Int32).toInt) = 0 := (by decide); omega))
      refine lv_iconst (v := 0) hx hb dX12_fitsBut_29 (by decide) ?_
      exact tw_zret hx hb hr hlocks (by decide) TH hS hex ⟨⟨_, rfl, (show 0 ≤ Int32.toInt 0 from by have : ((0 : Int32).toInt) = 0 := (by decide); omega), (show Int32.toInt 0 ≤ 1 from by have : ((0 : Int32).toInt) = 0 := (by decide); omega)⟩, rfl, rfl, hF⟩ (Nat.le_of_ble_eq_true rfl) (Nat.le_of_ble_eq_true rfl) dX12_fitsBut_30
    · have hf21 : xc18.toInt = 0 := by have z := (fa_eq _ _).mp hc19; have : ((0 : Int32).toInt) = 0 := (by decide); omega
      refine lv_iconst (v := 1) hx hb dX12_fitsBut_25 (by decide) ?_
      refine lv_goto (tgt := 30) hx hb dX12_fitsBut_26 (by decide) ?_
      exact tw_zret hx hb hr hlocks (by decide) TH hS hex ⟨⟨_, rfl, (show 0 ≤ Int32.toInt 1 from by have : ((1 : Int32).toInt) = 1 := (by decide); omega), (show Int32.toInt 1 ≤ 1 from by have : ((1 : Int32).toInt) = 1 := (by decide); omega)⟩, rfl, rfl, hF⟩ (Nat.le_of_ble_eq_true rfl) (Nat.le_of_ble_eq_true rfl) dX12_fitsBut_30
set_option maxHeartbeats 4000000 in
set_option maxRecDepth 100000 in
theorem tX12_firstBreak (l : Launch) (D : va_G) (cs : Nat → ClassId) {kp : Nat → Nat} {L : List Nat} {E : Nat → va_E} (a0 : Nat) (x1 : Int32) (hm0 : a0 ∈ L) (hk0 : kp a0 = 12) (hp1a : 0 ≤ x1.toInt) (hp1b : x1.toInt ≤ 15) (hg0 : ht_ok E a0) (hg1 : rw_ok E a0 (x1.toInt)) (sz : Nat) : Met l yX12_firstBreak (.code yX12_firstBreak cX12_firstBreak 4 (some .int) :: cx_big) { frames := 4, cells := 0, slots := 0, locals := 96 } (tw_P D cs kp L E [.ref a0, .int x1] sz) (tw_Q D cs kp L (fun v kq Lq Eq => (∃ x : Int32, v = some (.int x) ∧ (-1) ≤ x.toInt ∧ x.toInt ≤ 149) ∧ kp = kq ∧ L = Lq ∧ tw_fr kp L [] [348, 349] E Eq) (va_A (va_pl L E) sz)) 0 0 (va_A (va_pl L E) sz) := by
  refine tw_ofW (by decide) (Nat.le_of_ble_eq_true rfl) ?_
  intro p e s m below meth c A ls hx hb hr hml hB hown hlocks hK hN hA TH hS hl
  have hown : s.vm.findClass "TreeMergeModel" = some m.cls := hown
  have hl : lv_has ls 4 [(0, .ref a0), (1, .int x1)] := hl
  obtain ⟨kp0, ekp⟩ : ∃ z, z = kp := ⟨_, rfl⟩
  obtain ⟨L0, eL⟩ : ∃ z, z = L := ⟨_, rfl⟩
  rw [show tw_Q D cs kp L = tw_Q D cs kp0 L0 by rw [ekp, eL]]
  have hex : ∀ a : Nat, a ∈ L0 → a ∈ L ∧ kp a = kp0 a := fun a h => ⟨by rw [← eL]; exact h, by rw [ekp]⟩
  have hF : tw_fr kp L [] [348, 349] E E := tw_fr.rf
  refine lv_aload_n hx hb dX12_firstBreak_0 rfl (lv_at hl 0 rfl) ?_
  refine lv_iload_n hx hb dX12_firstBreak_1 rfl (lv_at hl 1 rfl) ?_
  refine tw_Vc (o := a0) (ci := 12) (n := 1) (post := (fun v kq Lq Eq => (∃ x : Int32, v = some (.int x) ∧ (-1) ≤ x.toInt ∧ x.toInt ≤ 149 ∧ ((x.toInt = -1 ∧ rt_nr (rw_h E a0 x1.toInt) (rw_p E a0 x1.toInt) 150) ∨ (0 ≤ x.toInt ∧ x.toInt < 150 ∧ rw_h E a0 x1.toInt (x.toInt).toNat ≠ 0 ∧ rw_p E a0 x1.toInt (x.toInt).toNat = -1))) ∧ kp = kq ∧ L = Lq ∧ E = Eq)) (As := [.int x1]) (rest := []) ⟨hx, hb, hml, hown, hB⟩ (fun sz => tX12_root l D cs a0 x1 hm0 hk0 (by omega) (by omega) sz) cg_12_324_X12_root rfl rfl (by decide +kernel) ⟨Nat.le_of_ble_eq_true rfl, Nat.le_of_ble_eq_true rfl⟩ hK hN TH hS hA rfl hm0 hk0 (by decide) rfl hl.1 rfl (Nat.le_of_ble_eq_true rfl) dX12_firstBreak_2 ⟨Nat.le_of_ble_eq_true rfl, Nat.le_of_ble_eq_true rfl⟩ (fun v1 kp1 L1 E1 H locs hq1 hx1 TH hS => ?_)
  obtain ⟨⟨xc2, rfl, hxc2a, hxc2b, hpoxc2_0⟩, rfl, rfl, rfl⟩ := hq1
  refine W.eq (g2 := F0 m 5 ls [.int xc2]) rfl ?_
  refine lv_istore_n (lv' := [(2, .int xc2), (0, .ref a0), (1, .int x1)]) hx hb dX12_firstBreak_5 rfl hl (by decide) rfl (fun ls hl => ?_)
  refine lv_iload_n hx hb dX12_firstBreak_6 rfl (lv_at hl 0 rfl) ?_
  refine lv_istore_n (lv' := [(3, .int xc2), (2, .int xc2), (0, .ref a0), (1, .int x1)]) hx hb dX12_firstBreak_7 rfl hl (by decide) rfl (fun ls hl => ?_)
  have hJ8 : ∀ (n8 : Nat) (y8_3 : Int32) (Eg8 : Nat → va_E) (H : Heap) (locs : List Loc) (ls : Array Slot), (-1) ≤ y8_3.toInt → y8_3.toInt ≤ 149 → (y8_3.toInt = -1 ∨ (0 ≤ y8_3.toInt ∧ y8_3.toInt < 150 ∧ rw_h E a0 (x1.toInt) (y8_3.toInt).toNat ≠ 0)) → (y8_3.toInt = -1 ∨ (0 ≤ xc2.toInt ∧ xc2.toInt < 150 ∧ rw_h E a0 (x1.toInt) (xc2.toInt).toNat ≠ 0 ∧ rw_p E a0 (x1.toInt) (xc2.toInt).toNat = -1)) → (rt_mz (rw_h E a0 (x1.toInt)) (rw_p E a0 (x1.toInt)) (rw_q E a0 (x1.toInt)) (y8_3.toInt) : Int) ≤ (n8 : Int) → tw_fr kp L [] [348, 349] E Eg8 → ht_ok Eg8 a0 → rw_ok Eg8 a0 (x1.toInt) → tw_H D cs kp L Eg8 A H → va_S A s.heap H locs → lv_has ls 4 [(3, .int y8_3), (2, .int xc2), (0, .ref a0), (1, .int x1)] → W p l e { frames := 4, cells := 0, slots := 0, locals := 96 } s m [.ref a0, .int x1].toArray below meth c H locs 0 0 (MQ below (tw_Q D cs kp0 L0 (fun v kq Lq Eq => (∃ x : Int32, v = some (.int x) ∧ (-1) ≤ x.toInt ∧ x.toInt ≤ 149) ∧ kp = kq ∧ L = Lq ∧ tw_fr kp L [] [348, 349] E Eq) A) [.ref a0, .int x1].toArray s 0 0 A) (F0 m 8 ls []) := by
    intro n8
    induction n8 using Nat.strongRecOn with
    | _ n8 ih8 =>
      intro y8_3 Eg8 H locs ls hy8_3a hy8_3b hin8_0 hin8_1 hmeas8 hG8 hg0 hg1 TH hS hl
      have hF := hF.tr hG8 (fun _ h => ⟨h, rfl⟩) (by decide) (by decide)
      refine lv_iload_n hx hb dX12_firstBreak_8 rfl (lv_at hl 0 rfl) ?_
      refine lv_iconst (v := (-1)) hx hb dX12_firstBreak_9 (by decide) ?_
      refine lv_icmp_eq (tgt := 58) hx hb dX12_firstBreak_10 (by decide) (fun hc3 => ?_) (fun hc3 => ?_)
      · have hf4 : y8_3.toInt = (-1) := by have z := (fa_eq _ _).mp hc3; have : (((-1) : Int32).toInt) = (-1) := (by decide); omega
        refine lv_iconst (v := (-1)) hx hb dX12_firstBreak_58 (by decide) ?_
        exact tw_iret hx hb hr hlocks TH hS hex ⟨⟨_, rfl, (show (-1) ≤ Int32.toInt (-1) from by have : (((-1) : Int32).toInt) = (-1) := (by decide); omega), (show Int32.toInt (-1) ≤ 149 from by have : (((-1) : Int32).toInt) = (-1) := (by decide); omega)⟩, rfl, rfl, hF⟩ (Nat.le_of_ble_eq_true rfl) (Nat.le_of_ble_eq_true rfl) dX12_firstBreak_59
      · have hf5 : ¬ (y8_3.toInt = (-1)) := fun q => hc3 ((fa_eq _ _).mpr (by have : (((-1) : Int32).toInt) = (-1) := (by decide); omega))
        have hn3 := hin8_0.resolve_left (by omega)
        have ht3 := hin8_1.resolve_left (by omega)
        refine lv_iload_n hx hb dX12_firstBreak_13 rfl (lv_at hl 0 rfl) ?_
        refine lv_iload_n hx hb dX12_firstBreak_14 rfl (lv_at hl 1 rfl) ?_
        have hJ27 : ∀  (H : Heap) (locs : List Loc) (ls : Array Slot), tw_H D cs kp L Eg8 A H → va_S A s.heap H locs → lv_has ls 4 [(3, .int y8_3), (2, .int xc2), (0, .ref a0), (1, .int x1)] → W p l e { frames := 4, cells := 0, slots := 0, locals := 96 } s m [.ref a0, .int x1].toArray below meth c H locs 0 0 (MQ below (tw_Q D cs kp0 L0 (fun v kq Lq Eq => (∃ x : Int32, v = some (.int x) ∧ (-1) ≤ x.toInt ∧ x.toInt ≤ 149) ∧ kp = kq ∧ L = Lq ∧ tw_fr kp L [] [348, 349] E Eq) A) [.ref a0, .int x1].toArray s 0 0 A) (F0 m 27 ls []) := by
          intro H locs ls TH hS hl
          refine lv_aload_n hx hb dX12_firstBreak_27 rfl (lv_at hl 2 rfl) ?_
          refine lv_iload_n hx hb dX12_firstBreak_28 rfl (lv_at hl 3 rfl) ?_
          refine lv_iload_n hx hb dX12_firstBreak_29 rfl (lv_at hl 0 rfl) ?_
          refine tw_Vc (o := a0) (ci := 12) (n := 2) (post := (fun v kq Lq Eq => (∃ x : Int32, v = some (.int x) ∧ 0 ≤ x.toInt ∧ x.toInt ≤ 1) ∧ kp = kq ∧ L = Lq ∧ tw_fr kp L [] [348, 349] Eg8 Eq)) (As := [.int x1, .int y8_3]) (rest := []) ⟨hx, hb, hml, hown, hB⟩ (fun sz => tX12_fitsBut l D cs a0 x1 y8_3 hm0 hk0 (by omega) (by omega) (by omega) (by omega) (by  have fh := rw_h_fr TH hF hm0 hk0 (by decide) (by decide) (by decide) (i := x1.toInt) (by omega); have fp := rw_p_fr TH hF hm0 hk0 (by decide) (by decide) (by decide) (i := x1.toInt) (by omega); have fq := rw_q_fr TH hF hm0 hk0 (by decide) (by decide) (by decide) (i := x1.toInt) (by omega); intro q15; have hn3 := hin8_0.resolve_left (by omega); exact ht_le hg0 hn3.1 hn3.2.1 (by rw [fh]; exact hn3.2.2) q15) hg0 sz) cg_12_327_X12_fitsBut rfl rfl (by decide +kernel) ⟨Nat.le_of_ble_eq_true rfl, Nat.le_of_ble_eq_true rfl⟩ hK hN TH hS hA rfl hm0 hk0 (by decide) rfl hl.1 rfl (Nat.le_of_ble_eq_true rfl) dX12_firstBreak_30 ⟨Nat.le_of_ble_eq_true rfl, Nat.le_of_ble_eq_true rfl⟩ (fun v6 kp6 L6 E6 H locs hq6 hx6 TH hS => ?_)
          obtain ⟨⟨xc7, rfl, hxc7a, hxc7b⟩, rfl, rfl, hst6⟩ := hq6
          have hF := hF.tr hst6 (fun _ h => ⟨h, rfl⟩) (by decide) (by decide)
          have hG8 := hG8.tr hst6 (fun _ h => ⟨h, rfl⟩) (by decide) (by decide)
          have hg0 : ht_ok E6 a0 := ht_ok_fr TH hst6 hm0 hk0 (by decide) (by decide) hg0
          have hg1 : rw_ok E6 a0 (x1.toInt) := rw_ok_fr TH hst6 hm0 hk0 (by decide) (by decide) (by omega) hg1
          refine W.eq (g2 := F0 m 33 ls [.int xc7]) rfl ?_
          refine lv_if_eq (tgt := 45) hx hb dX12_firstBreak_33 (by decide) (fun hc8 => ?_) (fun hc8 => ?_)
          · have hf9 : xc7.toInt = 0 := by have z := (fa_eq _ _).mp hc8; have : ((0 : Int32).toInt) = 0 := (by decide); omega
            refine lv_iload_n hx hb dX12_firstBreak_45 rfl (lv_at hl 0 rfl) ?_
            exact tw_iret hx hb hr hlocks TH hS hex ⟨⟨_, rfl, (show (-1) ≤ Int32.toInt y8_3 from by  omega), (show Int32.toInt y8_3 ≤ 149 from by  omega)⟩, rfl, rfl, hF⟩ (Nat.le_of_ble_eq_true rfl) (Nat.le_of_ble_eq_true rfl) dX12_firstBreak_46
          · have hf10 : ¬ (xc7.toInt = 0) := fun q => hc8 ((fa_eq _ _).mpr (by have : ((0 : Int32).toInt) = 0 := (by decide); omega))
            refine lv_aload_n hx hb dX12_firstBreak_36 rfl (lv_at hl 2 rfl) ?_
            refine lv_iload_n hx hb dX12_firstBreak_37 rfl (lv_at hl 3 rfl) ?_
            refine lv_iload_n hx hb dX12_firstBreak_38 rfl (lv_at hl 0 rfl) ?_
            refine tw_Vc (o := a0) (ci := 12) (n := 2) (post := (fun v kq Lq Eq => (∃ x : Int32, v = some (.int x) ∧ 0 ≤ x.toInt ∧ x.toInt ≤ 1) ∧ kp = kq ∧ L = Lq ∧ E6 = Eq)) (As := [.int x1, .int y8_3]) (rest := []) ⟨hx, hb, hml, hown, hB⟩ (fun sz => tX12_hasLike l D cs a0 x1 y8_3 hm0 hk0 (by omega) (by omega) (by omega) (by omega) (by  have fh := rw_h_fr TH hF hm0 hk0 (by decide) (by decide) (by decide) (i := x1.toInt) (by omega); have fp := rw_p_fr TH hF hm0 hk0 (by decide) (by decide) (by decide) (i := x1.toInt) (by omega); have fq := rw_q_fr TH hF hm0 hk0 (by decide) (by decide) (by decide) (i := x1.toInt) (by omega); intro q15; have hn3 := hin8_0.resolve_left (by omega); exact ht_le hg0 hn3.1 hn3.2.1 (by rw [fh]; exact hn3.2.2) q15) hg0 sz) cg_12_330_X12_hasLike rfl rfl (by decide +kernel) ⟨Nat.le_of_ble_eq_true rfl, Nat.le_of_ble_eq_true rfl⟩ hK hN TH hS hA rfl hm0 hk0 (by decide) rfl hl.1 rfl (Nat.le_of_ble_eq_true rfl) dX12_firstBreak_39 ⟨Nat.le_of_ble_eq_true rfl, Nat.le_of_ble_eq_true rfl⟩ (fun v11 kp11 L11 E11 H locs hq11 hx11 TH hS => ?_)
            obtain ⟨⟨xc12, rfl, hxc12a, hxc12b⟩, rfl, rfl, rfl⟩ := hq11
            refine W.eq (g2 := F0 m 42 ls [.int xc12]) rfl ?_
            refine lv_if_eq (tgt := 47) hx hb dX12_firstBreak_42 (by decide) (fun hc13 => ?_) (fun hc13 => ?_)
            · have hf14 : xc12.toInt = 0 := by have z := (fa_eq _ _).mp hc13; have : ((0 : Int32).toInt) = 0 := (by decide); omega
              refine lv_aload_n hx hb dX12_firstBreak_47 rfl (lv_at hl 2 rfl) ?_
              refine lv_iload_n hx hb dX12_firstBreak_48 rfl (lv_at hl 3 rfl) ?_
              refine lv_iload_n hx hb dX12_firstBreak_49 rfl (lv_at hl 0 rfl) ?_
              refine lv_iload_n hx hb dX12_firstBreak_50 rfl (lv_at hl 1 rfl) ?_
              refine tw_Vc (o := a0) (ci := 12) (n := 3) (post := (fun v kq Lq Eq => (∃ x : Int32, v = some (.int x) ∧ (-1) ≤ x.toInt ∧ x.toInt ≤ 149 ∧ (x.toInt = -1 ∨ (rw_h E6 a0 x1.toInt (x.toInt).toNat ≠ 0 ∧ rt_lt (rt_K (rw_p E6 a0 x1.toInt) (rw_q E6 a0 x1.toInt) y8_3.toInt) (rt_K (rw_p E6 a0 x1.toInt) (rw_q E6 a0 x1.toInt) x.toInt)))) ∧ kp = kq ∧ L = Lq ∧ E6 = Eq)) (As := [.int x1, .int y8_3, .int xc2]) (rest := []) ⟨hx, hb, hml, hown, hB⟩ (fun sz => tX12_next l D cs a0 x1 y8_3 xc2 hm0 hk0 (by omega) (by omega) (by omega) (by omega) (by omega) (by omega) (by  have fh := rw_h_fr TH hF hm0 hk0 (by decide) (by decide) (by decide) (i := x1.toInt) (by omega); have fp := rw_p_fr TH hF hm0 hk0 (by decide) (by decide) (by decide) (i := x1.toInt) (by omega); have fq := rw_q_fr TH hF hm0 hk0 (by decide) (by decide) (by decide) (i := x1.toInt) (by omega); have hn3 := hin8_0.resolve_left (by omega); rw [fh]; exact hn3.2.2) (by  have fh := rw_h_fr TH hF hm0 hk0 (by decide) (by decide) (by decide) (i := x1.toInt) (by omega); have fp := rw_p_fr TH hF hm0 hk0 (by decide) (by decide) (by decide) (i := x1.toInt) (by omega); have fq := rw_q_fr TH hF hm0 hk0 (by decide) (by decide) (by decide) (i := x1.toInt) (by omega); have ht3 := hin8_1.resolve_left (by omega); rw [fh]; exact ht3.2.2.1) (by  have fh := rw_h_fr TH hF hm0 hk0 (by decide) (by decide) (by decide) (i := x1.toInt) (by omega); have fp := rw_p_fr TH hF hm0 hk0 (by decide) (by decide) (by decide) (i := x1.toInt) (by omega); have fq := rw_q_fr TH hF hm0 hk0 (by decide) (by decide) (by decide) (i := x1.toInt) (by omega); have ht3 := hin8_1.resolve_left (by omega); rw [fp]; exact ht3.2.2.2) hg1 sz) cg_12_278_X12_next rfl rfl (by decide +kernel) ⟨Nat.le_of_ble_eq_true rfl, Nat.le_of_ble_eq_true rfl⟩ hK hN TH hS hA rfl hm0 hk0 (by decide) rfl hl.1 rfl (Nat.le_of_ble_eq_true rfl) dX12_firstBreak_51 ⟨Nat.le_of_ble_eq_true rfl, Nat.le_of_ble_eq_true rfl⟩ (fun v15 kp15 L15 E15 H locs hq15 hx15 TH hS => ?_)
              obtain ⟨⟨xc16, rfl, hxc16a, hxc16b, hpoxc16_0⟩, rfl, rfl, rfl⟩ := hq15
              refine W.eq (g2 := F0 m 54 ls [.int xc16]) rfl ?_
              refine lv_istore_n (lv' := [(3, .int xc16), (2, .int xc2), (0, .ref a0), (1, .int x1)]) hx hb dX12_firstBreak_54 rfl hl (by decide) rfl (fun ls hl => ?_)
              refine lv_goto (tgt := 8) hx hb dX12_firstBreak_55 (by decide) ?_
              exact ih8 (n8 - 1) (by  have fh := rw_h_fr TH hF hm0 hk0 (by decide) (by decide) (by decide) (i := x1.toInt) (by omega); have fp := rw_p_fr TH hF hm0 hk0 (by decide) (by decide) (by decide) (i := x1.toInt) (by omega); have fq := rw_q_fr TH hF hm0 hk0 (by decide) (by decide) (by decide) (i := x1.toInt) (by omega); have hn3 := hin8_0.resolve_left (by omega); have hfall := rt_mz_fall (h := rw_h E a0 (x1.toInt)) (p := rw_p E a0 (x1.toInt)) (q := rw_q E a0 (x1.toInt)) (n := y8_3.toInt) (c := xc16.toInt) hn3.1 (by rcases hpoxc16_0 with q | q; exact Or.inl q; (by_cases hz : xc16.toInt = -1; exact Or.inl hz; (rw [fh, fp, fq] at q; exact Or.inr ⟨by omega, by omega, q.1, q.2⟩)));  omega) xc16 _ _ _ ls (by omega) (by omega) (by  have fh := rw_h_fr TH hF hm0 hk0 (by decide) (by decide) (by decide) (i := x1.toInt) (by omega); have fp := rw_p_fr TH hF hm0 hk0 (by decide) (by decide) (by decide) (i := x1.toInt) (by omega); have fq := rw_q_fr TH hF hm0 hk0 (by decide) (by decide) (by decide) (i := x1.toInt) (by omega); rcases hpoxc16_0 with q | q; exact Or.inl q; (by_cases hz : xc16.toInt = -1; exact Or.inl hz; (rw [fh] at q; exact Or.inr ⟨by omega, by omega, q.1⟩))) (by  exact Or.inr (hin8_1.resolve_left (by omega))) (by  have fh := rw_h_fr TH hF hm0 hk0 (by decide) (by decide) (by decide) (i := x1.toInt) (by omega); have fp := rw_p_fr TH hF hm0 hk0 (by decide) (by decide) (by decide) (i := x1.toInt) (by omega); have fq := rw_q_fr TH hF hm0 hk0 (by decide) (by decide) (by decide) (i := x1.toInt) (by omega); have hn3 := hin8_0.resolve_left (by omega); have hfall := rt_mz_fall (h := rw_h E a0 (x1.toInt)) (p := rw_p E a0 (x1.toInt)) (q := rw_q E a0 (x1.toInt)) (n := y8_3.toInt) (c := xc16.toInt) hn3.1 (by rcases hpoxc16_0 with q | q; exact Or.inl q; (by_cases hz : xc16.toInt = -1; exact Or.inl hz; (rw [fh, fp, fq] at q; exact Or.inr ⟨by omega, by omega, q.1, q.2⟩)));  omega) hG8 hg0 hg1 TH hS (lv_sub hl [0, 1, 2, 3] rfl)
            · have hf17 : ¬ (xc12.toInt = 0) := fun q => hc13 ((fa_eq _ _).mpr (by have : ((0 : Int32).toInt) = 0 := (by decide); omega))
              refine lv_iload_n hx hb dX12_firstBreak_45 rfl (lv_at hl 0 rfl) ?_
              exact tw_iret hx hb hr hlocks TH hS hex ⟨⟨_, rfl, (show (-1) ≤ Int32.toInt y8_3 from by  omega), (show Int32.toInt y8_3 ≤ 149 from by  omega)⟩, rfl, rfl, hF⟩ (Nat.le_of_ble_eq_true rfl) (Nat.le_of_ble_eq_true rfl) dX12_firstBreak_46
        refine lv_icmp_ne (tgt := 27) hx hb dX12_firstBreak_15 (by decide) (fun hc18 => ?_) (fun hc18 => ?_)
        · have hf19 : ¬ (y8_3.toInt = xc2.toInt) := fun q => hc18 ((fa_eq _ _).mpr (by  omega))
          exact hJ27  _ _ ls  TH hS (lv_sub hl [0, 1, 2, 3] rfl)
        · have hf20 : y8_3.toInt = xc2.toInt := by have z := (fa_eq _ _).mp hc18;  omega
          refine lv_aload_n hx hb dX12_firstBreak_18 rfl (lv_at hl 2 rfl) ?_
          refine lv_iload_n hx hb dX12_firstBreak_19 rfl (lv_at hl 3 rfl) ?_
          refine lv_iload_n hx hb dX12_firstBreak_20 rfl (lv_at hl 0 rfl) ?_
          refine tw_Vc (o := a0) (ci := 12) (n := 2) (post := (fun v kq Lq Eq => (∃ x : Int32, v = some (.int x) ∧ 0 ≤ x.toInt ∧ x.toInt ≤ 9) ∧ kp = kq ∧ L = Lq ∧ Eg8 = Eq)) (As := [.int x1, .int y8_3]) (rest := []) ⟨hx, hb, hml, hown, hB⟩ (fun sz => tX12_kindOf l D cs a0 x1 y8_3 hm0 hk0 (by omega) (by omega) (by omega) (by omega) (by  have fh := rw_h_fr TH hF hm0 hk0 (by decide) (by decide) (by decide) (i := x1.toInt) (by omega); have fp := rw_p_fr TH hF hm0 hk0 (by decide) (by decide) (by decide) (i := x1.toInt) (by omega); have fq := rw_q_fr TH hF hm0 hk0 (by decide) (by decide) (by decide) (i := x1.toInt) (by omega); intro q15; have hn3 := hin8_0.resolve_left (by omega); exact ht_le hg0 hn3.1 hn3.2.1 (by rw [fh]; exact hn3.2.2) q15) sz) cg_12_301_X12_kindOf rfl rfl (by decide +kernel) ⟨Nat.le_of_ble_eq_true rfl, Nat.le_of_ble_eq_true rfl⟩ hK hN TH hS hA rfl hm0 hk0 (by decide) rfl hl.1 rfl (Nat.le_of_ble_eq_true rfl) dX12_firstBreak_21 ⟨Nat.le_of_ble_eq_true rfl, Nat.le_of_ble_eq_true rfl⟩ (fun v21 kp21 L21 E21 H locs hq21 hx21 TH hS => ?_)
          obtain ⟨⟨xc22, rfl, hxc22a, hxc22b⟩, rfl, rfl, rfl⟩ := hq21
          refine W.eq (g2 := F0 m 24 ls [.int xc22]) rfl ?_
          refine lv_if_ne (tgt := 45) hx hb dX12_firstBreak_24 (by decide) (fun hc23 => ?_) (fun hc23 => ?_)
          · have hf24 : ¬ (xc22.toInt = 0) := fun q => hc23 ((fa_eq _ _).mpr (by have : ((0 : Int32).toInt) = 0 := (by decide); omega))
            refine lv_iload_n hx hb dX12_firstBreak_45 rfl (lv_at hl 0 rfl) ?_
            exact tw_iret hx hb hr hlocks TH hS hex ⟨⟨_, rfl, (show (-1) ≤ Int32.toInt y8_3 from by  omega), (show Int32.toInt y8_3 ≤ 149 from by  omega)⟩, rfl, rfl, hF⟩ (Nat.le_of_ble_eq_true rfl) (Nat.le_of_ble_eq_true rfl) dX12_firstBreak_46
          · have hf25 : xc22.toInt = 0 := by have z := (fa_eq _ _).mp hc23; have : ((0 : Int32).toInt) = 0 := (by decide); omega
            exact hJ27  _ _ ls  TH hS (lv_sub hl [0, 1, 2, 3] rfl)
  exact hJ8 152 xc2 _ _ _ ls (by omega) (by omega) (by  rcases hpoxc2_0 with q | q; exact Or.inl q.1; exact Or.inr ⟨q.1, q.2.1, q.2.2.1⟩) (by  rcases hpoxc2_0 with q | q; exact Or.inl q.1; exact Or.inr q) (by  have := rt_mz_le (h := rw_h E a0 (x1.toInt)) (p := rw_p E a0 (x1.toInt)) (q := rw_q E a0 (x1.toInt)) (n := xc2.toInt); omega) tw_fr.rf hg0 hg1 TH hS (lv_sub hl [0, 1, 2, 3] rfl)
