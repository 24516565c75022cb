set_option maxHeartbeats 4000000 in
set_option maxRecDepth 100000 in
theorem tX12_stands (l : Launch) (D : va_G) (cs : Nat → ClassId) {kp : Nat → Nat} {L : List Nat} {E : Nat → va_E} (a0 : Nat) (x1 : Int32) (x2 : Int32) (x3 : Int32) (x4 : Int32) (hm0 : a0 ∈ L) (hk0 : kp a0 = 12) (hp1a : 0 ≤ x1.toInt) (hp1b : x1.toInt ≤ 149) (hp2a : 0 ≤ x2.toInt) (hp2b : x2.toInt ≤ 15) (hp3a : 0 ≤ x3.toInt) (hp3b : x3.toInt ≤ 15) (hp4a : 0 ≤ x4.toInt) (hp4b : x4.toInt ≤ 15) (hg0 : rw_ok E a0 (x2.toInt)) (hg1 : rw_ok E a0 (x3.toInt)) (sz : Nat) : Met l yX12_stands (.code yX12_stands cX12_stands 6 (some .boolean) :: cx_big) { frames := 2, cells := 0, slots := 0, locals := 48 } (tw_P D cs kp L E [.ref a0, .int x1, .int x2, .int x3, .int x4] sz) (tw_Q D cs kp L (fun v kq Lq Eq => (∃ x : Int32, v = some (.int x) ∧ 0 ≤ x.toInt ∧ x.toInt ≤ 1 ∧ (rw_h E a0 x2.toInt (x1.toInt).toNat ≠ 0 → rw_h E a0 x3.toInt (x1.toInt).toNat ≠ 0 → x.toInt ≠ 0)) ∧ kp = kq ∧ L = Lq ∧ E = Eq) (va_A (va_pl L E) sz)) 0 0 (va_A (va_pl L E) sz) := by
  refine tw_ofW (by decide) (Nat.le_of_ble_eq_true rfl) ?_
  intro p e s m below meth c A ls hx hb hr hml hB hown hlocks hK hN hA TH hS hl
  have hown : s.vm.findClass "TreeMergeModel" = some m.cls := hown
  have hl : lv_has ls 6 [(0, .ref a0), (1, .int x1), (2, .int x2), (3, .int x3), (4, .int x4)] := hl
  obtain ⟨kp0, ekp⟩ : ∃ z, z = kp := ⟨_, rfl⟩
  obtain ⟨L0, eL⟩ : ∃ z, z = L := ⟨_, rfl⟩
  rw [show tw_Q D cs kp L = tw_Q D cs kp0 L0 by rw [ekp, eL]]
  have hex : ∀ a : Nat, a ∈ L0 → a ∈ L ∧ kp a = kp0 a := fun a h => ⟨by rw [← eL]; exact h, by rw [ekp]⟩
  refine lv_aload_n hx hb dX12_stands_0 rfl (lv_at hl 0 rfl) ?_
  refine tw_get (ci := 12) (C := RX12) (T := TX12) (N := 64) hx hb hB cx_inX12 hown hK TH hm0 hk0 rfl ⟨by decide, rfl⟩ 16 (by decide) cw_1209 (fun _ h9 => h9) dX12_stands_1 (fun hv => ?_)
  obtain ⟨xr1, hxr1, hmxr1, hkxr1⟩ : ∃ a : Nat, tw_fv E a0 16 = .ref a ∧ a ∈ L ∧ kp a = 316 := hv
  rw [hxr1]
  refine lv_iload_n hx hb dX12_stands_4 rfl (lv_at hl 2 rfl) ?_
  refine tw_aald (k := 316) (t0 := 5) (n := 16) (lo := 326) (hi := 0) (ty := .boolean) hx hb hK TH hmxr1 hkxr1 (by decide) rfl rfl (i := x2) (vp_in_iff.mpr ⟨by  omega, by  omega⟩) dX12_stands_5 (fun xr2 exr2 hmxr2 hkxr2 => ?_)
  have hkxr2 : kp xr2 = 326 := hkxr2
  refine lv_iload_n hx hb dX12_stands_6 rfl (lv_at hl 1 rfl) ?_
  refine tw_zald (k := 326) (t0 := 3) (n := 150) (lo := 0) (hi := 1) hx hb hK TH hmxr2 hkxr2 (by decide) rfl rfl (i := x1) (vp_in_iff.mpr ⟨by  omega, by  omega⟩) dX12_stands_7 (fun hxe3a hxe3b => ?_)
  obtain ⟨xe3, exe3⟩ : ∃ z : Int32, tw_iv E xr2 (Int32.toNatClampNeg x1) = z := ⟨_, rfl⟩
  rw [exe3] at hxe3a hxe3b ⊢
  refine lv_if_eq (tgt := 24) hx hb dX12_stands_8 (by decide) (fun hc4 => ?_) (fun hc4 => ?_)
  · have hf5 : xe3.toInt = 0 := by have z := (fa_eq _ _).mp hc4; have : ((0 : Int32).toInt) = 0 := (by decide); omega
    refine lv_aload_n hx hb dX12_stands_24 rfl (lv_at hl 0 rfl) ?_
    refine tw_get (ci := 12) (C := RX12) (T := TX12) (N := 64) hx hb hB cx_inX12 hown hK TH hm0 hk0 rfl ⟨by decide, rfl⟩ 16 (by decide) cw_1209 (fun _ h9 => h9) dX12_stands_25 (fun hv => ?_)
    rw [hxr1]
    refine lv_iload_n hx hb dX12_stands_28 rfl (lv_at hl 2 rfl) ?_
    refine tw_aald (k := 316) (t0 := 5) (n := 16) (lo := 326) (hi := 0) (ty := .boolean) hx hb hK TH hmxr1 hkxr1 (by decide) rfl rfl (i := x2) (vp_in_iff.mpr ⟨by  omega, by  omega⟩) dX12_stands_29 (fun xr6 exr6 hmxr6 hkxr6 => ?_)
    have ezxr6 : xr2 = xr6 := exr2.symm.trans exr6
    subst ezxr6
    refine lv_iload_n hx hb dX12_stands_30 rfl (lv_at hl 1 rfl) ?_
    refine tw_zald (k := 326) (t0 := 3) (n := 150) (lo := 0) (hi := 1) hx hb hK TH hmxr2 hkxr2 (by decide) rfl rfl (i := x1) (vp_in_iff.mpr ⟨by  omega, by  omega⟩) dX12_stands_31 (fun hxe7a hxe7b => ?_)
    rw [exe3]
    refine lv_if_ne (tgt := 48) hx hb dX12_stands_32 (by decide) (fun hc8 => ?_) (fun hc8 => ?_)
    · have hf9 : ¬ (xe3.toInt = 0) := fun q => hc8 ((fa_eq _ _).mpr (by have : ((0 : Int32).toInt) = 0 := (by decide); omega))
      exfalso; omega
    · have hf10 : xe3.toInt = 0 := by have z := (fa_eq _ _).mp hc8; have : ((0 : Int32).toInt) = 0 := (by decide); omega
      refine lv_aload_n hx hb dX12_stands_35 rfl (lv_at hl 0 rfl) ?_
      refine tw_get (ci := 12) (C := RX12) (T := TX12) (N := 64) hx hb hB cx_inX12 hown hK TH hm0 hk0 rfl ⟨by decide, rfl⟩ 16 (by decide) cw_1209 (fun _ h9 => h9) dX12_stands_36 (fun hv => ?_)
      rw [hxr1]
      refine lv_iload_n hx hb dX12_stands_39 rfl (lv_at hl 3 rfl) ?_
      refine tw_aald (k := 316) (t0 := 5) (n := 16) (lo := 326) (hi := 0) (ty := .boolean) hx hb hK TH hmxr1 hkxr1 (by decide) rfl rfl (i := x3) (vp_in_iff.mpr ⟨by  omega, by  omega⟩) dX12_stands_40 (fun xr11 exr11 hmxr11 hkxr11 => ?_)
      have hkxr11 : kp xr11 = 326 := hkxr11
      refine lv_iload_n hx hb dX12_stands_41 rfl (lv_at hl 1 rfl) ?_
      refine tw_zald (k := 326) (t0 := 3) (n := 150) (lo := 0) (hi := 1) hx hb hK TH hmxr11 hkxr11 (by decide) rfl rfl (i := x1) (vp_in_iff.mpr ⟨by  omega, by  omega⟩) dX12_stands_42 (fun hxe12a hxe12b => ?_)
      obtain ⟨xe12, exe12⟩ : ∃ z : Int32, tw_iv E xr11 (Int32.toNatClampNeg x1) = z := ⟨_, rfl⟩
      rw [exe12] at hxe12a hxe12b ⊢
      refine lv_if_ne (tgt := 48) hx hb dX12_stands_43 (by decide) (fun hc13 => ?_) (fun hc13 => ?_)
      · have hf14 : ¬ (xe12.toInt = 0) := fun q => hc13 ((fa_eq _ _).mpr (by have : ((0 : Int32).toInt) = 0 := (by decide); omega))
        refine lv_aload_n hx hb dX12_stands_48 rfl (lv_at hl 0 rfl) ?_
        refine tw_get (ci := 12) (C := RX12) (T := TX12) (N := 64) hx hb hB cx_inX12 hown hK TH hm0 hk0 rfl ⟨by decide, rfl⟩ 16 (by decide) cw_1209 (fun _ h9 => h9) dX12_stands_49 (fun hv => ?_)
        rw [hxr1]
        refine lv_iload hx hb dX12_stands_52 (lv_at hl 4 rfl) ?_
        refine tw_aald (k := 316) (t0 := 5) (n := 16) (lo := 326) (hi := 0) (ty := .boolean) hx hb hK TH hmxr1 hkxr1 (by decide) rfl rfl (i := x4) (vp_in_iff.mpr ⟨by  omega, by  omega⟩) dX12_stands_54 (fun xr15 exr15 hmxr15 hkxr15 => ?_)
        have hkxr15 : kp xr15 = 326 := hkxr15
        refine lv_iload_n hx hb dX12_stands_55 rfl (lv_at hl 1 rfl) ?_
        refine tw_zald (k := 326) (t0 := 3) (n := 150) (lo := 0) (hi := 1) hx hb hK TH hmxr15 hkxr15 (by decide) rfl rfl (i := x1) (vp_in_iff.mpr ⟨by  omega, by  omega⟩) dX12_stands_56 (fun hxe16a hxe16b => ?_)
        obtain ⟨xe16, exe16⟩ : ∃ z : Int32, tw_iv E xr15 (Int32.toNatClampNeg x1) = z := ⟨_, rfl⟩
        rw [exe16] at hxe16a hxe16b ⊢
        refine lv_if_ne (tgt := 62) hx hb dX12_stands_57 (by decide) (fun hc17 => ?_) (fun hc17 => ?_)
        · have hf18 : ¬ (xe16.toInt = 0) := fun q => hc17 ((fa_eq _ _).mpr (by have : ((0 : Int32).toInt) = 0 := (by decide); omega))
          refine lv_aload_n hx hb dX12_stands_62 rfl (lv_at hl 0 rfl) ?_
          refine tw_get (ci := 12) (C := RX12) (T := TX12) (N := 64) hx hb hB cx_inX12 hown hK TH hm0 hk0 rfl ⟨by decide, rfl⟩ 16 (by decide) cw_1209 (fun _ h9 => h9) dX12_stands_63 (fun hv => ?_)
          rw [hxr1]
          refine lv_iload_n hx hb dX12_stands_66 rfl (lv_at hl 2 rfl) ?_
          refine tw_aald (k := 316) (t0 := 5) (n := 16) (lo := 326) (hi := 0) (ty := .boolean) hx hb hK TH hmxr1 hkxr1 (by decide) rfl rfl (i := x2) (vp_in_iff.mpr ⟨by  omega, by  omega⟩) dX12_stands_67 (fun xr19 exr19 hmxr19 hkxr19 => ?_)
          have ezxr19 : xr2 = xr19 := exr2.symm.trans exr19
          subst ezxr19
          refine lv_iload_n hx hb dX12_stands_68 rfl (lv_at hl 1 rfl) ?_
          refine tw_zald (k := 326) (t0 := 3) (n := 150) (lo := 0) (hi := 1) hx hb hK TH hmxr2 hkxr2 (by decide) rfl rfl (i := x1) (vp_in_iff.mpr ⟨by  omega, by  omega⟩) dX12_stands_69 (fun hxe20a hxe20b => ?_)
          rw [exe3]
          refine lv_if_eq (tgt := 77) hx hb dX12_stands_70 (by decide) (fun hc21 => ?_) (fun hc21 => ?_)
          · have hf22 : xe3.toInt = 0 := by have z := (fa_eq _ _).mp hc21; have : ((0 : Int32).toInt) = 0 := (by decide); omega
            refine lv_iload_n hx hb dX12_stands_77 rfl (lv_at hl 3 rfl) ?_
            refine lv_istore (lv' := [(5, .int x3), (0, .ref a0), (1, .int x1), (2, .int x2), (3, .int x3), (4, .int x4)]) hx hb dX12_stands_78 hl (by decide) rfl (fun ls hl => ?_)
            refine lv_aload_n hx hb dX12_stands_80 rfl (lv_at hl 1 rfl) ?_
            refine lv_iload hx hb dX12_stands_81 (lv_at hl 0 rfl) ?_
            refine lv_iload_n hx hb dX12_stands_83 rfl (lv_at hl 2 rfl) ?_
            refine lv_iload hx hb dX12_stands_84 (lv_at hl 5 rfl) ?_
            refine tw_Vc (o := a0) (ci := 12) (n := 3) (post := (fun v kq Lq Eq => (∃ x : Int32, v = some (.int x) ∧ 0 ≤ x.toInt ∧ x.toInt ≤ 1) ∧ kp = kq ∧ L = Lq ∧ E = Eq)) (As := [.int x3, .int x1, .int x4]) (rest := []) ⟨hx, hb, hml, hown, hB⟩ (fun sz => tX12_isTouched l D cs a0 x3 x1 x4 hm0 hk0 (by omega) (by omega) (by omega) (by omega) hg1 sz) cg_12_465_X12_isTouched rfl rfl (by decide +kernel) ⟨Nat.le_of_ble_eq_true rfl, Nat.le_of_ble_eq_true rfl⟩ hK hN TH hS hA rfl hm0 hk0 (by decide) rfl hl.1 rfl (Nat.le_of_ble_eq_true rfl) dX12_stands_86 ⟨Nat.le_of_ble_eq_true rfl, Nat.le_of_ble_eq_true rfl⟩ (fun v23 kp23 L23 E23 H locs hq23 hx23 TH hS => ?_)
            obtain ⟨⟨xc24, rfl, hxc24a, hxc24b⟩, rfl, rfl, rfl⟩ := hq23
            refine W.eq (g2 := F0 m 89 ls [.int xc24]) rfl ?_
            refine lv_if_ne (tgt := 94) hx hb dX12_stands_89 (by decide) (fun hc25 => ?_) (fun hc25 => ?_)
            · have hf26 : ¬ (xc24.toInt = 0) := fun q => hc25 ((fa_eq _ _).mpr (by have : ((0 : Int32).toInt) = 0 := (by decide); omega))
              refine lv_aload_n hx hb dX12_stands_94 rfl (lv_at hl 1 rfl) ?_
              refine lv_iload_n hx hb dX12_stands_95 rfl (lv_at hl 2 rfl) ?_
              refine lv_iconst (v := 1) hx hb dX12_stands_96 (by decide) ?_
              refine lv_iload_n hx hb dX12_stands_97 rfl (lv_at hl 3 rfl) ?_
              refine lv_iload_n hx hb dX12_stands_98 rfl (lv_at hl 4 rfl) ?_
              refine tw_Vc (o := a0) (ci := 12) (n := 4) (post := (fun v kq Lq Eq => (∃ x : Int32, v = some (.int x) ∧ (-1) ≤ x.toInt ∧ x.toInt ≤ 11 ∧ (x.toInt = -1 ↔ st_ns E a0 x1.toInt (1 : Int32).toInt x2.toInt x3.toInt)) ∧ kp = kq ∧ L = Lq ∧ E = Eq)) (As := [.int x1, .int 1, .int x2, .int x3]) (rest := []) ⟨hx, hb, hml, hown, hB⟩ (fun sz => tX12_settledFor l D cs a0 x1 (1 : Int32) x2 x3 hm0 hk0 sz) cg_12_461_X12_settledFor rfl rfl (by decide +kernel) ⟨Nat.le_of_ble_eq_true rfl, Nat.le_of_ble_eq_true rfl⟩ hK hN TH hS hA rfl hm0 hk0 (by decide) rfl hl.1 rfl (Nat.le_of_ble_eq_true rfl) dX12_stands_99 ⟨Nat.le_of_ble_eq_true rfl, Nat.le_of_ble_eq_true rfl⟩ (fun v27 kp27 L27 E27 H locs hq27 hx27 TH hS => ?_)
              obtain ⟨⟨xc28, rfl, hxc28a, hxc28b, hpoxc28_0⟩, rfl, rfl, rfl⟩ := hq27
              refine W.eq (g2 := F0 m 102 ls [.int xc28]) rfl ?_
              refine lv_iload hx hb dX12_stands_102 (lv_at hl 0 rfl) ?_
              refine lv_icmp_ne (tgt := 111) hx hb dX12_stands_104 (by decide) (fun hc29 => ?_) (fun hc29 => ?_)
              · have hf30 : ¬ (xc28.toInt = x3.toInt) := fun q => hc29 ((fa_eq _ _).mpr (by  omega))
                refine lv_iconst (v := 0) hx hb dX12_stands_111 (by decide) ?_
                exact tw_zret hx hb hr hlocks (by decide) TH hS hex ⟨⟨_, rfl, (show 0 ≤ Int32.toInt 0 from by have : ((0 : Int32).toInt) = 0 := (by decide); omega), (show Int32.toInt 0 ≤ 1 from by have : ((0 : Int32).toInt) = 0 := (by decide); omega), (by have : ((0 : Int32).toInt) = 0 := (by decide); have rf_xe3 : rw_h E a0 (x2.toInt) (x1.toInt).toNat = xe3.toInt := rw_h_of (m := a0) (i := x2) (c := x1) hxr1 exr2 exe3; have rf_xe12 : rw_h E a0 (x3.toInt) (x1.toInt).toNat = xe12.toInt := rw_h_of (m := a0) (i := x3) (c := x1) hxr1 exr11 exe12; have rf_xe16 : rw_h E a0 (x4.toInt) (x1.toInt).toNat = xe16.toInt := rw_h_of (m := a0) (i := x4) (c := x1) hxr1 exr15 exe16; intro a1 a2; (try rw [rf_xe3] at a1); (try rw [rf_xe3] at a2); (try rw [rf_xe12] at a1); (try rw [rf_xe12] at a2); (try rw [rf_xe16] at a1); (try rw [rf_xe16] at a2); omega)⟩, rfl, rfl, rfl⟩ (Nat.le_of_ble_eq_true rfl) (Nat.le_of_ble_eq_true rfl) dX12_stands_112
              · have hf31 : xc28.toInt = x3.toInt := by have z := (fa_eq _ _).mp hc29;  omega
                refine lv_iconst (v := 1) hx hb dX12_stands_107 (by decide) ?_
                refine lv_goto (tgt := 112) hx hb dX12_stands_108 (by decide) ?_
                exact tw_zret hx hb hr hlocks (by decide) TH hS hex ⟨⟨_, rfl, (show 0 ≤ Int32.toInt 1 from by have : ((1 : Int32).toInt) = 1 := (by decide); omega), (show Int32.toInt 1 ≤ 1 from by have : ((1 : Int32).toInt) = 1 := (by decide); omega), (by have : ((1 : Int32).toInt) = 1 := (by decide); have rf_xe3 : rw_h E a0 (x2.toInt) (x1.toInt).toNat = xe3.toInt := rw_h_of (m := a0) (i := x2) (c := x1) hxr1 exr2 exe3; have rf_xe12 : rw_h E a0 (x3.toInt) (x1.toInt).toNat = xe12.toInt := rw_h_of (m := a0) (i := x3) (c := x1) hxr1 exr11 exe12; have rf_xe16 : rw_h E a0 (x4.toInt) (x1.toInt).toNat = xe16.toInt := rw_h_of (m := a0) (i := x4) (c := x1) hxr1 exr15 exe16; intro a1 a2; (try rw [rf_xe3] at a1); (try rw [rf_xe3] at a2); (try rw [rf_xe12] at a1); (try rw [rf_xe12] at a2); (try rw [rf_xe16] at a1); (try rw [rf_xe16] at a2); omega)⟩, rfl, rfl, rfl⟩ (Nat.le_of_ble_eq_true rfl) (Nat.le_of_ble_eq_true rfl) dX12_stands_112
            · have hf32 : xc24.toInt = 0 := by have z := (fa_eq _ _).mp hc25; have : ((0 : Int32).toInt) = 0 := (by decide); omega
              refine lv_iconst (v := 0) hx hb dX12_stands_92 (by decide) ?_
              exact tw_zret hx hb hr hlocks (by decide) TH hS hex ⟨⟨_, rfl, (show 0 ≤ Int32.toInt 0 from by have : ((0 : Int32).toInt) = 0 := (by decide); omega), (show Int32.toInt 0 ≤ 1 from by have : ((0 : Int32).toInt) = 0 := (by decide); omega), (by have : ((0 : Int32).toInt) = 0 := (by decide); have rf_xe3 : rw_h E a0 (x2.toInt) (x1.toInt).toNat = xe3.toInt := rw_h_of (m := a0) (i := x2) (c := x1) hxr1 exr2 exe3; have rf_xe12 : rw_h E a0 (x3.toInt) (x1.toInt).toNat = xe12.toInt := rw_h_of (m := a0) (i := x3) (c := x1) hxr1 exr11 exe12; have rf_xe16 : rw_h E a0 (x4.toInt) (x1.toInt).toNat = xe16.toInt := rw_h_of (m := a0) (i := x4) (c := x1) hxr1 exr15 exe16; intro a1 a2; (try rw [rf_xe3] at a1); (try rw [rf_xe3] at a2); (try rw [rf_xe12] at a1); (try rw [rf_xe12] at a2); (try rw [rf_xe16] at a1); (try rw [rf_xe16] at a2); omega)⟩, rfl, rfl, rfl⟩ (Nat.le_of_ble_eq_true rfl) (Nat.le_of_ble_eq_true rfl) dX12_stands_93
          · have hf33 : ¬ (xe3.toInt = 0) := fun q => hc21 ((fa_eq _ _).mpr (by have : ((0 : Int32).toInt) = 0 := (by decide); omega))
            exfalso; omega
        · have hf34 : xe16.toInt = 0 := by have z := (fa_eq _ _).mp hc17; have : ((0 : Int32).toInt) = 0 := (by decide); omega
          refine lv_iconst (v := 1) hx hb dX12_stands_60 (by decide) ?_
          exact tw_zret hx hb hr hlocks (by decide) TH hS hex ⟨⟨_, rfl, (show 0 ≤ Int32.toInt 1 from by have : ((1 : Int32).toInt) = 1 := (by decide); omega), (show Int32.toInt 1 ≤ 1 from by have : ((1 : Int32).toInt) = 1 := (by decide); omega), (by have : ((1 : Int32).toInt) = 1 := (by decide); have rf_xe3 : rw_h E a0 (x2.toInt) (x1.toInt).toNat = xe3.toInt := rw_h_of (m := a0) (i := x2) (c := x1) hxr1 exr2 exe3; have rf_xe12 : rw_h E a0 (x3.toInt) (x1.toInt).toNat = xe12.toInt := rw_h_of (m := a0) (i := x3) (c := x1) hxr1 exr11 exe12; have rf_xe16 : rw_h E a0 (x4.toInt) (x1.toInt).toNat = xe16.toInt := rw_h_of (m := a0) (i := x4) (c := x1) hxr1 exr15 exe16; intro a1 a2; (try rw [rf_xe3] at a1); (try rw [rf_xe3] at a2); (try rw [rf_xe12] at a1); (try rw [rf_xe12] at a2); (try rw [rf_xe16] at a1); (try rw [rf_xe16] at a2); omega)⟩, rfl, rfl, rfl⟩ (Nat.le_of_ble_eq_true rfl) (Nat.le_of_ble_eq_true rfl) dX12_stands_61
      · have hf35 : xe12.toInt = 0 := by have z := (fa_eq _ _).mp hc13; have : ((0 : Int32).toInt) = 0 := (by decide); omega
        refine lv_iconst (v := 0) hx hb dX12_stands_46 (by decide) ?_
        exact tw_zret hx hb hr hlocks (by decide) TH hS hex ⟨⟨_, rfl, (show 0 ≤ Int32.toInt 0 from by have : ((0 : Int32).toInt) = 0 := (by decide); omega), (show Int32.toInt 0 ≤ 1 from by have : ((0 : Int32).toInt) = 0 := (by decide); omega), (by have : ((0 : Int32).toInt) = 0 := (by decide); have rf_xe3 : rw_h E a0 (x2.toInt) (x1.toInt).toNat = xe3.toInt := rw_h_of (m := a0) (i := x2) (c := x1) hxr1 exr2 exe3; have rf_xe12 : rw_h E a0 (x3.toInt) (x1.toInt).toNat = xe12.toInt := rw_h_of (m := a0) (i := x3) (c := x1) hxr1 exr11 exe12; intro a1 a2; (try rw [rf_xe3] at a1); (try rw [rf_xe3] at a2); (try rw [rf_xe12] at a1); (try rw [rf_xe12] at a2); omega)⟩, rfl, rfl, rfl⟩ (Nat.le_of_ble_eq_true rfl) (Nat.le_of_ble_eq_true rfl) dX12_stands_47
  · have hf36 : ¬ (xe3.toInt = 0) := fun q => hc4 ((fa_eq _ _).mpr (by have : ((0 : Int32).toInt) = 0 := (by decide); omega))
    refine lv_aload_n hx hb dX12_stands_11 rfl (lv_at hl 0 rfl) ?_
    refine tw_get (ci := 12) (C := RX12) (T := TX12) (N := 64) hx hb hB cx_inX12 hown hK TH hm0 hk0 rfl ⟨by decide, rfl⟩ 16 (by decide) cw_1209 (fun _ h9 => h9) dX12_stands_12 (fun hv => ?_)
    rw [hxr1]
    refine lv_iload_n hx hb dX12_stands_15 rfl (lv_at hl 3 rfl) ?_
    refine tw_aald (k := 316) (t0 := 5) (n := 16) (lo := 326) (hi := 0) (ty := .boolean) hx hb hK TH hmxr1 hkxr1 (by decide) rfl rfl (i := x3) (vp_in_iff.mpr ⟨by  omega, by  omega⟩) dX12_stands_16 (fun xr37 exr37 hmxr37 hkxr37 => ?_)
    have hkxr37 : kp xr37 = 326 := hkxr37
    refine lv_iload_n hx hb dX12_stands_17 rfl (lv_at hl 1 rfl) ?_
    refine tw_zald (k := 326) (t0 := 3) (n := 150) (lo := 0) (hi := 1) hx hb hK TH hmxr37 hkxr37 (by decide) rfl rfl (i := x1) (vp_in_iff.mpr ⟨by  omega, by  omega⟩) dX12_stands_18 (fun hxe38a hxe38b => ?_)
    obtain ⟨xe38, exe38⟩ : ∃ z : Int32, tw_iv E xr37 (Int32.toNatClampNeg x1) = z := ⟨_, rfl⟩
    rw [exe38] at hxe38a hxe38b ⊢
    refine lv_if_eq (tgt := 24) hx hb dX12_stands_19 (by decide) (fun hc39 => ?_) (fun hc39 => ?_)
    · have hf40 : xe38.toInt = 0 := by have z := (fa_eq _ _).mp hc39; have : ((0 : Int32).toInt) = 0 := (by decide); omega
      refine lv_aload_n hx hb dX12_stands_24 rfl (lv_at hl 0 rfl) ?_
      refine tw_get (ci := 12) (C := RX12) (T := TX12) (N := 64) hx hb hB cx_inX12 hown hK TH hm0 hk0 rfl ⟨by decide, rfl⟩ 16 (by decide) cw_1209 (fun _ h9 => h9) dX12_stands_25 (fun hv => ?_)
      rw [hxr1]
      refine lv_iload_n hx hb dX12_stands_28 rfl (lv_at hl 2 rfl) ?_
      refine tw_aald (k := 316) (t0 := 5) (n := 16) (lo := 326) (hi := 0) (ty := .boolean) hx hb hK TH hmxr1 hkxr1 (by decide) rfl rfl (i := x2) (vp_in_iff.mpr ⟨by  omega, by  omega⟩) dX12_stands_29 (fun xr41 exr41 hmxr41 hkxr41 => ?_)
      have ezxr41 : xr2 = xr41 := exr2.symm.trans exr41
      subst ezxr41
      refine lv_iload_n hx hb dX12_stands_30 rfl (lv_at hl 1 rfl) ?_
      refine tw_zald (k := 326) (t0 := 3) (n := 150) (lo := 0) (hi := 1) hx hb hK TH hmxr2 hkxr2 (by decide) rfl rfl (i := x1) (vp_in_iff.mpr ⟨by  omega, by  omega⟩) dX12_stands_31 (fun hxe42a hxe42b => ?_)
      rw [exe3]
      refine lv_if_ne (tgt := 48) hx hb dX12_stands_32 (by decide) (fun hc43 => ?_) (fun hc43 => ?_)
      · have hf44 : ¬ (xe3.toInt = 0) := fun q => hc43 ((fa_eq _ _).mpr (by have : ((0 : Int32).toInt) = 0 := (by decide); omega))
        refine lv_aload_n hx hb dX12_stands_48 rfl (lv_at hl 0 rfl) ?_
        refine tw_get (ci := 12) (C := RX12) (T := TX12) (N := 64) hx hb hB cx_inX12 hown hK TH hm0 hk0 rfl ⟨by decide, rfl⟩ 16 (by decide) cw_1209 (fun _ h9 => h9) dX12_stands_49 (fun hv => ?_)
        rw [hxr1]
        refine lv_iload hx hb dX12_stands_52 (lv_at hl 4 rfl) ?_
        refine tw_aald (k := 316) (t0 := 5) (n := 16) (lo := 326) (hi := 0) (ty := .boolean) hx hb hK TH hmxr1 hkxr1 (by decide) rfl rfl (i := x4) (vp_in_iff.mpr ⟨by  omega, by  omega⟩) dX12_stands_54 (fun xr45 exr45 hmxr45 hkxr45 => ?_)
        have hkxr45 : kp xr45 = 326 := hkxr45
        refine lv_iload_n hx hb dX12_stands_55 rfl (lv_at hl 1 rfl) ?_
        refine tw_zald (k := 326) (t0 := 3) (n := 150) (lo := 0) (hi := 1) hx hb hK TH hmxr45 hkxr45 (by decide) rfl rfl (i := x1) (vp_in_iff.mpr ⟨by  omega, by  omega⟩) dX12_stands_56 (fun hxe46a hxe46b => ?_)
        obtain ⟨xe46, exe46⟩ : ∃ z : Int32, tw_iv E xr45 (Int32.toNatClampNeg x1) = z := ⟨_, rfl⟩
        rw [exe46] at hxe46a hxe46b ⊢
        refine lv_if_ne (tgt := 62) hx hb dX12_stands_57 (by decide) (fun hc47 => ?_) (fun hc47 => ?_)
        · have hf48 : ¬ (xe46.toInt = 0) := fun q => hc47 ((fa_eq _ _).mpr (by have : ((0 : Int32).toInt) = 0 := (by decide); omega))
          refine lv_aload_n hx hb dX12_stands_62 rfl (lv_at hl 0 rfl) ?_
          refine tw_get (ci := 12) (C := RX12) (T := TX12) (N := 64) hx hb hB cx_inX12 hown hK TH hm0 hk0 rfl ⟨by decide, rfl⟩ 16 (by decide) cw_1209 (fun _ h9 => h9) dX12_stands_63 (fun hv => ?_)
          rw [hxr1]
          refine lv_iload_n hx hb dX12_stands_66 rfl (lv_at hl 2 rfl) ?_
          refine tw_aald (k := 316) (t0 := 5) (n := 16) (lo := 326) (hi := 0) (ty := .boolean) hx hb hK TH hmxr1 hkxr1 (by decide) rfl rfl (i := x2) (vp_in_iff.mpr ⟨by  omega, by  omega⟩) dX12_stands_67 (fun xr49 exr49 hmxr49 hkxr49 => ?_)
          have ezxr49 : xr2 = xr49 := exr2.symm.trans exr49
          subst ezxr49
          refine lv_iload_n hx hb dX12_stands_68 rfl (lv_at hl 1 rfl) ?_
          refine tw_zald (k := 326) (t0 := 3) (n := 150) (lo := 0) (hi := 1) hx hb hK TH hmxr2 hkxr2 (by decide) rfl rfl (i := x1) (vp_in_iff.mpr ⟨by  omega, by  omega⟩) dX12_stands_69 (fun hxe50a hxe50b => ?_)
          rw [exe3]
          refine lv_if_eq (tgt := 77) hx hb dX12_stands_70 (by decide) (fun hc51 => ?_) (fun hc51 => ?_)
          · have hf52 : xe3.toInt = 0 := by have z := (fa_eq _ _).mp hc51; have : ((0 : Int32).toInt) = 0 := (by decide); omega
            exfalso; omega
          · have hf53 : ¬ (xe3.toInt = 0) := fun q => hc51 ((fa_eq _ _).mpr (by have : ((0 : Int32).toInt) = 0 := (by decide); omega))
            refine lv_iload_n hx hb dX12_stands_73 rfl (lv_at hl 2 rfl) ?_
            refine lv_goto (tgt := 78) hx hb dX12_stands_74 (by decide) ?_
            refine lv_istore (lv' := [(5, .int x2), (0, .ref a0), (1, .int x1), (2, .int x2), (3, .int x3), (4, .int x4)]) hx hb dX12_stands_78 hl (by decide) rfl (fun ls hl => ?_)
            refine lv_aload_n hx hb dX12_stands_80 rfl (lv_at hl 1 rfl) ?_
            refine lv_iload hx hb dX12_stands_81 (lv_at hl 0 rfl) ?_
            refine lv_iload_n hx hb dX12_stands_83 rfl (lv_at hl 2 rfl) ?_
            refine lv_iload hx hb dX12_stands_84 (lv_at hl 5 rfl) ?_
            refine tw_Vc (o := a0) (ci := 12) (n := 3) (post := (fun v kq Lq Eq => (∃ x : Int32, v = some (.int x) ∧ 0 ≤ x.toInt ∧ x.toInt ≤ 1) ∧ kp = kq ∧ L = Lq ∧ E = Eq)) (As := [.int x2, .int x1, .int x4]) (rest := []) ⟨hx, hb, hml, hown, hB⟩ (fun sz => tX12_isTouched l D cs a0 x2 x1 x4 hm0 hk0 (by omega) (by omega) (by omega) (by omega) hg0 sz) cg_12_465_X12_isTouched rfl rfl (by decide +kernel) ⟨Nat.le_of_ble_eq_true rfl, Nat.le_of_ble_eq_true rfl⟩ hK hN TH hS hA rfl hm0 hk0 (by decide) rfl hl.1 rfl (Nat.le_of_ble_eq_true rfl) dX12_stands_86 ⟨Nat.le_of_ble_eq_true rfl, Nat.le_of_ble_eq_true rfl⟩ (fun v54 kp54 L54 E54 H locs hq54 hx54 TH hS => ?_)
            obtain ⟨⟨xc55, rfl, hxc55a, hxc55b⟩, rfl, rfl, rfl⟩ := hq54
            refine W.eq (g2 := F0 m 89 ls [.int xc55]) rfl ?_
            refine lv_if_ne (tgt := 94) hx hb dX12_stands_89 (by decide) (fun hc56 => ?_) (fun hc56 => ?_)
            · have hf57 : ¬ (xc55.toInt = 0) := fun q => hc56 ((fa_eq _ _).mpr (by have : ((0 : Int32).toInt) = 0 := (by decide); omega))
              refine lv_aload_n hx hb dX12_stands_94 rfl (lv_at hl 1 rfl) ?_
              refine lv_iload_n hx hb dX12_stands_95 rfl (lv_at hl 2 rfl) ?_
              refine lv_iconst (v := 1) hx hb dX12_stands_96 (by decide) ?_
              refine lv_iload_n hx hb dX12_stands_97 rfl (lv_at hl 3 rfl) ?_
              refine lv_iload_n hx hb dX12_stands_98 rfl (lv_at hl 4 rfl) ?_
              refine tw_Vc (o := a0) (ci := 12) (n := 4) (post := (fun v kq Lq Eq => (∃ x : Int32, v = some (.int x) ∧ (-1) ≤ x.toInt ∧ x.toInt ≤ 11 ∧ (x.toInt = -1 ↔ st_ns E a0 x1.toInt (1 : Int32).toInt x2.toInt x3.toInt)) ∧ kp = kq ∧ L = Lq ∧ E = Eq)) (As := [.int x1, .int 1, .int x2, .int x3]) (rest := []) ⟨hx, hb, hml, hown, hB⟩ (fun sz => tX12_settledFor l D cs a0 x1 (1 : Int32) x2 x3 hm0 hk0 sz) cg_12_461_X12_settledFor rfl rfl (by decide +kernel) ⟨Nat.le_of_ble_eq_true rfl, Nat.le_of_ble_eq_true rfl⟩ hK hN TH hS hA rfl hm0 hk0 (by decide) rfl hl.1 rfl (Nat.le_of_ble_eq_true rfl) dX12_stands_99 ⟨Nat.le_of_ble_eq_true rfl, Nat.le_of_ble_eq_true rfl⟩ (fun v58 kp58 L58 E58 H locs hq58 hx58 TH hS => ?_)
              obtain ⟨⟨xc59, rfl, hxc59a, hxc59b, hpoxc59_0⟩, rfl, rfl, rfl⟩ := hq58
              refine W.eq (g2 := F0 m 102 ls [.int xc59]) rfl ?_
              refine lv_iload hx hb dX12_stands_102 (lv_at hl 0 rfl) ?_
              refine lv_icmp_ne (tgt := 111) hx hb dX12_stands_104 (by decide) (fun hc60 => ?_) (fun hc60 => ?_)
              · have hf61 : ¬ (xc59.toInt = x2.toInt) := fun q => hc60 ((fa_eq _ _).mpr (by  omega))
                refine lv_iconst (v := 0) hx hb dX12_stands_111 (by decide) ?_
                exact tw_zret hx hb hr hlocks (by decide) TH hS hex ⟨⟨_, rfl, (show 0 ≤ Int32.toInt 0 from by have : ((0 : Int32).toInt) = 0 := (by decide); omega), (show Int32.toInt 0 ≤ 1 from by have : ((0 : Int32).toInt) = 0 := (by decide); omega), (by have : ((0 : Int32).toInt) = 0 := (by decide); have rf_xe3 : rw_h E a0 (x2.toInt) (x1.toInt).toNat = xe3.toInt := rw_h_of (m := a0) (i := x2) (c := x1) hxr1 exr2 exe3; have rf_xe38 : rw_h E a0 (x3.toInt) (x1.toInt).toNat = xe38.toInt := rw_h_of (m := a0) (i := x3) (c := x1) hxr1 exr37 exe38; have rf_xe46 : rw_h E a0 (x4.toInt) (x1.toInt).toNat = xe46.toInt := rw_h_of (m := a0) (i := x4) (c := x1) hxr1 exr45 exe46; intro a1 a2; (try rw [rf_xe3] at a1); (try rw [rf_xe3] at a2); (try rw [rf_xe38] at a1); (try rw [rf_xe38] at a2); (try rw [rf_xe46] at a1); (try rw [rf_xe46] at a2); omega)⟩, rfl, rfl, rfl⟩ (Nat.le_of_ble_eq_true rfl) (Nat.le_of_ble_eq_true rfl) dX12_stands_112
              · have hf62 : xc59.toInt = x2.toInt := by have z := (fa_eq _ _).mp hc60;  omega
                refine lv_iconst (v := 1) hx hb dX12_stands_107 (by decide) ?_
                refine lv_goto (tgt := 112) hx hb dX12_stands_108 (by decide) ?_
                exact tw_zret hx hb hr hlocks (by decide) TH hS hex ⟨⟨_, rfl, (show 0 ≤ Int32.toInt 1 from by have : ((1 : Int32).toInt) = 1 := (by decide); omega), (show Int32.toInt 1 ≤ 1 from by have : ((1 : Int32).toInt) = 1 := (by decide); omega), (by have : ((1 : Int32).toInt) = 1 := (by decide); have rf_xe3 : rw_h E a0 (x2.toInt) (x1.toInt).toNat = xe3.toInt := rw_h_of (m := a0) (i := x2) (c := x1) hxr1 exr2 exe3; have rf_xe38 : rw_h E a0 (x3.toInt) (x1.toInt).toNat = xe38.toInt := rw_h_of (m := a0) (i := x3) (c := x1) hxr1 exr37 exe38; have rf_xe46 : rw_h E a0 (x4.toInt) (x1.toInt).toNat = xe46.toInt := rw_h_of (m := a0) (i := x4) (c := x1) hxr1 exr45 exe46; intro a1 a2; (try rw [rf_xe3] at a1); (try rw [rf_xe3] at a2); (try rw [rf_xe38] at a1); (try rw [rf_xe38] at a2); (try rw [rf_xe46] at a1); (try rw [rf_xe46] at a2); omega)⟩, rfl, rfl, rfl⟩ (Nat.le_of_ble_eq_true rfl) (Nat.le_of_ble_eq_true rfl) dX12_stands_112
            · have hf63 : xc55.toInt = 0 := by have z := (fa_eq _ _).mp hc56; have : ((0 : Int32).toInt) = 0 := (by decide); omega
              refine lv_iconst (v := 0) hx hb dX12_stands_92 (by decide) ?_
              exact tw_zret hx hb hr hlocks (by decide) TH hS hex ⟨⟨_, rfl, (show 0 ≤ Int32.toInt 0 from by have : ((0 : Int32).toInt) = 0 := (by decide); omega), (show Int32.toInt 0 ≤ 1 from by have : ((0 : Int32).toInt) = 0 := (by decide); omega), (by have : ((0 : Int32).toInt) = 0 := (by decide); have rf_xe3 : rw_h E a0 (x2.toInt) (x1.toInt).toNat = xe3.toInt := rw_h_of (m := a0) (i := x2) (c := x1) hxr1 exr2 exe3; have rf_xe38 : rw_h E a0 (x3.toInt) (x1.toInt).toNat = xe38.toInt := rw_h_of (m := a0) (i := x3) (c := x1) hxr1 exr37 exe38; have rf_xe46 : rw_h E a0 (x4.toInt) (x1.toInt).toNat = xe46.toInt := rw_h_of (m := a0) (i := x4) (c := x1) hxr1 exr45 exe46; intro a1 a2; (try rw [rf_xe3] at a1); (try rw [rf_xe3] at a2); (try rw [rf_xe38] at a1); (try rw [rf_xe38] at a2); (try rw [rf_xe46] at a1); (try rw [rf_xe46] at a2); omega)⟩, rfl, rfl, rfl⟩ (Nat.le_of_ble_eq_true rfl) (Nat.le_of_ble_eq_true rfl) dX12_stands_93
        · have hf64 : xe46.toInt = 0 := by have z := (fa_eq _ _).mp hc47; have : ((0 : Int32).toInt) = 0 := (by decide); omega
          refine lv_iconst (v := 1) hx hb dX12_stands_60 (by decide) ?_
          exact tw_zret hx hb hr hlocks (by decide) TH hS hex ⟨⟨_, rfl, (show 0 ≤ Int32.toInt 1 from by have : ((1 : Int32).toInt) = 1 := (by decide); omega), (show Int32.toInt 1 ≤ 1 from by have : ((1 : Int32).toInt) = 1 := (by decide); omega), (by have : ((1 : Int32).toInt) = 1 := (by decide); have rf_xe3 : rw_h E a0 (x2.toInt) (x1.toInt).toNat = xe3.toInt := rw_h_of (m := a0) (i := x2) (c := x1) hxr1 exr2 exe3; have rf_xe38 : rw_h E a0 (x3.toInt) (x1.toInt).toNat = xe38.toInt := rw_h_of (m := a0) (i := x3) (c := x1) hxr1 exr37 exe38; have rf_xe46 : rw_h E a0 (x4.toInt) (x1.toInt).toNat = xe46.toInt := rw_h_of (m := a0) (i := x4) (c := x1) hxr1 exr45 exe46; intro a1 a2; (try rw [rf_xe3] at a1); (try rw [rf_xe3] at a2); (try rw [rf_xe38] at a1); (try rw [rf_xe38] at a2); (try rw [rf_xe46] at a1); (try rw [rf_xe46] at a2); omega)⟩, rfl, rfl, rfl⟩ (Nat.le_of_ble_eq_true rfl) (Nat.le_of_ble_eq_true rfl) dX12_stands_61
      · have hf65 : xe3.toInt = 0 := by have z := (fa_eq _ _).mp hc43; have : ((0 : Int32).toInt) = 0 := (by decide); omega
        exfalso; omega
    · have hf66 : ¬ (xe38.toInt = 0) := fun q => hc39 ((fa_eq _ _).mpr (by have : ((0 : Int32).toInt) = 0 := (by decide); omega))
      refine lv_iconst (v := 1) hx hb dX12_stands_22 (by decide) ?_
      exact tw_zret hx hb hr hlocks (by decide) TH hS hex ⟨⟨_, rfl, (show 0 ≤ Int32.toInt 1 from by have : ((1 : Int32).toInt) = 1 := (by decide); omega), (show Int32.toInt 1 ≤ 1 from by have : ((1 : Int32).toInt) = 1 := (by decide); omega), (by have : ((1 : Int32).toInt) = 1 := (by decide); have rf_xe3 : rw_h E a0 (x2.toInt) (x1.toInt).toNat = xe3.toInt := rw_h_of (m := a0) (i := x2) (c := x1) hxr1 exr2 exe3; have rf_xe38 : rw_h E a0 (x3.toInt) (x1.toInt).toNat = xe38.toInt := rw_h_of (m := a0) (i := x3) (c := x1) hxr1 exr37 exe38; intro a1 a2; (try rw [rf_xe3] at a1); (try rw [rf_xe3] at a2); (try rw [rf_xe38] at a1); (try rw [rf_xe38] at a2); omega)⟩, rfl, rfl, rfl⟩ (Nat.le_of_ble_eq_true rfl) (Nat.le_of_ble_eq_true rfl) dX12_stands_23
set_option maxHeartbeats 4000000 in
set_option maxRecDepth 100000 in
theorem tX12_firstQuarrels (l : Launch) (D : va_G) (cs : Nat → ClassId) {kp : Nat → Nat} {L : List Nat} {E : Nat → va_E} (a0 : Nat) (x1 : Int32) (x2 : Int32) (x3 : Int32) (hm0 : a0 ∈ L) (hk0 : kp a0 = 12) (hp1a : 0 ≤ x1.toInt) (hp1b : x1.toInt ≤ 15) (hp2a : 0 ≤ x2.toInt) (hp2b : x2.toInt ≤ 15) (hp3a : 0 ≤ x3.toInt) (hp3b : x3.toInt ≤ 15) (hg0 : rw_ok E a0 (x1.toInt)) (hg1 : rw_ok E a0 (x2.toInt)) (sz : Nat) : Met l yX12_firstQuarrels (.code yX12_firstQuarrels cX12_firstQuarrels 6 none :: cx_big) { frames := 2, cells := 0, slots := 0, locals := 52 } (tw_P D cs kp L E [.ref a0, .int x1, .int x2, .int x3] sz) (tw_Q D cs kp L (fun v kq Lq Eq => v = none ∧ kp = kq ∧ L = Lq ∧ tw_fr kp L [(12, 57)] [359] E Eq ∧ (tw_fi Eq a0 57 = 0 → fq_ok E a0 x1.toInt x2.toInt x3.toInt 4 0) ∧ (∃ z0 : Int32, tw_fv Eq a0 57 = .int z0 ∧ (z0.toInt ≤ 450))) (va_A (va_pl L E) sz)) 0 0 (va_A (va_pl L E) sz) := by
  refine tw_ofW (by decide) (Nat.le_of_ble_eq_true rfl) ?_
  intro p e s m below meth c A ls hx hb hr hml hB hown hlocks hK hN hA TH hS hl
  have hown : s.vm.findClass "TreeMergeModel" = some m.cls := hown
  have hl : lv_has ls 6 [(0, .ref a0), (1, .int x1), (2, .int x2), (3, .int x3)] := hl
  obtain ⟨kp0, ekp⟩ : ∃ z, z = kp := ⟨_, rfl⟩
  obtain ⟨L0, eL⟩ : ∃ z, z = L := ⟨_, rfl⟩
  rw [show tw_Q D cs kp L = tw_Q D cs kp0 L0 by rw [ekp, eL]]
  have hex : ∀ a : Nat, a ∈ L0 → a ∈ L ∧ kp a = kp0 a := fun a h => ⟨by rw [← eL]; exact h, by rw [ekp]⟩
  have hF : tw_fr kp L [(12, 57)] [359] E E := tw_fr.rf
  refine lv_aload_n hx hb dX12_firstQuarrels_0 rfl (lv_at hl 0 rfl) ?_
  refine lv_iconst (v := 0) hx hb dX12_firstQuarrels_1 (by decide) ?_
  refine tw_put (ci := 12) (v := .int 0) (ty := .int) (C := RX12) (T := TX12) (N := 64) hx hb hB cx_inX12 tyX12 tyX12_ok nmX12 hown hK TH hS hm0 hk0 rfl ⟨by decide, rfl⟩ 57 (by decide) cw_1250 (fun _ h9 => h9) rfl (by decide +kernel) rfl rfl ⟨_, rfl, (show 0 ≤ Int32.toInt 0 from by have : ((0 : Int32).toInt) = 0 := (by decide); omega), (show Int32.toInt 0 ≤ 1200 from by have : ((0 : Int32).toInt) = 0 := (by decide); omega)⟩ dX12_firstQuarrels_2 (fun H locs E1 TH hS hmf5 hp2 hp3 => ?_)
  have hst4 : tw_fr kp L [(12, 57)] [] E E1 := tw_fr.put tw_fr.rf (fun _ => hk0) (by decide) hp2 hp3 (by decide)
  have hF := hF.tr hst4 (fun _ h => ⟨h, rfl⟩) (by decide) (by decide)
  have hg0 : rw_ok E1 a0 (x1.toInt) := rw_ok_fr TH hst4 hm0 hk0 (by decide) (by decide) (by omega) hg0
  have hg1 : rw_ok E1 a0 (x2.toInt) := rw_ok_fr TH hst4 hm0 hk0 (by decide) (by decide) (by omega) hg1
  refine lv_iconst (v := 0) hx hb dX12_firstQuarrels_5 (by decide) ?_
  refine lv_istore (lv' := [(4, .int 0), (0, .ref a0), (1, .int x1), (2, .int x2), (3, .int x3)]) hx hb dX12_firstQuarrels_6 hl (by decide) rfl (fun ls hl => ?_)
  have hJ8 : ∀ (n8 : Nat) (y8_4 : Int32) (u8_0_57 : Int32) (Eg8 : Nat → va_E) (H : Heap) (locs : List Loc) (ls : Array Slot), 0 ≤ y8_4.toInt → y8_4.toInt ≤ 150 → 0 ≤ u8_0_57.toInt → u8_0_57.toInt ≤ 1200 → (u8_0_57.toInt ≤ y8_4.toInt) → 150 - y8_4.toInt ≤ (n8 : Int) → tw_fv Eg8 a0 57 = .int u8_0_57 → tw_fr kp L [(12, 57)] [359] E1 Eg8 → rw_ok Eg8 a0 (x1.toInt) → rw_ok Eg8 a0 (x2.toInt) → tw_H D cs kp L Eg8 A H → va_S A s.heap H locs → lv_has ls 6 [(4, .int y8_4), (0, .ref a0), (1, .int x1), (2, .int x2), (3, .int x3)] → W p l e { frames := 2, cells := 0, slots := 0, locals := 52 } s m [.ref a0, .int x1, .int x2, .int x3].toArray below meth c H locs 0 0 (MQ below (tw_Q D cs kp0 L0 (fun v kq Lq Eq => v = none ∧ kp = kq ∧ L = Lq ∧ tw_fr kp L [(12, 57)] [359] E Eq ∧ (tw_fi Eq a0 57 = 0 → fq_ok E a0 x1.toInt x2.toInt x3.toInt 4 0) ∧ (∃ z0 : Int32, tw_fv Eq a0 57 = .int z0 ∧ (z0.toInt ≤ 450))) A) [.ref a0, .int x1, .int x2, .int x3].toArray s 0 0 A) (F0 m 8 ls []) := by
    intro n8
    induction n8 using Nat.strongRecOn with
    | _ n8 ih8 =>
      intro y8_4 u8_0_57 Eg8 H locs ls hy8_4a hy8_4b hu8_0_57a hu8_0_57b hin8_0 hmeas8 hfm8_0 hG8 hg0 hg1 TH hS hl
      have hF := hF.tr hG8 (fun _ h => ⟨h, rfl⟩) (by decide) (by decide)
      refine lv_iload hx hb dX12_firstQuarrels_8 (lv_at hl 0 rfl) ?_
      refine lv_aload_n hx hb dX12_firstQuarrels_10 rfl (lv_at hl 1 rfl) ?_
      refine tw_get (ci := 12) (C := RX12) (T := TX12) (N := 64) hx hb hB cx_inX12 hown hK TH hm0 hk0 rfl ⟨by decide, rfl⟩ 26 (by decide) cw_1219 (fun _ h9 => h9) dX12_firstQuarrels_11 (fun hv => ?_)
      obtain ⟨xi6, hxi6, hxi6a, hxi6b⟩ : ∃ x : Int32, tw_fv Eg8 a0 26 = .int x ∧ 0 ≤ x.toInt ∧ x.toInt ≤ 150 := hv
      rw [hxi6]
      refine lv_icmp_ge (tgt := 106) hx hb dX12_firstQuarrels_14 (by decide) (fun hc7 => ?_) (fun hc7 => ?_)
      · have hf8 : xi6.toInt ≤ y8_4.toInt := by have z := (fa_le _ _).mp hc7;  omega
        refine lv_iconst (v := 2) hx hb dX12_firstQuarrels_106 (by decide) ?_
        refine lv_istore (lv' := [(4, .int 2), (0, .ref a0), (1, .int x1), (2, .int x2), (3, .int x3)]) hx hb dX12_firstQuarrels_107 hl (by decide) rfl (fun ls hl => ?_)
        have hJ109 : ∀ (n109 : Nat) (y109_4 : Int32) (u109_0_57 : Int32) (Eg109 : Nat → va_E) (H : Heap) (locs : List Loc) (ls : Array Slot), 2 ≤ y109_4.toInt → y109_4.toInt ≤ 4 → 0 ≤ u109_0_57.toInt → u109_0_57.toInt ≤ 1200 → (u109_0_57.toInt ≤ 150 * y109_4.toInt - 150) → (u109_0_57.toInt = 0 → fq_ok E a0 (x1.toInt) (x2.toInt) (x3.toInt) (y109_4.toInt) 0) → 4 - y109_4.toInt ≤ (n109 : Int) → tw_fv Eg109 a0 57 = .int u109_0_57 → tw_fr kp L [(12, 57)] [359] Eg8 Eg109 → rw_ok Eg109 a0 (x1.toInt) → rw_ok Eg109 a0 (x2.toInt) → tw_H D cs kp L Eg109 A H → va_S A s.heap H locs → lv_has ls 6 [(4, .int y109_4), (0, .ref a0), (1, .int x1), (2, .int x2), (3, .int x3)] → W p l e { frames := 2, cells := 0, slots := 0, locals := 52 } s m [.ref a0, .int x1, .int x2, .int x3].toArray below meth c H locs 0 0 (MQ below (tw_Q D cs kp0 L0 (fun v kq Lq Eq => v = none ∧ kp = kq ∧ L = Lq ∧ tw_fr kp L [(12, 57)] [359] E Eq ∧ (tw_fi Eq a0 57 = 0 → fq_ok E a0 x1.toInt x2.toInt x3.toInt 4 0) ∧ (∃ z0 : Int32, tw_fv Eq a0 57 = .int z0 ∧ (z0.toInt ≤ 450))) A) [.ref a0, .int x1, .int x2, .int x3].toArray s 0 0 A) (F0 m 109 ls []) := by
          intro n109
          induction n109 using Nat.strongRecOn with
          | _ n109 ih109 =>
            intro y109_4 u109_0_57 Eg109 H locs ls hy109_4a hy109_4b hu109_0_57a hu109_0_57b hin109_0 hin109_1 hmeas109 hfm109_0 hG109 hg0 hg1 TH hS hl
            have hF := hF.tr hG109 (fun _ h => ⟨h, rfl⟩) (by decide) (by decide)
            have hG8 := hG8.tr hG109 (fun _ h => ⟨h, rfl⟩) (by decide) (by decide)
            have hmf9 : tw_fv Eg109 a0 26 = .int xi6 := (hG109.1 a0 26 hm0 (by rw [hk0]; decide)).trans hxi6
            refine lv_iload hx hb dX12_firstQuarrels_109 (lv_at hl 0 rfl) ?_
            refine lv_iconst (v := 3) hx hb dX12_firstQuarrels_111 (by decide) ?_
            refine lv_icmp_gt (tgt := 195) hx hb dX12_firstQuarrels_112 (by decide) (fun hc10 => ?_) (fun hc10 => ?_)
            · have hf11 : 3 < y109_4.toInt := by have z := (fa_lt _ _).mp hc10; have : ((3 : Int32).toInt) = 3 := (by decide); omega
              exact tw_vret hx hb hr hlocks TH hS hex ⟨rfl, rfl, rfl, hF, (by  intro q0; rw [tw_fi_of hfm109_0] at q0; have z := hin109_1 q0; rw [show y109_4.toInt = 4 by omega] at z; exact z), ⟨u109_0_57, hfm109_0, by  omega⟩⟩ (Nat.le_of_ble_eq_true rfl) (Nat.le_of_ble_eq_true rfl) dX12_firstQuarrels_195
            · have hf12 : ¬ (3 < y109_4.toInt) := fun q => hc10 ((fa_lt _ _).mpr (by have : ((3 : Int32).toInt) = 3 := (by decide); omega))
              refine lv_iconst (v := 0) hx hb dX12_firstQuarrels_115 (by decide) ?_
              refine lv_istore (lv' := [(5, .int 0), (4, .int y109_4), (0, .ref a0), (1, .int x1), (2, .int x2), (3, .int x3)]) hx hb dX12_firstQuarrels_116 hl (by decide) rfl (fun ls hl => ?_)
              have hJ118 : ∀ (n118 : Nat) (y118_5 : Int32) (u118_0_57 : Int32) (Eg118 : Nat → va_E) (H : Heap) (locs : List Loc) (ls : Array Slot), 0 ≤ y118_5.toInt → y118_5.toInt ≤ 150 → 0 ≤ u118_0_57.toInt → u118_0_57.toInt ≤ 1200 → (u118_0_57.toInt ≤ 150 * y109_4.toInt - 150 + y118_5.toInt) → (u118_0_57.toInt = 0 → fq_ok E a0 (x1.toInt) (x2.toInt) (x3.toInt) (y109_4.toInt) (y118_5.toInt)) → 150 - y118_5.toInt ≤ (n118 : Int) → tw_fv Eg118 a0 57 = .int u118_0_57 → tw_fr kp L [(12, 57)] [359] Eg109 Eg118 → rw_ok Eg118 a0 (x1.toInt) → rw_ok Eg118 a0 (x2.toInt) → tw_H D cs kp L Eg118 A H → va_S A s.heap H locs → lv_has ls 6 [(5, .int y118_5), (4, .int y109_4), (0, .ref a0), (1, .int x1), (2, .int x2), (3, .int x3)] → W p l e { frames := 2, cells := 0, slots := 0, locals := 52 } s m [.ref a0, .int x1, .int x2, .int x3].toArray below meth c H locs 0 0 (MQ below (tw_Q D cs kp0 L0 (fun v kq Lq Eq => v = none ∧ kp = kq ∧ L = Lq ∧ tw_fr kp L [(12, 57)] [359] E Eq ∧ (tw_fi Eq a0 57 = 0 → fq_ok E a0 x1.toInt x2.toInt x3.toInt 4 0) ∧ (∃ z0 : Int32, tw_fv Eq a0 57 = .int z0 ∧ (z0.toInt ≤ 450))) A) [.ref a0, .int x1, .int x2, .int x3].toArray s 0 0 A) (F0 m 118 ls []) := by
                intro n118
                induction n118 using Nat.strongRecOn with
                | _ n118 ih118 =>
                  intro y118_5 u118_0_57 Eg118 H locs ls hy118_5a hy118_5b hu118_0_57a hu118_0_57b hin118_0 hin118_1 hmeas118 hfm118_0 hG118 hg0 hg1 TH hS hl
                  have hF := hF.tr hG118 (fun _ h => ⟨h, rfl⟩) (by decide) (by decide)
                  have hG8 := hG8.tr hG118 (fun _ h => ⟨h, rfl⟩) (by decide) (by decide)
                  have hG109 := hG109.tr hG118 (fun _ h => ⟨h, rfl⟩) (by decide) (by decide)
                  have hmf13 : tw_fv Eg118 a0 26 = .int xi6 := (hG118.1 a0 26 hm0 (by rw [hk0]; decide)).trans hmf9
                  refine lv_iload hx hb dX12_firstQuarrels_118 (lv_at hl 0 rfl) ?_
                  refine lv_aload_n hx hb dX12_firstQuarrels_120 rfl (lv_at hl 2 rfl) ?_
                  refine tw_get (ci := 12) (C := RX12) (T := TX12) (N := 64) hx hb hB cx_inX12 hown hK TH hm0 hk0 rfl ⟨by decide, rfl⟩ 26 (by decide) cw_1219 (fun _ h9 => h9) dX12_firstQuarrels_121 (fun hv => ?_)
                  rw [hmf13]
                  refine lv_icmp_ge (tgt := 189) hx hb dX12_firstQuarrels_124 (by decide) (fun hc14 => ?_) (fun hc14 => ?_)
                  · have hf15 : xi6.toInt ≤ y118_5.toInt := by have z := (fa_le _ _).mp hc14;  omega
                    obtain ⟨zi16, ezi16⟩ : ∃ z : Int32, z = y109_4 + Int32.ofInt 1 := ⟨_, rfl⟩
                    have hzi16 : zi16.toInt = y109_4.toInt + 1 := by rw [ezi16]; have : ((Int32.ofInt 1).toInt) = 1 := (by decide);  exact (ia_add (by omega) (by omega)).trans (by omega)
                    refine lv_iinc (v := zi16) (lv' := [(4, .int zi16), (5, .int y118_5), (0, .ref a0), (1, .int x1), (2, .int x2), (3, .int x3)]) hx hb dX12_firstQuarrels_189 hl (k := 1) rfl ezi16.symm (by decide) rfl (fun ls hl => ?_)
                    refine lv_goto (tgt := 109) hx hb dX12_firstQuarrels_192 (by decide) ?_
                    exact ih109 (n109 - 1) (by   omega) zi16 u118_0_57 _ _ _ ls (by omega) (by omega) (by omega) (by omega) (by  omega) (by  intro q0; exact fq_next (hin118_1 q0) (by omega) (by rw [← tw_fi_fr hF hm0 hk0 (k := 26) (by decide), tw_fi_of hmf13]; omega) (by omega)) (by   omega) hfm118_0 hG109 hg0 hg1 TH hS (lv_sub hl [0, 2, 3, 4, 5] rfl)
                  · have hf17 : ¬ (xi6.toInt ≤ y118_5.toInt) := fun q => hc14 ((fa_le _ _).mpr (by  omega))
                    refine lv_aload_n hx hb dX12_firstQuarrels_127 rfl (lv_at hl 2 rfl) ?_
                    refine tw_get (ci := 12) (C := RX12) (T := TX12) (N := 64) hx hb hB cx_inX12 hown hK TH hm0 hk0 rfl ⟨by decide, rfl⟩ 16 (by decide) cw_1209 (fun _ h9 => h9) dX12_firstQuarrels_128 (fun hv => ?_)
                    obtain ⟨xr18, hxr18, hmxr18, hkxr18⟩ : ∃ a : Nat, tw_fv Eg118 a0 16 = .ref a ∧ a ∈ L ∧ kp a = 316 := hv
                    rw [hxr18]
                    refine lv_iload_n hx hb dX12_firstQuarrels_131 rfl (lv_at hl 3 rfl) ?_
                    refine tw_aald (k := 316) (t0 := 5) (n := 16) (lo := 326) (hi := 0) (ty := .boolean) hx hb hK TH hmxr18 hkxr18 (by decide) rfl rfl (i := x1) (vp_in_iff.mpr ⟨by  omega, by  omega⟩) dX12_firstQuarrels_132 (fun xr19 exr19 hmxr19 hkxr19 => ?_)
                    have hkxr19 : kp xr19 = 326 := hkxr19
                    refine lv_iload hx hb dX12_firstQuarrels_133 (lv_at hl 0 rfl) ?_
                    refine tw_zald (k := 326) (t0 := 3) (n := 150) (lo := 0) (hi := 1) hx hb hK TH hmxr19 hkxr19 (by decide) rfl rfl (i := y118_5) (vp_in_iff.mpr ⟨by  omega, by  omega⟩) dX12_firstQuarrels_135 (fun hxe20a hxe20b => ?_)
                    obtain ⟨xe20, exe20⟩ : ∃ z : Int32, tw_iv Eg118 xr19 (Int32.toNatClampNeg y118_5) = z := ⟨_, rfl⟩
                    rw [exe20] at hxe20a hxe20b ⊢
                    have hJ183 : ∀ (u183_0_57 : Int32) (Eg183 : Nat → va_E) (H : Heap) (locs : List Loc) (ls : Array Slot), 0 ≤ u183_0_57.toInt → u183_0_57.toInt ≤ 1200 → (u183_0_57.toInt ≤ 150 * y109_4.toInt - 149 + y118_5.toInt) → (u183_0_57.toInt = 0 → fq_ok E a0 (x1.toInt) (x2.toInt) (x3.toInt) (y109_4.toInt) (y118_5.toInt + 1)) → tw_fv Eg183 a0 57 = .int u183_0_57 → tw_fr kp L [(12, 57)] [359] Eg118 Eg183 → rw_ok Eg183 a0 (x1.toInt) → rw_ok Eg183 a0 (x2.toInt) → tw_H D cs kp L Eg183 A H → va_S A s.heap H locs → lv_has ls 6 [(5, .int y118_5), (4, .int y109_4), (0, .ref a0), (1, .int x1), (2, .int x2), (3, .int x3)] → W p l e { frames := 2, cells := 0, slots := 0, locals := 52 } s m [.ref a0, .int x1, .int x2, .int x3].toArray below meth c H locs 0 0 (MQ below (tw_Q D cs kp0 L0 (fun v kq Lq Eq => v = none ∧ kp = kq ∧ L = Lq ∧ tw_fr kp L [(12, 57)] [359] E Eq ∧ (tw_fi Eq a0 57 = 0 → fq_ok E a0 x1.toInt x2.toInt x3.toInt 4 0) ∧ (∃ z0 : Int32, tw_fv Eq a0 57 = .int z0 ∧ (z0.toInt ≤ 450))) A) [.ref a0, .int x1, .int x2, .int x3].toArray s 0 0 A) (F0 m 183 ls []) := by
                      intro u183_0_57 Eg183 H locs ls hu183_0_57a hu183_0_57b hin183_0 hin183_1 hfm183_0 hG183 hg0 hg1 TH hS hl
                      have hF := hF.tr hG183 (fun _ h => ⟨h, rfl⟩) (by decide) (by decide)
                      have hG8 := hG8.tr hG183 (fun _ h => ⟨h, rfl⟩) (by decide) (by decide)
                      have hG109 := hG109.tr hG183 (fun _ h => ⟨h, rfl⟩) (by decide) (by decide)
                      have hG118 := hG118.tr hG183 (fun _ h => ⟨h, rfl⟩) (by decide) (by decide)
                      have hmf21 : tw_fv Eg183 a0 26 = .int xi6 := (hG183.1 a0 26 hm0 (by rw [hk0]; decide)).trans hmf13
                      have hmf22 : tw_fv Eg183 a0 16 = .ref xr18 := (hG183.1 a0 16 hm0 (by rw [hk0]; decide)).trans hxr18
                      obtain ⟨zi23, ezi23⟩ : ∃ z : Int32, z = y118_5 + Int32.ofInt 1 := ⟨_, rfl⟩
                      have hzi23 : zi23.toInt = y118_5.toInt + 1 := by rw [ezi23]; have : ((Int32.ofInt 1).toInt) = 1 := (by decide);  exact (ia_add (by omega) (by omega)).trans (by omega)
                      refine lv_iinc (v := zi23) (lv' := [(5, .int zi23), (4, .int y109_4), (0, .ref a0), (1, .int x1), (2, .int x2), (3, .int x3)]) hx hb dX12_firstQuarrels_183 hl (k := 0) rfl ezi23.symm (by decide) rfl (fun ls hl => ?_)
                      refine lv_goto (tgt := 118) hx hb dX12_firstQuarrels_186 (by decide) ?_
                      exact ih118 (n118 - 1) (by   omega) zi23 u183_0_57 _ _ _ ls (by omega) (by omega) (by omega) (by omega) (by  omega) (by  intro q0; rw [show (zi23.toInt) = y118_5.toInt + 1 by omega]; exact hin183_1 q0) (by   omega) hfm183_0 hG118 hg0 hg1 TH hS (lv_sub hl [0, 1, 2, 3, 4, 5] rfl)
                    have hG183 : tw_fr kp L [(12, 57)] [359] Eg118 Eg118 := tw_fr.rf
                    refine lv_if_eq (tgt := 183) hx hb dX12_firstQuarrels_136 (by decide) (fun hc24 => ?_) (fun hc24 => ?_)
                    · have hf25 : xe20.toInt = 0 := by have z := (fa_eq _ _).mp hc24; have : ((0 : Int32).toInt) = 0 := (by decide); omega
                      exact hJ183 u118_0_57 _ _ _ ls (by omega) (by omega) (by  omega) (by  intro q0; refine fq_step (hin118_1 (by omega)) rfl (fun q => ?_) (fun q => ?_); (have rf_xe20 : rw_h Eg118 a0 (x1.toInt) (y118_5.toInt).toNat = xe20.toInt := rw_h_of (m := a0) (i := x1) (c := y118_5) hxr18 exr19 exe20; have fa := rw_h_fr TH hF hm0 hk0 (by decide) (by decide) (by decide) (i := x1.toInt) (by omega); have fb := rw_h_fr TH hF hm0 hk0 (by decide) (by decide) (by decide) (i := x2.toInt) (by omega); intro u; have u1 := u.1; have u2 := u.2.1; rw [← fa] at u1; rw [← fb] at u2; (try rw [rf_xe20] at u1); (try rw [rf_xe20] at u2); omega); (have rf_xe20 : rw_h Eg118 a0 (x1.toInt) (y118_5.toInt).toNat = xe20.toInt := rw_h_of (m := a0) (i := x1) (c := y118_5) hxr18 exr19 exe20; have fa := rw_h_fr TH hF hm0 hk0 (by decide) (by decide) (by decide) (i := x1.toInt) (by omega); have fb := rw_h_fr TH hF hm0 hk0 (by decide) (by decide) (by decide) (i := x2.toInt) (by omega); intro u; have u1 := u.1; have u2 := u.2.1; rw [← fa] at u1; rw [← fb] at u2; (try rw [rf_xe20] at u1); (try rw [rf_xe20] at u2); omega)) hfm118_0 hG183 hg0 hg1 TH hS (lv_sub hl [0, 1, 2, 3, 4, 5] rfl)
                    · have hf26 : ¬ (xe20.toInt = 0) := fun q => hc24 ((fa_eq _ _).mpr (by have : ((0 : Int32).toInt) = 0 := (by decide); omega))
                      refine lv_aload_n hx hb dX12_firstQuarrels_139 rfl (lv_at hl 2 rfl) ?_
                      refine tw_get (ci := 12) (C := RX12) (T := TX12) (N := 64) hx hb hB cx_inX12 hown hK TH hm0 hk0 rfl ⟨by decide, rfl⟩ 16 (by decide) cw_1209 (fun _ h9 => h9) dX12_firstQuarrels_140 (fun hv => ?_)
                      rw [hxr18]
                      refine lv_iload_n hx hb dX12_firstQuarrels_143 rfl (lv_at hl 4 rfl) ?_
                      refine tw_aald (k := 316) (t0 := 5) (n := 16) (lo := 326) (hi := 0) (ty := .boolean) hx hb hK TH hmxr18 hkxr18 (by decide) rfl rfl (i := x2) (vp_in_iff.mpr ⟨by  omega, by  omega⟩) dX12_firstQuarrels_144 (fun xr27 exr27 hmxr27 hkxr27 => ?_)
                      have hkxr27 : kp xr27 = 326 := hkxr27
                      refine lv_iload hx hb dX12_firstQuarrels_145 (lv_at hl 0 rfl) ?_
                      refine tw_zald (k := 326) (t0 := 3) (n := 150) (lo := 0) (hi := 1) hx hb hK TH hmxr27 hkxr27 (by decide) rfl rfl (i := y118_5) (vp_in_iff.mpr ⟨by  omega, by  omega⟩) dX12_firstQuarrels_147 (fun hxe28a hxe28b => ?_)
                      obtain ⟨xe28, exe28⟩ : ∃ z : Int32, tw_iv Eg118 xr27 (Int32.toNatClampNeg y118_5) = z := ⟨_, rfl⟩
                      rw [exe28] at hxe28a hxe28b ⊢
                      refine lv_if_eq (tgt := 183) hx hb dX12_firstQuarrels_148 (by decide) (fun hc29 => ?_) (fun hc29 => ?_)
                      · have hf30 : xe28.toInt = 0 := by have z := (fa_eq _ _).mp hc29; have : ((0 : Int32).toInt) = 0 := (by decide); omega
                        exact hJ183 u118_0_57 _ _ _ ls (by omega) (by omega) (by  omega) (by  intro q0; refine fq_step (hin118_1 (by omega)) rfl (fun q => ?_) (fun q => ?_); (have rf_xe20 : rw_h Eg118 a0 (x1.toInt) (y118_5.toInt).toNat = xe20.toInt := rw_h_of (m := a0) (i := x1) (c := y118_5) hxr18 exr19 exe20; have rf_xe28 : rw_h Eg118 a0 (x2.toInt) (y118_5.toInt).toNat = xe28.toInt := rw_h_of (m := a0) (i := x2) (c := y118_5) hxr18 exr27 exe28; have fa := rw_h_fr TH hF hm0 hk0 (by decide) (by decide) (by decide) (i := x1.toInt) (by omega); have fb := rw_h_fr TH hF hm0 hk0 (by decide) (by decide) (by decide) (i := x2.toInt) (by omega); intro u; have u1 := u.1; have u2 := u.2.1; rw [← fa] at u1; rw [← fb] at u2; (try rw [rf_xe20] at u1); (try rw [rf_xe20] at u2); (try rw [rf_xe28] at u1); (try rw [rf_xe28] at u2); omega); (have rf_xe20 : rw_h Eg118 a0 (x1.toInt) (y118_5.toInt).toNat = xe20.toInt := rw_h_of (m := a0) (i := x1) (c := y118_5) hxr18 exr19 exe20; have rf_xe28 : rw_h Eg118 a0 (x2.toInt) (y118_5.toInt).toNat = xe28.toInt := rw_h_of (m := a0) (i := x2) (c := y118_5) hxr18 exr27 exe28; have fa := rw_h_fr TH hF hm0 hk0 (by decide) (by decide) (by decide) (i := x1.toInt) (by omega); have fb := rw_h_fr TH hF hm0 hk0 (by decide) (by decide) (by decide) (i := x2.toInt) (by omega); intro u; have u1 := u.1; have u2 := u.2.1; rw [← fa] at u1; rw [← fb] at u2; (try rw [rf_xe20] at u1); (try rw [rf_xe20] at u2); (try rw [rf_xe28] at u1); (try rw [rf_xe28] at u2); omega)) hfm118_0 hG183 hg0 hg1 TH hS (lv_sub hl [0, 1, 2, 3, 4, 5] rfl)
                      · have hf31 : ¬ (xe28.toInt = 0) := fun q => hc29 ((fa_eq _ _).mpr (by have : ((0 : Int32).toInt) = 0 := (by decide); omega))
                        refine lv_aload_n hx hb dX12_firstQuarrels_151 rfl (lv_at hl 2 rfl) ?_
                        refine lv_iload hx hb dX12_firstQuarrels_152 (lv_at hl 0 rfl) ?_
                        refine lv_iload_n hx hb dX12_firstQuarrels_154 rfl (lv_at hl 3 rfl) ?_
                        refine lv_iload_n hx hb dX12_firstQuarrels_155 rfl (lv_at hl 4 rfl) ?_
                        refine lv_iload_n hx hb dX12_firstQuarrels_156 rfl (lv_at hl 5 rfl) ?_
                        refine lv_iload hx hb dX12_firstQuarrels_157 (lv_at hl 1 rfl) ?_
                        refine lv_iconst (v := 2) hx hb dX12_firstQuarrels_159 (by decide) ?_
                        refine lv_icmp_ne (tgt := 167) hx hb dX12_firstQuarrels_160 (by decide) (fun hc32 => ?_) (fun hc32 => ?_)
                        · have hf33 : ¬ (y109_4.toInt = 2) := fun q => hc32 ((fa_eq _ _).mpr (by have : ((2 : Int32).toInt) = 2 := (by decide); omega))
                          refine lv_iconst (v := 0) hx hb dX12_firstQuarrels_167 (by decide) ?_
                          refine tw_Vc (o := a0) (ci := 12) (n := 5) (post := (fun v kq Lq Eq => (∃ x : Int32, v = some (.int x) ∧ (-2) ≤ x.toInt ∧ x.toInt ≤ 15 ∧ (x.toInt ≠ -1 ∧ ((0 : Int32).toInt ≠ 0 → (x.toInt = -2 ↔ un_w Eg118 a0 y118_5.toInt x1.toInt x2.toInt x3.toInt)) ∧ ((0 : Int32).toInt = 0 → (x.toInt = -2 ↔ un_p Eg118 a0 y118_5.toInt x1.toInt x2.toInt x3.toInt))) ∧ (rw_h Eg118 a0 x1.toInt (y118_5.toInt).toNat ≠ 0 → rw_h Eg118 a0 x2.toInt (y118_5.toInt).toNat ≠ 0 → (0 : Int32).toInt = 0 → rw_p Eg118 a0 x1.toInt (y118_5.toInt).toNat = rw_p Eg118 a0 x2.toInt (y118_5.toInt).toNat → x.toInt = x1.toInt)) ∧ kp = kq ∧ L = Lq ∧ Eg118 = Eq)) (As := [.int y118_5, .int x1, .int x2, .int x3, .int 0]) (rest := []) ⟨hx, hb, hml, hown, hB⟩ (fun sz => tX12_sideOf l D cs a0 y118_5 x1 x2 x3 (0 : Int32) hm0 hk0 (by omega) (by omega) (by omega) (by omega) (by omega) (by omega) (by omega) (by omega) (by have : ((0 : Int32).toInt) = 0 := (by decide); omega) (by have : ((0 : Int32).toInt) = 0 := (by decide); omega) sz) cg_12_470_X12_sideOf rfl rfl (by decide +kernel) ⟨Nat.le_of_ble_eq_true rfl, Nat.le_of_ble_eq_true rfl⟩ hK hN TH hS hA rfl hm0 hk0 (by decide) rfl hl.1 rfl (Nat.le_of_ble_eq_true rfl) dX12_firstQuarrels_168 ⟨Nat.le_of_ble_eq_true rfl, Nat.le_of_ble_eq_true rfl⟩ (fun v34 kp34 L34 E34 H locs hq34 hx34 TH hS => ?_)
                          obtain ⟨⟨xc35, rfl, hxc35a, hxc35b, hpoxc35_0, hpoxc35_1⟩, rfl, rfl, rfl⟩ := hq34
                          refine W.eq (g2 := F0 m 171 ls [.int xc35]) rfl ?_
                          refine lv_iconst (v := (-1)) hx hb dX12_firstQuarrels_171 (by decide) ?_
                          refine lv_icmp_ge (tgt := 183) hx hb dX12_firstQuarrels_172 (by decide) (fun hc36 => ?_) (fun hc36 => ?_)
                          · have hf37 : (-1) ≤ xc35.toInt := by have z := (fa_le _ _).mp hc36; have : (((-1) : Int32).toInt) = (-1) := (by decide); omega
                            exact hJ183 u118_0_57 _ _ _ ls (by omega) (by omega) (by  omega) (by  intro q0; refine fq_step (hin118_1 (by omega)) rfl (fun q => ?_) (fun q => ?_); (have e1 : ((1 : Int32).toInt) = 1 := (by decide); have e0 : ((0 : Int32).toInt) = 0 := (by decide); have hu := un_fr TH hF hm0 hk0 (by decide) (by decide) (n := y118_5.toInt) (a := x1.toInt) (b := x2.toInt) (o := x3.toInt) (by omega) (by omega) (by omega);  rw [← hu.1]; intro u; have z := (hpoxc35_0.2.1 (by omega)).2 u; omega); (have e1 : ((1 : Int32).toInt) = 1 := (by decide); have e0 : ((0 : Int32).toInt) = 0 := (by decide); have hu := un_fr TH hF hm0 hk0 (by decide) (by decide) (n := y118_5.toInt) (a := x1.toInt) (b := x2.toInt) (o := x3.toInt) (by omega) (by omega) (by omega);  rw [← hu.2]; intro u; have z := (hpoxc35_0.2.2 (by omega)).2 u; omega)) hfm118_0 hG183 hg0 hg1 TH hS (lv_sub hl [0, 1, 2, 3, 4, 5] rfl)
                          · have hf38 : ¬ ((-1) ≤ xc35.toInt) := fun q => hc36 ((fa_le _ _).mpr (by have : (((-1) : Int32).toInt) = (-1) := (by decide); omega))
                            refine lv_aload_n hx hb dX12_firstQuarrels_175 rfl (lv_at hl 2 rfl) ?_
                            refine lv_iload hx hb dX12_firstQuarrels_176 (lv_at hl 1 rfl) ?_
                            refine lv_iload hx hb dX12_firstQuarrels_178 (lv_at hl 0 rfl) ?_
                            refine tw_Vc (o := a0) (ci := 12) (n := 2) (post := (fun v kq Lq Eq => v = none ∧ kp = kq ∧ L = Lq ∧ tw_fr kp L [(12, 57)] [359] Eg118 Eq ∧ (∃ z0 : Int32, tw_fv Eq a0 57 = .int z0 ∧ (z0.toInt = u118_0_57.toInt + 1)))) (As := [.int y109_4, .int y118_5]) (rest := []) ⟨hx, hb, hml, hown, hB⟩ (fun sz => tX12_quarrels l D cs a0 y109_4 y118_5 u118_0_57 hm0 hk0 hfm118_0 (by  omega) sz) cg_12_468_X12_quarrels rfl rfl (by decide +kernel) ⟨Nat.le_of_ble_eq_true rfl, Nat.le_of_ble_eq_true rfl⟩ hK hN TH hS hA rfl hm0 hk0 (by decide) rfl hl.1 rfl (Nat.le_of_ble_eq_true rfl) dX12_firstQuarrels_180 ⟨Nat.le_of_ble_eq_true rfl, Nat.le_of_ble_eq_true rfl⟩ (fun v39 kp39 L39 E39 H locs hq39 hx39 TH hS => ?_)
                            obtain ⟨rfl, rfl, rfl, hst39, ⟨zfxc40_0_0, hzfxc40_0_0, hzpxc40_0⟩⟩ := hq39
                            have hF := hF.tr hst39 (fun _ h => ⟨h, rfl⟩) (by decide) (by decide)
                            have hG8 := hG8.tr hst39 (fun _ h => ⟨h, rfl⟩) (by decide) (by decide)
                            have hG109 := hG109.tr hst39 (fun _ h => ⟨h, rfl⟩) (by decide) (by decide)
                            have hG118 := hG118.tr hst39 (fun _ h => ⟨h, rfl⟩) (by decide) (by decide)
                            have hG183 := hG183.tr hst39 (fun _ h => ⟨h, rfl⟩) (by decide) (by decide)
                            have hmf41 : tw_fv E39 a0 26 = .int xi6 := (hst39.1 a0 26 hm0 (by rw [hk0]; decide)).trans hmf13
                            have hmf42 : tw_fv E39 a0 16 = .ref xr18 := (hst39.1 a0 16 hm0 (by rw [hk0]; decide)).trans hxr18
                            have hg0 : rw_ok E39 a0 (x1.toInt) := rw_ok_fr TH hst39 hm0 hk0 (by decide) (by decide) (by omega) hg0
                            have hg1 : rw_ok E39 a0 (x2.toInt) := rw_ok_fr TH hst39 hm0 hk0 (by decide) (by decide) (by omega) hg1
                            obtain ⟨qzfxc40_0_0, hqzfxc40_0_0, hqzfxc40_0_0a, hqzfxc40_0_0b⟩ := tw_rd TH hm0 hk0 (by decide) (by decide) (k := 57) rfl
                            have eqzfxc40_0_0 : qzfxc40_0_0 = zfxc40_0_0 := by have q := hqzfxc40_0_0.symm.trans hzfxc40_0_0; injection q
                            rw [eqzfxc40_0_0] at hqzfxc40_0_0a hqzfxc40_0_0b
                            refine W.eq (g2 := F0 m 183 ls []) rfl ?_
                            exact hJ183 zfxc40_0_0 _ _ _ ls (by omega) (by omega) (by  omega) (by  intro q0; exfalso; omega) hzfxc40_0_0 hG183 hg0 hg1 TH hS (lv_sub hl [0, 1, 2, 3, 4, 5] rfl)
                        · have hf43 : y109_4.toInt = 2 := by have z := (fa_eq _ _).mp hc32; have : ((2 : Int32).toInt) = 2 := (by decide); omega
                          refine lv_iconst (v := 1) hx hb dX12_firstQuarrels_163 (by decide) ?_
                          refine lv_goto (tgt := 168) hx hb dX12_firstQuarrels_164 (by decide) ?_
                          refine tw_Vc (o := a0) (ci := 12) (n := 5) (post := (fun v kq Lq Eq => (∃ x : Int32, v = some (.int x) ∧ (-2) ≤ x.toInt ∧ x.toInt ≤ 15 ∧ (x.toInt ≠ -1 ∧ ((1 : Int32).toInt ≠ 0 → (x.toInt = -2 ↔ un_w Eg118 a0 y118_5.toInt x1.toInt x2.toInt x3.toInt)) ∧ ((1 : Int32).toInt = 0 → (x.toInt = -2 ↔ un_p Eg118 a0 y118_5.toInt x1.toInt x2.toInt x3.toInt))) ∧ (rw_h Eg118 a0 x1.toInt (y118_5.toInt).toNat ≠ 0 → rw_h Eg118 a0 x2.toInt (y118_5.toInt).toNat ≠ 0 → (1 : Int32).toInt = 0 → rw_p Eg118 a0 x1.toInt (y118_5.toInt).toNat = rw_p Eg118 a0 x2.toInt (y118_5.toInt).toNat → x.toInt = x1.toInt)) ∧ kp = kq ∧ L = Lq ∧ Eg118 = Eq)) (As := [.int y118_5, .int x1, .int x2, .int x3, .int 1]) (rest := []) ⟨hx, hb, hml, hown, hB⟩ (fun sz => tX12_sideOf l D cs a0 y118_5 x1 x2 x3 (1 : Int32) hm0 hk0 (by omega) (by omega) (by omega) (by omega) (by omega) (by omega) (by omega) (by omega) (by have : ((1 : Int32).toInt) = 1 := (by decide); omega) (by have : ((1 : Int32).toInt) = 1 := (by decide); omega) sz) cg_12_470_X12_sideOf rfl rfl (by decide +kernel) ⟨Nat.le_of_ble_eq_true rfl, Nat.le_of_ble_eq_true rfl⟩ hK hN TH hS hA rfl hm0 hk0 (by decide) rfl hl.1 rfl (Nat.le_of_ble_eq_true rfl) dX12_firstQuarrels_168 ⟨Nat.le_of_ble_eq_true rfl, Nat.le_of_ble_eq_true rfl⟩ (fun v44 kp44 L44 E44 H locs hq44 hx44 TH hS => ?_)
                          obtain ⟨⟨xc45, rfl, hxc45a, hxc45b, hpoxc45_0, hpoxc45_1⟩, rfl, rfl, rfl⟩ := hq44
                          refine W.eq (g2 := F0 m 171 ls [.int xc45]) rfl ?_
                          refine lv_iconst (v := (-1)) hx hb dX12_firstQuarrels_171 (by decide) ?_
                          refine lv_icmp_ge (tgt := 183) hx hb dX12_firstQuarrels_172 (by decide) (fun hc46 => ?_) (fun hc46 => ?_)
                          · have hf47 : (-1) ≤ xc45.toInt := by have z := (fa_le _ _).mp hc46; have : (((-1) : Int32).toInt) = (-1) := (by decide); omega
                            exact hJ183 u118_0_57 _ _ _ ls (by omega) (by omega) (by  omega) (by  intro q0; refine fq_step (hin118_1 (by omega)) rfl (fun q => ?_) (fun q => ?_); (have e1 : ((1 : Int32).toInt) = 1 := (by decide); have e0 : ((0 : Int32).toInt) = 0 := (by decide); have hu := un_fr TH hF hm0 hk0 (by decide) (by decide) (n := y118_5.toInt) (a := x1.toInt) (b := x2.toInt) (o := x3.toInt) (by omega) (by omega) (by omega);  rw [← hu.1]; intro u; have z := (hpoxc45_0.2.1 (by omega)).2 u; omega); (have e1 : ((1 : Int32).toInt) = 1 := (by decide); have e0 : ((0 : Int32).toInt) = 0 := (by decide); have hu := un_fr TH hF hm0 hk0 (by decide) (by decide) (n := y118_5.toInt) (a := x1.toInt) (b := x2.toInt) (o := x3.toInt) (by omega) (by omega) (by omega);  rw [← hu.2]; intro u; have z := (hpoxc45_0.2.2 (by omega)).2 u; omega)) hfm118_0 hG183 hg0 hg1 TH hS (lv_sub hl [0, 1, 2, 3, 4, 5] rfl)
                          · have hf48 : ¬ ((-1) ≤ xc45.toInt) := fun q => hc46 ((fa_le _ _).mpr (by have : (((-1) : Int32).toInt) = (-1) := (by decide); omega))
                            refine lv_aload_n hx hb dX12_firstQuarrels_175 rfl (lv_at hl 2 rfl) ?_
                            refine lv_iload hx hb dX12_firstQuarrels_176 (lv_at hl 1 rfl) ?_
                            refine lv_iload hx hb dX12_firstQuarrels_178 (lv_at hl 0 rfl) ?_
                            refine tw_Vc (o := a0) (ci := 12) (n := 2) (post := (fun v kq Lq Eq => v = none ∧ kp = kq ∧ L = Lq ∧ tw_fr kp L [(12, 57)] [359] Eg118 Eq ∧ (∃ z0 : Int32, tw_fv Eq a0 57 = .int z0 ∧ (z0.toInt = u118_0_57.toInt + 1)))) (As := [.int y109_4, .int y118_5]) (rest := []) ⟨hx, hb, hml, hown, hB⟩ (fun sz => tX12_quarrels l D cs a0 y109_4 y118_5 u118_0_57 hm0 hk0 hfm118_0 (by  omega) sz) cg_12_468_X12_quarrels rfl rfl (by decide +kernel) ⟨Nat.le_of_ble_eq_true rfl, Nat.le_of_ble_eq_true rfl⟩ hK hN TH hS hA rfl hm0 hk0 (by decide) rfl hl.1 rfl (Nat.le_of_ble_eq_true rfl) dX12_firstQuarrels_180 ⟨Nat.le_of_ble_eq_true rfl, Nat.le_of_ble_eq_true rfl⟩ (fun v49 kp49 L49 E49 H locs hq49 hx49 TH hS => ?_)
                            obtain ⟨rfl, rfl, rfl, hst49, ⟨zfxc50_0_0, hzfxc50_0_0, hzpxc50_0⟩⟩ := hq49
                            have hF := hF.tr hst49 (fun _ h => ⟨h, rfl⟩) (by decide) (by decide)
                            have hG8 := hG8.tr hst49 (fun _ h => ⟨h, rfl⟩) (by decide) (by decide)
                            have hG109 := hG109.tr hst49 (fun _ h => ⟨h, rfl⟩) (by decide) (by decide)
                            have hG118 := hG118.tr hst49 (fun _ h => ⟨h, rfl⟩) (by decide) (by decide)
                            have hG183 := hG183.tr hst49 (fun _ h => ⟨h, rfl⟩) (by decide) (by decide)
                            have hmf51 : tw_fv E49 a0 26 = .int xi6 := (hst49.1 a0 26 hm0 (by rw [hk0]; decide)).trans hmf13
                            have hmf52 : tw_fv E49 a0 16 = .ref xr18 := (hst49.1 a0 16 hm0 (by rw [hk0]; decide)).trans hxr18
                            have hg0 : rw_ok E49 a0 (x1.toInt) := rw_ok_fr TH hst49 hm0 hk0 (by decide) (by decide) (by omega) hg0
                            have hg1 : rw_ok E49 a0 (x2.toInt) := rw_ok_fr TH hst49 hm0 hk0 (by decide) (by decide) (by omega) hg1
                            obtain ⟨qzfxc50_0_0, hqzfxc50_0_0, hqzfxc50_0_0a, hqzfxc50_0_0b⟩ := tw_rd TH hm0 hk0 (by decide) (by decide) (k := 57) rfl
                            have eqzfxc50_0_0 : qzfxc50_0_0 = zfxc50_0_0 := by have q := hqzfxc50_0_0.symm.trans hzfxc50_0_0; injection q
                            rw [eqzfxc50_0_0] at hqzfxc50_0_0a hqzfxc50_0_0b
                            refine W.eq (g2 := F0 m 183 ls []) rfl ?_
                            exact hJ183 zfxc50_0_0 _ _ _ ls (by omega) (by omega) (by  omega) (by  intro q0; exfalso; omega) hzfxc50_0_0 hG183 hg0 hg1 TH hS (lv_sub hl [0, 1, 2, 3, 4, 5] rfl)
              exact hJ118 151 (0 : Int32) u109_0_57 _ _ _ ls (by have : ((0 : Int32).toInt) = 0 := (by decide); omega) (by have : ((0 : Int32).toInt) = 0 := (by decide); omega) (by omega) (by omega) (by have : ((0 : Int32).toInt) = 0 := (by decide); omega) (by have : ((0 : Int32).toInt) = 0 := (by decide); intro q0; exact fq_n0 (hin109_1 (by omega)) rfl (by decide)) (by have : ((0 : Int32).toInt) = 0 := (by decide);  omega) hfm109_0 tw_fr.rf hg0 hg1 TH hS (lv_sub hl [0, 1, 2, 3, 4, 5] rfl)
        exact hJ109 3 (2 : Int32) u8_0_57 _ _ _ ls (by have : ((2 : Int32).toInt) = 2 := (by decide); omega) (by have : ((2 : Int32).toInt) = 2 := (by decide); omega) (by omega) (by omega) (by have : ((2 : Int32).toInt) = 2 := (by decide); omega) (by have : ((2 : Int32).toInt) = 2 := (by decide); intro _; exact fq_init (by decide) rfl) (by have : ((2 : Int32).toInt) = 2 := (by decide);  omega) hfm8_0 tw_fr.rf hg0 hg1 TH hS (lv_sub hl [0, 1, 2, 3, 4] rfl)
      · have hf53 : ¬ (xi6.toInt ≤ y8_4.toInt) := fun q => hc7 ((fa_le _ _).mpr (by  omega))
        refine lv_aload_n hx hb dX12_firstQuarrels_17 rfl (lv_at hl 1 rfl) ?_
        refine tw_get (ci := 12) (C := RX12) (T := TX12) (N := 64) hx hb hB cx_inX12 hown hK TH hm0 hk0 rfl ⟨by decide, rfl⟩ 16 (by decide) cw_1209 (fun _ h9 => h9) dX12_firstQuarrels_18 (fun hv => ?_)
        obtain ⟨xr54, hxr54, hmxr54, hkxr54⟩ : ∃ a : Nat, tw_fv Eg8 a0 16 = .ref a ∧ a ∈ L ∧ kp a = 316 := hv
        rw [hxr54]
        refine lv_iload_n hx hb dX12_firstQuarrels_21 rfl (lv_at hl 4 rfl) ?_
        refine tw_aald (k := 316) (t0 := 5) (n := 16) (lo := 326) (hi := 0) (ty := .boolean) hx hb hK TH hmxr54 hkxr54 (by decide) rfl rfl (i := x3) (vp_in_iff.mpr ⟨by  omega, by  omega⟩) dX12_firstQuarrels_22 (fun xr55 exr55 hmxr55 hkxr55 => ?_)
        have hkxr55 : kp xr55 = 326 := hkxr55
        refine lv_iload hx hb dX12_firstQuarrels_23 (lv_at hl 0 rfl) ?_
        refine tw_zald (k := 326) (t0 := 3) (n := 150) (lo := 0) (hi := 1) hx hb hK TH hmxr55 hkxr55 (by decide) rfl rfl (i := y8_4) (vp_in_iff.mpr ⟨by  omega, by  omega⟩) dX12_firstQuarrels_25 (fun hxe56a hxe56b => ?_)
        obtain ⟨xe56, exe56⟩ : ∃ z : Int32, tw_iv Eg8 xr55 (Int32.toNatClampNeg y8_4) = z := ⟨_, rfl⟩
        rw [exe56] at hxe56a hxe56b ⊢
        have hJ100 : ∀ (u100_0_57 : Int32) (Eg100 : Nat → va_E) (H : Heap) (locs : List Loc) (ls : Array Slot), 0 ≤ u100_0_57.toInt → u100_0_57.toInt ≤ 1200 → (u100_0_57.toInt ≤ y8_4.toInt + 1) → tw_fv Eg100 a0 57 = .int u100_0_57 → tw_fr kp L [(12, 57)] [359] Eg8 Eg100 → rw_ok Eg100 a0 (x1.toInt) → rw_ok Eg100 a0 (x2.toInt) → tw_H D cs kp L Eg100 A H → va_S A s.heap H locs → lv_has ls 6 [(4, .int y8_4), (0, .ref a0), (1, .int x1), (2, .int x2), (3, .int x3)] → W p l e { frames := 2, cells := 0, slots := 0, locals := 52 } s m [.ref a0, .int x1, .int x2, .int x3].toArray below meth c H locs 0 0 (MQ below (tw_Q D cs kp0 L0 (fun v kq Lq Eq => v = none ∧ kp = kq ∧ L = Lq ∧ tw_fr kp L [(12, 57)] [359] E Eq ∧ (tw_fi Eq a0 57 = 0 → fq_ok E a0 x1.toInt x2.toInt x3.toInt 4 0) ∧ (∃ z0 : Int32, tw_fv Eq a0 57 = .int z0 ∧ (z0.toInt ≤ 450))) A) [.ref a0, .int x1, .int x2, .int x3].toArray s 0 0 A) (F0 m 100 ls []) := by
          intro u100_0_57 Eg100 H locs ls hu100_0_57a hu100_0_57b hin100_0 hfm100_0 hG100 hg0 hg1 TH hS hl
          have hF := hF.tr hG100 (fun _ h => ⟨h, rfl⟩) (by decide) (by decide)
          have hG8 := hG8.tr hG100 (fun _ h => ⟨h, rfl⟩) (by decide) (by decide)
          have hmf57 : tw_fv Eg100 a0 26 = .int xi6 := (hG100.1 a0 26 hm0 (by rw [hk0]; decide)).trans hxi6
          have hmf58 : tw_fv Eg100 a0 16 = .ref xr54 := (hG100.1 a0 16 hm0 (by rw [hk0]; decide)).trans hxr54
          obtain ⟨zi59, ezi59⟩ : ∃ z : Int32, z = y8_4 + Int32.ofInt 1 := ⟨_, rfl⟩
          have hzi59 : zi59.toInt = y8_4.toInt + 1 := by rw [ezi59]; have : ((Int32.ofInt 1).toInt) = 1 := (by decide);  exact (ia_add (by omega) (by omega)).trans (by omega)
          refine lv_iinc (v := zi59) (lv' := [(4, .int zi59), (0, .ref a0), (1, .int x1), (2, .int x2), (3, .int x3)]) hx hb dX12_firstQuarrels_100 hl (k := 0) rfl ezi59.symm (by decide) rfl (fun ls hl => ?_)
          refine lv_goto (tgt := 8) hx hb dX12_firstQuarrels_103 (by decide) ?_
          exact ih8 (n8 - 1) (by   omega) zi59 u100_0_57 _ _ _ ls (by omega) (by omega) (by omega) (by omega) (by  omega) (by   omega) hfm100_0 hG8 hg0 hg1 TH hS (lv_sub hl [0, 1, 2, 3, 4] rfl)
        have hG100 : tw_fr kp L [(12, 57)] [359] Eg8 Eg8 := tw_fr.rf
        refine lv_if_eq (tgt := 100) hx hb dX12_firstQuarrels_26 (by decide) (fun hc60 => ?_) (fun hc60 => ?_)
        · have hf61 : xe56.toInt = 0 := by have z := (fa_eq _ _).mp hc60; have : ((0 : Int32).toInt) = 0 := (by decide); omega
          exact hJ100 u8_0_57 _ _ _ ls (by omega) (by omega) (by  omega) hfm8_0 hG100 hg0 hg1 TH hS (lv_sub hl [0, 1, 2, 3, 4] rfl)
        · have hf62 : ¬ (xe56.toInt = 0) := fun q => hc60 ((fa_eq _ _).mpr (by have : ((0 : Int32).toInt) = 0 := (by decide); omega))
          refine lv_aload_n hx hb dX12_firstQuarrels_29 rfl (lv_at hl 1 rfl) ?_
          refine tw_get (ci := 12) (C := RX12) (T := TX12) (N := 64) hx hb hB cx_inX12 hown hK TH hm0 hk0 rfl ⟨by decide, rfl⟩ 16 (by decide) cw_1209 (fun _ h9 => h9) dX12_firstQuarrels_30 (fun hv => ?_)
          rw [hxr54]
          refine lv_iload_n hx hb dX12_firstQuarrels_33 rfl (lv_at hl 2 rfl) ?_
          refine tw_aald (k := 316) (t0 := 5) (n := 16) (lo := 326) (hi := 0) (ty := .boolean) hx hb hK TH hmxr54 hkxr54 (by decide) rfl rfl (i := x1) (vp_in_iff.mpr ⟨by  omega, by  omega⟩) dX12_firstQuarrels_34 (fun xr63 exr63 hmxr63 hkxr63 => ?_)
          have hkxr63 : kp xr63 = 326 := hkxr63
          refine lv_iload hx hb dX12_firstQuarrels_35 (lv_at hl 0 rfl) ?_
          refine tw_zald (k := 326) (t0 := 3) (n := 150) (lo := 0) (hi := 1) hx hb hK TH hmxr63 hkxr63 (by decide) rfl rfl (i := y8_4) (vp_in_iff.mpr ⟨by  omega, by  omega⟩) dX12_firstQuarrels_37 (fun hxe64a hxe64b => ?_)
          obtain ⟨xe64, exe64⟩ : ∃ z : Int32, tw_iv Eg8 xr63 (Int32.toNatClampNeg y8_4) = z := ⟨_, rfl⟩
          rw [exe64] at hxe64a hxe64b ⊢
          refine lv_aload_n hx hb dX12_firstQuarrels_38 rfl (lv_at hl 1 rfl) ?_
          refine tw_get (ci := 12) (C := RX12) (T := TX12) (N := 64) hx hb hB cx_inX12 hown hK TH hm0 hk0 rfl ⟨by decide, rfl⟩ 16 (by decide) cw_1209 (fun _ h9 => h9) dX12_firstQuarrels_39 (fun hv => ?_)
          rw [hxr54]
          refine lv_iload_n hx hb dX12_firstQuarrels_42 rfl (lv_at hl 3 rfl) ?_
          refine tw_aald (k := 316) (t0 := 5) (n := 16) (lo := 326) (hi := 0) (ty := .boolean) hx hb hK TH hmxr54 hkxr54 (by decide) rfl rfl (i := x2) (vp_in_iff.mpr ⟨by  omega, by  omega⟩) dX12_firstQuarrels_43 (fun xr65 exr65 hmxr65 hkxr65 => ?_)
          have hkxr65 : kp xr65 = 326 := hkxr65
          refine lv_iload hx hb dX12_firstQuarrels_44 (lv_at hl 0 rfl) ?_
          refine tw_zald (k := 326) (t0 := 3) (n := 150) (lo := 0) (hi := 1) hx hb hK TH hmxr65 hkxr65 (by decide) rfl rfl (i := y8_4) (vp_in_iff.mpr ⟨by  omega, by  omega⟩) dX12_firstQuarrels_46 (fun hxe66a hxe66b => ?_)
          obtain ⟨xe66, exe66⟩ : ∃ z : Int32, tw_iv Eg8 xr65 (Int32.toNatClampNeg y8_4) = z := ⟨_, rfl⟩
          rw [exe66] at hxe66a hxe66b ⊢
          refine lv_icmp_ne (tgt := 53) hx hb dX12_firstQuarrels_47 (by decide) (fun hc67 => ?_) (fun hc67 => ?_)
          · have hf68 : ¬ (xe64.toInt = xe66.toInt) := fun q => hc67 ((fa_eq _ _).mpr (by  omega))
            refine lv_aload_n hx hb dX12_firstQuarrels_53 rfl (lv_at hl 1 rfl) ?_
            refine lv_aload_n hx hb dX12_firstQuarrels_54 rfl (lv_at hl 1 rfl) ?_
            refine tw_get (ci := 12) (C := RX12) (T := TX12) (N := 64) hx hb hB cx_inX12 hown hK TH hm0 hk0 rfl ⟨by decide, rfl⟩ 16 (by decide) cw_1209 (fun _ h9 => h9) dX12_firstQuarrels_55 (fun hv => ?_)
            rw [hxr54]
            refine lv_iload_n hx hb dX12_firstQuarrels_58 rfl (lv_at hl 2 rfl) ?_
            refine tw_aald (k := 316) (t0 := 5) (n := 16) (lo := 326) (hi := 0) (ty := .boolean) hx hb hK TH hmxr54 hkxr54 (by decide) rfl rfl (i := x1) (vp_in_iff.mpr ⟨by  omega, by  omega⟩) dX12_firstQuarrels_59 (fun xr69 exr69 hmxr69 hkxr69 => ?_)
            have ezxr69 : xr63 = xr69 := exr63.symm.trans exr69
            subst ezxr69
            refine lv_iload hx hb dX12_firstQuarrels_60 (lv_at hl 0 rfl) ?_
            refine tw_zald (k := 326) (t0 := 3) (n := 150) (lo := 0) (hi := 1) hx hb hK TH hmxr63 hkxr63 (by decide) rfl rfl (i := y8_4) (vp_in_iff.mpr ⟨by  omega, by  omega⟩) dX12_firstQuarrels_62 (fun hxe70a hxe70b => ?_)
            rw [exe64]
            refine lv_if_eq (tgt := 70) hx hb dX12_firstQuarrels_63 (by decide) (fun hc71 => ?_) (fun hc71 => ?_)
            · have hf72 : xe64.toInt = 0 := by have z := (fa_eq _ _).mp hc71; have : ((0 : Int32).toInt) = 0 := (by decide); omega
              refine lv_iload_n hx hb dX12_firstQuarrels_70 rfl (lv_at hl 3 rfl) ?_
              refine lv_iload hx hb dX12_firstQuarrels_71 (lv_at hl 0 rfl) ?_
              refine lv_iload_n hx hb dX12_firstQuarrels_73 rfl (lv_at hl 4 rfl) ?_
              refine tw_Vc (o := a0) (ci := 12) (n := 3) (post := (fun v kq Lq Eq => (∃ x : Int32, v = some (.int x) ∧ 0 ≤ x.toInt ∧ x.toInt ≤ 1) ∧ kp = kq ∧ L = Lq ∧ Eg8 = Eq)) (As := [.int x2, .int y8_4, .int x3]) (rest := []) ⟨hx, hb, hml, hown, hB⟩ (fun sz => tX12_isTouched l D cs a0 x2 y8_4 x3 hm0 hk0 (by omega) (by omega) (by omega) (by omega) hg1 sz) cg_12_465_X12_isTouched rfl rfl (by decide +kernel) ⟨Nat.le_of_ble_eq_true rfl, Nat.le_of_ble_eq_true rfl⟩ hK hN TH hS hA rfl hm0 hk0 (by decide) rfl hl.1 rfl (Nat.le_of_ble_eq_true rfl) dX12_firstQuarrels_74 ⟨Nat.le_of_ble_eq_true rfl, Nat.le_of_ble_eq_true rfl⟩ (fun v73 kp73 L73 E73 H locs hq73 hx73 TH hS => ?_)
              obtain ⟨⟨xc74, rfl, hxc74a, hxc74b⟩, rfl, rfl, rfl⟩ := hq73
              refine W.eq (g2 := F0 m 77 ls [.int xc74]) rfl ?_
              refine lv_if_eq (tgt := 100) hx hb dX12_firstQuarrels_77 (by decide) (fun hc75 => ?_) (fun hc75 => ?_)
              · have hf76 : xc74.toInt = 0 := by have z := (fa_eq _ _).mp hc75; have : ((0 : Int32).toInt) = 0 := (by decide); omega
                exact hJ100 u8_0_57 _ _ _ ls (by omega) (by omega) (by  omega) hfm8_0 hG100 hg0 hg1 TH hS (lv_sub hl [0, 1, 2, 3, 4] rfl)
              · have hf77 : ¬ (xc74.toInt = 0) := fun q => hc75 ((fa_eq _ _).mpr (by have : ((0 : Int32).toInt) = 0 := (by decide); omega))
                refine lv_aload_n hx hb dX12_firstQuarrels_80 rfl (lv_at hl 1 rfl) ?_
                refine lv_iload hx hb dX12_firstQuarrels_81 (lv_at hl 0 rfl) ?_
                refine lv_iconst (v := 1) hx hb dX12_firstQuarrels_83 (by decide) ?_
                refine lv_iload_n hx hb dX12_firstQuarrels_84 rfl (lv_at hl 2 rfl) ?_
                refine lv_iload_n hx hb dX12_firstQuarrels_85 rfl (lv_at hl 3 rfl) ?_
                refine tw_Vc (o := a0) (ci := 12) (n := 4) (post := (fun v kq Lq Eq => (∃ x : Int32, v = some (.int x) ∧ (-1) ≤ x.toInt ∧ x.toInt ≤ 11 ∧ (x.toInt = -1 ↔ st_ns Eg8 a0 y8_4.toInt (1 : Int32).toInt x1.toInt x2.toInt)) ∧ kp = kq ∧ L = Lq ∧ Eg8 = Eq)) (As := [.int y8_4, .int 1, .int x1, .int x2]) (rest := []) ⟨hx, hb, hml, hown, hB⟩ (fun sz => tX12_settledFor l D cs a0 y8_4 (1 : Int32) x1 x2 hm0 hk0 sz) cg_12_461_X12_settledFor rfl rfl (by decide +kernel) ⟨Nat.le_of_ble_eq_true rfl, Nat.le_of_ble_eq_true rfl⟩ hK hN TH hS hA rfl hm0 hk0 (by decide) rfl hl.1 rfl (Nat.le_of_ble_eq_true rfl) dX12_firstQuarrels_86 ⟨Nat.le_of_ble_eq_true rfl, Nat.le_of_ble_eq_true rfl⟩ (fun v78 kp78 L78 E78 H locs hq78 hx78 TH hS => ?_)
                obtain ⟨⟨xc79, rfl, hxc79a, hxc79b, hpoxc79_0⟩, rfl, rfl, rfl⟩ := hq78
                refine W.eq (g2 := F0 m 89 ls [.int xc79]) rfl ?_
                refine lv_iconst (v := (-1)) hx hb dX12_firstQuarrels_89 (by decide) ?_
                refine lv_icmp_ne (tgt := 100) hx hb dX12_firstQuarrels_90 (by decide) (fun hc80 => ?_) (fun hc80 => ?_)
                · have hf81 : ¬ (xc79.toInt = (-1)) := fun q => hc80 ((fa_eq _ _).mpr (by have : (((-1) : Int32).toInt) = (-1) := (by decide); omega))
                  exact hJ100 u8_0_57 _ _ _ ls (by omega) (by omega) (by  omega) hfm8_0 hG100 hg0 hg1 TH hS (lv_sub hl [0, 1, 2, 3, 4] rfl)
                · have hf82 : xc79.toInt = (-1) := by have z := (fa_eq _ _).mp hc80; have : (((-1) : Int32).toInt) = (-1) := (by decide); omega
                  refine lv_aload_n hx hb dX12_firstQuarrels_93 rfl (lv_at hl 1 rfl) ?_
                  refine lv_iconst (v := 1) hx hb dX12_firstQuarrels_94 (by decide) ?_
                  refine lv_iload hx hb dX12_firstQuarrels_95 (lv_at hl 0 rfl) ?_
                  refine tw_Vc (o := a0) (ci := 12) (n := 2) (post := (fun v kq Lq Eq => v = none ∧ kp = kq ∧ L = Lq ∧ tw_fr kp L [(12, 57)] [359] Eg8 Eq ∧ (∃ z0 : Int32, tw_fv Eq a0 57 = .int z0 ∧ (z0.toInt = u8_0_57.toInt + 1)))) (As := [.int 1, .int y8_4]) (rest := []) ⟨hx, hb, hml, hown, hB⟩ (fun sz => tX12_quarrels l D cs a0 (1 : Int32) y8_4 u8_0_57 hm0 hk0 hfm8_0 (by have : ((1 : Int32).toInt) = 1 := (by decide); omega) sz) cg_12_468_X12_quarrels rfl rfl (by decide +kernel) ⟨Nat.le_of_ble_eq_true rfl, Nat.le_of_ble_eq_true rfl⟩ hK hN TH hS hA rfl hm0 hk0 (by decide) rfl hl.1 rfl (Nat.le_of_ble_eq_true rfl) dX12_firstQuarrels_97 ⟨Nat.le_of_ble_eq_true rfl, Nat.le_of_ble_eq_true rfl⟩ (fun v83 kp83 L83 E83 H locs hq83 hx83 TH hS => ?_)
                  obtain ⟨rfl, rfl, rfl, hst83, ⟨zfxc84_0_0, hzfxc84_0_0, hzpxc84_0⟩⟩ := hq83
                  have hF := hF.tr hst83 (fun _ h => ⟨h, rfl⟩) (by decide) (by decide)
                  have hG8 := hG8.tr hst83 (fun _ h => ⟨h, rfl⟩) (by decide) (by decide)
                  have hG100 := hG100.tr hst83 (fun _ h => ⟨h, rfl⟩) (by decide) (by decide)
                  have hmf85 : tw_fv E83 a0 26 = .int xi6 := (hst83.1 a0 26 hm0 (by rw [hk0]; decide)).trans hxi6
                  have hmf86 : tw_fv E83 a0 16 = .ref xr54 := (hst83.1 a0 16 hm0 (by rw [hk0]; decide)).trans hxr54
                  have hg0 : rw_ok E83 a0 (x1.toInt) := rw_ok_fr TH hst83 hm0 hk0 (by decide) (by decide) (by omega) hg0
                  have hg1 : rw_ok E83 a0 (x2.toInt) := rw_ok_fr TH hst83 hm0 hk0 (by decide) (by decide) (by omega) hg1
                  obtain ⟨qzfxc84_0_0, hqzfxc84_0_0, hqzfxc84_0_0a, hqzfxc84_0_0b⟩ := tw_rd TH hm0 hk0 (by decide) (by decide) (k := 57) rfl
                  have eqzfxc84_0_0 : qzfxc84_0_0 = zfxc84_0_0 := by have q := hqzfxc84_0_0.symm.trans hzfxc84_0_0; injection q
                  rw [eqzfxc84_0_0] at hqzfxc84_0_0a hqzfxc84_0_0b
                  refine W.eq (g2 := F0 m 100 ls []) rfl ?_
                  exact hJ100 zfxc84_0_0 _ _ _ ls (by omega) (by omega) (by  omega) hzfxc84_0_0 hG100 hg0 hg1 TH hS (lv_sub hl [0, 1, 2, 3, 4] rfl)
            · have hf87 : ¬ (xe64.toInt = 0) := fun q => hc71 ((fa_eq _ _).mpr (by have : ((0 : Int32).toInt) = 0 := (by decide); omega))
              refine lv_iload_n hx hb dX12_firstQuarrels_66 rfl (lv_at hl 2 rfl) ?_
              refine lv_goto (tgt := 71) hx hb dX12_firstQuarrels_67 (by decide) ?_
              refine lv_iload hx hb dX12_firstQuarrels_71 (lv_at hl 0 rfl) ?_
              refine lv_iload_n hx hb dX12_firstQuarrels_73 rfl (lv_at hl 4 rfl) ?_
              refine tw_Vc (o := a0) (ci := 12) (n := 3) (post := (fun v kq Lq Eq => (∃ x : Int32, v = some (.int x) ∧ 0 ≤ x.toInt ∧ x.toInt ≤ 1) ∧ kp = kq ∧ L = Lq ∧ Eg8 = Eq)) (As := [.int x1, .int y8_4, .int x3]) (rest := []) ⟨hx, hb, hml, hown, hB⟩ (fun sz => tX12_isTouched l D cs a0 x1 y8_4 x3 hm0 hk0 (by omega) (by omega) (by omega) (by omega) hg0 sz) cg_12_465_X12_isTouched rfl rfl (by decide +kernel) ⟨Nat.le_of_ble_eq_true rfl, Nat.le_of_ble_eq_true rfl⟩ hK hN TH hS hA rfl hm0 hk0 (by decide) rfl hl.1 rfl (Nat.le_of_ble_eq_true rfl) dX12_firstQuarrels_74 ⟨Nat.le_of_ble_eq_true rfl, Nat.le_of_ble_eq_true rfl⟩ (fun v88 kp88 L88 E88 H locs hq88 hx88 TH hS => ?_)
              obtain ⟨⟨xc89, rfl, hxc89a, hxc89b⟩, rfl, rfl, rfl⟩ := hq88
              refine W.eq (g2 := F0 m 77 ls [.int xc89]) rfl ?_
              refine lv_if_eq (tgt := 100) hx hb dX12_firstQuarrels_77 (by decide) (fun hc90 => ?_) (fun hc90 => ?_)
              · have hf91 : xc89.toInt = 0 := by have z := (fa_eq _ _).mp hc90; have : ((0 : Int32).toInt) = 0 := (by decide); omega
                exact hJ100 u8_0_57 _ _ _ ls (by omega) (by omega) (by  omega) hfm8_0 hG100 hg0 hg1 TH hS (lv_sub hl [0, 1, 2, 3, 4] rfl)
              · have hf92 : ¬ (xc89.toInt = 0) := fun q => hc90 ((fa_eq _ _).mpr (by have : ((0 : Int32).toInt) = 0 := (by decide); omega))
                refine lv_aload_n hx hb dX12_firstQuarrels_80 rfl (lv_at hl 1 rfl) ?_
                refine lv_iload hx hb dX12_firstQuarrels_81 (lv_at hl 0 rfl) ?_
                refine lv_iconst (v := 1) hx hb dX12_firstQuarrels_83 (by decide) ?_
                refine lv_iload_n hx hb dX12_firstQuarrels_84 rfl (lv_at hl 2 rfl) ?_
                refine lv_iload_n hx hb dX12_firstQuarrels_85 rfl (lv_at hl 3 rfl) ?_
                refine tw_Vc (o := a0) (ci := 12) (n := 4) (post := (fun v kq Lq Eq => (∃ x : Int32, v = some (.int x) ∧ (-1) ≤ x.toInt ∧ x.toInt ≤ 11 ∧ (x.toInt = -1 ↔ st_ns Eg8 a0 y8_4.toInt (1 : Int32).toInt x1.toInt x2.toInt)) ∧ kp = kq ∧ L = Lq ∧ Eg8 = Eq)) (As := [.int y8_4, .int 1, .int x1, .int x2]) (rest := []) ⟨hx, hb, hml, hown, hB⟩ (fun sz => tX12_settledFor l D cs a0 y8_4 (1 : Int32) x1 x2 hm0 hk0 sz) cg_12_461_X12_settledFor rfl rfl (by decide +kernel) ⟨Nat.le_of_ble_eq_true rfl, Nat.le_of_ble_eq_true rfl⟩ hK hN TH hS hA rfl hm0 hk0 (by decide) rfl hl.1 rfl (Nat.le_of_ble_eq_true rfl) dX12_firstQuarrels_86 ⟨Nat.le_of_ble_eq_true rfl, Nat.le_of_ble_eq_true rfl⟩ (fun v93 kp93 L93 E93 H locs hq93 hx93 TH hS => ?_)
                obtain ⟨⟨xc94, rfl, hxc94a, hxc94b, hpoxc94_0⟩, rfl, rfl, rfl⟩ := hq93
                refine W.eq (g2 := F0 m 89 ls [.int xc94]) rfl ?_
                refine lv_iconst (v := (-1)) hx hb dX12_firstQuarrels_89 (by decide) ?_
                refine lv_icmp_ne (tgt := 100) hx hb dX12_firstQuarrels_90 (by decide) (fun hc95 => ?_) (fun hc95 => ?_)
                · have hf96 : ¬ (xc94.toInt = (-1)) := fun q => hc95 ((fa_eq _ _).mpr (by have : (((-1) : Int32).toInt) = (-1) := (by decide); omega))
                  exact hJ100 u8_0_57 _ _ _ ls (by omega) (by omega) (by  omega) hfm8_0 hG100 hg0 hg1 TH hS (lv_sub hl [0, 1, 2, 3, 4] rfl)
                · have hf97 : xc94.toInt = (-1) := by have z := (fa_eq _ _).mp hc95; have : (((-1) : Int32).toInt) = (-1) := (by decide); omega
                  refine lv_aload_n hx hb dX12_firstQuarrels_93 rfl (lv_at hl 1 rfl) ?_
                  refine lv_iconst (v := 1) hx hb dX12_firstQuarrels_94 (by decide) ?_
                  refine lv_iload hx hb dX12_firstQuarrels_95 (lv_at hl 0 rfl) ?_
                  refine tw_Vc (o := a0) (ci := 12) (n := 2) (post := (fun v kq Lq Eq => v = none ∧ kp = kq ∧ L = Lq ∧ tw_fr kp L [(12, 57)] [359] Eg8 Eq ∧ (∃ z0 : Int32, tw_fv Eq a0 57 = .int z0 ∧ (z0.toInt = u8_0_57.toInt + 1)))) (As := [.int 1, .int y8_4]) (rest := []) ⟨hx, hb, hml, hown, hB⟩ (fun sz => tX12_quarrels l D cs a0 (1 : Int32) y8_4 u8_0_57 hm0 hk0 hfm8_0 (by have : ((1 : Int32).toInt) = 1 := (by decide); omega) sz) cg_12_468_X12_quarrels rfl rfl (by decide +kernel) ⟨Nat.le_of_ble_eq_true rfl, Nat.le_of_ble_eq_true rfl⟩ hK hN TH hS hA rfl hm0 hk0 (by decide) rfl hl.1 rfl (Nat.le_of_ble_eq_true rfl) dX12_firstQuarrels_97 ⟨Nat.le_of_ble_eq_true rfl, Nat.le_of_ble_eq_true rfl⟩ (fun v98 kp98 L98 E98 H locs hq98 hx98 TH hS => ?_)
                  obtain ⟨rfl, rfl, rfl, hst98, ⟨zfxc99_0_0, hzfxc99_0_0, hzpxc99_0⟩⟩ := hq98
                  have hF := hF.tr hst98 (fun _ h => ⟨h, rfl⟩) (by decide) (by decide)
                  have hG8 := hG8.tr hst98 (fun _ h => ⟨h, rfl⟩) (by decide) (by decide)
                  have hG100 := hG100.tr hst98 (fun _ h => ⟨h, rfl⟩) (by decide) (by decide)
                  have hmf100 : tw_fv E98 a0 26 = .int xi6 := (hst98.1 a0 26 hm0 (by rw [hk0]; decide)).trans hxi6
                  have hmf101 : tw_fv E98 a0 16 = .ref xr54 := (hst98.1 a0 16 hm0 (by rw [hk0]; decide)).trans hxr54
                  have hg0 : rw_ok E98 a0 (x1.toInt) := rw_ok_fr TH hst98 hm0 hk0 (by decide) (by decide) (by omega) hg0
                  have hg1 : rw_ok E98 a0 (x2.toInt) := rw_ok_fr TH hst98 hm0 hk0 (by decide) (by decide) (by omega) hg1
                  obtain ⟨qzfxc99_0_0, hqzfxc99_0_0, hqzfxc99_0_0a, hqzfxc99_0_0b⟩ := tw_rd TH hm0 hk0 (by decide) (by decide) (k := 57) rfl
                  have eqzfxc99_0_0 : qzfxc99_0_0 = zfxc99_0_0 := by have q := hqzfxc99_0_0.symm.trans hzfxc99_0_0; injection q
                  rw [eqzfxc99_0_0] at hqzfxc99_0_0a hqzfxc99_0_0b
                  refine W.eq (g2 := F0 m 100 ls []) rfl ?_
                  exact hJ100 zfxc99_0_0 _ _ _ ls (by omega) (by omega) (by  omega) hzfxc99_0_0 hG100 hg0 hg1 TH hS (lv_sub hl [0, 1, 2, 3, 4] rfl)
          · have hf102 : xe64.toInt = xe66.toInt := by have z := (fa_eq _ _).mp hc67;  omega
            refine lv_goto (tgt := 100) hx hb dX12_firstQuarrels_50 (by decide) ?_
            exact hJ100 u8_0_57 _ _ _ ls (by omega) (by omega) (by  omega) hfm8_0 hG100 hg0 hg1 TH hS (lv_sub hl [0, 1, 2, 3, 4] rfl)
  exact hJ8 151 (0 : Int32) (0 : Int32) _ _ _ ls (by have : ((0 : Int32).toInt) = 0 := (by decide); omega) (by have : ((0 : Int32).toInt) = 0 := (by decide); omega) (by have : ((0 : Int32).toInt) = 0 := (by decide); omega) (by have : ((0 : Int32).toInt) = 0 := (by decide); omega) (by have : ((0 : Int32).toInt) = 0 := (by decide); omega) (by have : ((0 : Int32).toInt) = 0 := (by decide);  omega) hmf5 tw_fr.rf hg0 hg1 TH hS (lv_sub hl [0, 1, 2, 3, 4] rfl)
set_option maxHeartbeats 4000000 in
set_option maxRecDepth 100000 in
theorem tX12_lays (l : Launch) (D : va_G) (cs : Nat → ClassId) {kp : Nat → Nat} {L : List Nat} {E : Nat → va_E} (a0 : Nat) (x1 : Int32) (x2 : Int32) (x3 : Int32) (hm0 : a0 ∈ L) (hk0 : kp a0 = 12) (hp1a : 0 ≤ x1.toInt) (hp1b : x1.toInt ≤ 149) (hp2a : 0 ≤ x2.toInt) (hp2b : x2.toInt ≤ 149) (hg0 : lyw_ok E a0 (x1.toInt) (x2.toInt)) (hg1 : rd_ok E a0) (hg2 : eo_ok E a0) (hg3 : ht_ok E a0) (sz : Nat) : Met l yX12_lays (.code yX12_lays cX12_lays 5 none :: cx_big) { frames := 4, cells := 0, slots := 0, locals := 98 } (tw_P D cs kp L E [.ref a0, .int x1, .int x2, .int x3] sz) (tw_Q D cs kp L (fun v kq Lq Eq => v = none ∧ kp = kq ∧ L = Lq ∧ tw_fr kp L [] [326, 328, 329] E Eq ∧ (∀ c : Nat, rw_h Eq a0 12 c = if c = (x1.toInt).toNat then 1 else rw_h E a0 12 c) ∧ (∀ c : Nat, rw_p Eq a0 12 c = if c = (x1.toInt).toNat then x2.toInt else rw_p E a0 12 c) ∧ rw_ok Eq a0 (12) ∧ rd_ok Eq a0 ∧ eo_ok Eq a0 ∧ ht_ok Eq a0) (va_A (va_pl L E) sz)) 0 0 (va_A (va_pl L E) sz) := by
  refine tw_ofW (by decide) (Nat.le_of_ble_eq_true rfl) ?_
  intro p e s m below meth c A ls hx hb hr hml hB hown hlocks hK hN hA TH hS hl
  have hown : s.vm.findClass "TreeMergeModel" = some m.cls := hown
  have hl : lv_has ls 5 [(0, .ref a0), (1, .int x1), (2, .int x2), (3, .int x3)] := hl
  obtain ⟨kp0, ekp⟩ : ∃ z, z = kp := ⟨_, rfl⟩
  obtain ⟨L0, eL⟩ : ∃ z, z = L := ⟨_, rfl⟩
  rw [show tw_Q D cs kp L = tw_Q D cs kp0 L0 by rw [ekp, eL]]
  have hex : ∀ a : Nat, a ∈ L0 → a ∈ L ∧ kp a = kp0 a := fun a h => ⟨by rw [← eL]; exact h, by rw [ekp]⟩
  have hF : tw_fr kp L [] [326, 328, 329] E E := tw_fr.rf
  have hh12 : h12_ok E a0 (rw_h E a0 12) := rfl
  have hp12 : p12_ok E a0 (rw_p E a0 12) := rfl
  refine lv_aload_n hx hb dX12_lays_0 rfl (lv_at hl 0 rfl) ?_
  refine lv_iload_n hx hb dX12_lays_1 rfl (lv_at hl 2 rfl) ?_
  refine tw_Vc (o := a0) (ci := 12) (n := 1) (post := (fun v kq Lq Eq => v = none ∧ kp = kq ∧ L = Lq ∧ tw_fr kp L [] [329] E Eq)) (As := [.int x2]) (rest := []) ⟨hx, hb, hml, hown, hB⟩ (fun sz => tX12_shrinks l D cs a0 x2 hm0 hk0 sz) cg_12_422_X12_shrinks rfl rfl (by decide +kernel) ⟨Nat.le_of_ble_eq_true rfl, Nat.le_of_ble_eq_true rfl⟩ hK hN TH hS hA rfl hm0 hk0 (by decide) rfl hl.1 rfl (Nat.le_of_ble_eq_true rfl) dX12_lays_2 ⟨Nat.le_of_ble_eq_true rfl, Nat.le_of_ble_eq_true rfl⟩ (fun v1 kp1 L1 E1 H locs hq1 hx1 TH hS => ?_)
  obtain ⟨rfl, rfl, rfl, hst1⟩ := hq1
  have hF := hF.tr hst1 (fun _ h => ⟨h, rfl⟩) (by decide) (by decide)
  have hg0 : lyw_ok E1 a0 (x1.toInt) (x2.toInt) := lyw_ok_fr TH hst1 hm0 hk0 (by decide) (by decide) hg0
  have hg1 : rd_ok E1 a0 := rd_ok_fr TH hst1 hm0 hk0 (by decide) (by decide) hg1
  have hg2 : eo_ok E1 a0 := eo_ok_fr TH hst1 hm0 hk0 (by decide) (by decide) hg2
  have hg3 : ht_ok E1 a0 := ht_ok_fr TH hst1 hm0 hk0 (by decide) (by decide) hg3
  have hh12 : h12_ok E1 a0 (rw_h E a0 12) := h12_ok_fr TH hst1 hm0 hk0 (by decide) (by decide) hh12
  have hp12 : p12_ok E1 a0 (rw_p E a0 12) := p12_ok_fr TH hst1 hm0 hk0 (by decide) (by decide) hp12
  refine W.eq (g2 := F0 m 5 ls []) rfl ?_
  refine lv_iconst (v := 0) hx hb dX12_lays_5 (by decide) ?_
  refine lv_istore (lv' := [(4, .int 0), (0, .ref a0), (1, .int x1), (2, .int x2), (3, .int x3)]) hx hb dX12_lays_6 hl (by decide) rfl (fun ls hl => ?_)
  have hJ8 : ∀ (n8 : Nat) (y8_4 : Int32) (Eg8 : Nat → va_E) (H : Heap) (locs : List Loc) (ls : Array Slot), 0 ≤ y8_4.toInt → y8_4.toInt ≤ 150 → 150 - y8_4.toInt ≤ (n8 : Int) → tw_fr kp L [] [329] E1 Eg8 → lyw_ok Eg8 a0 (x1.toInt) (x2.toInt) → rd_ok Eg8 a0 → eo_ok Eg8 a0 → ht_ok Eg8 a0 → h12_ok Eg8 a0 (rw_h E a0 12) → p12_ok Eg8 a0 (rw_p E a0 12) → tw_H D cs kp L Eg8 A H → va_S A s.heap H locs → lv_has ls 5 [(4, .int y8_4), (0, .ref a0), (1, .int x1), (2, .int x2), (3, .int x3)] → W p l e { frames := 4, cells := 0, slots := 0, locals := 98 } s m [.ref a0, .int x1, .int x2, .int x3].toArray below meth c H locs 0 0 (MQ below (tw_Q D cs kp0 L0 (fun v kq Lq Eq => v = none ∧ kp = kq ∧ L = Lq ∧ tw_fr kp L [] [326, 328, 329] E Eq ∧ (∀ c : Nat, rw_h Eq a0 12 c = if c = (x1.toInt).toNat then 1 else rw_h E a0 12 c) ∧ (∀ c : Nat, rw_p Eq a0 12 c = if c = (x1.toInt).toNat then x2.toInt else rw_p E a0 12 c) ∧ rw_ok Eq a0 (12) ∧ rd_ok Eq a0 ∧ eo_ok Eq a0 ∧ ht_ok Eq a0) A) [.ref a0, .int x1, .int x2, .int x3].toArray s 0 0 A) (F0 m 8 ls []) := by
    intro n8
    induction n8 using Nat.strongRecOn with
    | _ n8 ih8 =>
      intro y8_4 Eg8 H locs ls hy8_4a hy8_4b hmeas8 hG8 hg0 hg1 hg2 hg3 hh12 hp12 TH hS hl
      have hF := hF.tr hG8 (fun _ h => ⟨h, rfl⟩) (by decide) (by decide)
      refine lv_iload hx hb dX12_lays_8 (lv_at hl 0 rfl) ?_
      refine lv_sipush (v := 150) hx hb dX12_lays_10 (by decide) ?_
      refine lv_icmp_ge (tgt := 77) hx hb dX12_lays_13 (by decide) (fun hc3 => ?_) (fun hc3 => ?_)
      · have hf4 : 150 ≤ y8_4.toInt := by have z := (fa_le _ _).mp hc3; have : ((150 : Int32).toInt) = 150 := (by decide); omega
        refine lv_aload_n hx hb dX12_lays_77 rfl (lv_at hl 1 rfl) ?_
        refine tw_get (ci := 12) (C := RX12) (T := TX12) (N := 64) hx hb hB cx_inX12 hown hK TH hm0 hk0 rfl ⟨by decide, rfl⟩ 16 (by decide) cw_1209 (fun _ h9 => h9) dX12_lays_78 (fun hv => ?_)
        obtain ⟨xr5, hxr5, hmxr5, hkxr5⟩ : ∃ a : Nat, tw_fv Eg8 a0 16 = .ref a ∧ a ∈ L ∧ kp a = 316 := hv
        rw [hxr5]
        refine lv_bipush (v := 12) hx hb dX12_lays_81 (by decide) ?_
        refine tw_aald (k := 316) (t0 := 5) (n := 16) (lo := 326) (hi := 0) (ty := .boolean) hx hb hK TH hmxr5 hkxr5 (by decide) rfl rfl (i := 12) (vp_in_iff.mpr ⟨by have : ((12 : Int32).toInt) = 12 := (by decide); omega, by have : ((12 : Int32).toInt) = 12 := (by decide); omega⟩) dX12_lays_83 (fun xr6 exr6 hmxr6 hkxr6 => ?_)
        have hkxr6 : kp xr6 = 326 := hkxr6
        refine lv_iload_n hx hb dX12_lays_84 rfl (lv_at hl 2 rfl) ?_
        refine lv_iconst (v := 1) hx hb dX12_lays_85 (by decide) ?_
        have hlyo := hg0
        refine tw_zast (k := 326) (n := 150) (lo := 0) (hi := 1) hx hb hK TH hS hmxr6 hkxr6 (by decide) rfl (i := x1) (x := 1) (vp_in_iff.mpr ⟨by  omega, by  omega⟩) (by have : ((1 : Int32).toInt) = 1 := (by decide); omega) (by have : ((1 : Int32).toInt) = 1 := (by decide); omega) (by have : ((1 : Int32).toInt) = 1 := (by decide); omega) (by have : ((1 : Int32).toInt) = 1 := (by decide); omega) dX12_lays_86 (fun H locs E7 TH hS hp8 hp9 hp10 => ?_)
        have hst11 : tw_fr kp L [] [326] Eg8 E7 := tw_fr.ast tw_fr.rf (fun _ => hkxr6) hp8 hp9 (by decide)
        have hF := hF.tr hst11 (fun _ h => ⟨h, rfl⟩) (by decide) (by decide)
        have hmf12 : tw_fv E7 a0 16 = .ref xr5 := (hst11.1 a0 16 hm0 (by rw [hk0]; decide)).trans hxr5
        have hg0_o := hg0
        have hg1_o := hg1
        have hg2_o := hg2
        have hg3_o := hg3
        have hh12_o := hh12
        have hp12_o := hp12
        have hg1 : rd_ok E7 a0 := rd_ok_fr TH hst11 hm0 hk0 (by decide) (by decide) hg1
        have hg2 : eo_ok E7 a0 := eo_ok_h (i := 12) TH hm0 hk0 hg1_o hxr5 exr6 hkxr5 hkxr6 hp8 hp9 (by have e : ((12 : Int32).toInt) = 12 := (by decide); omega) (by have e : ((12 : Int32).toInt) = 12 := (by decide); omega) (by have := tw_fi_ed TH hm0 hk0; have e : ((12 : Int32).toInt) = 12 := (by decide); omega) hg2_o
        have hg3 : ht_ok E7 a0 := ht_ok_h (i := 12) hg1_o hxr5 exr6 hkxr5 hkxr6 hp8 hp9 (by have e : ((12 : Int32).toInt) = 12 := (by decide); omega) (by have e : ((12 : Int32).toInt) = 12 := (by decide); omega) hg3_o
        have hh12 : h12_ok E7 a0 (fun c => if c = (x1.toInt).toNat then 1 else (rw_h E a0 12) c) := (by have e12 : ((12 : Int32).toInt) = 12 := (by decide); have ev : ((1 : Int32).toInt) = 1 := (by decide); have q := rw_h_st (m := a0) (i := 12) (c := x1) hxr5 exr6 hkxr5 hkxr6 hp8 hp9 hp10; rw [e12, ev] at q; exact h12_st hh12_o q)
        have hp12 : p12_ok E7 a0 (rw_p E a0 12) := p12_ok_fr TH hst11 hm0 hk0 (by decide) (by decide) hp12
        have hgn13 : lyx_ok E7 a0 (x1.toInt) (x2.toInt) := (by have e12 : ((12 : Int32).toInt) = 12 := (by decide); have e1 : ((1 : Int32).toInt) = 1 := (by decide); have q := rw_h_st (m := a0) (i := 12) (c := x1) hxr5 exr6 hkxr5 hkxr6 hp8 hp9 hp10; rw [e12, e1] at q; exact lyx_of hlyo q (rw_p_hst TH hm0 hk0 hkxr6 hp8 hp9 (i := 12) (by decide)))
        refine lv_aload_n hx hb dX12_lays_87 rfl (lv_at hl 1 rfl) ?_
        refine tw_get (ci := 12) (C := RX12) (T := TX12) (N := 64) hx hb hB cx_inX12 hown hK TH hm0 hk0 rfl ⟨by decide, rfl⟩ 18 (by decide) cw_1211 (fun _ h9 => h9) dX12_lays_88 (fun hv => ?_)
        obtain ⟨xr14, hxr14, hmxr14, hkxr14⟩ : ∃ a : Nat, tw_fv E7 a0 18 = .ref a ∧ a ∈ L ∧ kp a = 318 := hv
        rw [hxr14]
        refine lv_bipush (v := 12) hx hb dX12_lays_91 (by decide) ?_
        refine tw_aald (k := 318) (t0 := 4) (n := 16) (lo := 328) (hi := 0) (ty := .int) hx hb hK TH hmxr14 hkxr14 (by decide) rfl rfl (i := 12) (vp_in_iff.mpr ⟨by have : ((12 : Int32).toInt) = 12 := (by decide); omega, by have : ((12 : Int32).toInt) = 12 := (by decide); omega⟩) dX12_lays_93 (fun xr15 exr15 hmxr15 hkxr15 => ?_)
        have hkxr15 : kp xr15 = 328 := hkxr15
        refine lv_iload_n hx hb dX12_lays_94 rfl (lv_at hl 2 rfl) ?_
        refine lv_iload_n hx hb dX12_lays_95 rfl (lv_at hl 3 rfl) ?_
        have hlxo := hgn13
        refine tw_iast (k := 328) (n := 150) (lo := (-1)) (hi := 149) hx hb hK TH hS hmxr15 hkxr15 (by decide) rfl (i := x1) (x := x2) (vp_in_iff.mpr ⟨by  omega, by  omega⟩) (by omega) (by omega) dX12_lays_96 (fun H locs E16 TH hS hp17 hp18 hp19 => ?_)
        have hst20 : tw_fr kp L [] [328] E7 E16 := tw_fr.ast tw_fr.rf (fun _ => hkxr15) hp17 hp18 (by decide)
        have hF := hF.tr hst20 (fun _ h => ⟨h, rfl⟩) (by decide) (by decide)
        have hmf21 : tw_fv E16 a0 16 = .ref xr5 := (hst20.1 a0 16 hm0 (by rw [hk0]; decide)).trans hmf12
        have hmf22 : tw_fv E16 a0 18 = .ref xr14 := (hst20.1 a0 18 hm0 (by rw [hk0]; decide)).trans hxr14
        have hg1_o := hg1
        have hg2_o := hg2
        have hg3_o := hg3
        have hh12_o := hh12
        have hp12_o := hp12
        have hgn13_o := hgn13
        have hg1 : rd_ok E16 a0 := rd_ok_fr TH hst20 hm0 hk0 (by decide) (by decide) hg1
        have hg2 : eo_ok E16 a0 := eo_ok_p (i := 12) TH hm0 hk0 hg1_o hxr14 exr15 hkxr14 hkxr15 hp17 hp18 (by have e : ((12 : Int32).toInt) = 12 := (by decide); omega) (by have e : ((12 : Int32).toInt) = 12 := (by decide); omega) (by have := tw_fi_ed TH hm0 hk0; have e : ((12 : Int32).toInt) = 12 := (by decide); omega) hg2_o
        have hg3 : ht_ok E16 a0 := ht_ok_fr TH hst20 hm0 hk0 (by decide) (by decide) hg3
        have hh12 : h12_ok E16 a0 (fun c => if c = (x1.toInt).toNat then 1 else (rw_h E a0 12) c) := h12_ok_fr TH hst20 hm0 hk0 (by decide) (by decide) hh12
        have hp12 : p12_ok E16 a0 (fun c => if c = (x1.toInt).toNat then x2.toInt else (rw_p E a0 12) c) := (by have e12 : ((12 : Int32).toInt) = 12 := (by decide); have q := rw_p_st (m := a0) (i := 12) (c := x1) hxr14 exr15 hkxr14 hkxr15 hp17 hp18 hp19; rw [e12] at q; exact p12_st hp12_o q)
        have hgn23 : rw_ok E16 a0 (12) := (by have e12 : ((12 : Int32).toInt) = 12 := (by decide); have q := rw_p_st (m := a0) (i := 12) (c := x1) hxr14 exr15 hkxr14 hkxr15 hp17 hp18 hp19; rw [e12] at q; exact rw_of_lyx hlxo (rw_h_pst TH hm0 hk0 hkxr15 hp17 hp18 (i := 12) (by decide)) q)
        refine lv_aload_n hx hb dX12_lays_97 rfl (lv_at hl 1 rfl) ?_
        refine tw_get (ci := 12) (C := RX12) (T := TX12) (N := 64) hx hb hB cx_inX12 hown hK TH hm0 hk0 rfl ⟨by decide, rfl⟩ 19 (by decide) cw_1212 (fun _ h9 => h9) dX12_lays_98 (fun hv => ?_)
        obtain ⟨xr24, hxr24, hmxr24, hkxr24⟩ : ∃ a : Nat, tw_fv E16 a0 19 = .ref a ∧ a ∈ L ∧ kp a = 319 := hv
        rw [hxr24]
        refine lv_bipush (v := 12) hx hb dX12_lays_101 (by decide) ?_
        refine tw_aald (k := 319) (t0 := 4) (n := 16) (lo := 329) (hi := 0) (ty := .int) hx hb hK TH hmxr24 hkxr24 (by decide) rfl rfl (i := 12) (vp_in_iff.mpr ⟨by have : ((12 : Int32).toInt) = 12 := (by decide); omega, by have : ((12 : Int32).toInt) = 12 := (by decide); omega⟩) dX12_lays_103 (fun xr25 exr25 hmxr25 hkxr25 => ?_)
        have hkxr25 : kp xr25 = 329 := hkxr25
        refine lv_iload_n hx hb dX12_lays_104 rfl (lv_at hl 2 rfl) ?_
        refine lv_iload_n hx hb dX12_lays_105 rfl (lv_at hl 4 rfl) ?_
        refine tw_iast (k := 329) (n := 150) (lo := (-2147483648)) (hi := 2147483647) hx hb hK TH hS hmxr25 hkxr25 (by decide) rfl (i := x1) (x := x3) (vp_in_iff.mpr ⟨by  omega, by  omega⟩) (ia_lo _) (ia_hi _) dX12_lays_106 (fun H locs E26 TH hS hp27 hp28 hp29 => ?_)
        have hst30 : tw_fr kp L [] [329] E16 E26 := tw_fr.ast tw_fr.rf (fun _ => hkxr25) hp27 hp28 (by decide)
        have hF := hF.tr hst30 (fun _ h => ⟨h, rfl⟩) (by decide) (by decide)
        have hmf31 : tw_fv E26 a0 16 = .ref xr5 := (hst30.1 a0 16 hm0 (by rw [hk0]; decide)).trans hmf21
        have hmf32 : tw_fv E26 a0 18 = .ref xr14 := (hst30.1 a0 18 hm0 (by rw [hk0]; decide)).trans hmf22
        have hmf33 : tw_fv E26 a0 19 = .ref xr24 := (hst30.1 a0 19 hm0 (by rw [hk0]; decide)).trans hxr24
        have hg1 : rd_ok E26 a0 := rd_ok_fr TH hst30 hm0 hk0 (by decide) (by decide) hg1
        have hg2 : eo_ok E26 a0 := eo_ok_fr TH hst30 hm0 hk0 (by decide) (by decide) hg2
        have hg3 : ht_ok E26 a0 := ht_ok_fr TH hst30 hm0 hk0 (by decide) (by decide) hg3
        have hh12 : h12_ok E26 a0 (fun c => if c = (x1.toInt).toNat then 1 else (rw_h E a0 12) c) := h12_ok_fr TH hst30 hm0 hk0 (by decide) (by decide) hh12
        have hp12 : p12_ok E26 a0 (fun c => if c = (x1.toInt).toNat then x2.toInt else (rw_p E a0 12) c) := p12_ok_fr TH hst30 hm0 hk0 (by decide) (by decide) hp12
        have hgn23 : rw_ok E26 a0 (12) := rw_ok_fr TH hst30 hm0 hk0 (by decide) (by decide) (by omega) hgn23
        refine lv_aload_n hx hb dX12_lays_107 rfl (lv_at hl 1 rfl) ?_
        refine lv_bipush (v := 12) hx hb dX12_lays_108 (by decide) ?_
        refine tw_Vc (o := a0) (ci := 12) (n := 1) (post := (fun v kq Lq Eq => v = none ∧ kp = kq ∧ L = Lq ∧ tw_fr kp L [] [329] E26 Eq ∧ ht_ok Eq a0 ∧ t1_ok Eq a0 ((12 : Int32).toInt))) (As := [.int 12]) (rest := []) ⟨hx, hb, hml, hown, hB⟩ (fun sz => tX12_orders l D cs a0 (12 : Int32) hm0 hk0 (by have : ((12 : Int32).toInt) = 12 := (by decide); omega) (by have : ((12 : Int32).toInt) = 12 := (by decide); omega) hg3 (t1_ok_cast (i := 12) (by decide) (hgn23).1) sz) cg_12_275_X12_orders rfl rfl (by decide +kernel) ⟨Nat.le_of_ble_eq_true rfl, Nat.le_of_ble_eq_true rfl⟩ hK hN TH hS hA rfl hm0 hk0 (by decide) rfl hl.1 rfl (Nat.le_of_ble_eq_true rfl) dX12_lays_110 ⟨Nat.le_of_ble_eq_true rfl, Nat.le_of_ble_eq_true rfl⟩ (fun v34 kp34 L34 E34 H locs hq34 hx34 TH hS => ?_)
        obtain ⟨rfl, rfl, rfl, hst34, hgpxc35_0, hgpxc35_1⟩ := hq34
        have hF := hF.tr hst34 (fun _ h => ⟨h, rfl⟩) (by decide) (by decide)
        have hmf36 : tw_fv E34 a0 16 = .ref xr5 := (hst34.1 a0 16 hm0 (by rw [hk0]; decide)).trans hmf31
        have hmf37 : tw_fv E34 a0 18 = .ref xr14 := (hst34.1 a0 18 hm0 (by rw [hk0]; decide)).trans hmf32
        have hmf38 : tw_fv E34 a0 19 = .ref xr24 := (hst34.1 a0 19 hm0 (by rw [hk0]; decide)).trans hmf33
        have hg1 : rd_ok E34 a0 := rd_ok_fr TH hst34 hm0 hk0 (by decide) (by decide) hg1
        have hg2 : eo_ok E34 a0 := eo_ok_fr TH hst34 hm0 hk0 (by decide) (by decide) hg2
        have hh12 : h12_ok E34 a0 (fun c => if c = (x1.toInt).toNat then 1 else (rw_h E a0 12) c) := h12_ok_fr TH hst34 hm0 hk0 (by decide) (by decide) hh12
        have hp12 : p12_ok E34 a0 (fun c => if c = (x1.toInt).toNat then x2.toInt else (rw_p E a0 12) c) := p12_ok_fr TH hst34 hm0 hk0 (by decide) (by decide) hp12
        have hgn23 : rw_ok E34 a0 (12) := rw_ok_fr TH hst34 hm0 hk0 (by decide) (by decide) (by omega) hgn23
        refine W.eq (g2 := F0 m 113 ls []) rfl ?_
        exact tw_vret hx hb hr hlocks TH hS hex ⟨rfl, rfl, rfl, hF, (by  intro c; exact congrFun hh12 c), (by  intro c; exact congrFun hp12 c), hgn23, hg1, hg2, hgpxc35_0⟩ (Nat.le_of_ble_eq_true rfl) (Nat.le_of_ble_eq_true rfl) dX12_lays_113
      · have hf39 : ¬ (150 ≤ y8_4.toInt) := fun q => hc3 ((fa_le _ _).mpr (by have : ((150 : Int32).toInt) = 150 := (by decide); omega))
        refine lv_aload_n hx hb dX12_lays_16 rfl (lv_at hl 1 rfl) ?_
        refine tw_get (ci := 12) (C := RX12) (T := TX12) (N := 64) hx hb hB cx_inX12 hown hK TH hm0 hk0 rfl ⟨by decide, rfl⟩ 16 (by decide) cw_1209 (fun _ h9 => h9) dX12_lays_17 (fun hv => ?_)
        obtain ⟨xr40, hxr40, hmxr40, hkxr40⟩ : ∃ a : Nat, tw_fv Eg8 a0 16 = .ref a ∧ a ∈ L ∧ kp a = 316 := hv
        rw [hxr40]
        refine lv_bipush (v := 12) hx hb dX12_lays_20 (by decide) ?_
        refine tw_aald (k := 316) (t0 := 5) (n := 16) (lo := 326) (hi := 0) (ty := .boolean) hx hb hK TH hmxr40 hkxr40 (by decide) rfl rfl (i := 12) (vp_in_iff.mpr ⟨by have : ((12 : Int32).toInt) = 12 := (by decide); omega, by have : ((12 : Int32).toInt) = 12 := (by decide); omega⟩) dX12_lays_22 (fun xr41 exr41 hmxr41 hkxr41 => ?_)
        have hkxr41 : kp xr41 = 326 := hkxr41
        refine lv_iload hx hb dX12_lays_23 (lv_at hl 0 rfl) ?_
        refine tw_zald (k := 326) (t0 := 3) (n := 150) (lo := 0) (hi := 1) hx hb hK TH hmxr41 hkxr41 (by decide) rfl rfl (i := y8_4) (vp_in_iff.mpr ⟨by  omega, by  omega⟩) dX12_lays_25 (fun hxe42a hxe42b => ?_)
        obtain ⟨xe42, exe42⟩ : ∃ z : Int32, tw_iv Eg8 xr41 (Int32.toNatClampNeg y8_4) = z := ⟨_, rfl⟩
        rw [exe42] at hxe42a hxe42b ⊢
        have hJ71 : ∀  (Eg71 : Nat → va_E) (H : Heap) (locs : List Loc) (ls : Array Slot), tw_fr kp L [] [329] Eg8 Eg71 → lyw_ok Eg71 a0 (x1.toInt) (x2.toInt) → rd_ok Eg71 a0 → eo_ok Eg71 a0 → ht_ok Eg71 a0 → h12_ok Eg71 a0 (rw_h E a0 12) → p12_ok Eg71 a0 (rw_p E a0 12) → tw_H D cs kp L Eg71 A H → va_S A s.heap H locs → lv_has ls 5 [(4, .int y8_4), (0, .ref a0), (1, .int x1), (2, .int x2), (3, .int x3)] → W p l e { frames := 4, cells := 0, slots := 0, locals := 98 } s m [.ref a0, .int x1, .int x2, .int x3].toArray below meth c H locs 0 0 (MQ below (tw_Q D cs kp0 L0 (fun v kq Lq Eq => v = none ∧ kp = kq ∧ L = Lq ∧ tw_fr kp L [] [326, 328, 329] E Eq ∧ (∀ c : Nat, rw_h Eq a0 12 c = if c = (x1.toInt).toNat then 1 else rw_h E a0 12 c) ∧ (∀ c : Nat, rw_p Eq a0 12 c = if c = (x1.toInt).toNat then x2.toInt else rw_p E a0 12 c) ∧ rw_ok Eq a0 (12) ∧ rd_ok Eq a0 ∧ eo_ok Eq a0 ∧ ht_ok Eq a0) A) [.ref a0, .int x1, .int x2, .int x3].toArray s 0 0 A) (F0 m 71 ls []) := by
          intro Eg71 H locs ls hG71 hg0 hg1 hg2 hg3 hh12 hp12 TH hS hl
          have hF := hF.tr hG71 (fun _ h => ⟨h, rfl⟩) (by decide) (by decide)
          have hG8 := hG8.tr hG71 (fun _ h => ⟨h, rfl⟩) (by decide) (by decide)
          have hmf43 : tw_fv Eg71 a0 16 = .ref xr40 := (hG71.1 a0 16 hm0 (by rw [hk0]; decide)).trans hxr40
          obtain ⟨zi44, ezi44⟩ : ∃ z : Int32, z = y8_4 + Int32.ofInt 1 := ⟨_, rfl⟩
          have hzi44 : zi44.toInt = y8_4.toInt + 1 := by rw [ezi44]; have : ((Int32.ofInt 1).toInt) = 1 := (by decide);  exact (ia_add (by omega) (by omega)).trans (by omega)
          refine lv_iinc (v := zi44) (lv' := [(4, .int zi44), (0, .ref a0), (1, .int x1), (2, .int x2), (3, .int x3)]) hx hb dX12_lays_71 hl (k := 0) rfl ezi44.symm (by decide) rfl (fun ls hl => ?_)
          refine lv_goto (tgt := 8) hx hb dX12_lays_74 (by decide) ?_
          exact ih8 (n8 - 1) (by   omega) zi44 _ _ _ ls (by omega) (by omega) (by   omega) hG8 hg0 hg1 hg2 hg3 hh12 hp12 TH hS (lv_sub hl [0, 1, 2, 3, 4] rfl)
        have hG71 : tw_fr kp L [] [329] Eg8 Eg8 := tw_fr.rf
        refine lv_if_eq (tgt := 71) hx hb dX12_lays_26 (by decide) (fun hc45 => ?_) (fun hc45 => ?_)
        · have hf46 : xe42.toInt = 0 := by have z := (fa_eq _ _).mp hc45; have : ((0 : Int32).toInt) = 0 := (by decide); omega
          exact hJ71  _ _ _ ls hG71 hg0 hg1 hg2 hg3 hh12 hp12 TH hS (lv_sub hl [0, 1, 2, 3, 4] rfl)
        · have hf47 : ¬ (xe42.toInt = 0) := fun q => hc45 ((fa_eq _ _).mpr (by have : ((0 : Int32).toInt) = 0 := (by decide); omega))
          refine lv_aload_n hx hb dX12_lays_29 rfl (lv_at hl 1 rfl) ?_
          refine tw_get (ci := 12) (C := RX12) (T := TX12) (N := 64) hx hb hB cx_inX12 hown hK TH hm0 hk0 rfl ⟨by decide, rfl⟩ 18 (by decide) cw_1211 (fun _ h9 => h9) dX12_lays_30 (fun hv => ?_)
          obtain ⟨xr48, hxr48, hmxr48, hkxr48⟩ : ∃ a : Nat, tw_fv Eg8 a0 18 = .ref a ∧ a ∈ L ∧ kp a = 318 := hv
          rw [hxr48]
          refine lv_bipush (v := 12) hx hb dX12_lays_33 (by decide) ?_
          refine tw_aald (k := 318) (t0 := 4) (n := 16) (lo := 328) (hi := 0) (ty := .int) hx hb hK TH hmxr48 hkxr48 (by decide) rfl rfl (i := 12) (vp_in_iff.mpr ⟨by have : ((12 : Int32).toInt) = 12 := (by decide); omega, by have : ((12 : Int32).toInt) = 12 := (by decide); omega⟩) dX12_lays_35 (fun xr49 exr49 hmxr49 hkxr49 => ?_)
          have hkxr49 : kp xr49 = 328 := hkxr49
          refine lv_iload hx hb dX12_lays_36 (lv_at hl 0 rfl) ?_
          refine tw_iald (k := 328) (t0 := 0) (n := 150) (lo := (-1)) (hi := 149) hx hb hK TH hmxr49 hkxr49 (by decide) rfl rfl (i := y8_4) (vp_in_iff.mpr ⟨by  omega, by  omega⟩) dX12_lays_38 (fun hxe50a hxe50b => ?_)
          obtain ⟨xe50, exe50⟩ : ∃ z : Int32, tw_iv Eg8 xr49 (Int32.toNatClampNeg y8_4) = z := ⟨_, rfl⟩
          rw [exe50] at hxe50a hxe50b ⊢
          refine lv_iload_n hx hb dX12_lays_39 rfl (lv_at hl 3 rfl) ?_
          refine lv_icmp_ne (tgt := 71) hx hb dX12_lays_40 (by decide) (fun hc51 => ?_) (fun hc51 => ?_)
          · have hf52 : ¬ (xe50.toInt = x2.toInt) := fun q => hc51 ((fa_eq _ _).mpr (by  omega))
            exact hJ71  _ _ _ ls hG71 hg0 hg1 hg2 hg3 hh12 hp12 TH hS (lv_sub hl [0, 1, 2, 3, 4] rfl)
          · have hf53 : xe50.toInt = x2.toInt := by have z := (fa_eq _ _).mp hc51;  omega
            refine lv_aload_n hx hb dX12_lays_43 rfl (lv_at hl 1 rfl) ?_
            refine tw_get (ci := 12) (C := RX12) (T := TX12) (N := 64) hx hb hB cx_inX12 hown hK TH hm0 hk0 rfl ⟨by decide, rfl⟩ 19 (by decide) cw_1212 (fun _ h9 => h9) dX12_lays_44 (fun hv => ?_)
            obtain ⟨xr54, hxr54, hmxr54, hkxr54⟩ : ∃ a : Nat, tw_fv Eg8 a0 19 = .ref a ∧ a ∈ L ∧ kp a = 319 := hv
            rw [hxr54]
            refine lv_bipush (v := 12) hx hb dX12_lays_47 (by decide) ?_
            refine tw_aald (k := 319) (t0 := 4) (n := 16) (lo := 329) (hi := 0) (ty := .int) hx hb hK TH hmxr54 hkxr54 (by decide) rfl rfl (i := 12) (vp_in_iff.mpr ⟨by have : ((12 : Int32).toInt) = 12 := (by decide); omega, by have : ((12 : Int32).toInt) = 12 := (by decide); omega⟩) dX12_lays_49 (fun xr55 exr55 hmxr55 hkxr55 => ?_)
            have hkxr55 : kp xr55 = 329 := hkxr55
            refine lv_iload hx hb dX12_lays_50 (lv_at hl 0 rfl) ?_
            refine tw_iald (k := 329) (t0 := 0) (n := 150) (lo := (-2147483648)) (hi := 2147483647) hx hb hK TH hmxr55 hkxr55 (by decide) rfl rfl (i := y8_4) (vp_in_iff.mpr ⟨by  omega, by  omega⟩) dX12_lays_52 (fun hxe56a hxe56b => ?_)
            obtain ⟨xe56, exe56⟩ : ∃ z : Int32, tw_iv Eg8 xr55 (Int32.toNatClampNeg y8_4) = z := ⟨_, rfl⟩
            rw [exe56] at hxe56a hxe56b ⊢
            refine lv_iload_n hx hb dX12_lays_53 rfl (lv_at hl 4 rfl) ?_
            refine lv_icmp_lt (tgt := 71) hx hb dX12_lays_54 (by decide) (fun hc57 => ?_) (fun hc57 => ?_)
            · have hf58 : xe56.toInt < x3.toInt := by have z := (fa_lt _ _).mp hc57;  omega
              exact hJ71  _ _ _ ls hG71 hg0 hg1 hg2 hg3 hh12 hp12 TH hS (lv_sub hl [0, 1, 2, 3, 4] rfl)
            · have hf59 : ¬ (xe56.toInt < x3.toInt) := fun q => hc57 ((fa_lt _ _).mpr (by  omega))
              refine lv_aload_n hx hb dX12_lays_57 rfl (lv_at hl 1 rfl) ?_
              refine tw_get (ci := 12) (C := RX12) (T := TX12) (N := 64) hx hb hB cx_inX12 hown hK TH hm0 hk0 rfl ⟨by decide, rfl⟩ 19 (by decide) cw_1212 (fun _ h9 => h9) dX12_lays_58 (fun hv => ?_)
              rw [hxr54]
              refine lv_bipush (v := 12) hx hb dX12_lays_61 (by decide) ?_
              refine tw_aald (k := 319) (t0 := 4) (n := 16) (lo := 329) (hi := 0) (ty := .int) hx hb hK TH hmxr54 hkxr54 (by decide) rfl rfl (i := 12) (vp_in_iff.mpr ⟨by have : ((12 : Int32).toInt) = 12 := (by decide); omega, by have : ((12 : Int32).toInt) = 12 := (by decide); omega⟩) dX12_lays_63 (fun xr60 exr60 hmxr60 hkxr60 => ?_)
              have ezxr60 : xr55 = xr60 := exr55.symm.trans exr60
              subst ezxr60
              refine lv_iload hx hb dX12_lays_64 (lv_at hl 0 rfl) ?_
              refine lv_dup2_11 hx hb dX12_lays_66 rfl rfl ?_
              refine tw_iald (k := 329) (t0 := 0) (n := 150) (lo := (-2147483648)) (hi := 2147483647) hx hb hK TH hmxr55 hkxr55 (by decide) rfl rfl (i := y8_4) (vp_in_iff.mpr ⟨by  omega, by  omega⟩) dX12_lays_67 (fun hxe61a hxe61b => ?_)
              rw [exe56]
              refine lv_iconst (v := 1) hx hb dX12_lays_68 (by decide) ?_
              refine lv_iadd hx hb dX12_lays_69 ?_
              refine lv_topi (fun zi62 ezi62 => ?_)
              refine tw_iast (k := 329) (n := 150) (lo := (-2147483648)) (hi := 2147483647) hx hb hK TH hS hmxr55 hkxr55 (by decide) rfl (i := y8_4) (x := zi62) (vp_in_iff.mpr ⟨by  omega, by  omega⟩) (ia_lo _) (ia_hi _) dX12_lays_70 (fun H locs E63 TH hS hp64 hp65 hp66 => ?_)
              have hst67 : tw_fr kp L [] [329] Eg8 E63 := tw_fr.ast tw_fr.rf (fun _ => hkxr55) hp64 hp65 (by decide)
              have hF := hF.tr hst67 (fun _ h => ⟨h, rfl⟩) (by decide) (by decide)
              have hG8 := hG8.tr hst67 (fun _ h => ⟨h, rfl⟩) (by decide) (by decide)
              have hG71 := hG71.tr hst67 (fun _ h => ⟨h, rfl⟩) (by decide) (by decide)
              have hmf68 : tw_fv E63 a0 16 = .ref xr40 := (hst67.1 a0 16 hm0 (by rw [hk0]; decide)).trans hxr40
              have hmf69 : tw_fv E63 a0 18 = .ref xr48 := (hst67.1 a0 18 hm0 (by rw [hk0]; decide)).trans hxr48
              have hmf70 : tw_fv E63 a0 19 = .ref xr54 := (hst67.1 a0 19 hm0 (by rw [hk0]; decide)).trans hxr54
              have hg0 : lyw_ok E63 a0 (x1.toInt) (x2.toInt) := lyw_ok_fr TH hst67 hm0 hk0 (by decide) (by decide) hg0
              have hg1 : rd_ok E63 a0 := rd_ok_fr TH hst67 hm0 hk0 (by decide) (by decide) hg1
              have hg2 : eo_ok E63 a0 := eo_ok_fr TH hst67 hm0 hk0 (by decide) (by decide) hg2
              have hg3 : ht_ok E63 a0 := ht_ok_fr TH hst67 hm0 hk0 (by decide) (by decide) hg3
              have hh12 : h12_ok E63 a0 (rw_h E a0 12) := h12_ok_fr TH hst67 hm0 hk0 (by decide) (by decide) hh12
              have hp12 : p12_ok E63 a0 (rw_p E a0 12) := p12_ok_fr TH hst67 hm0 hk0 (by decide) (by decide) hp12
              exact hJ71  _ _ _ ls hG71 hg0 hg1 hg2 hg3 hh12 hp12 TH hS (lv_sub hl [0, 1, 2, 3, 4] rfl)
  exact hJ8 151 (0 : Int32) _ _ _ ls (by have : ((0 : Int32).toInt) = 0 := (by decide); omega) (by have : ((0 : Int32).toInt) = 0 := (by decide); omega) (by have : ((0 : Int32).toInt) = 0 := (by decide);  omega) tw_fr.rf hg0 hg1 hg2 hg3 hh12 hp12 TH hS (lv_sub hl [0, 1, 2, 3, 4] rfl)
set_option maxHeartbeats 4000000 in
set_option maxRecDepth 100000 in
theorem tX12_put (l : Launch) (D : va_G) (cs : Nat → ClassId) {kp : Nat → Nat} {L : List Nat} {E : Nat → va_E} (a0 : Nat) (x1 : Int32) (x2 : Int32) (x3 : Int32) (x4 : Int64) (hm0 : a0 ∈ L) (hk0 : kp a0 = 12) (hg0 : rd_ok E a0) (hg1 : eo_ok E a0) (hg2 : ht_ok E a0) (hg3 : dr_ok E a0) (sz : Nat) : Met l yX12_put (.code yX12_put cX12_put 7 (some .int) :: cx_big) { frames := 5, cells := 0, slots := 0, locals := 122 } (tw_P D cs kp L E [.ref a0, .int x1, .int x2, .int x3, .long x4] sz) (tw_Q D cs kp L (fun v kq Lq Eq => (∃ x : Int32, v = some (.int x) ∧ rd_ok Eq a0 ∧ eo_ok Eq a0 ∧ ht_ok Eq a0 ∧ dr_ok Eq a0) ∧ kp = kq ∧ L = Lq ∧ tw_fr kp L [(12, 26)] [326, 327, 328, 329, 330, 331, 333] E Eq) (va_A (va_pl L E) sz)) 0 0 (va_A (va_pl L E) sz) := by
  refine tw_ofW (by decide) (Nat.le_of_ble_eq_true rfl) ?_
  intro p e s m below meth c A ls hx hb hr hml hB hown hlocks hK hN hA TH hS hl
  have hown : s.vm.findClass "TreeMergeModel" = some m.cls := hown
  have hl : lv_has ls 7 [(0, .ref a0), (1, .int x1), (2, .int x2), (3, .int x3), (4, .long x4)] := hl
  obtain ⟨kp0, ekp⟩ : ∃ z, z = kp := ⟨_, rfl⟩
  obtain ⟨L0, eL⟩ : ∃ z, z = L := ⟨_, rfl⟩
  rw [show tw_Q D cs kp L = tw_Q D cs kp0 L0 by rw [ekp, eL]]
  have hex : ∀ a : Nat, a ∈ L0 → a ∈ L ∧ kp a = kp0 a := fun a h => ⟨by rw [← eL]; exact h, by rw [ekp]⟩
  have hF : tw_fr kp L [(12, 26)] [326, 327, 328, 329, 330, 331, 333] E E := tw_fr.rf
  have hh12 : h12_ok E a0 (rw_h E a0 12) := rfl
  have hp12 : p12_ok E a0 (rw_p E a0 12) := rfl
  refine lv_aload_n hx hb dX12_put_0 rfl (lv_at hl 0 rfl) ?_
  refine lv_iload_n hx hb dX12_put_1 rfl (lv_at hl 1 rfl) ?_
  obtain ⟨xi1, hxi1, hxi1a, hxi1b⟩ := tw_rd TH hm0 hk0 (by decide) (by decide) (k := 26) rfl
  obtain ⟨xi2, hxi2, hxi2a, hxi2b⟩ := tw_rd TH hm0 hk0 (by decide) (by decide) (k := 29) rfl
  refine tw_Vc (o := a0) (ci := 12) (n := 1) (post := (fun v kq Lq Eq => (∃ x : Int32, v = some (.int x) ∧ 0 ≤ x.toInt ∧ x.toInt ≤ 1 ∧ (x.toInt ≠ 0 → 0 ≤ x1.toInt ∧ x1.toInt < xi1.toInt ∧ xi2.toInt = 1) ∧ (x.toInt ≠ 0 → rw_h E a0 12 (x1.toInt).toNat ≠ 0)) ∧ kp = kq ∧ L = Lq ∧ E = Eq)) (As := [.int x1]) (rest := []) ⟨hx, hb, hml, hown, hB⟩ (fun sz => tX12_inDraft l D cs a0 x1 xi1 xi2 hm0 hk0 hxi1 hxi2 sz) cg_12_425_X12_inDraft rfl rfl (by decide +kernel) ⟨Nat.le_of_ble_eq_true rfl, Nat.le_of_ble_eq_true rfl⟩ hK hN TH hS hA rfl hm0 hk0 (by decide) rfl hl.1 rfl (Nat.le_of_ble_eq_true rfl) dX12_put_2 ⟨Nat.le_of_ble_eq_true rfl, Nat.le_of_ble_eq_true rfl⟩ (fun v3 kp3 L3 E3 H locs hq3 hx3 TH hS => ?_)
  obtain ⟨⟨xc4, rfl, hxc4a, hxc4b, hpoxc4_0, hpoxc4_1⟩, rfl, rfl, rfl⟩ := hq3
  refine W.eq (g2 := F0 m 5 ls [.int xc4]) rfl ?_
  refine lv_if_eq (tgt := 70) hx hb dX12_put_5 (by decide) (fun hc5 => ?_) (fun hc5 => ?_)
  · have hf6 : xc4.toInt = 0 := by have z := (fa_eq _ _).mp hc5; have : ((0 : Int32).toInt) = 0 := (by decide); omega
    refine lv_iconst (v := (-1)) hx hb dX12_put_70 (by decide) ?_
    exact tw_iret hx hb hr hlocks TH hS hex ⟨⟨_, rfl, hg0, hg1, hg2, hg3⟩, rfl, rfl, hF⟩ (Nat.le_of_ble_eq_true rfl) (Nat.le_of_ble_eq_true rfl) dX12_put_71
  · have hf7 : ¬ (xc4.toInt = 0) := fun q => hc5 ((fa_eq _ _).mpr (by have : ((0 : Int32).toInt) = 0 := (by decide); omega))
    refine lv_iload_n hx hb dX12_put_8 rfl (lv_at hl 3 rfl) ?_
    refine lv_i2l (v := (x3).toInt64) hx hb dX12_put_9 rfl ?_
    refine tw_topl (fun zl8 ezl8 => ?_)
    have hzl8 : zl8.toInt = x3.toInt := by rw [ezl8];  exact (Int32.toInt_toInt64 _)
    refine lv_lconst (v := 0) hx hb dX12_put_10 (by decide) ?_
    refine tw_topl (fun zl9 ezl9 => ?_)
    have hzl9 : zl9.toInt = 0 := by rw [ezl9]; decide
    refine lv_aload_n hx hb dX12_put_11 rfl (lv_at hl 0 rfl) ?_
    refine tw_get (ci := 12) (C := RX12) (T := TX12) (N := 64) hx hb hB cx_inX12 hown hK TH hm0 hk0 rfl ⟨by decide, rfl⟩ 14 (by decide) cw_1207 (fun _ h9 => h9) dX12_put_12 (fun hv => ?_)
    obtain ⟨xi10, hxi10, hxi10a, hxi10b⟩ : ∃ x : Int32, tw_fv E a0 14 = .int x ∧ 0 ≤ x.toInt ∧ x.toInt ≤ 10 := hv
    rw [hxi10]
    refine lv_iconst (v := 1) hx hb dX12_put_15 (by decide) ?_
    refine lv_isub hx hb dX12_put_16 ?_
    refine lv_topi (fun zi11 ezi11 => ?_)
    have hzi11 : zi11.toInt = xi10.toInt - 1 := by rw [ezi11]; have : ((1 : Int32).toInt) = 1 := (by decide); have := ia_lo xi10; have := ia_hi xi10; exact (ia_sub (by omega) (by omega)).trans (by omega)
    refine lv_i2l (v := (zi11).toInt64) hx hb dX12_put_17 rfl ?_
    refine tw_topl (fun zl12 ezl12 => ?_)
    have hzl12 : zl12.toInt = zi11.toInt := by rw [ezl12];  exact (Int32.toInt_toInt64 _)
    refine tw_Sc (n := 3) (post := (fun v kq Lq Eq => (∃ x : Int32, v = some (.int x) ∧ 0 ≤ x.toInt ∧ x.toInt ≤ 1 ∧ (x.toInt ≠ 0 → zl9.toInt ≤ zl8.toInt ∧ zl8.toInt ≤ zl12.toInt)) ∧ kp = kq ∧ L = Lq ∧ E = Eq)) (As := [.long zl8, .long zl9, .long zl12]) (rest := []) ⟨hx, hb, hml, hown, hB⟩ (fun sz => tX12_in l D cs zl8 zl9 zl12  sz) cg_12_171_X12_in rfl rfl (by decide +kernel) ⟨Nat.le_of_ble_eq_true rfl, Nat.le_of_ble_eq_true rfl⟩ hK hN TH hS hA rfl hl.1 rfl (Nat.le_of_ble_eq_true rfl) dX12_put_18 ⟨Nat.le_of_ble_eq_true rfl, Nat.le_of_ble_eq_true rfl⟩ (fun v13 kp13 L13 E13 H locs hq13 hx13 TH hS => ?_)
    obtain ⟨⟨xc14, rfl, hxc14a, hxc14b, hpoxc14_0⟩, rfl, rfl, rfl⟩ := hq13
    refine W.eq (g2 := F0 m 21 ls [.int xc14]) rfl ?_
    refine lv_if_eq (tgt := 70) hx hb dX12_put_21 (by decide) (fun hc15 => ?_) (fun hc15 => ?_)
    · have hf16 : xc14.toInt = 0 := by have z := (fa_eq _ _).mp hc15; have : ((0 : Int32).toInt) = 0 := (by decide); omega
      refine lv_iconst (v := (-1)) hx hb dX12_put_70 (by decide) ?_
      exact tw_iret hx hb hr hlocks TH hS hex ⟨⟨_, rfl, hg0, hg1, hg2, hg3⟩, rfl, rfl, hF⟩ (Nat.le_of_ble_eq_true rfl) (Nat.le_of_ble_eq_true rfl) dX12_put_71
    · have hf17 : ¬ (xc14.toInt = 0) := fun q => hc15 ((fa_eq _ _).mpr (by have : ((0 : Int32).toInt) = 0 := (by decide); omega))
      refine lv_iload_n hx hb dX12_put_24 rfl (lv_at hl 2 rfl) ?_
      refine lv_i2l (v := (x2).toInt64) hx hb dX12_put_25 rfl ?_
      refine tw_topl (fun zl18 ezl18 => ?_)
      have hzl18 : zl18.toInt = x2.toInt := by rw [ezl18];  exact (Int32.toInt_toInt64 _)
      refine lv_lconst (v := 0) hx hb dX12_put_26 (by decide) ?_
      refine tw_topl (fun zl19 ezl19 => ?_)
      have hzl19 : zl19.toInt = 0 := by rw [ezl19]; decide
      refine lv_aload_n hx hb dX12_put_27 rfl (lv_at hl 0 rfl) ?_
      refine lv_bipush (v := 12) hx hb dX12_put_28 (by decide) ?_
      refine lv_iload_n hx hb dX12_put_30 rfl (lv_at hl 1 rfl) ?_
      refine tw_Vc (o := a0) (ci := 12) (n := 2) (post := (fun v kq Lq Eq => (∃ x : Int32, v = some (.int x) ∧ 0 ≤ x.toInt ∧ x.toInt ≤ 150 ∧ (x.toInt = 0 → nk_inv (rw_h E a0 (12 : Int32).toInt) (rw_p E a0 (12 : Int32).toInt) x1.toInt 150)) ∧ kp = kq ∧ L = Lq ∧ E = Eq)) (As := [.int 12, .int x1]) (rest := [.long zl19, .long zl18]) ⟨hx, hb, hml, hown, hB⟩ (fun sz => tX12_kidsOf l D cs a0 (12 : Int32) x1 hm0 hk0 (by have : ((12 : Int32).toInt) = 12 := (by decide); omega) (by have : ((12 : Int32).toInt) = 12 := (by decide); omega) sz) cg_12_315_X12_kidsOf rfl rfl (by decide +kernel) ⟨Nat.le_of_ble_eq_true rfl, Nat.le_of_ble_eq_true rfl⟩ hK hN TH hS hA rfl hm0 hk0 (by decide) rfl hl.1 rfl (Nat.le_of_ble_eq_true rfl) dX12_put_31 ⟨Nat.le_of_ble_eq_true rfl, Nat.le_of_ble_eq_true rfl⟩ (fun v20 kp20 L20 E20 H locs hq20 hx20 TH hS => ?_)
      obtain ⟨⟨xc21, rfl, hxc21a, hxc21b, hpoxc21_0⟩, rfl, rfl, rfl⟩ := hq20
      refine W.eq (g2 := F0 m 34 ls [.int xc21, .long zl19, .long zl18]) rfl ?_
      refine lv_i2l (v := (xc21).toInt64) hx hb dX12_put_34 rfl ?_
      refine tw_topl (fun zl22 ezl22 => ?_)
      have hzl22 : zl22.toInt = xc21.toInt := by rw [ezl22];  exact (Int32.toInt_toInt64 _)
      refine tw_Sc (n := 3) (post := (fun v kq Lq Eq => (∃ x : Int32, v = some (.int x) ∧ 0 ≤ x.toInt ∧ x.toInt ≤ 1 ∧ (x.toInt ≠ 0 → zl19.toInt ≤ zl18.toInt ∧ zl18.toInt ≤ zl22.toInt)) ∧ kp = kq ∧ L = Lq ∧ E = Eq)) (As := [.long zl18, .long zl19, .long zl22]) (rest := []) ⟨hx, hb, hml, hown, hB⟩ (fun sz => tX12_in l D cs zl18 zl19 zl22  sz) cg_12_171_X12_in rfl rfl (by decide +kernel) ⟨Nat.le_of_ble_eq_true rfl, Nat.le_of_ble_eq_true rfl⟩ hK hN TH hS hA rfl hl.1 rfl (Nat.le_of_ble_eq_true rfl) dX12_put_35 ⟨Nat.le_of_ble_eq_true rfl, Nat.le_of_ble_eq_true rfl⟩ (fun v23 kp23 L23 E23 H locs hq23 hx23 TH hS => ?_)
      obtain ⟨⟨xc24, rfl, hxc24a, hxc24b, hpoxc24_0⟩, rfl, rfl, rfl⟩ := hq23
      refine W.eq (g2 := F0 m 38 ls [.int xc24]) rfl ?_
      refine lv_if_eq (tgt := 70) hx hb dX12_put_38 (by decide) (fun hc25 => ?_) (fun hc25 => ?_)
      · have hf26 : xc24.toInt = 0 := by have z := (fa_eq _ _).mp hc25; have : ((0 : Int32).toInt) = 0 := (by decide); omega
        refine lv_iconst (v := (-1)) hx hb dX12_put_70 (by decide) ?_
        exact tw_iret hx hb hr hlocks TH hS hex ⟨⟨_, rfl, hg0, hg1, hg2, hg3⟩, rfl, rfl, hF⟩ (Nat.le_of_ble_eq_true rfl) (Nat.le_of_ble_eq_true rfl) dX12_put_71
      · have hf27 : ¬ (xc24.toInt = 0) := fun q => hc25 ((fa_eq _ _).mpr (by have : ((0 : Int32).toInt) = 0 := (by decide); omega))
        refine lv_lload hx hb dX12_put_41 (lv_at hl 4 rfl) ?_
        refine tw_Sc (n := 1) (post := (fun v kq Lq Eq => (∃ x : Int32, v = some (.int x) ∧ 0 ≤ x.toInt ∧ x.toInt ≤ 1) ∧ kp = kq ∧ L = Lq ∧ E = Eq)) (As := [.long x4]) (rest := []) ⟨hx, hb, hml, hown, hB⟩ (fun sz => tX12_isGood l D cs x4  sz) cg_12_428_X12_isGood rfl rfl (by decide +kernel) ⟨Nat.le_of_ble_eq_true rfl, Nat.le_of_ble_eq_true rfl⟩ hK hN TH hS hA rfl hl.1 rfl (Nat.le_of_ble_eq_true rfl) dX12_put_43 ⟨Nat.le_of_ble_eq_true rfl, Nat.le_of_ble_eq_true rfl⟩ (fun v28 kp28 L28 E28 H locs hq28 hx28 TH hS => ?_)
        obtain ⟨⟨xc29, rfl, hxc29a, hxc29b⟩, rfl, rfl, rfl⟩ := hq28
        refine W.eq (g2 := F0 m 46 ls [.int xc29]) rfl ?_
        refine lv_if_eq (tgt := 70) hx hb dX12_put_46 (by decide) (fun hc30 => ?_) (fun hc30 => ?_)
        · have hf31 : xc29.toInt = 0 := by have z := (fa_eq _ _).mp hc30; have : ((0 : Int32).toInt) = 0 := (by decide); omega
          refine lv_iconst (v := (-1)) hx hb dX12_put_70 (by decide) ?_
          exact tw_iret hx hb hr hlocks TH hS hex ⟨⟨_, rfl, hg0, hg1, hg2, hg3⟩, rfl, rfl, hF⟩ (Nat.le_of_ble_eq_true rfl) (Nat.le_of_ble_eq_true rfl) dX12_put_71
        · have hf32 : ¬ (xc29.toInt = 0) := fun q => hc30 ((fa_eq _ _).mpr (by have : ((0 : Int32).toInt) = 0 := (by decide); omega))
          refine lv_aload_n hx hb dX12_put_49 rfl (lv_at hl 0 rfl) ?_
          refine lv_bipush (v := 12) hx hb dX12_put_50 (by decide) ?_
          refine tw_Vc (o := a0) (ci := 12) (n := 1) (post := (fun v kq Lq Eq => (∃ x : Int32, v = some (.int x) ∧ 0 ≤ x.toInt ∧ x.toInt ≤ 150 ∧ (x.toInt = (rt_size (rw_h E a0 (12 : Int32).toInt) : Int))) ∧ kp = kq ∧ L = Lq ∧ E = Eq)) (As := [.int 12]) (rest := []) ⟨hx, hb, hml, hown, hB⟩ (fun sz => tX12_size l D cs a0 (12 : Int32) hm0 hk0 (by have : ((12 : Int32).toInt) = 12 := (by decide); omega) (by have : ((12 : Int32).toInt) = 12 := (by decide); omega) sz) cg_12_432_X12_size rfl rfl (by decide +kernel) ⟨Nat.le_of_ble_eq_true rfl, Nat.le_of_ble_eq_true rfl⟩ hK hN TH hS hA rfl hm0 hk0 (by decide) rfl hl.1 rfl (Nat.le_of_ble_eq_true rfl) dX12_put_52 ⟨Nat.le_of_ble_eq_true rfl, Nat.le_of_ble_eq_true rfl⟩ (fun v33 kp33 L33 E33 H locs hq33 hx33 TH hS => ?_)
          obtain ⟨⟨xc34, rfl, hxc34a, hxc34b, hpoxc34_0⟩, rfl, rfl, rfl⟩ := hq33
          refine W.eq (g2 := F0 m 55 ls [.int xc34]) rfl ?_
          refine lv_bipush (v := 24) hx hb dX12_put_55 (by decide) ?_
          refine lv_icmp_ge (tgt := 70) hx hb dX12_put_57 (by decide) (fun hc35 => ?_) (fun hc35 => ?_)
          · have hf36 : 24 ≤ xc34.toInt := by have z := (fa_le _ _).mp hc35; have : ((24 : Int32).toInt) = 24 := (by decide); omega
            refine lv_iconst (v := (-1)) hx hb dX12_put_70 (by decide) ?_
            exact tw_iret hx hb hr hlocks TH hS hex ⟨⟨_, rfl, hg0, hg1, hg2, hg3⟩, rfl, rfl, hF⟩ (Nat.le_of_ble_eq_true rfl) (Nat.le_of_ble_eq_true rfl) dX12_put_71
          · have hf37 : ¬ (24 ≤ xc34.toInt) := fun q => hc35 ((fa_le _ _).mpr (by have : ((24 : Int32).toInt) = 24 := (by decide); omega))
            refine lv_aload_n hx hb dX12_put_60 rfl (lv_at hl 0 rfl) ?_
            refine tw_get (ci := 12) (C := RX12) (T := TX12) (N := 64) hx hb hB cx_inX12 hown hK TH hm0 hk0 rfl ⟨by decide, rfl⟩ 26 (by decide) cw_1219 (fun _ h9 => h9) dX12_put_61 (fun hv => ?_)
            rw [hxi1]
            refine lv_sipush (v := 150) hx hb dX12_put_64 (by decide) ?_
            refine lv_icmp_ne (tgt := 72) hx hb dX12_put_67 (by decide) (fun hc38 => ?_) (fun hc38 => ?_)
            · have hf39 : ¬ (xi1.toInt = 150) := fun q => hc38 ((fa_eq _ _).mpr (by have : ((150 : Int32).toInt) = 150 := (by decide); omega))
              refine lv_aload_n hx hb dX12_put_72 rfl (lv_at hl 0 rfl) ?_
              refine lv_iload_n hx hb dX12_put_73 rfl (lv_at hl 3 rfl) ?_
              refine lv_iconst (v := (-1)) hx hb dX12_put_74 (by decide) ?_
              have hrow := (hg3 (by rw [tw_fi_of hxi2]; omega))
              have hn0 : rw_h E a0 12 (xi1.toInt).toNat = 0 := Decidable.byContradiction (fun z => (by have q := hrow.2.2.2 (xi1.toInt).toNat (by omega) z; rw [tw_fi_of hxi1] at q; omega))
              refine tw_Vc (o := a0) (ci := 12) (n := 2) (post := (fun v kq Lq Eq => (∃ x : Int32, v = some (.int x) ∧ 0 ≤ x.toInt ∧ x.toInt ≤ 149 ∧ (x.toInt = xi1.toInt) ∧ (∃ z0 : Int32, tw_fv Eq a0 26 = .int z0 ∧ (z0.toInt = xi1.toInt + 1))) ∧ kp = kq ∧ L = Lq ∧ tw_fr kp L [(12, 26)] [330, 331] E Eq)) (As := [.int x3, .int (-1)]) (rest := []) ⟨hx, hb, hml, hown, hB⟩ (fun sz => tX12_newNode l D cs a0 x3 ((-1) : Int32) xi1 hm0 hk0 (by omega) (by omega) (by have : (((-1) : Int32).toInt) = (-1) := (by decide); omega) (by have : (((-1) : Int32).toInt) = (-1) := (by decide); omega) hxi1 (by have : (((-1) : Int32).toInt) = (-1) := (by decide); omega) sz) cg_12_342_X12_newNode rfl rfl (by decide +kernel) ⟨Nat.le_of_ble_eq_true rfl, Nat.le_of_ble_eq_true rfl⟩ hK hN TH hS hA rfl hm0 hk0 (by decide) rfl hl.1 rfl (Nat.le_of_ble_eq_true rfl) dX12_put_75 ⟨Nat.le_of_ble_eq_true rfl, Nat.le_of_ble_eq_true rfl⟩ (fun v40 kp40 L40 E40 H locs hq40 hx40 TH hS => ?_)
              obtain ⟨⟨xc41, rfl, hxc41a, hxc41b, hpoxc41_0, ⟨zfxc41_0_0, hzfxc41_0_0, hzpxc41_0⟩⟩, rfl, rfl, hst40⟩ := hq40
              have hF := hF.tr hst40 (fun _ h => ⟨h, rfl⟩) (by decide) (by decide)
              have hmf42 : tw_fv E40 a0 29 = .int xi2 := (hst40.1 a0 29 hm0 (by rw [hk0]; decide)).trans hxi2
              have hmf43 : tw_fv E40 a0 14 = .int xi10 := (hst40.1 a0 14 hm0 (by rw [hk0]; decide)).trans hxi10
              have hg0_o := hg0
              have hg1_o := hg1
              have hg2_o := hg2
              have hg3_o := hg3
              have hh12_o := hh12
              have hp12_o := hp12
              have hg0 : rd_ok E40 a0 := rd_ok_fr TH hst40 hm0 hk0 (by decide) (by decide) hg0
              have hg1 : eo_ok E40 a0 := eo_ok_more TH hst40 hm0 hk0 (by decide) (by decide) (by rw [tw_fi_of hxi1, tw_fi_of hzfxc41_0_0]; omega) hg1_o
              have hg2 : ht_ok E40 a0 := ht_ok_fr TH hst40 hm0 hk0 (by decide) (by decide) hg2
              have hg3 : dr_ok E40 a0 := dr_ok_more TH hst40 hm0 hk0 (by decide) (by decide) (by rw [tw_fi_of hxi1, tw_fi_of hzfxc41_0_0]; omega) hg3_o
              have hh12 : h12_ok E40 a0 (rw_h E a0 12) := h12_ok_fr TH hst40 hm0 hk0 (by decide) (by decide) hh12
              have hp12 : p12_ok E40 a0 (rw_p E a0 12) := p12_ok_fr TH hst40 hm0 hk0 (by decide) (by decide) hp12
              obtain ⟨qzfxc41_0_0, hqzfxc41_0_0, hqzfxc41_0_0a, hqzfxc41_0_0b⟩ := tw_rd TH hm0 hk0 (by decide) (by decide) (k := 26) rfl
              have eqzfxc41_0_0 : qzfxc41_0_0 = zfxc41_0_0 := by have q := hqzfxc41_0_0.symm.trans hzfxc41_0_0; injection q
              rw [eqzfxc41_0_0] at hqzfxc41_0_0a hqzfxc41_0_0b
              refine W.eq (g2 := F0 m 78 ls [.int xc41]) rfl ?_
              refine lv_istore (lv' := [(6, .int xc41), (0, .ref a0), (1, .int x1), (2, .int x2), (3, .int x3), (4, .long x4)]) hx hb dX12_put_78 hl (by decide) rfl (fun ls hl => ?_)
              refine lv_aload_n hx hb dX12_put_80 rfl (lv_at hl 1 rfl) ?_
              refine tw_get (ci := 12) (C := RX12) (T := TX12) (N := 64) hx hb hB cx_inX12 hown hK TH hm0 hk0 rfl ⟨by decide, rfl⟩ 23 (by decide) cw_1216 (fun _ h9 => h9) dX12_put_81 (fun hv => ?_)
              obtain ⟨xr44, hxr44, hmxr44, hkxr44⟩ : ∃ a : Nat, tw_fv E40 a0 23 = .ref a ∧ a ∈ L ∧ kp a = 333 := hv
              rw [hxr44]
              refine lv_iload hx hb dX12_put_84 (lv_at hl 0 rfl) ?_
              refine lv_iconst (v := 1) hx hb dX12_put_86 (by decide) ?_
              refine tw_zast (k := 333) (n := 150) (lo := 0) (hi := 1) hx hb hK TH hS hmxr44 hkxr44 (by decide) rfl (i := xc41) (x := 1) (vp_in_iff.mpr ⟨by  omega, by  omega⟩) (by have : ((1 : Int32).toInt) = 1 := (by decide); omega) (by have : ((1 : Int32).toInt) = 1 := (by decide); omega) (by have : ((1 : Int32).toInt) = 1 := (by decide); omega) (by have : ((1 : Int32).toInt) = 1 := (by decide); omega) dX12_put_87 (fun H locs E45 TH hS hp46 hp47 hp48 => ?_)
              have hst49 : tw_fr kp L [] [333] E40 E45 := tw_fr.ast tw_fr.rf (fun _ => hkxr44) hp46 hp47 (by decide)
              have hF := hF.tr hst49 (fun _ h => ⟨h, rfl⟩) (by decide) (by decide)
              have hmf50 : tw_fv E45 a0 29 = .int xi2 := (hst49.1 a0 29 hm0 (by rw [hk0]; decide)).trans hmf42
              have hmf51 : tw_fv E45 a0 14 = .int xi10 := (hst49.1 a0 14 hm0 (by rw [hk0]; decide)).trans hmf43
              have hmf52 : tw_fv E45 a0 26 = .int zfxc41_0_0 := (hst49.1 a0 26 hm0 (by rw [hk0]; decide)).trans hzfxc41_0_0
              have hmf53 : tw_fv E45 a0 23 = .ref xr44 := (hst49.1 a0 23 hm0 (by rw [hk0]; decide)).trans hxr44
              have hg0 : rd_ok E45 a0 := rd_ok_fr TH hst49 hm0 hk0 (by decide) (by decide) hg0
              have hg1 : eo_ok E45 a0 := eo_ok_fr TH hst49 hm0 hk0 (by decide) (by decide) hg1
              have hg2 : ht_ok E45 a0 := ht_ok_fr TH hst49 hm0 hk0 (by decide) (by decide) hg2
              have hg3 : dr_ok E45 a0 := dr_ok_fr TH hst49 hm0 hk0 (by decide) (by decide) hg3
              have hh12 : h12_ok E45 a0 (rw_h E a0 12) := h12_ok_fr TH hst49 hm0 hk0 (by decide) (by decide) hh12
              have hp12 : p12_ok E45 a0 (rw_p E a0 12) := p12_ok_fr TH hst49 hm0 hk0 (by decide) (by decide) hp12
              refine lv_aload_n hx hb dX12_put_88 rfl (lv_at hl 1 rfl) ?_
              refine tw_get (ci := 12) (C := RX12) (T := TX12) (N := 64) hx hb hB cx_inX12 hown hK TH hm0 hk0 rfl ⟨by decide, rfl⟩ 17 (by decide) cw_1210 (fun _ h9 => h9) dX12_put_89 (fun hv => ?_)
              obtain ⟨xr54, hxr54, hmxr54, hkxr54⟩ : ∃ a : Nat, tw_fv E45 a0 17 = .ref a ∧ a ∈ L ∧ kp a = 317 := hv
              rw [hxr54]
              refine lv_bipush (v := 12) hx hb dX12_put_92 (by decide) ?_
              refine tw_aald (k := 317) (t0 := 6) (n := 16) (lo := 327) (hi := 0) (ty := .long) hx hb hK TH hmxr54 hkxr54 (by decide) rfl rfl (i := 12) (vp_in_iff.mpr ⟨by have : ((12 : Int32).toInt) = 12 := (by decide); omega, by have : ((12 : Int32).toInt) = 12 := (by decide); omega⟩) dX12_put_94 (fun xr55 exr55 hmxr55 hkxr55 => ?_)
              have hkxr55 : kp xr55 = 327 := hkxr55
              refine lv_iload hx hb dX12_put_95 (lv_at hl 0 rfl) ?_
              refine lv_lload hx hb dX12_put_97 (lv_at hl 5 rfl) ?_
              refine tw_Sc (n := 1) (post := (fun v kq Lq Eq => (∃ x : Int64, v = some (.long x)) ∧ kp = kq ∧ L = Lq ∧ E45 = Eq)) (As := [.long x4]) (rest := [.int xc41, .ref xr55]) ⟨hx, hb, hml, hown, hB⟩ (fun sz => tX12_packed l D cs x4  sz) cg_12_435_X12_packed rfl rfl (by decide +kernel) ⟨Nat.le_of_ble_eq_true rfl, Nat.le_of_ble_eq_true rfl⟩ hK hN TH hS hA rfl hl.1 rfl (Nat.le_of_ble_eq_true rfl) dX12_put_99 ⟨Nat.le_of_ble_eq_true rfl, Nat.le_of_ble_eq_true rfl⟩ (fun v56 kp56 L56 E56 H locs hq56 hx56 TH hS => ?_)
              obtain ⟨⟨xc57, rfl⟩, rfl, rfl, rfl⟩ := hq56
              refine W.eq (g2 := F0 m 102 ls [.long xc57, .int xc41, .ref xr55]) rfl ?_
              refine tw_last2 (k := 327) (n := 150) (lo := 0) (hi := 0) hx hb hK TH hS hmxr55 hkxr55 (by decide) rfl (i := xc41) (x := xc57) (vp_in_iff.mpr ⟨by  omega, by  omega⟩) dX12_put_102 (fun H locs E58 TH hS hp59 hp60 hp62 => ?_)
              have hst61 : tw_fr kp L [] [327] E45 E58 := tw_fr.ast tw_fr.rf (fun _ => hkxr55) hp59 hp60 (by decide)
              have hF := hF.tr hst61 (fun _ h => ⟨h, rfl⟩) (by decide) (by decide)
              have hmf63 : tw_fv E58 a0 29 = .int xi2 := (hst61.1 a0 29 hm0 (by rw [hk0]; decide)).trans hmf50
              have hmf64 : tw_fv E58 a0 14 = .int xi10 := (hst61.1 a0 14 hm0 (by rw [hk0]; decide)).trans hmf51
              have hmf65 : tw_fv E58 a0 26 = .int zfxc41_0_0 := (hst61.1 a0 26 hm0 (by rw [hk0]; decide)).trans hmf52
              have hmf66 : tw_fv E58 a0 23 = .ref xr44 := (hst61.1 a0 23 hm0 (by rw [hk0]; decide)).trans hmf53
              have hmf67 : tw_fv E58 a0 17 = .ref xr54 := (hst61.1 a0 17 hm0 (by rw [hk0]; decide)).trans hxr54
              have hg0 : rd_ok E58 a0 := rd_ok_fr TH hst61 hm0 hk0 (by decide) (by decide) hg0
              have hg1 : eo_ok E58 a0 := eo_ok_fr TH hst61 hm0 hk0 (by decide) (by decide) hg1
              have hg2 : ht_ok E58 a0 := ht_ok_fr TH hst61 hm0 hk0 (by decide) (by decide) hg2
              have hg3 : dr_ok E58 a0 := dr_ok_fr TH hst61 hm0 hk0 (by decide) (by decide) hg3
              have hh12 : h12_ok E58 a0 (rw_h E a0 12) := h12_ok_fr TH hst61 hm0 hk0 (by decide) (by decide) hh12
              have hp12 : p12_ok E58 a0 (rw_p E a0 12) := p12_ok_fr TH hst61 hm0 hk0 (by decide) (by decide) hp12
              refine lv_aload_n hx hb dX12_put_103 rfl (lv_at hl 1 rfl) ?_
              refine lv_iload hx hb dX12_put_104 (lv_at hl 0 rfl) ?_
              refine lv_iload_n hx hb dX12_put_106 rfl (lv_at hl 2 rfl) ?_
              refine lv_iload_n hx hb dX12_put_107 rfl (lv_at hl 3 rfl) ?_
              refine tw_Vc (o := a0) (ci := 12) (n := 3) (post := (fun v kq Lq Eq => v = none ∧ kp = kq ∧ L = Lq ∧ tw_fr kp L [] [326, 328, 329] E58 Eq ∧ (∀ c : Nat, rw_h Eq a0 12 c = if c = (xc41.toInt).toNat then 1 else rw_h E58 a0 12 c) ∧ (∀ c : Nat, rw_p Eq a0 12 c = if c = (xc41.toInt).toNat then x1.toInt else rw_p E58 a0 12 c) ∧ rw_ok Eq a0 (12) ∧ rd_ok Eq a0 ∧ eo_ok Eq a0 ∧ ht_ok Eq a0)) (As := [.int xc41, .int x1, .int x2]) (rest := []) ⟨hx, hb, hml, hown, hB⟩ (fun sz => tX12_lays l D cs a0 xc41 x1 x2 hm0 hk0 (by omega) (by omega) (by omega) (by omega) (by unfold lyw_ok; have fh : rw_h E58 a0 12 = rw_h E a0 12 := hh12; have fp : rw_p E58 a0 12 = rw_p E a0 12 := hp12; rw [fh, fp]; refine ly_new hrow.1.1 hrow.1.2.1 hrow.1.2.2 (by omega) (by omega) ?_ (by omega) (by omega) (hpoxc4_1 (by omega)); (rw [show (Int32.toInt xc41).toNat = (xi1.toInt).toNat by omega]; exact hn0)) hg0 hg1 hg2 sz) cg_12_439_X12_lays rfl rfl (by decide +kernel) ⟨Nat.le_of_ble_eq_true rfl, Nat.le_of_ble_eq_true rfl⟩ hK hN TH hS hA rfl hm0 hk0 (by decide) rfl hl.1 rfl (Nat.le_of_ble_eq_true rfl) dX12_put_108 ⟨Nat.le_of_ble_eq_true rfl, Nat.le_of_ble_eq_true rfl⟩ (fun v68 kp68 L68 E68 H locs hq68 hx68 TH hS => ?_)
              obtain ⟨rfl, rfl, rfl, hst68, hpoxc69_0, hpoxc69_1, hgpxc69_0, hgpxc69_1, hgpxc69_2, hgpxc69_3⟩ := hq68
              have hF := hF.tr hst68 (fun _ h => ⟨h, rfl⟩) (by decide) (by decide)
              have hmf70 : tw_fv E68 a0 29 = .int xi2 := (hst68.1 a0 29 hm0 (by rw [hk0]; decide)).trans hmf63
              have hmf71 : tw_fv E68 a0 14 = .int xi10 := (hst68.1 a0 14 hm0 (by rw [hk0]; decide)).trans hmf64
              have hmf72 : tw_fv E68 a0 26 = .int zfxc41_0_0 := (hst68.1 a0 26 hm0 (by rw [hk0]; decide)).trans hmf65
              have hmf73 : tw_fv E68 a0 23 = .ref xr44 := (hst68.1 a0 23 hm0 (by rw [hk0]; decide)).trans hmf66
              have hmf74 : tw_fv E68 a0 17 = .ref xr54 := (hst68.1 a0 17 hm0 (by rw [hk0]; decide)).trans hmf67
              have hg3_o := hg3
              have hh12_o := hh12
              have hp12_o := hp12
              have hg3 : dr_ok E68 a0 := (fun _ => (by have fh : rw_h E58 a0 12 = rw_h E a0 12 := hh12_o; have fp : rw_p E58 a0 12 = rw_p E a0 12 := hp12_o; have e12 : ((12 : Int32).toInt) = 12 := (by decide); have hs := hpoxc34_0; rw [e12] at hs; refine row_put (h := rw_h E a0 12) (p := rw_p E a0 12) (n := xc41.toInt) (u := x1.toInt) (N := zfxc41_0_0.toInt) (by omega) (by omega) (by omega) ?_ (Or.inl (by omega)) (fun c hc hx => (by have z := hrow.2.2.2 c hc hx; rw [tw_fi_of hxi1] at z; omega)) (by omega) (tw_fi_of ((hst68.1 a0 26 hm0 (by rw [hk0]; decide)).trans hmf65)) (fun c => (hpoxc69_0 c).trans (by rw [fh])) (fun c => (hpoxc69_1 c).trans (by rw [fp])) hgpxc69_0; (obtain ⟨r, r0, r1, r2, r3⟩ := hrow.2.1; exact ⟨r, r0, r1, (fun z => r2 (by rw [z, show (Int32.toInt xc41).toNat = (xi1.toInt).toNat by omega]; exact hn0)), r2, r3⟩)))
              refine W.eq (g2 := F0 m 111 ls []) rfl ?_
              refine lv_iload hx hb dX12_put_111 (lv_at hl 0 rfl) ?_
              exact tw_iret hx hb hr hlocks TH hS hex ⟨⟨_, rfl, hgpxc69_1, hgpxc69_2, hgpxc69_3, hg3⟩, rfl, rfl, hF⟩ (Nat.le_of_ble_eq_true rfl) (Nat.le_of_ble_eq_true rfl) dX12_put_113
            · have hf75 : xi1.toInt = 150 := by have z := (fa_eq _ _).mp hc38; have : ((150 : Int32).toInt) = 150 := (by decide); omega
              refine lv_iconst (v := (-1)) hx hb dX12_put_70 (by decide) ?_
              exact tw_iret hx hb hr hlocks TH hS hex ⟨⟨_, rfl, hg0, hg1, hg2, hg3⟩, rfl, rfl, hF⟩ (Nat.le_of_ble_eq_true rfl) (Nat.le_of_ble_eq_true rfl) dX12_put_71
set_option maxHeartbeats 4000000 in
set_option maxRecDepth 100000 in
theorem tX12_move (l : Launch) (D : va_G) (cs : Nat → ClassId) {kp : Nat → Nat} {L : List Nat} {E : Nat → va_E} (a0 : Nat) (x1 : Int32) (x2 : Int32) (x3 : Int32) (hm0 : a0 ∈ L) (hk0 : kp a0 = 12) (hg0 : rd_ok E a0) (hg1 : eo_ok E a0) (hg2 : ht_ok E a0) (hg3 : dr_ok E a0) (sz : Nat) : Met l yX12_move (.code yX12_move cX12_move 6 (some .boolean) :: cx_big) { frames := 5, cells := 0, slots := 0, locals := 122 } (tw_P D cs kp L E [.ref a0, .int x1, .int x2, .int x3] sz) (tw_Q D cs kp L (fun v kq Lq Eq => (∃ x : Int32, v = some (.int x) ∧ 0 ≤ x.toInt ∧ x.toInt ≤ 1 ∧ rd_ok Eq a0 ∧ eo_ok Eq a0 ∧ ht_ok Eq a0 ∧ dr_ok Eq a0) ∧ kp = kq ∧ L = Lq ∧ tw_fr kp L [] [326, 328, 329] E Eq) (va_A (va_pl L E) sz)) 0 0 (va_A (va_pl L E) sz) := by
  refine tw_ofW (by decide) (Nat.le_of_ble_eq_true rfl) ?_
  intro p e s m below meth c A ls hx hb hr hml hB hown hlocks hK hN hA TH hS hl
  have hown : s.vm.findClass "TreeMergeModel" = some m.cls := hown
  have hl : lv_has ls 6 [(0, .ref a0), (1, .int x1), (2, .int x2), (3, .int x3)] := hl
  obtain ⟨kp0, ekp⟩ : ∃ z, z = kp := ⟨_, rfl⟩
  obtain ⟨L0, eL⟩ : ∃ z, z = L := ⟨_, rfl⟩
  rw [show tw_Q D cs kp L = tw_Q D cs kp0 L0 by rw [ekp, eL]]
  have hex : ∀ a : Nat, a ∈ L0 → a ∈ L ∧ kp a = kp0 a := fun a h => ⟨by rw [← eL]; exact h, by rw [ekp]⟩
  have hF : tw_fr kp L [] [326, 328, 329] E E := tw_fr.rf
  have hh12 : h12_ok E a0 (rw_h E a0 12) := rfl
  have hp12 : p12_ok E a0 (rw_p E a0 12) := rfl
  refine lv_aload_n hx hb dX12_move_0 rfl (lv_at hl 0 rfl) ?_
  refine lv_iload_n hx hb dX12_move_1 rfl (lv_at hl 1 rfl) ?_
  obtain ⟨xi1, hxi1, hxi1a, hxi1b⟩ := tw_rd TH hm0 hk0 (by decide) (by decide) (k := 26) rfl
  obtain ⟨xi2, hxi2, hxi2a, hxi2b⟩ := tw_rd TH hm0 hk0 (by decide) (by decide) (k := 29) rfl
  refine tw_Vc (o := a0) (ci := 12) (n := 1) (post := (fun v kq Lq Eq => (∃ x : Int32, v = some (.int x) ∧ 0 ≤ x.toInt ∧ x.toInt ≤ 1 ∧ (x.toInt ≠ 0 → 0 ≤ x1.toInt ∧ x1.toInt < xi1.toInt ∧ xi2.toInt = 1) ∧ (x.toInt ≠ 0 → rw_h E a0 12 (x1.toInt).toNat ≠ 0)) ∧ kp = kq ∧ L = Lq ∧ E = Eq)) (As := [.int x1]) (rest := []) ⟨hx, hb, hml, hown, hB⟩ (fun sz => tX12_inDraft l D cs a0 x1 xi1 xi2 hm0 hk0 hxi1 hxi2 sz) cg_12_425_X12_inDraft rfl rfl (by decide +kernel) ⟨Nat.le_of_ble_eq_true rfl, Nat.le_of_ble_eq_true rfl⟩ hK hN TH hS hA rfl hm0 hk0 (by decide) rfl hl.1 rfl (Nat.le_of_ble_eq_true rfl) dX12_move_2 ⟨Nat.le_of_ble_eq_true rfl, Nat.le_of_ble_eq_true rfl⟩ (fun v3 kp3 L3 E3 H locs hq3 hx3 TH hS => ?_)
  obtain ⟨⟨xc4, rfl, hxc4a, hxc4b, hpoxc4_0, hpoxc4_1⟩, rfl, rfl, rfl⟩ := hq3
  refine W.eq (g2 := F0 m 5 ls [.int xc4]) rfl ?_
  refine lv_if_eq (tgt := 40) hx hb dX12_move_5 (by decide) (fun hc5 => ?_) (fun hc5 => ?_)
  · have hf6 : xc4.toInt = 0 := by have z := (fa_eq _ _).mp hc5; have : ((0 : Int32).toInt) = 0 := (by decide); omega
    refine lv_iconst (v := 0) hx hb dX12_move_40 (by decide) ?_
    exact tw_zret hx hb hr hlocks (by decide) TH hS hex ⟨⟨_, rfl, (show 0 ≤ Int32.toInt 0 from by have : ((0 : Int32).toInt) = 0 := (by decide); omega), (show Int32.toInt 0 ≤ 1 from by have : ((0 : Int32).toInt) = 0 := (by decide); omega), hg0, hg1, hg2, hg3⟩, rfl, rfl, hF⟩ (Nat.le_of_ble_eq_true rfl) (Nat.le_of_ble_eq_true rfl) dX12_move_41
  · have hf7 : ¬ (xc4.toInt = 0) := fun q => hc5 ((fa_eq _ _).mpr (by have : ((0 : Int32).toInt) = 0 := (by decide); omega))
    refine lv_aload_n hx hb dX12_move_8 rfl (lv_at hl 0 rfl) ?_
    refine lv_iload_n hx hb dX12_move_9 rfl (lv_at hl 2 rfl) ?_
    refine tw_Vc (o := a0) (ci := 12) (n := 1) (post := (fun v kq Lq Eq => (∃ x : Int32, v = some (.int x) ∧ 0 ≤ x.toInt ∧ x.toInt ≤ 1 ∧ (x.toInt ≠ 0 → 0 ≤ x2.toInt ∧ x2.toInt < xi1.toInt ∧ xi2.toInt = 1) ∧ (x.toInt ≠ 0 → rw_h E a0 12 (x2.toInt).toNat ≠ 0)) ∧ kp = kq ∧ L = Lq ∧ E = Eq)) (As := [.int x2]) (rest := []) ⟨hx, hb, hml, hown, hB⟩ (fun sz => tX12_inDraft l D cs a0 x2 xi1 xi2 hm0 hk0 hxi1 hxi2 sz) cg_12_425_X12_inDraft rfl rfl (by decide +kernel) ⟨Nat.le_of_ble_eq_true rfl, Nat.le_of_ble_eq_true rfl⟩ hK hN TH hS hA rfl hm0 hk0 (by decide) rfl hl.1 rfl (Nat.le_of_ble_eq_true rfl) dX12_move_10 ⟨Nat.le_of_ble_eq_true rfl, Nat.le_of_ble_eq_true rfl⟩ (fun v8 kp8 L8 E8 H locs hq8 hx8 TH hS => ?_)
    obtain ⟨⟨xc9, rfl, hxc9a, hxc9b, hpoxc9_0, hpoxc9_1⟩, rfl, rfl, rfl⟩ := hq8
    refine W.eq (g2 := F0 m 13 ls [.int xc9]) rfl ?_
    refine lv_if_eq (tgt := 40) hx hb dX12_move_13 (by decide) (fun hc10 => ?_) (fun hc10 => ?_)
    · have hf11 : xc9.toInt = 0 := by have z := (fa_eq _ _).mp hc10; have : ((0 : Int32).toInt) = 0 := (by decide); omega
      refine lv_iconst (v := 0) hx hb dX12_move_40 (by decide) ?_
      exact tw_zret hx hb hr hlocks (by decide) TH hS hex ⟨⟨_, rfl, (show 0 ≤ Int32.toInt 0 from by have : ((0 : Int32).toInt) = 0 := (by decide); omega), (show Int32.toInt 0 ≤ 1 from by have : ((0 : Int32).toInt) = 0 := (by decide); omega), hg0, hg1, hg2, hg3⟩, rfl, rfl, hF⟩ (Nat.le_of_ble_eq_true rfl) (Nat.le_of_ble_eq_true rfl) dX12_move_41
    · have hf12 : ¬ (xc9.toInt = 0) := fun q => hc10 ((fa_eq _ _).mpr (by have : ((0 : Int32).toInt) = 0 := (by decide); omega))
      refine lv_aload_n hx hb dX12_move_16 rfl (lv_at hl 0 rfl) ?_
      refine tw_get (ci := 12) (C := RX12) (T := TX12) (N := 64) hx hb hB cx_inX12 hown hK TH hm0 hk0 rfl ⟨by decide, rfl⟩ 18 (by decide) cw_1211 (fun _ h9 => h9) dX12_move_17 (fun hv => ?_)
      obtain ⟨xr13, hxr13, hmxr13, hkxr13⟩ : ∃ a : Nat, tw_fv E a0 18 = .ref a ∧ a ∈ L ∧ kp a = 318 := hv
      rw [hxr13]
      refine lv_bipush (v := 12) hx hb dX12_move_20 (by decide) ?_
      refine tw_aald (k := 318) (t0 := 4) (n := 16) (lo := 328) (hi := 0) (ty := .int) hx hb hK TH hmxr13 hkxr13 (by decide) rfl rfl (i := 12) (vp_in_iff.mpr ⟨by have : ((12 : Int32).toInt) = 12 := (by decide); omega, by have : ((12 : Int32).toInt) = 12 := (by decide); omega⟩) dX12_move_22 (fun xr14 exr14 hmxr14 hkxr14 => ?_)
      have hkxr14 : kp xr14 = 328 := hkxr14
      refine lv_iload_n hx hb dX12_move_23 rfl (lv_at hl 1 rfl) ?_
      refine tw_iald (k := 328) (t0 := 0) (n := 150) (lo := (-1)) (hi := 149) hx hb hK TH hmxr14 hkxr14 (by decide) rfl rfl (i := x1) (vp_in_iff.mpr ⟨by  omega, by  omega⟩) dX12_move_24 (fun hxe15a hxe15b => ?_)
      obtain ⟨xe15, exe15⟩ : ∃ z : Int32, tw_iv E xr14 (Int32.toNatClampNeg x1) = z := ⟨_, rfl⟩
      rw [exe15] at hxe15a hxe15b ⊢
      refine lv_iconst (v := (-1)) hx hb dX12_move_25 (by decide) ?_
      refine lv_icmp_eq (tgt := 40) hx hb dX12_move_26 (by decide) (fun hc16 => ?_) (fun hc16 => ?_)
      · have hf17 : xe15.toInt = (-1) := by have z := (fa_eq _ _).mp hc16; have : (((-1) : Int32).toInt) = (-1) := (by decide); omega
        refine lv_iconst (v := 0) hx hb dX12_move_40 (by decide) ?_
        exact tw_zret hx hb hr hlocks (by decide) TH hS hex ⟨⟨_, rfl, (show 0 ≤ Int32.toInt 0 from by have : ((0 : Int32).toInt) = 0 := (by decide); omega), (show Int32.toInt 0 ≤ 1 from by have : ((0 : Int32).toInt) = 0 := (by decide); omega), hg0, hg1, hg2, hg3⟩, rfl, rfl, hF⟩ (Nat.le_of_ble_eq_true rfl) (Nat.le_of_ble_eq_true rfl) dX12_move_41
      · have hf18 : ¬ (xe15.toInt = (-1)) := fun q => hc16 ((fa_eq _ _).mpr (by have : (((-1) : Int32).toInt) = (-1) := (by decide); omega))
        refine lv_aload_n hx hb dX12_move_29 rfl (lv_at hl 0 rfl) ?_
        refine lv_bipush (v := 12) hx hb dX12_move_30 (by decide) ?_
        refine lv_iload_n hx hb dX12_move_32 rfl (lv_at hl 2 rfl) ?_
        refine lv_iload_n hx hb dX12_move_33 rfl (lv_at hl 1 rfl) ?_
        refine tw_Vc (o := a0) (ci := 12) (n := 3) (post := (fun v kq Lq Eq => (∃ x : Int32, v = some (.int x) ∧ 0 ≤ x.toInt ∧ x.toInt ≤ 1 ∧ (x.toInt = 0 → 0 ≤ x1.toInt → ∀ k : Nat, rt_up (rw_p E a0 (12 : Int32).toInt) k x2.toInt ≠ x1.toInt)) ∧ kp = kq ∧ L = Lq ∧ E = Eq)) (As := [.int 12, .int x2, .int x1]) (rest := []) ⟨hx, hb, hml, hown, hB⟩ (fun sz => tX12_isUnder l D cs a0 (12 : Int32) x2 x1 hm0 hk0 (by have : ((12 : Int32).toInt) = 12 := (by decide); omega) (by have : ((12 : Int32).toInt) = 12 := (by decide); omega) (by omega) (by omega) (by have : ((12 : Int32).toInt) = 12 := (by decide); have e12 : ((12 : Int32).toInt) = 12 := (by decide); rw [e12]; exact hpoxc9_1 (by omega)) (rw_ok_cast (i := 12) (by decide) (hg3 (by rw [tw_fi_of hxi2]; omega)).1) sz) cg_12_442_X12_isUnder rfl rfl (by decide +kernel) ⟨Nat.le_of_ble_eq_true rfl, Nat.le_of_ble_eq_true rfl⟩ hK hN TH hS hA rfl hm0 hk0 (by decide) rfl hl.1 rfl (Nat.le_of_ble_eq_true rfl) dX12_move_34 ⟨Nat.le_of_ble_eq_true rfl, Nat.le_of_ble_eq_true rfl⟩ (fun v19 kp19 L19 E19 H locs hq19 hx19 TH hS => ?_)
        obtain ⟨⟨xc20, rfl, hxc20a, hxc20b, hpoxc20_0⟩, rfl, rfl, rfl⟩ := hq19
        refine W.eq (g2 := F0 m 37 ls [.int xc20]) rfl ?_
        refine lv_if_eq (tgt := 42) hx hb dX12_move_37 (by decide) (fun hc21 => ?_) (fun hc21 => ?_)
        · have hf22 : xc20.toInt = 0 := by have z := (fa_eq _ _).mp hc21; have : ((0 : Int32).toInt) = 0 := (by decide); omega
          refine lv_aload_n hx hb dX12_move_42 rfl (lv_at hl 0 rfl) ?_
          refine lv_bipush (v := 12) hx hb dX12_move_43 (by decide) ?_
          refine lv_iload_n hx hb dX12_move_45 rfl (lv_at hl 2 rfl) ?_
          refine tw_Vc (o := a0) (ci := 12) (n := 2) (post := (fun v kq Lq Eq => (∃ x : Int32, v = some (.int x) ∧ 0 ≤ x.toInt ∧ x.toInt ≤ 150 ∧ (x.toInt = 0 → nk_inv (rw_h E a0 (12 : Int32).toInt) (rw_p E a0 (12 : Int32).toInt) x2.toInt 150)) ∧ kp = kq ∧ L = Lq ∧ E = Eq)) (As := [.int 12, .int x2]) (rest := []) ⟨hx, hb, hml, hown, hB⟩ (fun sz => tX12_kidsOf l D cs a0 (12 : Int32) x2 hm0 hk0 (by have : ((12 : Int32).toInt) = 12 := (by decide); omega) (by have : ((12 : Int32).toInt) = 12 := (by decide); omega) sz) cg_12_315_X12_kidsOf rfl rfl (by decide +kernel) ⟨Nat.le_of_ble_eq_true rfl, Nat.le_of_ble_eq_true rfl⟩ hK hN TH hS hA rfl hm0 hk0 (by decide) rfl hl.1 rfl (Nat.le_of_ble_eq_true rfl) dX12_move_46 ⟨Nat.le_of_ble_eq_true rfl, Nat.le_of_ble_eq_true rfl⟩ (fun v23 kp23 L23 E23 H locs hq23 hx23 TH hS => ?_)
          obtain ⟨⟨xc24, rfl, hxc24a, hxc24b, hpoxc24_0⟩, rfl, rfl, rfl⟩ := hq23
          refine W.eq (g2 := F0 m 49 ls [.int xc24]) rfl ?_
          refine lv_aload_n hx hb dX12_move_49 rfl (lv_at hl 0 rfl) ?_
          refine tw_get (ci := 12) (C := RX12) (T := TX12) (N := 64) hx hb hB cx_inX12 hown hK TH hm0 hk0 rfl ⟨by decide, rfl⟩ 18 (by decide) cw_1211 (fun _ h9 => h9) dX12_move_50 (fun hv => ?_)
          rw [hxr13]
          refine lv_bipush (v := 12) hx hb dX12_move_53 (by decide) ?_
          refine tw_aald (k := 318) (t0 := 4) (n := 16) (lo := 328) (hi := 0) (ty := .int) hx hb hK TH hmxr13 hkxr13 (by decide) rfl rfl (i := 12) (vp_in_iff.mpr ⟨by have : ((12 : Int32).toInt) = 12 := (by decide); omega, by have : ((12 : Int32).toInt) = 12 := (by decide); omega⟩) dX12_move_55 (fun xr25 exr25 hmxr25 hkxr25 => ?_)
          have ezxr25 : xr14 = xr25 := exr14.symm.trans exr25
          subst ezxr25
          refine lv_iload_n hx hb dX12_move_56 rfl (lv_at hl 1 rfl) ?_
          refine tw_iald (k := 328) (t0 := 0) (n := 150) (lo := (-1)) (hi := 149) hx hb hK TH hmxr14 hkxr14 (by decide) rfl rfl (i := x1) (vp_in_iff.mpr ⟨by  omega, by  omega⟩) dX12_move_57 (fun hxe26a hxe26b => ?_)
          rw [exe15]
          refine lv_iload_n hx hb dX12_move_58 rfl (lv_at hl 2 rfl) ?_
          refine lv_icmp_ne (tgt := 66) hx hb dX12_move_59 (by decide) (fun hc27 => ?_) (fun hc27 => ?_)
          · have hf28 : ¬ (xe15.toInt = x2.toInt) := fun q => hc27 ((fa_eq _ _).mpr (by  omega))
            refine lv_iconst (v := 0) hx hb dX12_move_66 (by decide) ?_
            refine lv_isub hx hb dX12_move_67 ?_
            refine lv_topi (fun zi29 ezi29 => ?_)
            have hzi29 : zi29.toInt = xc24.toInt - 0 := by rw [ezi29]; have : ((0 : Int32).toInt) = 0 := (by decide); have := ia_lo xc24; have := ia_hi xc24; exact (ia_sub (by omega) (by omega)).trans (by omega)
            refine lv_istore (lv' := [(4, .int zi29), (0, .ref a0), (1, .int x1), (2, .int x2), (3, .int x3)]) hx hb dX12_move_68 hl (by decide) rfl (fun ls hl => ?_)
            refine lv_iload_n hx hb dX12_move_70 rfl (lv_at hl 4 rfl) ?_
            refine lv_i2l (v := (x3).toInt64) hx hb dX12_move_71 rfl ?_
            refine tw_topl (fun zl30 ezl30 => ?_)
            have hzl30 : zl30.toInt = x3.toInt := by rw [ezl30];  exact (Int32.toInt_toInt64 _)
            refine lv_lconst (v := 0) hx hb dX12_move_72 (by decide) ?_
            refine tw_topl (fun zl31 ezl31 => ?_)
            have hzl31 : zl31.toInt = 0 := by rw [ezl31]; decide
            refine lv_iload hx hb dX12_move_73 (lv_at hl 0 rfl) ?_
            refine lv_i2l (v := (zi29).toInt64) hx hb dX12_move_75 rfl ?_
            refine tw_topl (fun zl32 ezl32 => ?_)
            have hzl32 : zl32.toInt = zi29.toInt := by rw [ezl32];  exact (Int32.toInt_toInt64 _)
            refine tw_Sc (n := 3) (post := (fun v kq Lq Eq => (∃ x : Int32, v = some (.int x) ∧ 0 ≤ x.toInt ∧ x.toInt ≤ 1 ∧ (x.toInt ≠ 0 → zl31.toInt ≤ zl30.toInt ∧ zl30.toInt ≤ zl32.toInt)) ∧ kp = kq ∧ L = Lq ∧ E = Eq)) (As := [.long zl30, .long zl31, .long zl32]) (rest := []) ⟨hx, hb, hml, hown, hB⟩ (fun sz => tX12_in l D cs zl30 zl31 zl32  sz) cg_12_171_X12_in rfl rfl (by decide +kernel) ⟨Nat.le_of_ble_eq_true rfl, Nat.le_of_ble_eq_true rfl⟩ hK hN TH hS hA rfl hl.1 rfl (Nat.le_of_ble_eq_true rfl) dX12_move_76 ⟨Nat.le_of_ble_eq_true rfl, Nat.le_of_ble_eq_true rfl⟩ (fun v33 kp33 L33 E33 H locs hq33 hx33 TH hS => ?_)
            obtain ⟨⟨xc34, rfl, hxc34a, hxc34b, hpoxc34_0⟩, rfl, rfl, rfl⟩ := hq33
            refine W.eq (g2 := F0 m 79 ls [.int xc34]) rfl ?_
            refine lv_if_ne (tgt := 84) hx hb dX12_move_79 (by decide) (fun hc35 => ?_) (fun hc35 => ?_)
            · have hf36 : ¬ (xc34.toInt = 0) := fun q => hc35 ((fa_eq _ _).mpr (by have : ((0 : Int32).toInt) = 0 := (by decide); omega))
              refine lv_aload_n hx hb dX12_move_84 rfl (lv_at hl 1 rfl) ?_
              refine tw_get (ci := 12) (C := RX12) (T := TX12) (N := 64) hx hb hB cx_inX12 hown hK TH hm0 hk0 rfl ⟨by decide, rfl⟩ 18 (by decide) cw_1211 (fun _ h9 => h9) dX12_move_85 (fun hv => ?_)
              rw [hxr13]
              refine lv_bipush (v := 12) hx hb dX12_move_88 (by decide) ?_
              refine tw_aald (k := 318) (t0 := 4) (n := 16) (lo := 328) (hi := 0) (ty := .int) hx hb hK TH hmxr13 hkxr13 (by decide) rfl rfl (i := 12) (vp_in_iff.mpr ⟨by have : ((12 : Int32).toInt) = 12 := (by decide); omega, by have : ((12 : Int32).toInt) = 12 := (by decide); omega⟩) dX12_move_90 (fun xr37 exr37 hmxr37 hkxr37 => ?_)
              have ezxr37 : xr14 = xr37 := exr14.symm.trans exr37
              subst ezxr37
              refine lv_iload_n hx hb dX12_move_91 rfl (lv_at hl 2 rfl) ?_
              refine tw_iald (k := 328) (t0 := 0) (n := 150) (lo := (-1)) (hi := 149) hx hb hK TH hmxr14 hkxr14 (by decide) rfl rfl (i := x1) (vp_in_iff.mpr ⟨by  omega, by  omega⟩) dX12_move_92 (fun hxe38a hxe38b => ?_)
              rw [exe15]
              refine lv_istore (lv' := [(5, .int xe15), (4, .int zi29), (0, .ref a0), (1, .int x1), (2, .int x2), (3, .int x3)]) hx hb dX12_move_93 hl (by decide) rfl (fun ls hl => ?_)
              have rf_xe15 : rw_p E a0 (12) (x1.toInt).toNat = xe15.toInt := (by have q := rw_p_of (m := a0) (i := (12 : Int32)) (c := x1) hxr13 exr14 exe15; rw [show ((12 : Int32).toInt) = 12 from (by decide)] at q; exact q)
              have hn26 := hxi1
              have hrow := (hg3 (by rw [tw_fi_of hxi2]; omega))
              have hpn : rw_p E a0 12 (x1.toInt).toNat ≠ -1 := (by rw [rf_xe15]; omega)
              refine lv_aload_n hx hb dX12_move_95 rfl (lv_at hl 2 rfl) ?_
              refine tw_get (ci := 12) (C := RX12) (T := TX12) (N := 64) hx hb hB cx_inX12 hown hK TH hm0 hk0 rfl ⟨by decide, rfl⟩ 16 (by decide) cw_1209 (fun _ h9 => h9) dX12_move_96 (fun hv => ?_)
              obtain ⟨xr39, hxr39, hmxr39, hkxr39⟩ : ∃ a : Nat, tw_fv E a0 16 = .ref a ∧ a ∈ L ∧ kp a = 316 := hv
              rw [hxr39]
              refine lv_bipush (v := 12) hx hb dX12_move_99 (by decide) ?_
              refine tw_aald (k := 316) (t0 := 5) (n := 16) (lo := 326) (hi := 0) (ty := .boolean) hx hb hK TH hmxr39 hkxr39 (by decide) rfl rfl (i := 12) (vp_in_iff.mpr ⟨by have : ((12 : Int32).toInt) = 12 := (by decide); omega, by have : ((12 : Int32).toInt) = 12 := (by decide); omega⟩) dX12_move_101 (fun xr40 exr40 hmxr40 hkxr40 => ?_)
              have hkxr40 : kp xr40 = 326 := hkxr40
              refine lv_iload_n hx hb dX12_move_102 rfl (lv_at hl 3 rfl) ?_
              refine lv_iconst (v := 0) hx hb dX12_move_103 (by decide) ?_
              refine tw_zast (k := 326) (n := 150) (lo := 0) (hi := 1) hx hb hK TH hS hmxr40 hkxr40 (by decide) rfl (i := x1) (x := 0) (vp_in_iff.mpr ⟨by  omega, by  omega⟩) (by have : ((0 : Int32).toInt) = 0 := (by decide); omega) (by have : ((0 : Int32).toInt) = 0 := (by decide); omega) (by have : ((0 : Int32).toInt) = 0 := (by decide); omega) (by have : ((0 : Int32).toInt) = 0 := (by decide); omega) dX12_move_104 (fun H locs E41 TH hS hp42 hp43 hp44 => ?_)
              have hst45 : tw_fr kp L [] [326] E E41 := tw_fr.ast tw_fr.rf (fun _ => hkxr40) hp42 hp43 (by decide)
              have hF := hF.tr hst45 (fun _ h => ⟨h, rfl⟩) (by decide) (by decide)
              have hmf46 : tw_fv E41 a0 26 = .int xi1 := (hst45.1 a0 26 hm0 (by rw [hk0]; decide)).trans hxi1
              have hmf47 : tw_fv E41 a0 29 = .int xi2 := (hst45.1 a0 29 hm0 (by rw [hk0]; decide)).trans hxi2
              have hmf48 : tw_fv E41 a0 18 = .ref xr13 := (hst45.1 a0 18 hm0 (by rw [hk0]; decide)).trans hxr13
              have hmf49 : tw_fv E41 a0 16 = .ref xr39 := (hst45.1 a0 16 hm0 (by rw [hk0]; decide)).trans hxr39
              have hg0_o := hg0
              have hg1_o := hg1
              have hg2_o := hg2
              have hg3_o := hg3
              have hh12_o := hh12
              have hp12_o := hp12
              have hg0 : rd_ok E41 a0 := rd_ok_fr TH hst45 hm0 hk0 (by decide) (by decide) hg0
              have hg1 : eo_ok E41 a0 := eo_ok_h (i := 12) TH hm0 hk0 hg0_o hxr39 exr40 hkxr39 hkxr40 hp42 hp43 (by have e : ((12 : Int32).toInt) = 12 := (by decide); omega) (by have e : ((12 : Int32).toInt) = 12 := (by decide); omega) (by have := tw_fi_ed TH hm0 hk0; have e : ((12 : Int32).toInt) = 12 := (by decide); omega) hg1_o
              have hg2 : ht_ok E41 a0 := ht_ok_h (i := 12) hg0_o hxr39 exr40 hkxr39 hkxr40 hp42 hp43 (by have e : ((12 : Int32).toInt) = 12 := (by decide); omega) (by have e : ((12 : Int32).toInt) = 12 := (by decide); omega) hg2_o
              have hh12 : h12_ok E41 a0 (fun c => if c = (x1.toInt).toNat then 0 else (rw_h E a0 12) c) := (by have e12 : ((12 : Int32).toInt) = 12 := (by decide); have ev : ((0 : Int32).toInt) = 0 := (by decide); have q := rw_h_st (m := a0) (i := 12) (c := x1) hxr39 exr40 hkxr39 hkxr40 hp42 hp43 hp44; rw [e12, ev] at q; exact h12_st hh12_o q)
              have hp12 : p12_ok E41 a0 (rw_p E a0 12) := p12_ok_fr TH hst45 hm0 hk0 (by decide) (by decide) hp12
              refine lv_aload_n hx hb dX12_move_105 rfl (lv_at hl 2 rfl) ?_
              refine lv_iload hx hb dX12_move_106 (lv_at hl 0 rfl) ?_
              refine tw_Vc (o := a0) (ci := 12) (n := 1) (post := (fun v kq Lq Eq => v = none ∧ kp = kq ∧ L = Lq ∧ tw_fr kp L [] [329] E41 Eq)) (As := [.int xe15]) (rest := []) ⟨hx, hb, hml, hown, hB⟩ (fun sz => tX12_shrinks l D cs a0 xe15 hm0 hk0 sz) cg_12_422_X12_shrinks rfl rfl (by decide +kernel) ⟨Nat.le_of_ble_eq_true rfl, Nat.le_of_ble_eq_true rfl⟩ hK hN TH hS hA rfl hm0 hk0 (by decide) rfl hl.1 rfl (Nat.le_of_ble_eq_true rfl) dX12_move_108 ⟨Nat.le_of_ble_eq_true rfl, Nat.le_of_ble_eq_true rfl⟩ (fun v50 kp50 L50 E50 H locs hq50 hx50 TH hS => ?_)
              obtain ⟨rfl, rfl, rfl, hst50⟩ := hq50
              have hF := hF.tr hst50 (fun _ h => ⟨h, rfl⟩) (by decide) (by decide)
              have hmf52 : tw_fv E50 a0 26 = .int xi1 := (hst50.1 a0 26 hm0 (by rw [hk0]; decide)).trans hmf46
              have hmf53 : tw_fv E50 a0 29 = .int xi2 := (hst50.1 a0 29 hm0 (by rw [hk0]; decide)).trans hmf47
              have hmf54 : tw_fv E50 a0 18 = .ref xr13 := (hst50.1 a0 18 hm0 (by rw [hk0]; decide)).trans hmf48
              have hmf55 : tw_fv E50 a0 16 = .ref xr39 := (hst50.1 a0 16 hm0 (by rw [hk0]; decide)).trans hmf49
              have hg0 : rd_ok E50 a0 := rd_ok_fr TH hst50 hm0 hk0 (by decide) (by decide) hg0
              have hg1 : eo_ok E50 a0 := eo_ok_fr TH hst50 hm0 hk0 (by decide) (by decide) hg1
              have hg2 : ht_ok E50 a0 := ht_ok_fr TH hst50 hm0 hk0 (by decide) (by decide) hg2
              have hh12 : h12_ok E50 a0 (fun c => if c = (x1.toInt).toNat then 0 else (rw_h E a0 12) c) := h12_ok_fr TH hst50 hm0 hk0 (by decide) (by decide) hh12
              have hp12 : p12_ok E50 a0 (rw_p E a0 12) := p12_ok_fr TH hst50 hm0 hk0 (by decide) (by decide) hp12
              refine W.eq (g2 := F0 m 111 ls []) rfl ?_
              refine lv_aload_n hx hb dX12_move_111 rfl (lv_at hl 2 rfl) ?_
              refine lv_iload_n hx hb dX12_move_112 rfl (lv_at hl 3 rfl) ?_
              refine lv_iload_n hx hb dX12_move_113 rfl (lv_at hl 4 rfl) ?_
              refine lv_iload_n hx hb dX12_move_114 rfl (lv_at hl 5 rfl) ?_
              refine tw_Vc (o := a0) (ci := 12) (n := 3) (post := (fun v kq Lq Eq => v = none ∧ kp = kq ∧ L = Lq ∧ tw_fr kp L [] [326, 328, 329] E50 Eq ∧ (∀ c : Nat, rw_h Eq a0 12 c = if c = (x1.toInt).toNat then 1 else rw_h E50 a0 12 c) ∧ (∀ c : Nat, rw_p Eq a0 12 c = if c = (x1.toInt).toNat then x2.toInt else rw_p E50 a0 12 c) ∧ rw_ok Eq a0 (12) ∧ rd_ok Eq a0 ∧ eo_ok Eq a0 ∧ ht_ok Eq a0)) (As := [.int x1, .int x2, .int x3]) (rest := []) ⟨hx, hb, hml, hown, hB⟩ (fun sz => tX12_lays l D cs a0 x1 x2 x3 hm0 hk0 (by omega) (by omega) (by omega) (by omega) (by have e12 : ((12 : Int32).toInt) = 12 := (by decide); unfold lyw_ok; have fh : rw_h E50 a0 12 = _ := hh12; have fp : rw_p E50 a0 12 = rw_p E a0 12 := hp12; rw [fp]; have up := hpoxc20_0 (by omega) (by omega); rw [e12] at up; exact ly_move hrow.1.1 hrow.1.2.1 hrow.1.2.2 (by omega) (by omega) (hpoxc4_1 (by omega)) (by omega) (by omega) (hpoxc9_1 (by omega)) up (fun c => congrFun fh c)) hg0 hg1 hg2 sz) cg_12_439_X12_lays rfl rfl (by decide +kernel) ⟨Nat.le_of_ble_eq_true rfl, Nat.le_of_ble_eq_true rfl⟩ hK hN TH hS hA rfl hm0 hk0 (by decide) rfl hl.1 rfl (Nat.le_of_ble_eq_true rfl) dX12_move_115 ⟨Nat.le_of_ble_eq_true rfl, Nat.le_of_ble_eq_true rfl⟩ (fun v56 kp56 L56 E56 H locs hq56 hx56 TH hS => ?_)
              obtain ⟨rfl, rfl, rfl, hst56, hpoxc57_0, hpoxc57_1, hgpxc57_0, hgpxc57_1, hgpxc57_2, hgpxc57_3⟩ := hq56
              have hF := hF.tr hst56 (fun _ h => ⟨h, rfl⟩) (by decide) (by decide)
              have hmf58 : tw_fv E56 a0 26 = .int xi1 := (hst56.1 a0 26 hm0 (by rw [hk0]; decide)).trans hmf52
              have hmf59 : tw_fv E56 a0 29 = .int xi2 := (hst56.1 a0 29 hm0 (by rw [hk0]; decide)).trans hmf53
              have hmf60 : tw_fv E56 a0 18 = .ref xr13 := (hst56.1 a0 18 hm0 (by rw [hk0]; decide)).trans hmf54
              have hmf61 : tw_fv E56 a0 16 = .ref xr39 := (hst56.1 a0 16 hm0 (by rw [hk0]; decide)).trans hmf55
              have hgn62 : dr_ok E56 a0 := (fun _ => (by have fh : rw_h E50 a0 12 = _ := hh12; have fp : rw_p E50 a0 12 = rw_p E a0 12 := hp12; refine row_put (h := rw_h E a0 12) (p := rw_p E a0 12) (n := x1.toInt) (u := x2.toInt) (N := xi1.toInt) (by omega) (by omega) (by omega) ?_ (Or.inr ⟨hpoxc4_1 (by omega), hrow.2.2.1⟩) (fun c hc hx => (by have z := hrow.2.2.2 c hc hx; rw [tw_fi_of hn26] at z; omega)) (by omega) (tw_fi_of ((hst56.1 a0 26 hm0 (by rw [hk0]; decide)).trans hmf52)) (fun c => (by rw [hpoxc57_0 c, fh]; (by_cases hcn : c = (x1.toInt).toNat; (rw [if_pos hcn, if_pos hcn]); (rw [if_neg hcn, if_neg hcn]; exact if_neg hcn)))) (fun c => (hpoxc57_1 c).trans (by rw [fp])) hgpxc57_0; (obtain ⟨r, r0, r1, r2, r3⟩ := hrow.2.1; exact ⟨r, r0, r1, (fun z => hpn (by rw [← z]; exact r3)), r2, r3⟩)))
              refine W.eq (g2 := F0 m 118 ls []) rfl ?_
              refine lv_iconst (v := 1) hx hb dX12_move_118 (by decide) ?_
              exact tw_zret hx hb hr hlocks (by decide) TH hS hex ⟨⟨_, rfl, (show 0 ≤ Int32.toInt 1 from by have : ((1 : Int32).toInt) = 1 := (by decide); omega), (show Int32.toInt 1 ≤ 1 from by have : ((1 : Int32).toInt) = 1 := (by decide); omega), hgpxc57_1, hgpxc57_2, hgpxc57_3, hgn62⟩, rfl, rfl, hF⟩ (Nat.le_of_ble_eq_true rfl) (Nat.le_of_ble_eq_true rfl) dX12_move_119
            · have hf63 : xc34.toInt = 0 := by have z := (fa_eq _ _).mp hc35; have : ((0 : Int32).toInt) = 0 := (by decide); omega
              refine lv_iconst (v := 0) hx hb dX12_move_82 (by decide) ?_
              exact tw_zret hx hb hr hlocks (by decide) TH hS hex ⟨⟨_, rfl, (show 0 ≤ Int32.toInt 0 from by have : ((0 : Int32).toInt) = 0 := (by decide); omega), (show Int32.toInt 0 ≤ 1 from by have : ((0 : Int32).toInt) = 0 := (by decide); omega), hg0, hg1, hg2, hg3⟩, rfl, rfl, hF⟩ (Nat.le_of_ble_eq_true rfl) (Nat.le_of_ble_eq_true rfl) dX12_move_83
          · have hf64 : xe15.toInt = x2.toInt := by have z := (fa_eq _ _).mp hc27;  omega
            refine lv_iconst (v := 1) hx hb dX12_move_62 (by decide) ?_
            refine lv_goto (tgt := 67) hx hb dX12_move_63 (by decide) ?_
            refine lv_isub hx hb dX12_move_67 ?_
            refine lv_topi (fun zi65 ezi65 => ?_)
            have hzi65 : zi65.toInt = xc24.toInt - 1 := by rw [ezi65]; have : ((1 : Int32).toInt) = 1 := (by decide); have := ia_lo xc24; have := ia_hi xc24; exact (ia_sub (by omega) (by omega)).trans (by omega)
            refine lv_istore (lv' := [(4, .int zi65), (0, .ref a0), (1, .int x1), (2, .int x2), (3, .int x3)]) hx hb dX12_move_68 hl (by decide) rfl (fun ls hl => ?_)
            refine lv_iload_n hx hb dX12_move_70 rfl (lv_at hl 4 rfl) ?_
            refine lv_i2l (v := (x3).toInt64) hx hb dX12_move_71 rfl ?_
            refine tw_topl (fun zl66 ezl66 => ?_)
            have hzl66 : zl66.toInt = x3.toInt := by rw [ezl66];  exact (Int32.toInt_toInt64 _)
            refine lv_lconst (v := 0) hx hb dX12_move_72 (by decide) ?_
            refine tw_topl (fun zl67 ezl67 => ?_)
            have hzl67 : zl67.toInt = 0 := by rw [ezl67]; decide
            refine lv_iload hx hb dX12_move_73 (lv_at hl 0 rfl) ?_
            refine lv_i2l (v := (zi65).toInt64) hx hb dX12_move_75 rfl ?_
            refine tw_topl (fun zl68 ezl68 => ?_)
            have hzl68 : zl68.toInt = zi65.toInt := by rw [ezl68];  exact (Int32.toInt_toInt64 _)
            refine tw_Sc (n := 3) (post := (fun v kq Lq Eq => (∃ x : Int32, v = some (.int x) ∧ 0 ≤ x.toInt ∧ x.toInt ≤ 1 ∧ (x.toInt ≠ 0 → zl67.toInt ≤ zl66.toInt ∧ zl66.toInt ≤ zl68.toInt)) ∧ kp = kq ∧ L = Lq ∧ E = Eq)) (As := [.long zl66, .long zl67, .long zl68]) (rest := []) ⟨hx, hb, hml, hown, hB⟩ (fun sz => tX12_in l D cs zl66 zl67 zl68  sz) cg_12_171_X12_in rfl rfl (by decide +kernel) ⟨Nat.le_of_ble_eq_true rfl, Nat.le_of_ble_eq_true rfl⟩ hK hN TH hS hA rfl hl.1 rfl (Nat.le_of_ble_eq_true rfl) dX12_move_76 ⟨Nat.le_of_ble_eq_true rfl, Nat.le_of_ble_eq_true rfl⟩ (fun v69 kp69 L69 E69 H locs hq69 hx69 TH hS => ?_)
            obtain ⟨⟨xc70, rfl, hxc70a, hxc70b, hpoxc70_0⟩, rfl, rfl, rfl⟩ := hq69
            refine W.eq (g2 := F0 m 79 ls [.int xc70]) rfl ?_
            refine lv_if_ne (tgt := 84) hx hb dX12_move_79 (by decide) (fun hc71 => ?_) (fun hc71 => ?_)
            · have hf72 : ¬ (xc70.toInt = 0) := fun q => hc71 ((fa_eq _ _).mpr (by have : ((0 : Int32).toInt) = 0 := (by decide); omega))
              refine lv_aload_n hx hb dX12_move_84 rfl (lv_at hl 1 rfl) ?_
              refine tw_get (ci := 12) (C := RX12) (T := TX12) (N := 64) hx hb hB cx_inX12 hown hK TH hm0 hk0 rfl ⟨by decide, rfl⟩ 18 (by decide) cw_1211 (fun _ h9 => h9) dX12_move_85 (fun hv => ?_)
              rw [hxr13]
              refine lv_bipush (v := 12) hx hb dX12_move_88 (by decide) ?_
              refine tw_aald (k := 318) (t0 := 4) (n := 16) (lo := 328) (hi := 0) (ty := .int) hx hb hK TH hmxr13 hkxr13 (by decide) rfl rfl (i := 12) (vp_in_iff.mpr ⟨by have : ((12 : Int32).toInt) = 12 := (by decide); omega, by have : ((12 : Int32).toInt) = 12 := (by decide); omega⟩) dX12_move_90 (fun xr73 exr73 hmxr73 hkxr73 => ?_)
              have ezxr73 : xr14 = xr73 := exr14.symm.trans exr73
              subst ezxr73
              refine lv_iload_n hx hb dX12_move_91 rfl (lv_at hl 2 rfl) ?_
              refine tw_iald (k := 328) (t0 := 0) (n := 150) (lo := (-1)) (hi := 149) hx hb hK TH hmxr14 hkxr14 (by decide) rfl rfl (i := x1) (vp_in_iff.mpr ⟨by  omega, by  omega⟩) dX12_move_92 (fun hxe74a hxe74b => ?_)
              rw [exe15]
              refine lv_istore (lv' := [(5, .int xe15), (4, .int zi65), (0, .ref a0), (1, .int x1), (2, .int x2), (3, .int x3)]) hx hb dX12_move_93 hl (by decide) rfl (fun ls hl => ?_)
              have rf_xe15 : rw_p E a0 (12) (x1.toInt).toNat = xe15.toInt := (by have q := rw_p_of (m := a0) (i := (12 : Int32)) (c := x1) hxr13 exr14 exe15; rw [show ((12 : Int32).toInt) = 12 from (by decide)] at q; exact q)
              have hn26 := hxi1
              have hrow := (hg3 (by rw [tw_fi_of hxi2]; omega))
              have hpn : rw_p E a0 12 (x1.toInt).toNat ≠ -1 := (by rw [rf_xe15]; omega)
              refine lv_aload_n hx hb dX12_move_95 rfl (lv_at hl 2 rfl) ?_
              refine tw_get (ci := 12) (C := RX12) (T := TX12) (N := 64) hx hb hB cx_inX12 hown hK TH hm0 hk0 rfl ⟨by decide, rfl⟩ 16 (by decide) cw_1209 (fun _ h9 => h9) dX12_move_96 (fun hv => ?_)
              obtain ⟨xr75, hxr75, hmxr75, hkxr75⟩ : ∃ a : Nat, tw_fv E a0 16 = .ref a ∧ a ∈ L ∧ kp a = 316 := hv
              rw [hxr75]
              refine lv_bipush (v := 12) hx hb dX12_move_99 (by decide) ?_
              refine tw_aald (k := 316) (t0 := 5) (n := 16) (lo := 326) (hi := 0) (ty := .boolean) hx hb hK TH hmxr75 hkxr75 (by decide) rfl rfl (i := 12) (vp_in_iff.mpr ⟨by have : ((12 : Int32).toInt) = 12 := (by decide); omega, by have : ((12 : Int32).toInt) = 12 := (by decide); omega⟩) dX12_move_101 (fun xr76 exr76 hmxr76 hkxr76 => ?_)
              have hkxr76 : kp xr76 = 326 := hkxr76
              refine lv_iload_n hx hb dX12_move_102 rfl (lv_at hl 3 rfl) ?_
              refine lv_iconst (v := 0) hx hb dX12_move_103 (by decide) ?_
              refine tw_zast (k := 326) (n := 150) (lo := 0) (hi := 1) hx hb hK TH hS hmxr76 hkxr76 (by decide) rfl (i := x1) (x := 0) (vp_in_iff.mpr ⟨by  omega, by  omega⟩) (by have : ((0 : Int32).toInt) = 0 := (by decide); omega) (by have : ((0 : Int32).toInt) = 0 := (by decide); omega) (by have : ((0 : Int32).toInt) = 0 := (by decide); omega) (by have : ((0 : Int32).toInt) = 0 := (by decide); omega) dX12_move_104 (fun H locs E77 TH hS hp78 hp79 hp80 => ?_)
              have hst81 : tw_fr kp L [] [326] E E77 := tw_fr.ast tw_fr.rf (fun _ => hkxr76) hp78 hp79 (by decide)
              have hF := hF.tr hst81 (fun _ h => ⟨h, rfl⟩) (by decide) (by decide)
              have hmf82 : tw_fv E77 a0 26 = .int xi1 := (hst81.1 a0 26 hm0 (by rw [hk0]; decide)).trans hxi1
              have hmf83 : tw_fv E77 a0 29 = .int xi2 := (hst81.1 a0 29 hm0 (by rw [hk0]; decide)).trans hxi2
              have hmf84 : tw_fv E77 a0 18 = .ref xr13 := (hst81.1 a0 18 hm0 (by rw [hk0]; decide)).trans hxr13
              have hmf85 : tw_fv E77 a0 16 = .ref xr75 := (hst81.1 a0 16 hm0 (by rw [hk0]; decide)).trans hxr75
              have hg0_o := hg0
              have hg1_o := hg1
              have hg2_o := hg2
              have hg3_o := hg3
              have hh12_o := hh12
              have hp12_o := hp12
              have hg0 : rd_ok E77 a0 := rd_ok_fr TH hst81 hm0 hk0 (by decide) (by decide) hg0
              have hg1 : eo_ok E77 a0 := eo_ok_h (i := 12) TH hm0 hk0 hg0_o hxr75 exr76 hkxr75 hkxr76 hp78 hp79 (by have e : ((12 : Int32).toInt) = 12 := (by decide); omega) (by have e : ((12 : Int32).toInt) = 12 := (by decide); omega) (by have := tw_fi_ed TH hm0 hk0; have e : ((12 : Int32).toInt) = 12 := (by decide); omega) hg1_o
              have hg2 : ht_ok E77 a0 := ht_ok_h (i := 12) hg0_o hxr75 exr76 hkxr75 hkxr76 hp78 hp79 (by have e : ((12 : Int32).toInt) = 12 := (by decide); omega) (by have e : ((12 : Int32).toInt) = 12 := (by decide); omega) hg2_o
              have hh12 : h12_ok E77 a0 (fun c => if c = (x1.toInt).toNat then 0 else (rw_h E a0 12) c) := (by have e12 : ((12 : Int32).toInt) = 12 := (by decide); have ev : ((0 : Int32).toInt) = 0 := (by decide); have q := rw_h_st (m := a0) (i := 12) (c := x1) hxr75 exr76 hkxr75 hkxr76 hp78 hp79 hp80; rw [e12, ev] at q; exact h12_st hh12_o q)
              have hp12 : p12_ok E77 a0 (rw_p E a0 12) := p12_ok_fr TH hst81 hm0 hk0 (by decide) (by decide) hp12
              refine lv_aload_n hx hb dX12_move_105 rfl (lv_at hl 2 rfl) ?_
              refine lv_iload hx hb dX12_move_106 (lv_at hl 0 rfl) ?_
              refine tw_Vc (o := a0) (ci := 12) (n := 1) (post := (fun v kq Lq Eq => v = none ∧ kp = kq ∧ L = Lq ∧ tw_fr kp L [] [329] E77 Eq)) (As := [.int xe15]) (rest := []) ⟨hx, hb, hml, hown, hB⟩ (fun sz => tX12_shrinks l D cs a0 xe15 hm0 hk0 sz) cg_12_422_X12_shrinks rfl rfl (by decide +kernel) ⟨Nat.le_of_ble_eq_true rfl, Nat.le_of_ble_eq_true rfl⟩ hK hN TH hS hA rfl hm0 hk0 (by decide) rfl hl.1 rfl (Nat.le_of_ble_eq_true rfl) dX12_move_108 ⟨Nat.le_of_ble_eq_true rfl, Nat.le_of_ble_eq_true rfl⟩ (fun v86 kp86 L86 E86 H locs hq86 hx86 TH hS => ?_)
              obtain ⟨rfl, rfl, rfl, hst86⟩ := hq86
              have hF := hF.tr hst86 (fun _ h => ⟨h, rfl⟩) (by decide) (by decide)
              have hmf88 : tw_fv E86 a0 26 = .int xi1 := (hst86.1 a0 26 hm0 (by rw [hk0]; decide)).trans hmf82
              have hmf89 : tw_fv E86 a0 29 = .int xi2 := (hst86.1 a0 29 hm0 (by rw [hk0]; decide)).trans hmf83
              have hmf90 : tw_fv E86 a0 18 = .ref xr13 := (hst86.1 a0 18 hm0 (by rw [hk0]; decide)).trans hmf84
              have hmf91 : tw_fv E86 a0 16 = .ref xr75 := (hst86.1 a0 16 hm0 (by rw [hk0]; decide)).trans hmf85
              have hg0 : rd_ok E86 a0 := rd_ok_fr TH hst86 hm0 hk0 (by decide) (by decide) hg0
              have hg1 : eo_ok E86 a0 := eo_ok_fr TH hst86 hm0 hk0 (by decide) (by decide) hg1
              have hg2 : ht_ok E86 a0 := ht_ok_fr TH hst86 hm0 hk0 (by decide) (by decide) hg2
              have hh12 : h12_ok E86 a0 (fun c => if c = (x1.toInt).toNat then 0 else (rw_h E a0 12) c) := h12_ok_fr TH hst86 hm0 hk0 (by decide) (by decide) hh12
              have hp12 : p12_ok E86 a0 (rw_p E a0 12) := p12_ok_fr TH hst86 hm0 hk0 (by decide) (by decide) hp12
              refine W.eq (g2 := F0 m 111 ls []) rfl ?_
              refine lv_aload_n hx hb dX12_move_111 rfl (lv_at hl 2 rfl) ?_
              refine lv_iload_n hx hb dX12_move_112 rfl (lv_at hl 3 rfl) ?_
              refine lv_iload_n hx hb dX12_move_113 rfl (lv_at hl 4 rfl) ?_
              refine lv_iload_n hx hb dX12_move_114 rfl (lv_at hl 5 rfl) ?_
              refine tw_Vc (o := a0) (ci := 12) (n := 3) (post := (fun v kq Lq Eq => v = none ∧ kp = kq ∧ L = Lq ∧ tw_fr kp L [] [326, 328, 329] E86 Eq ∧ (∀ c : Nat, rw_h Eq a0 12 c = if c = (x1.toInt).toNat then 1 else rw_h E86 a0 12 c) ∧ (∀ c : Nat, rw_p Eq a0 12 c = if c = (x1.toInt).toNat then x2.toInt else rw_p E86 a0 12 c) ∧ rw_ok Eq a0 (12) ∧ rd_ok Eq a0 ∧ eo_ok Eq a0 ∧ ht_ok Eq a0)) (As := [.int x1, .int x2, .int x3]) (rest := []) ⟨hx, hb, hml, hown, hB⟩ (fun sz => tX12_lays l D cs a0 x1 x2 x3 hm0 hk0 (by omega) (by omega) (by omega) (by omega) (by have e12 : ((12 : Int32).toInt) = 12 := (by decide); unfold lyw_ok; have fh : rw_h E86 a0 12 = _ := hh12; have fp : rw_p E86 a0 12 = rw_p E a0 12 := hp12; rw [fp]; have up := hpoxc20_0 (by omega) (by omega); rw [e12] at up; exact ly_move hrow.1.1 hrow.1.2.1 hrow.1.2.2 (by omega) (by omega) (hpoxc4_1 (by omega)) (by omega) (by omega) (hpoxc9_1 (by omega)) up (fun c => congrFun fh c)) hg0 hg1 hg2 sz) cg_12_439_X12_lays rfl rfl (by decide +kernel) ⟨Nat.le_of_ble_eq_true rfl, Nat.le_of_ble_eq_true rfl⟩ hK hN TH hS hA rfl hm0 hk0 (by decide) rfl hl.1 rfl (Nat.le_of_ble_eq_true rfl) dX12_move_115 ⟨Nat.le_of_ble_eq_true rfl, Nat.le_of_ble_eq_true rfl⟩ (fun v92 kp92 L92 E92 H locs hq92 hx92 TH hS => ?_)
              obtain ⟨rfl, rfl, rfl, hst92, hpoxc93_0, hpoxc93_1, hgpxc93_0, hgpxc93_1, hgpxc93_2, hgpxc93_3⟩ := hq92
              have hF := hF.tr hst92 (fun _ h => ⟨h, rfl⟩) (by decide) (by decide)
              have hmf94 : tw_fv E92 a0 26 = .int xi1 := (hst92.1 a0 26 hm0 (by rw [hk0]; decide)).trans hmf88
              have hmf95 : tw_fv E92 a0 29 = .int xi2 := (hst92.1 a0 29 hm0 (by rw [hk0]; decide)).trans hmf89
              have hmf96 : tw_fv E92 a0 18 = .ref xr13 := (hst92.1 a0 18 hm0 (by rw [hk0]; decide)).trans hmf90
              have hmf97 : tw_fv E92 a0 16 = .ref xr75 := (hst92.1 a0 16 hm0 (by rw [hk0]; decide)).trans hmf91
              have hgn98 : dr_ok E92 a0 := (fun _ => (by have fh : rw_h E86 a0 12 = _ := hh12; have fp : rw_p E86 a0 12 = rw_p E a0 12 := hp12; refine row_put (h := rw_h E a0 12) (p := rw_p E a0 12) (n := x1.toInt) (u := x2.toInt) (N := xi1.toInt) (by omega) (by omega) (by omega) ?_ (Or.inr ⟨hpoxc4_1 (by omega), hrow.2.2.1⟩) (fun c hc hx => (by have z := hrow.2.2.2 c hc hx; rw [tw_fi_of hn26] at z; omega)) (by omega) (tw_fi_of ((hst92.1 a0 26 hm0 (by rw [hk0]; decide)).trans hmf88)) (fun c => (by rw [hpoxc93_0 c, fh]; (by_cases hcn : c = (x1.toInt).toNat; (rw [if_pos hcn, if_pos hcn]); (rw [if_neg hcn, if_neg hcn]; exact if_neg hcn)))) (fun c => (hpoxc93_1 c).trans (by rw [fp])) hgpxc93_0; (obtain ⟨r, r0, r1, r2, r3⟩ := hrow.2.1; exact ⟨r, r0, r1, (fun z => hpn (by rw [← z]; exact r3)), r2, r3⟩)))
              refine W.eq (g2 := F0 m 118 ls []) rfl ?_
              refine lv_iconst (v := 1) hx hb dX12_move_118 (by decide) ?_
              exact tw_zret hx hb hr hlocks (by decide) TH hS hex ⟨⟨_, rfl, (show 0 ≤ Int32.toInt 1 from by have : ((1 : Int32).toInt) = 1 := (by decide); omega), (show Int32.toInt 1 ≤ 1 from by have : ((1 : Int32).toInt) = 1 := (by decide); omega), hgpxc93_1, hgpxc93_2, hgpxc93_3, hgn98⟩, rfl, rfl, hF⟩ (Nat.le_of_ble_eq_true rfl) (Nat.le_of_ble_eq_true rfl) dX12_move_119
            · have hf99 : xc70.toInt = 0 := by have z := (fa_eq _ _).mp hc71; have : ((0 : Int32).toInt) = 0 := (by decide); omega
              refine lv_iconst (v := 0) hx hb dX12_move_82 (by decide) ?_
              exact tw_zret hx hb hr hlocks (by decide) TH hS hex ⟨⟨_, rfl, (show 0 ≤ Int32.toInt 0 from by have : ((0 : Int32).toInt) = 0 := (by decide); omega), (show Int32.toInt 0 ≤ 1 from by have : ((0 : Int32).toInt) = 0 := (by decide); omega), hg0, hg1, hg2, hg3⟩, rfl, rfl, hF⟩ (Nat.le_of_ble_eq_true rfl) (Nat.le_of_ble_eq_true rfl) dX12_move_83
        · have hf100 : ¬ (xc20.toInt = 0) := fun q => hc21 ((fa_eq _ _).mpr (by have : ((0 : Int32).toInt) = 0 := (by decide); omega))
          refine lv_iconst (v := 0) hx hb dX12_move_40 (by decide) ?_
          exact tw_zret hx hb hr hlocks (by decide) TH hS hex ⟨⟨_, rfl, (show 0 ≤ Int32.toInt 0 from by have : ((0 : Int32).toInt) = 0 := (by decide); omega), (show Int32.toInt 0 ≤ 1 from by have : ((0 : Int32).toInt) = 0 := (by decide); omega), hg0, hg1, hg2, hg3⟩, rfl, rfl, hF⟩ (Nat.le_of_ble_eq_true rfl) (Nat.le_of_ble_eq_true rfl) dX12_move_41
