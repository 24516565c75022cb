set_option maxHeartbeats 4000000 in
set_option maxRecDepth 100000 in
theorem tX12_fitsList (l : Launch) (D : va_G) (cs : Nat → ClassId) {kp : Nat → Nat} {L : List Nat} {E : Nat → va_E} (a0 : Nat) (x1 : Int32) (x2 : Int32) (x3 : Int32) (hm0 : a0 ∈ L) (hk0 : kp a0 = 12) (hp1a : 0 ≤ x1.toInt) (hp1b : x1.toInt ≤ 15) (hp3a : 0 ≤ x3.toInt) (hp3b : x3.toInt ≤ 9) (hg0 : ht_ok E a0) (sz : Nat) : Met l yX12_fitsList (.code yX12_fitsList cX12_fitsList 7 (some .boolean) :: cx_big) { frames := 2, cells := 0, slots := 0, locals := 47 } (tw_P D cs kp L E [.ref a0, .int x1, .int x2, .int x3] sz) (tw_Q D cs kp L (fun v kq Lq Eq => (∃ x : Int32, v = some (.int x) ∧ 0 ≤ x.toInt ∧ x.toInt ≤ 1) ∧ kp = kq ∧ L = Lq ∧ tw_fr kp L [] [348, 349] E Eq) (va_A (va_pl L E) sz)) 0 0 (va_A (va_pl L E) sz) := by
  refine tw_ofW (by decide) (Nat.le_of_ble_eq_true rfl) ?_
  intro p e s m below meth c A ls hx hb hr hml hB hown hlocks hK hN hA TH hS hl
  have hown : s.vm.findClass "TreeMergeModel" = some m.cls := hown
  have hl : lv_has ls 7 [(0, .ref a0), (1, .int x1), (2, .int x2), (3, .int x3)] := hl
  obtain ⟨kp0, ekp⟩ : ∃ z, z = kp := ⟨_, rfl⟩
  obtain ⟨L0, eL⟩ : ∃ z, z = L := ⟨_, rfl⟩
  rw [show tw_Q D cs kp L = tw_Q D cs kp0 L0 by rw [ekp, eL]]
  have hex : ∀ a : Nat, a ∈ L0 → a ∈ L ∧ kp a = kp0 a := fun a h => ⟨by rw [← eL]; exact h, by rw [ekp]⟩
  have hF : tw_fr kp L [] [348, 349] E E := tw_fr.rf
  refine lv_aload_n hx hb dX12_fitsList_0 rfl (lv_at hl 0 rfl) ?_
  refine tw_get (ci := 12) (C := RX12) (T := TX12) (N := 64) hx hb hB cx_inX12 hown hK TH hm0 hk0 rfl ⟨by decide, rfl⟩ 34 (by decide) cw_1227 (fun _ h9 => h9) dX12_fitsList_1 (fun hv => ?_)
  obtain ⟨xr1, hxr1, hmxr1, hkxr1⟩ : ∃ a : Nat, tw_fv E a0 34 = .ref a ∧ a ∈ L ∧ kp a = 340 := hv
  rw [hxr1]
  refine lv_iload_n hx hb dX12_fitsList_4 rfl (lv_at hl 3 rfl) ?_
  refine tw_iald (k := 340) (t0 := 0) (n := 10) (lo := 0) (hi := 252) hx hb hK TH hmxr1 hkxr1 (by decide) rfl rfl (i := x3) (vp_in_iff.mpr ⟨by  omega, by  omega⟩) dX12_fitsList_5 (fun hxe2a hxe2b => ?_)
  obtain ⟨xe2, exe2⟩ : ∃ z : Int32, tw_iv E xr1 (Int32.toNatClampNeg x3) = z := ⟨_, rfl⟩
  rw [exe2] at hxe2a hxe2b ⊢
  refine lv_istore (lv' := [(4, .int xe2), (0, .ref a0), (1, .int x1), (2, .int x2), (3, .int x3)]) hx hb dX12_fitsList_6 hl (by decide) rfl (fun ls hl => ?_)
  refine lv_iconst (v := 0) hx hb dX12_fitsList_8 (by decide) ?_
  refine lv_istore (lv' := [(5, .int 0), (4, .int xe2), (0, .ref a0), (1, .int x1), (2, .int x2), (3, .int x3)]) hx hb dX12_fitsList_9 hl (by decide) rfl (fun ls hl => ?_)
  have hJ11 : ∀ (n11 : Nat) (y11_5 : Int32) (Eg11 : Nat → va_E) (H : Heap) (locs : List Loc) (ls : Array Slot), 0 ≤ y11_5.toInt → y11_5.toInt ≤ 255 → 253 - y11_5.toInt ≤ (n11 : Int) → tw_fr kp L [] [348] E Eg11 → ht_ok Eg11 a0 → tw_H D cs kp L Eg11 A H → va_S A s.heap H locs → lv_has ls 7 [(5, .int y11_5), (4, .int xe2), (0, .ref a0), (1, .int x1), (2, .int x2), (3, .int x3)] → W p l e { frames := 2, cells := 0, slots := 0, locals := 47 } s m [.ref a0, .int x1, .int x2, .int x3].toArray below meth c H locs 0 0 (MQ below (tw_Q D cs kp0 L0 (fun v kq Lq Eq => (∃ x : Int32, v = some (.int x) ∧ 0 ≤ x.toInt ∧ x.toInt ≤ 1) ∧ kp = kq ∧ L = Lq ∧ tw_fr kp L [] [348, 349] E Eq) A) [.ref a0, .int x1, .int x2, .int x3].toArray s 0 0 A) (F0 m 11 ls []) := by
    intro n11
    induction n11 using Nat.strongRecOn with
    | _ n11 ih11 =>
      intro y11_5 Eg11 H locs ls hy11_5a hy11_5b hmeas11 hG11 hg0 TH hS hl
      have hF := hF.tr hG11 (fun _ h => ⟨h, rfl⟩) (by decide) (by decide)
      have hmf3 : tw_fv Eg11 a0 34 = .ref xr1 := (hG11.1 a0 34 hm0 (by rw [hk0]; decide)).trans hxr1
      refine lv_iload hx hb dX12_fitsList_11 (lv_at hl 0 rfl) ?_
      refine lv_iload hx hb dX12_fitsList_13 (lv_at hl 1 rfl) ?_
      refine lv_icmp_gt (tgt := 41) hx hb dX12_fitsList_15 (by decide) (fun hc4 => ?_) (fun hc4 => ?_)
      · have hf5 : xe2.toInt < y11_5.toInt := by have z := (fa_lt _ _).mp hc4;  omega
        refine lv_aload_n hx hb dX12_fitsList_41 rfl (lv_at hl 2 rfl) ?_
        refine lv_aload_n hx hb dX12_fitsList_42 rfl (lv_at hl 2 rfl) ?_
        refine tw_get (ci := 12) (C := RX12) (T := TX12) (N := 64) hx hb hB cx_inX12 hown hK TH hm0 hk0 rfl ⟨by decide, rfl⟩ 42 (by decide) cw_1235 (fun _ h9 => h9) dX12_fitsList_43 (fun hv => ?_)
        obtain ⟨xr6, hxr6, hmxr6, hkxr6⟩ : ∃ a : Nat, tw_fv Eg11 a0 42 = .ref a ∧ a ∈ L ∧ kp a = 348 := hv
        rw [hxr6]
        refine lv_iload_n hx hb dX12_fitsList_46 rfl (lv_at hl 5 rfl) ?_
        refine tw_Vc (o := a0) (ci := 12) (n := 2) (post := (fun v kq Lq Eq => v = none ∧ kp = kq ∧ L = Lq ∧ tw_fr kp L [] [348] Eg11 Eq)) (As := [.ref xr6, .int x3]) (rest := []) ⟨hx, hb, hml, hown, hB⟩ (fun sz => tX12_closes l D cs a0 xr6 x3 hm0 hk0 hmxr6 hkxr6 (by omega) (by omega) sz) cg_12_311_X12_closes rfl rfl (by decide +kernel) ⟨Nat.le_of_ble_eq_true rfl, Nat.le_of_ble_eq_true rfl⟩ hK hN TH hS hA rfl hm0 hk0 (by decide) rfl hl.1 rfl (Nat.le_of_ble_eq_true rfl) dX12_fitsList_47 ⟨Nat.le_of_ble_eq_true rfl, Nat.le_of_ble_eq_true rfl⟩ (fun v7 kp7 L7 E7 H locs hq7 hx7 TH hS => ?_)
        obtain ⟨rfl, rfl, rfl, hst7⟩ := hq7
        have hF := hF.tr hst7 (fun _ h => ⟨h, rfl⟩) (by decide) (by decide)
        have hG11 := hG11.tr hst7 (fun _ h => ⟨h, rfl⟩) (by decide) (by decide)
        have hmf9 : tw_fv E7 a0 34 = .ref xr1 := (hst7.1 a0 34 hm0 (by rw [hk0]; decide)).trans hmf3
        have hmf10 : tw_fv E7 a0 42 = .ref xr6 := (hst7.1 a0 42 hm0 (by rw [hk0]; decide)).trans hxr6
        have hg0 : ht_ok E7 a0 := ht_ok_fr TH hst7 hm0 hk0 (by decide) (by decide) hg0
        refine W.eq (g2 := F0 m 50 ls []) rfl ?_
        refine lv_aload_n hx hb dX12_fitsList_50 rfl (lv_at hl 2 rfl) ?_
        refine lv_iload_n hx hb dX12_fitsList_51 rfl (lv_at hl 3 rfl) ?_
        refine lv_iload_n hx hb dX12_fitsList_52 rfl (lv_at hl 4 rfl) ?_
        refine tw_Vc (o := a0) (ci := 12) (n := 2) (post := (fun v kq Lq Eq => (∃ x : Int32, v = some (.int x) ∧ (-1) ≤ x.toInt ∧ x.toInt ≤ 149 ∧ (rt_kbk (rw_h E7 a0 x1.toInt) (rw_p E7 a0 x1.toInt) (rw_q E7 a0 x1.toInt) 150 x2.toInt (-1) x.toInt)) ∧ kp = kq ∧ L = Lq ∧ E7 = Eq)) (As := [.int x1, .int x2]) (rest := []) ⟨hx, hb, hml, hown, hB⟩ (fun sz => tX12_firstKid l D cs a0 x1 x2 hm0 hk0 (by omega) (by omega) sz) cg_12_291_X12_firstKid rfl rfl (by decide +kernel) ⟨Nat.le_of_ble_eq_true rfl, Nat.le_of_ble_eq_true rfl⟩ hK hN TH hS hA rfl hm0 hk0 (by decide) rfl hl.1 rfl (Nat.le_of_ble_eq_true rfl) dX12_fitsList_53 ⟨Nat.le_of_ble_eq_true rfl, Nat.le_of_ble_eq_true rfl⟩ (fun v11 kp11 L11 E11 H locs hq11 hx11 TH hS => ?_)
        obtain ⟨⟨xc12, rfl, hxc12a, hxc12b, hpoxc12_0⟩, rfl, rfl, rfl⟩ := hq11
        refine W.eq (g2 := F0 m 56 ls [.int xc12]) rfl ?_
        refine lv_istore (lv' := [(5, .int xc12), (4, .int xe2), (0, .ref a0), (1, .int x1), (2, .int x2), (3, .int x3)]) hx hb dX12_fitsList_56 hl (by decide) rfl (fun ls hl => ?_)
        have hJ58 : ∀ (n58 : Nat) (y58_5 : Int32) (Eg58 : Nat → va_E) (H : Heap) (locs : List Loc) (ls : Array Slot), (-1) ≤ y58_5.toInt → y58_5.toInt ≤ 149 → (kd_is (rw_h E a0 (x1.toInt)) (rw_p E a0 (x1.toInt)) (x2.toInt) (y58_5.toInt)) → (rt_kz (rw_h E a0 (x1.toInt)) (rw_p E a0 (x1.toInt)) (rw_q E a0 (x1.toInt)) (x2.toInt) (y58_5.toInt) : Int) ≤ (n58 : Int) → tw_fr kp L [] [348, 349] E7 Eg58 → ht_ok Eg58 a0 → tw_H D cs kp L Eg58 A H → va_S A s.heap H locs → lv_has ls 7 [(5, .int y58_5), (4, .int xe2), (0, .ref a0), (1, .int x1), (2, .int x2), (3, .int x3)] → W p l e { frames := 2, cells := 0, slots := 0, locals := 47 } s m [.ref a0, .int x1, .int x2, .int x3].toArray below meth c H locs 0 0 (MQ below (tw_Q D cs kp0 L0 (fun v kq Lq Eq => (∃ x : Int32, v = some (.int x) ∧ 0 ≤ x.toInt ∧ x.toInt ≤ 1) ∧ kp = kq ∧ L = Lq ∧ tw_fr kp L [] [348, 349] E Eq) A) [.ref a0, .int x1, .int x2, .int x3].toArray s 0 0 A) (F0 m 58 ls []) := by
          intro n58
          induction n58 using Nat.strongRecOn with
          | _ n58 ih58 =>
            intro y58_5 Eg58 H locs ls hy58_5a hy58_5b hin58_0 hmeas58 hG58 hg0 TH hS hl
            have hF := hF.tr hG58 (fun _ h => ⟨h, rfl⟩) (by decide) (by decide)
            have hmf13 : tw_fv Eg58 a0 34 = .ref xr1 := (hG58.1 a0 34 hm0 (by rw [hk0]; decide)).trans hmf9
            have hmf14 : tw_fv Eg58 a0 42 = .ref xr6 := (hG58.1 a0 42 hm0 (by rw [hk0]; decide)).trans hmf10
            refine lv_iload hx hb dX12_fitsList_58 (lv_at hl 0 rfl) ?_
            refine lv_iconst (v := (-1)) hx hb dX12_fitsList_60 (by decide) ?_
            refine lv_icmp_eq (tgt := 222) hx hb dX12_fitsList_61 (by decide) (fun hc15 => ?_) (fun hc15 => ?_)
            · have hf16 : y58_5.toInt = (-1) := by have z := (fa_eq _ _).mp hc15; have : (((-1) : Int32).toInt) = (-1) := (by decide); omega
              refine lv_aload_n hx hb dX12_fitsList_222 rfl (lv_at hl 2 rfl) ?_
              refine tw_get (ci := 12) (C := RX12) (T := TX12) (N := 64) hx hb hB cx_inX12 hown hK TH hm0 hk0 rfl ⟨by decide, rfl⟩ 42 (by decide) cw_1235 (fun _ h9 => h9) dX12_fitsList_223 (fun hv => ?_)
              rw [hmf14]
              refine lv_iload hx hb dX12_fitsList_226 (lv_at hl 1 rfl) ?_
              refine tw_zald (k := 348) (t0 := 3) (n := 253) (lo := 0) (hi := 1) hx hb hK TH hmxr6 hkxr6 (by decide) rfl rfl (i := xe2) (vp_in_iff.mpr ⟨by  omega, by  omega⟩) dX12_fitsList_228 (fun hxe17a hxe17b => ?_)
              obtain ⟨xe17, exe17⟩ : ∃ z : Int32, tw_iv Eg58 xr6 (Int32.toNatClampNeg xe2) = z := ⟨_, rfl⟩
              rw [exe17] at hxe17a hxe17b ⊢
              exact tw_zret hx hb hr hlocks (ia_bool (by omega) (by omega)) TH hS hex ⟨⟨_, rfl, (show 0 ≤ Int32.toInt xe17 from by  omega), (show Int32.toInt xe17 ≤ 1 from by  omega)⟩, rfl, rfl, hF⟩ (Nat.le_of_ble_eq_true rfl) (Nat.le_of_ble_eq_true rfl) dX12_fitsList_229
            · have hf18 : ¬ (y58_5.toInt = (-1)) := fun q => hc15 ((fa_eq _ _).mpr (by have : (((-1) : Int32).toInt) = (-1) := (by decide); omega))
              have hkc5 := hin58_0.resolve_left (by omega)
              refine lv_iconst (v := 0) hx hb dX12_fitsList_64 (by decide) ?_
              refine lv_istore (lv' := [(6, .int 0), (5, .int y58_5), (4, .int xe2), (0, .ref a0), (1, .int x1), (2, .int x2), (3, .int x3)]) hx hb dX12_fitsList_65 hl (by decide) rfl (fun ls hl => ?_)
              have hJ67 : ∀ (n67 : Nat) (y67_6 : Int32) (Eg67 : Nat → va_E) (H : Heap) (locs : List Loc) (ls : Array Slot), 0 ≤ y67_6.toInt → y67_6.toInt ≤ 255 → 253 - y67_6.toInt ≤ (n67 : Int) → tw_fr kp L [] [349] Eg58 Eg67 → ht_ok Eg67 a0 → tw_H D cs kp L Eg67 A H → va_S A s.heap H locs → lv_has ls 7 [(6, .int y67_6), (5, .int y58_5), (4, .int xe2), (0, .ref a0), (1, .int x1), (2, .int x2), (3, .int x3)] → W p l e { frames := 2, cells := 0, slots := 0, locals := 47 } s m [.ref a0, .int x1, .int x2, .int x3].toArray below meth c H locs 0 0 (MQ below (tw_Q D cs kp0 L0 (fun v kq Lq Eq => (∃ x : Int32, v = some (.int x) ∧ 0 ≤ x.toInt ∧ x.toInt ≤ 1) ∧ kp = kq ∧ L = Lq ∧ tw_fr kp L [] [348, 349] E Eq) A) [.ref a0, .int x1, .int x2, .int x3].toArray s 0 0 A) (F0 m 67 ls []) := by
                intro n67
                induction n67 using Nat.strongRecOn with
                | _ n67 ih67 =>
                  intro y67_6 Eg67 H locs ls hy67_6a hy67_6b hmeas67 hG67 hg0 TH hS hl
                  have hF := hF.tr hG67 (fun _ h => ⟨h, rfl⟩) (by decide) (by decide)
                  have hG58 := hG58.tr hG67 (fun _ h => ⟨h, rfl⟩) (by decide) (by decide)
                  have hmf19 : tw_fv Eg67 a0 34 = .ref xr1 := (hG67.1 a0 34 hm0 (by rw [hk0]; decide)).trans hmf13
                  have hmf20 : tw_fv Eg67 a0 42 = .ref xr6 := (hG67.1 a0 42 hm0 (by rw [hk0]; decide)).trans hmf14
                  refine lv_iload hx hb dX12_fitsList_67 (lv_at hl 0 rfl) ?_
                  refine lv_iload hx hb dX12_fitsList_69 (lv_at hl 2 rfl) ?_
                  refine lv_icmp_gt (tgt := 88) hx hb dX12_fitsList_71 (by decide) (fun hc21 => ?_) (fun hc21 => ?_)
                  · have hf22 : xe2.toInt < y67_6.toInt := by have z := (fa_lt _ _).mp hc21;  omega
                    refine lv_iconst (v := 0) hx hb dX12_fitsList_88 (by decide) ?_
                    refine lv_istore (lv' := [(6, .int 0), (5, .int y58_5), (4, .int xe2), (0, .ref a0), (1, .int x1), (2, .int x2), (3, .int x3)]) hx hb dX12_fitsList_89 hl (by decide) rfl (fun ls hl => ?_)
                    have hJ91 : ∀ (n91 : Nat) (y91_6 : Int32) (Eg91 : Nat → va_E) (H : Heap) (locs : List Loc) (ls : Array Slot), 0 ≤ y91_6.toInt → y91_6.toInt ≤ 252 → 253 - y91_6.toInt ≤ (n91 : Int) → tw_fr kp L [] [349] Eg67 Eg91 → ht_ok Eg91 a0 → tw_H D cs kp L Eg91 A H → va_S A s.heap H locs → lv_has ls 7 [(6, .int y91_6), (5, .int y58_5), (4, .int xe2), (0, .ref a0), (1, .int x1), (2, .int x2), (3, .int x3)] → W p l e { frames := 2, cells := 0, slots := 0, locals := 47 } s m [.ref a0, .int x1, .int x2, .int x3].toArray below meth c H locs 0 0 (MQ below (tw_Q D cs kp0 L0 (fun v kq Lq Eq => (∃ x : Int32, v = some (.int x) ∧ 0 ≤ x.toInt ∧ x.toInt ≤ 1) ∧ kp = kq ∧ L = Lq ∧ tw_fr kp L [] [348, 349] E Eq) A) [.ref a0, .int x1, .int x2, .int x3].toArray s 0 0 A) (F0 m 91 ls []) := by
                      intro n91
                      induction n91 using Nat.strongRecOn with
                      | _ n91 ih91 =>
                        intro y91_6 Eg91 H locs ls hy91_6a hy91_6b hmeas91 hG91 hg0 TH hS hl
                        have hF := hF.tr hG91 (fun _ h => ⟨h, rfl⟩) (by decide) (by decide)
                        have hG58 := hG58.tr hG91 (fun _ h => ⟨h, rfl⟩) (by decide) (by decide)
                        have hG67 := hG67.tr hG91 (fun _ h => ⟨h, rfl⟩) (by decide) (by decide)
                        have hmf23 : tw_fv Eg91 a0 34 = .ref xr1 := (hG91.1 a0 34 hm0 (by rw [hk0]; decide)).trans hmf19
                        have hmf24 : tw_fv Eg91 a0 42 = .ref xr6 := (hG91.1 a0 42 hm0 (by rw [hk0]; decide)).trans hmf20
                        refine lv_iload hx hb dX12_fitsList_91 (lv_at hl 0 rfl) ?_
                        refine lv_iload hx hb dX12_fitsList_93 (lv_at hl 2 rfl) ?_
                        refine lv_icmp_ge (tgt := 171) hx hb dX12_fitsList_95 (by decide) (fun hc25 => ?_) (fun hc25 => ?_)
                        · have hf26 : xe2.toInt ≤ y91_6.toInt := by have z := (fa_le _ _).mp hc25;  omega
                          refine lv_aload_n hx hb dX12_fitsList_171 rfl (lv_at hl 3 rfl) ?_
                          refine lv_aload_n hx hb dX12_fitsList_172 rfl (lv_at hl 3 rfl) ?_
                          refine tw_get (ci := 12) (C := RX12) (T := TX12) (N := 64) hx hb hB cx_inX12 hown hK TH hm0 hk0 rfl ⟨by decide, rfl⟩ 43 (by decide) cw_1236 (fun _ h9 => h9) dX12_fitsList_173 (fun hv => ?_)
                          obtain ⟨xr27, hxr27, hmxr27, hkxr27⟩ : ∃ a : Nat, tw_fv Eg91 a0 43 = .ref a ∧ a ∈ L ∧ kp a = 349 := hv
                          rw [hxr27]
                          refine lv_iload_n hx hb dX12_fitsList_176 rfl (lv_at hl 6 rfl) ?_
                          refine tw_Vc (o := a0) (ci := 12) (n := 2) (post := (fun v kq Lq Eq => v = none ∧ kp = kq ∧ L = Lq ∧ tw_fr kp L [] [349] Eg91 Eq)) (As := [.ref xr27, .int x3]) (rest := []) ⟨hx, hb, hml, hown, hB⟩ (fun sz => tX12_closes_v1 l D cs a0 xr27 x3 hm0 hk0 hmxr27 hkxr27 (by omega) (by omega) sz) cg_12_311_X12_closes rfl rfl (by decide +kernel) ⟨Nat.le_of_ble_eq_true rfl, Nat.le_of_ble_eq_true rfl⟩ hK hN TH hS hA rfl hm0 hk0 (by decide) rfl hl.1 rfl (Nat.le_of_ble_eq_true rfl) dX12_fitsList_177 ⟨Nat.le_of_ble_eq_true rfl, Nat.le_of_ble_eq_true rfl⟩ (fun v28 kp28 L28 E28 H locs hq28 hx28 TH hS => ?_)
                          obtain ⟨rfl, rfl, rfl, hst28⟩ := hq28
                          have hF := hF.tr hst28 (fun _ h => ⟨h, rfl⟩) (by decide) (by decide)
                          have hG58 := hG58.tr hst28 (fun _ h => ⟨h, rfl⟩) (by decide) (by decide)
                          have hG67 := hG67.tr hst28 (fun _ h => ⟨h, rfl⟩) (by decide) (by decide)
                          have hG91 := hG91.tr hst28 (fun _ h => ⟨h, rfl⟩) (by decide) (by decide)
                          have hmf30 : tw_fv E28 a0 34 = .ref xr1 := (hst28.1 a0 34 hm0 (by rw [hk0]; decide)).trans hmf23
                          have hmf31 : tw_fv E28 a0 42 = .ref xr6 := (hst28.1 a0 42 hm0 (by rw [hk0]; decide)).trans hmf24
                          have hmf32 : tw_fv E28 a0 43 = .ref xr27 := (hst28.1 a0 43 hm0 (by rw [hk0]; decide)).trans hxr27
                          have hg0 : ht_ok E28 a0 := ht_ok_fr TH hst28 hm0 hk0 (by decide) (by decide) hg0
                          refine W.eq (g2 := F0 m 180 ls []) rfl ?_
                          refine lv_iconst (v := 0) hx hb dX12_fitsList_180 (by decide) ?_
                          refine lv_istore (lv' := [(6, .int 0), (5, .int y58_5), (4, .int xe2), (0, .ref a0), (1, .int x1), (2, .int x2), (3, .int x3)]) hx hb dX12_fitsList_181 hl (by decide) rfl (fun ls hl => ?_)
                          have hJ183 : ∀ (n183 : Nat) (y183_6 : Int32) (Eg183 : Nat → va_E) (H : Heap) (locs : List Loc) (ls : Array Slot), 0 ≤ y183_6.toInt → y183_6.toInt ≤ 255 → 253 - y183_6.toInt ≤ (n183 : Int) → tw_fr kp L [] [348] E28 Eg183 → ht_ok Eg183 a0 → tw_H D cs kp L Eg183 A H → va_S A s.heap H locs → lv_has ls 7 [(6, .int y183_6), (5, .int y58_5), (4, .int xe2), (0, .ref a0), (1, .int x1), (2, .int x2), (3, .int x3)] → W p l e { frames := 2, cells := 0, slots := 0, locals := 47 } s m [.ref a0, .int x1, .int x2, .int x3].toArray below meth c H locs 0 0 (MQ below (tw_Q D cs kp0 L0 (fun v kq Lq Eq => (∃ x : Int32, v = some (.int x) ∧ 0 ≤ x.toInt ∧ x.toInt ≤ 1) ∧ kp = kq ∧ L = Lq ∧ tw_fr kp L [] [348, 349] E Eq) A) [.ref a0, .int x1, .int x2, .int x3].toArray s 0 0 A) (F0 m 183 ls []) := by
                            intro n183
                            induction n183 using Nat.strongRecOn with
                            | _ n183 ih183 =>
                              intro y183_6 Eg183 H locs ls hy183_6a hy183_6b hmeas183 hG183 hg0 TH hS hl
                              have hF := hF.tr hG183 (fun _ h => ⟨h, rfl⟩) (by decide) (by decide)
                              have hG58 := hG58.tr hG183 (fun _ h => ⟨h, rfl⟩) (by decide) (by decide)
                              have hmf33 : tw_fv Eg183 a0 34 = .ref xr1 := (hG183.1 a0 34 hm0 (by rw [hk0]; decide)).trans hmf30
                              have hmf34 : tw_fv Eg183 a0 42 = .ref xr6 := (hG183.1 a0 42 hm0 (by rw [hk0]; decide)).trans hmf31
                              have hmf35 : tw_fv Eg183 a0 43 = .ref xr27 := (hG183.1 a0 43 hm0 (by rw [hk0]; decide)).trans hmf32
                              refine lv_iload hx hb dX12_fitsList_183 (lv_at hl 0 rfl) ?_
                              refine lv_iload hx hb dX12_fitsList_185 (lv_at hl 2 rfl) ?_
                              refine lv_icmp_gt (tgt := 210) hx hb dX12_fitsList_187 (by decide) (fun hc36 => ?_) (fun hc36 => ?_)
                              · have hf37 : xe2.toInt < y183_6.toInt := by have z := (fa_lt _ _).mp hc36;  omega
                                refine lv_aload_n hx hb dX12_fitsList_210 rfl (lv_at hl 3 rfl) ?_
                                refine lv_iload_n hx hb dX12_fitsList_211 rfl (lv_at hl 4 rfl) ?_
                                refine lv_iload hx hb dX12_fitsList_212 (lv_at hl 1 rfl) ?_
                                refine tw_Vc (o := a0) (ci := 12) (n := 2) (post := (fun v kq Lq Eq => (∃ x : Int32, v = some (.int x) ∧ (-1) ≤ x.toInt ∧ x.toInt ≤ 149 ∧ (rt_kbk (rw_h Eg183 a0 x1.toInt) (rw_p Eg183 a0 x1.toInt) (rw_q Eg183 a0 x1.toInt) 150 (rw_p Eg183 a0 x1.toInt (y58_5.toInt).toNat) (rw_q Eg183 a0 x1.toInt (y58_5.toInt).toNat) x.toInt)) ∧ kp = kq ∧ L = Lq ∧ Eg183 = Eq)) (As := [.int x1, .int y58_5]) (rest := []) ⟨hx, hb, hml, hown, hB⟩ (fun sz => tX12_nextKid l D cs a0 x1 y58_5 hm0 hk0 (by omega) (by omega) (by omega) (by omega) sz) cg_12_294_X12_nextKid rfl rfl (by decide +kernel) ⟨Nat.le_of_ble_eq_true rfl, Nat.le_of_ble_eq_true rfl⟩ hK hN TH hS hA rfl hm0 hk0 (by decide) rfl hl.1 rfl (Nat.le_of_ble_eq_true rfl) dX12_fitsList_214 ⟨Nat.le_of_ble_eq_true rfl, Nat.le_of_ble_eq_true rfl⟩ (fun v38 kp38 L38 E38 H locs hq38 hx38 TH hS => ?_)
                                obtain ⟨⟨xc39, rfl, hxc39a, hxc39b, hpoxc39_0⟩, rfl, rfl, rfl⟩ := hq38
                                refine W.eq (g2 := F0 m 217 ls [.int xc39]) rfl ?_
                                refine lv_istore (lv' := [(5, .int xc39), (6, .int y183_6), (4, .int xe2), (0, .ref a0), (1, .int x1), (2, .int x2), (3, .int x3)]) hx hb dX12_fitsList_217 hl (by decide) rfl (fun ls hl => ?_)
                                refine lv_goto (tgt := 58) hx hb dX12_fitsList_219 (by decide) ?_
                                exact ih58 (n58 - 1) (by  have fh := rw_h_fr TH hF hm0 hk0 (by decide) (by decide) (by decide) (i := x1.toInt) (by omega); have fp := rw_p_fr TH hF hm0 hk0 (by decide) (by decide) (by decide) (i := x1.toInt) (by omega); have fq := rw_q_fr TH hF hm0 hk0 (by decide) (by decide) (by decide) (i := x1.toInt) (by omega); have q := hpoxc39_0; rw [fh, fp, fq] at q; have hkc := hin58_0.resolve_left (by omega); rw [hkc.2.2.2.2] at q; have hfall := rt_kz_fall hkc.1 hkc.2.2 q;  omega) xc39 _ _ _ ls (by omega) (by omega) (by  have fh := rw_h_fr TH hF hm0 hk0 (by decide) (by decide) (by decide) (i := x1.toInt) (by omega); have fp := rw_p_fr TH hF hm0 hk0 (by decide) (by decide) (by decide) (i := x1.toInt) (by omega); have fq := rw_q_fr TH hF hm0 hk0 (by decide) (by decide) (by decide) (i := x1.toInt) (by omega); have q := hpoxc39_0; rw [fh, fp, fq] at q; have hkc := hin58_0.resolve_left (by omega); rw [hkc.2.2.2.2] at q; exact kd_is_of q) (by  have fh := rw_h_fr TH hF hm0 hk0 (by decide) (by decide) (by decide) (i := x1.toInt) (by omega); have fp := rw_p_fr TH hF hm0 hk0 (by decide) (by decide) (by decide) (i := x1.toInt) (by omega); have fq := rw_q_fr TH hF hm0 hk0 (by decide) (by decide) (by decide) (i := x1.toInt) (by omega); have q := hpoxc39_0; rw [fh, fp, fq] at q; have hkc := hin58_0.resolve_left (by omega); rw [hkc.2.2.2.2] at q; have hfall := rt_kz_fall hkc.1 hkc.2.2 q;  omega) hG58 hg0 TH hS (lv_sub hl [0, 2, 3, 4, 5, 6] rfl)
                              · have hf40 : ¬ (xe2.toInt < y183_6.toInt) := fun q => hc36 ((fa_lt _ _).mpr (by  omega))
                                refine lv_aload_n hx hb dX12_fitsList_190 rfl (lv_at hl 3 rfl) ?_
                                refine tw_get (ci := 12) (C := RX12) (T := TX12) (N := 64) hx hb hB cx_inX12 hown hK TH hm0 hk0 rfl ⟨by decide, rfl⟩ 42 (by decide) cw_1235 (fun _ h9 => h9) dX12_fitsList_191 (fun hv => ?_)
                                rw [hmf34]
                                refine lv_iload hx hb dX12_fitsList_194 (lv_at hl 0 rfl) ?_
                                refine lv_aload_n hx hb dX12_fitsList_196 rfl (lv_at hl 3 rfl) ?_
                                refine tw_get (ci := 12) (C := RX12) (T := TX12) (N := 64) hx hb hB cx_inX12 hown hK TH hm0 hk0 rfl ⟨by decide, rfl⟩ 43 (by decide) cw_1236 (fun _ h9 => h9) dX12_fitsList_197 (fun hv => ?_)
                                rw [hmf35]
                                refine lv_iload hx hb dX12_fitsList_200 (lv_at hl 0 rfl) ?_
                                refine tw_zald (k := 349) (t0 := 3) (n := 253) (lo := 0) (hi := 1) hx hb hK TH hmxr27 hkxr27 (by decide) rfl rfl (i := y183_6) (vp_in_iff.mpr ⟨by  omega, by  omega⟩) dX12_fitsList_202 (fun hxe41a hxe41b => ?_)
                                obtain ⟨xe41, exe41⟩ : ∃ z : Int32, tw_iv Eg183 xr27 (Int32.toNatClampNeg y183_6) = z := ⟨_, rfl⟩
                                rw [exe41] at hxe41a hxe41b ⊢
                                refine tw_zast (k := 348) (n := 253) (lo := 0) (hi := 1) hx hb hK TH hS hmxr6 hkxr6 (by decide) rfl (i := y183_6) (x := xe41) (vp_in_iff.mpr ⟨by  omega, by  omega⟩) (by omega) (by omega) (by omega) (by omega) dX12_fitsList_203 (fun H locs E42 TH hS hp43 hp44 hp45 => ?_)
                                have hst46 : tw_fr kp L [] [348] Eg183 E42 := tw_fr.ast tw_fr.rf (fun _ => hkxr6) hp43 hp44 (by decide)
                                have hF := hF.tr hst46 (fun _ h => ⟨h, rfl⟩) (by decide) (by decide)
                                have hG58 := hG58.tr hst46 (fun _ h => ⟨h, rfl⟩) (by decide) (by decide)
                                have hG183 := hG183.tr hst46 (fun _ h => ⟨h, rfl⟩) (by decide) (by decide)
                                have hmf47 : tw_fv E42 a0 34 = .ref xr1 := (hst46.1 a0 34 hm0 (by rw [hk0]; decide)).trans hmf33
                                have hmf48 : tw_fv E42 a0 42 = .ref xr6 := (hst46.1 a0 42 hm0 (by rw [hk0]; decide)).trans hmf34
                                have hmf49 : tw_fv E42 a0 43 = .ref xr27 := (hst46.1 a0 43 hm0 (by rw [hk0]; decide)).trans hmf35
                                have hg0 : ht_ok E42 a0 := ht_ok_fr TH hst46 hm0 hk0 (by decide) (by decide) hg0
                                obtain ⟨zi50, ezi50⟩ : ∃ z : Int32, z = y183_6 + Int32.ofInt 1 := ⟨_, rfl⟩
                                have hzi50 : zi50.toInt = y183_6.toInt + 1 := by rw [ezi50]; have : ((Int32.ofInt 1).toInt) = 1 := (by decide);  exact (ia_add (by omega) (by omega)).trans (by omega)
                                refine lv_iinc (v := zi50) (lv' := [(6, .int zi50), (5, .int y58_5), (4, .int xe2), (0, .ref a0), (1, .int x1), (2, .int x2), (3, .int x3)]) hx hb dX12_fitsList_204 hl (k := 0) rfl ezi50.symm (by decide) rfl (fun ls hl => ?_)
                                refine lv_goto (tgt := 183) hx hb dX12_fitsList_207 (by decide) ?_
                                exact ih183 (n183 - 1) (by   omega) zi50 _ _ _ ls (by omega) (by omega) (by   omega) hG183 hg0 TH hS (lv_sub hl [0, 1, 2, 3, 4, 5, 6] rfl)
                          exact hJ183 254 (0 : Int32) _ _ _ ls (by have : ((0 : Int32).toInt) = 0 := (by decide); omega) (by have : ((0 : Int32).toInt) = 0 := (by decide); omega) (by have : ((0 : Int32).toInt) = 0 := (by decide);  omega) tw_fr.rf hg0 TH hS (lv_sub hl [0, 1, 2, 3, 4, 5, 6] rfl)
                        · have hf51 : ¬ (xe2.toInt ≤ y91_6.toInt) := fun q => hc25 ((fa_le _ _).mpr (by  omega))
                          refine lv_aload_n hx hb dX12_fitsList_98 rfl (lv_at hl 3 rfl) ?_
                          refine tw_get (ci := 12) (C := RX12) (T := TX12) (N := 64) hx hb hB cx_inX12 hown hK TH hm0 hk0 rfl ⟨by decide, rfl⟩ 42 (by decide) cw_1235 (fun _ h9 => h9) dX12_fitsList_99 (fun hv => ?_)
                          rw [hmf24]
                          refine lv_iload hx hb dX12_fitsList_102 (lv_at hl 0 rfl) ?_
                          refine tw_zald (k := 348) (t0 := 3) (n := 253) (lo := 0) (hi := 1) hx hb hK TH hmxr6 hkxr6 (by decide) rfl rfl (i := y91_6) (vp_in_iff.mpr ⟨by  omega, by  omega⟩) dX12_fitsList_104 (fun hxe52a hxe52b => ?_)
                          obtain ⟨xe52, exe52⟩ : ∃ z : Int32, tw_iv Eg91 xr6 (Int32.toNatClampNeg y91_6) = z := ⟨_, rfl⟩
                          rw [exe52] at hxe52a hxe52b ⊢
                          have hJ165 : ∀  (Eg165 : Nat → va_E) (H : Heap) (locs : List Loc) (ls : Array Slot), tw_fr kp L [] [349] Eg91 Eg165 → ht_ok Eg165 a0 → tw_H D cs kp L Eg165 A H → va_S A s.heap H locs → lv_has ls 7 [(6, .int y91_6), (5, .int y58_5), (4, .int xe2), (0, .ref a0), (1, .int x1), (2, .int x2), (3, .int x3)] → W p l e { frames := 2, cells := 0, slots := 0, locals := 47 } s m [.ref a0, .int x1, .int x2, .int x3].toArray below meth c H locs 0 0 (MQ below (tw_Q D cs kp0 L0 (fun v kq Lq Eq => (∃ x : Int32, v = some (.int x) ∧ 0 ≤ x.toInt ∧ x.toInt ≤ 1) ∧ kp = kq ∧ L = Lq ∧ tw_fr kp L [] [348, 349] E Eq) A) [.ref a0, .int x1, .int x2, .int x3].toArray s 0 0 A) (F0 m 165 ls []) := by
                            intro Eg165 H locs ls hG165 hg0 TH hS hl
                            have hF := hF.tr hG165 (fun _ h => ⟨h, rfl⟩) (by decide) (by decide)
                            have hG58 := hG58.tr hG165 (fun _ h => ⟨h, rfl⟩) (by decide) (by decide)
                            have hG67 := hG67.tr hG165 (fun _ h => ⟨h, rfl⟩) (by decide) (by decide)
                            have hG91 := hG91.tr hG165 (fun _ h => ⟨h, rfl⟩) (by decide) (by decide)
                            have hmf53 : tw_fv Eg165 a0 34 = .ref xr1 := (hG165.1 a0 34 hm0 (by rw [hk0]; decide)).trans hmf23
                            have hmf54 : tw_fv Eg165 a0 42 = .ref xr6 := (hG165.1 a0 42 hm0 (by rw [hk0]; decide)).trans hmf24
                            obtain ⟨zi55, ezi55⟩ : ∃ z : Int32, z = y91_6 + Int32.ofInt 1 := ⟨_, rfl⟩
                            have hzi55 : zi55.toInt = y91_6.toInt + 1 := by rw [ezi55]; have : ((Int32.ofInt 1).toInt) = 1 := (by decide);  exact (ia_add (by omega) (by omega)).trans (by omega)
                            refine lv_iinc (v := zi55) (lv' := [(6, .int zi55), (5, .int y58_5), (4, .int xe2), (0, .ref a0), (1, .int x1), (2, .int x2), (3, .int x3)]) hx hb dX12_fitsList_165 hl (k := 0) rfl ezi55.symm (by decide) rfl (fun ls hl => ?_)
                            refine lv_goto (tgt := 91) hx hb dX12_fitsList_168 (by decide) ?_
                            exact ih91 (n91 - 1) (by   omega) zi55 _ _ _ ls (by omega) (by omega) (by   omega) hG91 hg0 TH hS (lv_sub hl [0, 1, 2, 3, 4, 5, 6] rfl)
                          have hG165 : tw_fr kp L [] [349] Eg91 Eg91 := tw_fr.rf
                          refine lv_if_eq (tgt := 165) hx hb dX12_fitsList_105 (by decide) (fun hc56 => ?_) (fun hc56 => ?_)
                          · have hf57 : xe52.toInt = 0 := by have z := (fa_eq _ _).mp hc56; have : ((0 : Int32).toInt) = 0 := (by decide); omega
                            exact hJ165  _ _ _ ls hG165 hg0 TH hS (lv_sub hl [0, 1, 2, 3, 4, 5, 6] rfl)
                          · have hf58 : ¬ (xe52.toInt = 0) := fun q => hc56 ((fa_eq _ _).mpr (by have : ((0 : Int32).toInt) = 0 := (by decide); omega))
                            refine lv_aload_n hx hb dX12_fitsList_108 rfl (lv_at hl 3 rfl) ?_
                            refine tw_get (ci := 12) (C := RX12) (T := TX12) (N := 64) hx hb hB cx_inX12 hown hK TH hm0 hk0 rfl ⟨by decide, rfl⟩ 36 (by decide) cw_1229 (fun _ h9 => h9) dX12_fitsList_109 (fun hv => ?_)
                            obtain ⟨xr59, hxr59, hmxr59, hkxr59⟩ : ∃ a : Nat, tw_fv Eg91 a0 36 = .ref a ∧ a ∈ L ∧ kp a = 342 := hv
                            rw [hxr59]
                            refine lv_iload_n hx hb dX12_fitsList_112 rfl (lv_at hl 6 rfl) ?_
                            refine tw_aald (k := 342) (t0 := 4) (n := 10) (lo := 352) (hi := 0) (ty := .int) hx hb hK TH hmxr59 hkxr59 (by decide) rfl rfl (i := x3) (vp_in_iff.mpr ⟨by  omega, by  omega⟩) dX12_fitsList_113 (fun xr60 exr60 hmxr60 hkxr60 => ?_)
                            have hkxr60 : kp xr60 = 352 := hkxr60
                            refine lv_iload hx hb dX12_fitsList_114 (lv_at hl 0 rfl) ?_
                            refine tw_iald (k := 352) (t0 := 0) (n := 252) (lo := (-1)) (hi := 9) hx hb hK TH hmxr60 hkxr60 (by decide) rfl rfl (i := y91_6) (vp_in_iff.mpr ⟨by  omega, by  omega⟩) dX12_fitsList_116 (fun hxe61a hxe61b => ?_)
                            obtain ⟨xe61, exe61⟩ : ∃ z : Int32, tw_iv Eg91 xr60 (Int32.toNatClampNeg y91_6) = z := ⟨_, rfl⟩
                            rw [exe61] at hxe61a hxe61b ⊢
                            refine lv_aload_n hx hb dX12_fitsList_117 rfl (lv_at hl 3 rfl) ?_
                            refine lv_iload_n hx hb dX12_fitsList_118 rfl (lv_at hl 4 rfl) ?_
                            refine lv_iload hx hb dX12_fitsList_119 (lv_at hl 1 rfl) ?_
                            refine tw_Vc (o := a0) (ci := 12) (n := 2) (post := (fun v kq Lq Eq => (∃ x : Int32, v = some (.int x) ∧ 0 ≤ x.toInt ∧ x.toInt ≤ 9) ∧ kp = kq ∧ L = Lq ∧ Eg91 = Eq)) (As := [.int x1, .int y58_5]) (rest := [.int xe61]) ⟨hx, hb, hml, hown, hB⟩ (fun sz => tX12_kindOf l D cs a0 x1 y58_5 hm0 hk0 (by omega) (by omega) (by omega) (by omega) (by  have fh := rw_h_fr TH hF hm0 hk0 (by decide) (by decide) (by decide) (i := x1.toInt) (by omega); have fp := rw_p_fr TH hF hm0 hk0 (by decide) (by decide) (by decide) (i := x1.toInt) (by omega); have fq := rw_q_fr TH hF hm0 hk0 (by decide) (by decide) (by decide) (i := x1.toInt) (by omega); intro q15; have hkc := hin58_0.resolve_left (by omega); exact ht_le hg0 hkc.1 hkc.2.1 (by rw [fh]; exact hkc.2.2.2.1) q15) sz) cg_12_301_X12_kindOf rfl rfl (by decide +kernel) ⟨Nat.le_of_ble_eq_true rfl, Nat.le_of_ble_eq_true rfl⟩ hK hN TH hS hA rfl hm0 hk0 (by decide) rfl hl.1 rfl (Nat.le_of_ble_eq_true rfl) dX12_fitsList_121 ⟨Nat.le_of_ble_eq_true rfl, Nat.le_of_ble_eq_true rfl⟩ (fun v62 kp62 L62 E62 H locs hq62 hx62 TH hS => ?_)
                            obtain ⟨⟨xc63, rfl, hxc63a, hxc63b⟩, rfl, rfl, rfl⟩ := hq62
                            refine W.eq (g2 := F0 m 124 ls [.int xc63, .int xe61]) rfl ?_
                            refine lv_icmp_eq (tgt := 130) hx hb dX12_fitsList_124 (by decide) (fun hc64 => ?_) (fun hc64 => ?_)
                            · have hf65 : xe61.toInt = xc63.toInt := by have z := (fa_eq _ _).mp hc64;  omega
                              refine lv_aload_n hx hb dX12_fitsList_130 rfl (lv_at hl 3 rfl) ?_
                              refine tw_get (ci := 12) (C := RX12) (T := TX12) (N := 64) hx hb hB cx_inX12 hown hK TH hm0 hk0 rfl ⟨by decide, rfl⟩ 35 (by decide) cw_1228 (fun _ h9 => h9) dX12_fitsList_131 (fun hv => ?_)
                              obtain ⟨xr66, hxr66, hmxr66, hkxr66⟩ : ∃ a : Nat, tw_fv Eg91 a0 35 = .ref a ∧ a ∈ L ∧ kp a = 341 := hv
                              rw [hxr66]
                              refine lv_iload_n hx hb dX12_fitsList_134 rfl (lv_at hl 6 rfl) ?_
                              refine tw_aald (k := 341) (t0 := 4) (n := 10) (lo := 351) (hi := 0) (ty := .int) hx hb hK TH hmxr66 hkxr66 (by decide) rfl rfl (i := x3) (vp_in_iff.mpr ⟨by  omega, by  omega⟩) dX12_fitsList_135 (fun xr67 exr67 hmxr67 hkxr67 => ?_)
                              have hkxr67 : kp xr67 = 351 := hkxr67
                              refine lv_iload hx hb dX12_fitsList_136 (lv_at hl 0 rfl) ?_
                              refine tw_iald (k := 351) (t0 := 0) (n := 252) (lo := (-128)) (hi := 127) hx hb hK TH hmxr67 hkxr67 (by decide) rfl rfl (i := y91_6) (vp_in_iff.mpr ⟨by  omega, by  omega⟩) dX12_fitsList_138 (fun hxe68a hxe68b => ?_)
                              obtain ⟨xe68, exe68⟩ : ∃ z : Int32, tw_iv Eg91 xr67 (Int32.toNatClampNeg y91_6) = z := ⟨_, rfl⟩
                              rw [exe68] at hxe68a hxe68b ⊢
                              refine lv_bipush (v := 42) hx hb dX12_fitsList_139 (by decide) ?_
                              refine lv_icmp_ne (tgt := 155) hx hb dX12_fitsList_141 (by decide) (fun hc69 => ?_) (fun hc69 => ?_)
                              · have hf70 : ¬ (xe68.toInt = 42) := fun q => hc69 ((fa_eq _ _).mpr (by have : ((42 : Int32).toInt) = 42 := (by decide); omega))
                                refine lv_aload_n hx hb dX12_fitsList_155 rfl (lv_at hl 3 rfl) ?_
                                refine tw_get (ci := 12) (C := RX12) (T := TX12) (N := 64) hx hb hB cx_inX12 hown hK TH hm0 hk0 rfl ⟨by decide, rfl⟩ 43 (by decide) cw_1236 (fun _ h9 => h9) dX12_fitsList_156 (fun hv => ?_)
                                obtain ⟨xr71, hxr71, hmxr71, hkxr71⟩ : ∃ a : Nat, tw_fv Eg91 a0 43 = .ref a ∧ a ∈ L ∧ kp a = 349 := hv
                                rw [hxr71]
                                refine lv_iload hx hb dX12_fitsList_159 (lv_at hl 0 rfl) ?_
                                refine lv_iconst (v := 1) hx hb dX12_fitsList_161 (by decide) ?_
                                refine lv_iadd hx hb dX12_fitsList_162 ?_
                                refine lv_topi (fun zi72 ezi72 => ?_)
                                have hzi72 : zi72.toInt = y91_6.toInt + 1 := by rw [ezi72]; have : ((1 : Int32).toInt) = 1 := (by decide); have := ia_lo y91_6; have := ia_hi y91_6; exact (ia_add (by omega) (by omega)).trans (by omega)
                                refine lv_iconst (v := 1) hx hb dX12_fitsList_163 (by decide) ?_
                                refine tw_zast (k := 349) (n := 253) (lo := 0) (hi := 1) hx hb hK TH hS hmxr71 hkxr71 (by decide) rfl (i := zi72) (x := 1) (vp_in_iff.mpr ⟨by  omega, by  omega⟩) (by have : ((1 : Int32).toInt) = 1 := (by decide); omega) (by have : ((1 : Int32).toInt) = 1 := (by decide); omega) (by have : ((1 : Int32).toInt) = 1 := (by decide); omega) (by have : ((1 : Int32).toInt) = 1 := (by decide); omega) dX12_fitsList_164 (fun H locs E73 TH hS hp74 hp75 hp76 => ?_)
                                have hst77 : tw_fr kp L [] [349] Eg91 E73 := tw_fr.ast tw_fr.rf (fun _ => hkxr71) hp74 hp75 (by decide)
                                have hF := hF.tr hst77 (fun _ h => ⟨h, rfl⟩) (by decide) (by decide)
                                have hG58 := hG58.tr hst77 (fun _ h => ⟨h, rfl⟩) (by decide) (by decide)
                                have hG67 := hG67.tr hst77 (fun _ h => ⟨h, rfl⟩) (by decide) (by decide)
                                have hG91 := hG91.tr hst77 (fun _ h => ⟨h, rfl⟩) (by decide) (by decide)
                                have hG165 := hG165.tr hst77 (fun _ h => ⟨h, rfl⟩) (by decide) (by decide)
                                have hmf78 : tw_fv E73 a0 34 = .ref xr1 := (hst77.1 a0 34 hm0 (by rw [hk0]; decide)).trans hmf23
                                have hmf79 : tw_fv E73 a0 42 = .ref xr6 := (hst77.1 a0 42 hm0 (by rw [hk0]; decide)).trans hmf24
                                have hmf80 : tw_fv E73 a0 36 = .ref xr59 := (hst77.1 a0 36 hm0 (by rw [hk0]; decide)).trans hxr59
                                have hmf81 : tw_fv E73 a0 35 = .ref xr66 := (hst77.1 a0 35 hm0 (by rw [hk0]; decide)).trans hxr66
                                have hmf82 : tw_fv E73 a0 43 = .ref xr71 := (hst77.1 a0 43 hm0 (by rw [hk0]; decide)).trans hxr71
                                have hg0 : ht_ok E73 a0 := ht_ok_fr TH hst77 hm0 hk0 (by decide) (by decide) hg0
                                exact hJ165  _ _ _ ls hG165 hg0 TH hS (lv_sub hl [0, 1, 2, 3, 4, 5, 6] rfl)
                              · have hf83 : xe68.toInt = 42 := by have z := (fa_eq _ _).mp hc69; have : ((42 : Int32).toInt) = 42 := (by decide); omega
                                refine lv_aload_n hx hb dX12_fitsList_144 rfl (lv_at hl 3 rfl) ?_
                                refine tw_get (ci := 12) (C := RX12) (T := TX12) (N := 64) hx hb hB cx_inX12 hown hK TH hm0 hk0 rfl ⟨by decide, rfl⟩ 43 (by decide) cw_1236 (fun _ h9 => h9) dX12_fitsList_145 (fun hv => ?_)
                                obtain ⟨xr84, hxr84, hmxr84, hkxr84⟩ : ∃ a : Nat, tw_fv Eg91 a0 43 = .ref a ∧ a ∈ L ∧ kp a = 349 := hv
                                rw [hxr84]
                                refine lv_iload hx hb dX12_fitsList_148 (lv_at hl 0 rfl) ?_
                                refine lv_iconst (v := 1) hx hb dX12_fitsList_150 (by decide) ?_
                                refine tw_zast (k := 349) (n := 253) (lo := 0) (hi := 1) hx hb hK TH hS hmxr84 hkxr84 (by decide) rfl (i := y91_6) (x := 1) (vp_in_iff.mpr ⟨by  omega, by  omega⟩) (by have : ((1 : Int32).toInt) = 1 := (by decide); omega) (by have : ((1 : Int32).toInt) = 1 := (by decide); omega) (by have : ((1 : Int32).toInt) = 1 := (by decide); omega) (by have : ((1 : Int32).toInt) = 1 := (by decide); omega) dX12_fitsList_151 (fun H locs E85 TH hS hp86 hp87 hp88 => ?_)
                                have hst89 : tw_fr kp L [] [349] Eg91 E85 := tw_fr.ast tw_fr.rf (fun _ => hkxr84) hp86 hp87 (by decide)
                                have hF := hF.tr hst89 (fun _ h => ⟨h, rfl⟩) (by decide) (by decide)
                                have hG58 := hG58.tr hst89 (fun _ h => ⟨h, rfl⟩) (by decide) (by decide)
                                have hG67 := hG67.tr hst89 (fun _ h => ⟨h, rfl⟩) (by decide) (by decide)
                                have hG91 := hG91.tr hst89 (fun _ h => ⟨h, rfl⟩) (by decide) (by decide)
                                have hG165 := hG165.tr hst89 (fun _ h => ⟨h, rfl⟩) (by decide) (by decide)
                                have hmf90 : tw_fv E85 a0 34 = .ref xr1 := (hst89.1 a0 34 hm0 (by rw [hk0]; decide)).trans hmf23
                                have hmf91 : tw_fv E85 a0 42 = .ref xr6 := (hst89.1 a0 42 hm0 (by rw [hk0]; decide)).trans hmf24
                                have hmf92 : tw_fv E85 a0 36 = .ref xr59 := (hst89.1 a0 36 hm0 (by rw [hk0]; decide)).trans hxr59
                                have hmf93 : tw_fv E85 a0 35 = .ref xr66 := (hst89.1 a0 35 hm0 (by rw [hk0]; decide)).trans hxr66
                                have hmf94 : tw_fv E85 a0 43 = .ref xr84 := (hst89.1 a0 43 hm0 (by rw [hk0]; decide)).trans hxr84
                                have hg0 : ht_ok E85 a0 := ht_ok_fr TH hst89 hm0 hk0 (by decide) (by decide) hg0
                                refine lv_goto (tgt := 165) hx hb dX12_fitsList_152 (by decide) ?_
                                exact hJ165  _ _ _ ls hG165 hg0 TH hS (lv_sub hl [0, 1, 2, 3, 4, 5, 6] rfl)
                            · have hf95 : ¬ (xe61.toInt = xc63.toInt) := fun q => hc64 ((fa_eq _ _).mpr (by  omega))
                              refine lv_goto (tgt := 165) hx hb dX12_fitsList_127 (by decide) ?_
                              exact hJ165  _ _ _ ls hG165 hg0 TH hS (lv_sub hl [0, 1, 2, 3, 4, 5, 6] rfl)
                    exact hJ91 254 (0 : Int32) _ _ _ ls (by have : ((0 : Int32).toInt) = 0 := (by decide); omega) (by have : ((0 : Int32).toInt) = 0 := (by decide); omega) (by have : ((0 : Int32).toInt) = 0 := (by decide);  omega) tw_fr.rf hg0 TH hS (lv_sub hl [0, 1, 2, 3, 4, 5, 6] rfl)
                  · have hf96 : ¬ (xe2.toInt < y67_6.toInt) := fun q => hc21 ((fa_lt _ _).mpr (by  omega))
                    refine lv_aload_n hx hb dX12_fitsList_74 rfl (lv_at hl 3 rfl) ?_
                    refine tw_get (ci := 12) (C := RX12) (T := TX12) (N := 64) hx hb hB cx_inX12 hown hK TH hm0 hk0 rfl ⟨by decide, rfl⟩ 43 (by decide) cw_1236 (fun _ h9 => h9) dX12_fitsList_75 (fun hv => ?_)
                    obtain ⟨xr97, hxr97, hmxr97, hkxr97⟩ : ∃ a : Nat, tw_fv Eg67 a0 43 = .ref a ∧ a ∈ L ∧ kp a = 349 := hv
                    rw [hxr97]
                    refine lv_iload hx hb dX12_fitsList_78 (lv_at hl 0 rfl) ?_
                    refine lv_iconst (v := 0) hx hb dX12_fitsList_80 (by decide) ?_
                    refine tw_zast (k := 349) (n := 253) (lo := 0) (hi := 1) hx hb hK TH hS hmxr97 hkxr97 (by decide) rfl (i := y67_6) (x := 0) (vp_in_iff.mpr ⟨by  omega, by  omega⟩) (by have : ((0 : Int32).toInt) = 0 := (by decide); omega) (by have : ((0 : Int32).toInt) = 0 := (by decide); omega) (by have : ((0 : Int32).toInt) = 0 := (by decide); omega) (by have : ((0 : Int32).toInt) = 0 := (by decide); omega) dX12_fitsList_81 (fun H locs E98 TH hS hp99 hp100 hp101 => ?_)
                    have hst102 : tw_fr kp L [] [349] Eg67 E98 := tw_fr.ast tw_fr.rf (fun _ => hkxr97) hp99 hp100 (by decide)
                    have hF := hF.tr hst102 (fun _ h => ⟨h, rfl⟩) (by decide) (by decide)
                    have hG58 := hG58.tr hst102 (fun _ h => ⟨h, rfl⟩) (by decide) (by decide)
                    have hG67 := hG67.tr hst102 (fun _ h => ⟨h, rfl⟩) (by decide) (by decide)
                    have hmf103 : tw_fv E98 a0 34 = .ref xr1 := (hst102.1 a0 34 hm0 (by rw [hk0]; decide)).trans hmf19
                    have hmf104 : tw_fv E98 a0 42 = .ref xr6 := (hst102.1 a0 42 hm0 (by rw [hk0]; decide)).trans hmf20
                    have hmf105 : tw_fv E98 a0 43 = .ref xr97 := (hst102.1 a0 43 hm0 (by rw [hk0]; decide)).trans hxr97
                    have hg0 : ht_ok E98 a0 := ht_ok_fr TH hst102 hm0 hk0 (by decide) (by decide) hg0
                    obtain ⟨zi106, ezi106⟩ : ∃ z : Int32, z = y67_6 + Int32.ofInt 1 := ⟨_, rfl⟩
                    have hzi106 : zi106.toInt = y67_6.toInt + 1 := by rw [ezi106]; have : ((Int32.ofInt 1).toInt) = 1 := (by decide);  exact (ia_add (by omega) (by omega)).trans (by omega)
                    refine lv_iinc (v := zi106) (lv' := [(6, .int zi106), (5, .int y58_5), (4, .int xe2), (0, .ref a0), (1, .int x1), (2, .int x2), (3, .int x3)]) hx hb dX12_fitsList_82 hl (k := 0) rfl ezi106.symm (by decide) rfl (fun ls hl => ?_)
                    refine lv_goto (tgt := 67) hx hb dX12_fitsList_85 (by decide) ?_
                    exact ih67 (n67 - 1) (by   omega) zi106 _ _ _ ls (by omega) (by omega) (by   omega) hG67 hg0 TH hS (lv_sub hl [0, 1, 2, 3, 4, 5, 6] rfl)
              exact hJ67 254 (0 : Int32) _ _ _ ls (by have : ((0 : Int32).toInt) = 0 := (by decide); omega) (by have : ((0 : Int32).toInt) = 0 := (by decide); omega) (by have : ((0 : Int32).toInt) = 0 := (by decide);  omega) tw_fr.rf hg0 TH hS (lv_sub hl [0, 1, 2, 3, 4, 5, 6] rfl)
        exact hJ58 151 xc12 _ _ _ ls (by omega) (by omega) (by  have fh := rw_h_fr TH hF hm0 hk0 (by decide) (by decide) (by decide) (i := x1.toInt) (by omega); have fp := rw_p_fr TH hF hm0 hk0 (by decide) (by decide) (by decide) (i := x1.toInt) (by omega); have fq := rw_q_fr TH hF hm0 hk0 (by decide) (by decide) (by decide) (i := x1.toInt) (by omega); have q := hpoxc12_0; rw [fh, fp, fq] at q; exact kd_is_of q) (by  have := rt_kz_le (h := rw_h E a0 (x1.toInt)) (p := rw_p E a0 (x1.toInt)) (q := rw_q E a0 (x1.toInt)) (n := x2.toInt) (c := xc12.toInt); omega) tw_fr.rf hg0 TH hS (lv_sub hl [0, 1, 2, 3, 4, 5] rfl)
      · have hf107 : ¬ (xe2.toInt < y11_5.toInt) := fun q => hc4 ((fa_lt _ _).mpr (by  omega))
        refine lv_aload_n hx hb dX12_fitsList_18 rfl (lv_at hl 2 rfl) ?_
        refine tw_get (ci := 12) (C := RX12) (T := TX12) (N := 64) hx hb hB cx_inX12 hown hK TH hm0 hk0 rfl ⟨by decide, rfl⟩ 42 (by decide) cw_1235 (fun _ h9 => h9) dX12_fitsList_19 (fun hv => ?_)
        obtain ⟨xr108, hxr108, hmxr108, hkxr108⟩ : ∃ a : Nat, tw_fv Eg11 a0 42 = .ref a ∧ a ∈ L ∧ kp a = 348 := hv
        rw [hxr108]
        refine lv_iload hx hb dX12_fitsList_22 (lv_at hl 0 rfl) ?_
        refine lv_iload hx hb dX12_fitsList_24 (lv_at hl 0 rfl) ?_
        have hJ34 : ∀ (z34_0 : Int32) (H : Heap) (locs : List Loc) (ls : Array Slot), 0 ≤ z34_0.toInt → z34_0.toInt ≤ 1 → tw_H D cs kp L Eg11 A H → va_S A s.heap H locs → lv_has ls 7 [(5, .int y11_5), (4, .int xe2), (0, .ref a0), (1, .int x1), (2, .int x2), (3, .int x3)] → W p l e { frames := 2, cells := 0, slots := 0, locals := 47 } s m [.ref a0, .int x1, .int x2, .int x3].toArray below meth c H locs 0 0 (MQ below (tw_Q D cs kp0 L0 (fun v kq Lq Eq => (∃ x : Int32, v = some (.int x) ∧ 0 ≤ x.toInt ∧ x.toInt ≤ 1) ∧ kp = kq ∧ L = Lq ∧ tw_fr kp L [] [348, 349] E Eq) A) [.ref a0, .int x1, .int x2, .int x3].toArray s 0 0 A) (F0 m 34 ls [.int z34_0, .int y11_5, .ref xr108]) := by
          intro z34_0 H locs ls hz34_0a hz34_0b TH hS hl
          refine tw_zast (k := 348) (n := 253) (lo := 0) (hi := 1) hx hb hK TH hS hmxr108 hkxr108 (by decide) rfl (i := y11_5) (x := z34_0) (vp_in_iff.mpr ⟨by  omega, by  omega⟩) (by omega) (by omega) (by omega) (by omega) dX12_fitsList_34 (fun H locs E109 TH hS hp110 hp111 hp112 => ?_)
          have hst113 : tw_fr kp L [] [348] Eg11 E109 := tw_fr.ast tw_fr.rf (fun _ => hkxr108) hp110 hp111 (by decide)
          have hF := hF.tr hst113 (fun _ h => ⟨h, rfl⟩) (by decide) (by decide)
          have hG11 := hG11.tr hst113 (fun _ h => ⟨h, rfl⟩) (by decide) (by decide)
          have hmf114 : tw_fv E109 a0 34 = .ref xr1 := (hst113.1 a0 34 hm0 (by rw [hk0]; decide)).trans hmf3
          have hmf115 : tw_fv E109 a0 42 = .ref xr108 := (hst113.1 a0 42 hm0 (by rw [hk0]; decide)).trans hxr108
          have hg0 : ht_ok E109 a0 := ht_ok_fr TH hst113 hm0 hk0 (by decide) (by decide) hg0
          obtain ⟨zi116, ezi116⟩ : ∃ z : Int32, z = y11_5 + Int32.ofInt 1 := ⟨_, rfl⟩
          have hzi116 : zi116.toInt = y11_5.toInt + 1 := by rw [ezi116]; have : ((Int32.ofInt 1).toInt) = 1 := (by decide);  exact (ia_add (by omega) (by omega)).trans (by omega)
          refine lv_iinc (v := zi116) (lv' := [(5, .int zi116), (4, .int xe2), (0, .ref a0), (1, .int x1), (2, .int x2), (3, .int x3)]) hx hb dX12_fitsList_35 hl (k := 0) rfl ezi116.symm (by decide) rfl (fun ls hl => ?_)
          refine lv_goto (tgt := 11) hx hb dX12_fitsList_38 (by decide) ?_
          exact ih11 (n11 - 1) (by   omega) zi116 _ _ _ ls (by omega) (by omega) (by   omega) hG11 hg0 TH hS (lv_sub hl [0, 1, 2, 3, 4, 5] rfl)
        refine lv_if_ne (tgt := 33) hx hb dX12_fitsList_26 (by decide) (fun hc117 => ?_) (fun hc117 => ?_)
        · have hf118 : ¬ (y11_5.toInt = 0) := fun q => hc117 ((fa_eq _ _).mpr (by have : ((0 : Int32).toInt) = 0 := (by decide); omega))
          refine lv_iconst (v := 0) hx hb dX12_fitsList_33 (by decide) ?_
          exact hJ34 (0 : Int32) _ _ ls (by have : ((0 : Int32).toInt) = 0 := (by decide); omega) (by have : ((0 : Int32).toInt) = 0 := (by decide); omega) TH hS (lv_sub hl [0, 1, 2, 3, 4, 5] rfl)
        · have hf119 : y11_5.toInt = 0 := by have z := (fa_eq _ _).mp hc117; have : ((0 : Int32).toInt) = 0 := (by decide); omega
          refine lv_iconst (v := 1) hx hb dX12_fitsList_29 (by decide) ?_
          refine lv_goto (tgt := 34) hx hb dX12_fitsList_30 (by decide) ?_
          exact hJ34 (1 : Int32) _ _ ls (by have : ((1 : Int32).toInt) = 1 := (by decide); omega) (by have : ((1 : Int32).toInt) = 1 := (by decide); omega) TH hS (lv_sub hl [0, 1, 2, 3, 4, 5] rfl)
  exact hJ11 254 (0 : Int32) _ _ _ ls (by have : ((0 : Int32).toInt) = 0 := (by decide); omega) (by have : ((0 : Int32).toInt) = 0 := (by decide); omega) (by have : ((0 : Int32).toInt) = 0 := (by decide);  omega) tw_fr.rf hg0 TH hS (lv_sub hl [0, 1, 2, 3, 4, 5] rfl)
set_option maxHeartbeats 4000000 in
set_option maxRecDepth 100000 in
theorem tX12_fitsBut (l : Launch) (D : va_G) (cs : Nat → ClassId) {kp : Nat → Nat} {L : List Nat} {E : Nat → va_E} (a0 : Nat) (x1 : Int32) (x2 : Int32) (hm0 : a0 ∈ L) (hk0 : kp a0 = 12) (hp1a : 0 ≤ x1.toInt) (hp1b : x1.toInt ≤ 15) (hp2a : 0 ≤ x2.toInt) (hp2b : x2.toInt ≤ 149) (hpre0 : x1.toInt = 15 → x2.toInt ≤ 23) (hg0 : ht_ok E a0) (sz : Nat) : Met l yX12_fitsBut (.code yX12_fitsBut cX12_fitsBut 4 (some .boolean) :: cx_big) { frames := 3, cells := 0, slots := 0, locals := 73 } (tw_P D cs kp L E [.ref a0, .int x1, .int x2] sz) (tw_Q D cs kp L (fun v kq Lq Eq => (∃ x : Int32, v = some (.int x) ∧ 0 ≤ x.toInt ∧ x.toInt ≤ 1) ∧ kp = kq ∧ L = Lq ∧ tw_fr kp L [] [348, 349] E Eq) (va_A (va_pl L E) sz)) 0 0 (va_A (va_pl L E) sz) := by
  refine tw_ofW (by decide) (Nat.le_of_ble_eq_true rfl) ?_
  intro p e s m below meth c A ls hx hb hr hml hB hown hlocks hK hN hA TH hS hl
  have hown : s.vm.findClass "TreeMergeModel" = some m.cls := hown
  have hl : lv_has ls 4 [(0, .ref a0), (1, .int x1), (2, .int x2)] := hl
  obtain ⟨kp0, ekp⟩ : ∃ z, z = kp := ⟨_, rfl⟩
  obtain ⟨L0, eL⟩ : ∃ z, z = L := ⟨_, rfl⟩
  rw [show tw_Q D cs kp L = tw_Q D cs kp0 L0 by rw [ekp, eL]]
  have hex : ∀ a : Nat, a ∈ L0 → a ∈ L ∧ kp a = kp0 a := fun a h => ⟨by rw [← eL]; exact h, by rw [ekp]⟩
  have hF : tw_fr kp L [] [348, 349] E E := tw_fr.rf
  refine lv_aload_n hx hb dX12_fitsBut_0 rfl (lv_at hl 0 rfl) ?_
  refine lv_iload_n hx hb dX12_fitsBut_1 rfl (lv_at hl 1 rfl) ?_
  refine lv_iload_n hx hb dX12_fitsBut_2 rfl (lv_at hl 2 rfl) ?_
  refine tw_Vc (o := a0) (ci := 12) (n := 2) (post := (fun v kq Lq Eq => (∃ x : Int32, v = some (.int x) ∧ 0 ≤ x.toInt ∧ x.toInt ≤ 9) ∧ kp = kq ∧ L = Lq ∧ E = Eq)) (As := [.int x1, .int x2]) (rest := []) ⟨hx, hb, hml, hown, hB⟩ (fun sz => tX12_kindOf l D cs a0 x1 x2 hm0 hk0 (by omega) (by omega) (by omega) (by omega) (by  omega) sz) cg_12_301_X12_kindOf rfl rfl (by decide +kernel) ⟨Nat.le_of_ble_eq_true rfl, Nat.le_of_ble_eq_true rfl⟩ hK hN TH hS hA rfl hm0 hk0 (by decide) rfl hl.1 rfl (Nat.le_of_ble_eq_true rfl) dX12_fitsBut_3 ⟨Nat.le_of_ble_eq_true rfl, Nat.le_of_ble_eq_true rfl⟩ (fun v1 kp1 L1 E1 H locs hq1 hx1 TH hS => ?_)
  obtain ⟨⟨xc2, rfl, hxc2a, hxc2b⟩, rfl, rfl, rfl⟩ := hq1
  refine W.eq (g2 := F0 m 6 ls [.int xc2]) rfl ?_
  refine lv_istore_n (lv' := [(3, .int xc2), (0, .ref a0), (1, .int x1), (2, .int x2)]) hx hb dX12_fitsBut_6 rfl hl (by decide) rfl (fun ls hl => ?_)
  refine lv_aload_n hx hb dX12_fitsBut_7 rfl (lv_at hl 1 rfl) ?_
  refine tw_get (ci := 12) (C := RX12) (T := TX12) (N := 64) hx hb hB cx_inX12 hown hK TH hm0 hk0 rfl ⟨by decide, rfl⟩ 33 (by decide) cw_1226 (fun _ h9 => h9) dX12_fitsBut_8 (fun hv => ?_)
  obtain ⟨xr3, hxr3, hmxr3, hkxr3⟩ : ∃ a : Nat, tw_fv E a0 33 = .ref a ∧ a ∈ L ∧ kp a = 339 := hv
  rw [hxr3]
  refine lv_iload_n hx hb dX12_fitsBut_11 rfl (lv_at hl 0 rfl) ?_
  refine tw_iald (k := 339) (t0 := 0) (n := 10) (lo := 0) (hi := 2) hx hb hK TH hmxr3 hkxr3 (by decide) rfl rfl (i := xc2) (vp_in_iff.mpr ⟨by  omega, by  omega⟩) dX12_fitsBut_12 (fun hxe4a hxe4b => ?_)
  obtain ⟨xe4, exe4⟩ : ∃ z : Int32, tw_iv E xr3 (Int32.toNatClampNeg xc2) = z := ⟨_, rfl⟩
  rw [exe4] at hxe4a hxe4b ⊢
  refine lv_if_ne (tgt := 31) hx hb dX12_fitsBut_13 (by decide) (fun hc5 => ?_) (fun hc5 => ?_)
  · have hf6 : ¬ (xe4.toInt = 0) := fun q => hc5 ((fa_eq _ _).mpr (by have : ((0 : Int32).toInt) = 0 := (by decide); omega))
    refine lv_aload_n hx hb dX12_fitsBut_31 rfl (lv_at hl 1 rfl) ?_
    refine tw_get (ci := 12) (C := RX12) (T := TX12) (N := 64) hx hb hB cx_inX12 hown hK TH hm0 hk0 rfl ⟨by decide, rfl⟩ 33 (by decide) cw_1226 (fun _ h9 => h9) dX12_fitsBut_32 (fun hv => ?_)
    rw [hxr3]
    refine lv_iload_n hx hb dX12_fitsBut_35 rfl (lv_at hl 0 rfl) ?_
    refine tw_iald (k := 339) (t0 := 0) (n := 10) (lo := 0) (hi := 2) hx hb hK TH hmxr3 hkxr3 (by decide) rfl rfl (i := xc2) (vp_in_iff.mpr ⟨by  omega, by  omega⟩) dX12_fitsBut_36 (fun hxe7a hxe7b => ?_)
    rw [exe4]
    refine lv_iconst (v := 1) hx hb dX12_fitsBut_37 (by decide) ?_
    refine lv_icmp_ne (tgt := 51) hx hb dX12_fitsBut_38 (by decide) (fun hc8 => ?_) (fun hc8 => ?_)
    · have hf9 : ¬ (xe4.toInt = 1) := fun q => hc8 ((fa_eq _ _).mpr (by have : ((1 : Int32).toInt) = 1 := (by decide); omega))
      refine lv_aload_n hx hb dX12_fitsBut_51 rfl (lv_at hl 1 rfl) ?_
      refine lv_iload_n hx hb dX12_fitsBut_52 rfl (lv_at hl 2 rfl) ?_
      refine lv_iload_n hx hb dX12_fitsBut_53 rfl (lv_at hl 3 rfl) ?_
      refine lv_iload_n hx hb dX12_fitsBut_54 rfl (lv_at hl 0 rfl) ?_
      refine tw_Vc (o := a0) (ci := 12) (n := 3) (post := (fun v kq Lq Eq => (∃ x : Int32, v = some (.int x) ∧ 0 ≤ x.toInt ∧ x.toInt ≤ 1) ∧ kp = kq ∧ L = Lq ∧ tw_fr kp L [] [348, 349] E Eq)) (As := [.int x1, .int x2, .int xc2]) (rest := []) ⟨hx, hb, hml, hown, hB⟩ (fun sz => tX12_fitsList l D cs a0 x1 x2 xc2 hm0 hk0 (by omega) (by omega) (by omega) (by omega) hg0 sz) cg_12_321_X12_fitsList rfl rfl (by decide +kernel) ⟨Nat.le_of_ble_eq_true rfl, Nat.le_of_ble_eq_true rfl⟩ hK hN TH hS hA rfl hm0 hk0 (by decide) rfl hl.1 rfl (Nat.le_of_ble_eq_true rfl) dX12_fitsBut_55 ⟨Nat.le_of_ble_eq_true rfl, Nat.le_of_ble_eq_true rfl⟩ (fun v10 kp10 L10 E10 H locs hq10 hx10 TH hS => ?_)
      obtain ⟨⟨xc11, rfl, hxc11a, hxc11b⟩, rfl, rfl, hst10⟩ := hq10
      have hF := hF.tr hst10 (fun _ h => ⟨h, rfl⟩) (by decide) (by decide)
      have hmf12 : tw_fv E10 a0 33 = .ref xr3 := (hst10.1 a0 33 hm0 (by rw [hk0]; decide)).trans hxr3
      have hg0 : ht_ok E10 a0 := ht_ok_fr TH hst10 hm0 hk0 (by decide) (by decide) hg0
      refine W.eq (g2 := F0 m 58 ls [.int xc11]) rfl ?_
      exact tw_zret hx hb hr hlocks (ia_bool (by omega) (by omega)) TH hS hex ⟨⟨_, rfl, (show 0 ≤ Int32.toInt xc11 from by  omega), (show Int32.toInt xc11 ≤ 1 from by  omega)⟩, rfl, rfl, hF⟩ (Nat.le_of_ble_eq_true rfl) (Nat.le_of_ble_eq_true rfl) dX12_fitsBut_58
    · have hf13 : xe4.toInt = 1 := by have z := (fa_eq _ _).mp hc8; have : ((1 : Int32).toInt) = 1 := (by decide); omega
      refine lv_aload_n hx hb dX12_fitsBut_41 rfl (lv_at hl 1 rfl) ?_
      refine lv_iload_n hx hb dX12_fitsBut_42 rfl (lv_at hl 2 rfl) ?_
      refine lv_iload_n hx hb dX12_fitsBut_43 rfl (lv_at hl 3 rfl) ?_
      refine lv_iload_n hx hb dX12_fitsBut_44 rfl (lv_at hl 0 rfl) ?_
      refine tw_Vc (o := a0) (ci := 12) (n := 3) (post := (fun v kq Lq Eq => (∃ x : Int32, v = some (.int x) ∧ 0 ≤ x.toInt ∧ x.toInt ≤ 1) ∧ kp = kq ∧ L = Lq ∧ E = Eq)) (As := [.int x1, .int x2, .int xc2]) (rest := []) ⟨hx, hb, hml, hown, hB⟩ (fun sz => tX12_fitsSet l D cs a0 x1 x2 xc2 hm0 hk0 (by omega) (by omega) (by omega) (by omega) hg0 sz) cg_12_318_X12_fitsSet rfl rfl (by decide +kernel) ⟨Nat.le_of_ble_eq_true rfl, Nat.le_of_ble_eq_true rfl⟩ hK hN TH hS hA rfl hm0 hk0 (by decide) rfl hl.1 rfl (Nat.le_of_ble_eq_true rfl) dX12_fitsBut_45 ⟨Nat.le_of_ble_eq_true rfl, Nat.le_of_ble_eq_true rfl⟩ (fun v14 kp14 L14 E14 H locs hq14 hx14 TH hS => ?_)
      obtain ⟨⟨xc15, rfl, hxc15a, hxc15b⟩, rfl, rfl, rfl⟩ := hq14
      refine W.eq (g2 := F0 m 48 ls [.int xc15]) rfl ?_
      refine lv_goto (tgt := 58) hx hb dX12_fitsBut_48 (by decide) ?_
      exact tw_zret hx hb hr hlocks (ia_bool (by omega) (by omega)) TH hS hex ⟨⟨_, rfl, (show 0 ≤ Int32.toInt xc15 from by  omega), (show Int32.toInt xc15 ≤ 1 from by  omega)⟩, rfl, rfl, hF⟩ (Nat.le_of_ble_eq_true rfl) (Nat.le_of_ble_eq_true rfl) dX12_fitsBut_58
  · have hf16 : xe4.toInt = 0 := by have z := (fa_eq _ _).mp hc5; have : ((0 : Int32).toInt) = 0 := (by decide); omega
    refine lv_aload_n hx hb dX12_fitsBut_16 rfl (lv_at hl 1 rfl) ?_
    refine lv_iload_n hx hb dX12_fitsBut_17 rfl (lv_at hl 2 rfl) ?_
    refine lv_iload_n hx hb dX12_fitsBut_18 rfl (lv_at hl 3 rfl) ?_
    refine tw_Vc (o := a0) (ci := 12) (n := 2) (post := (fun v kq Lq Eq => (∃ x : Int32, v = some (.int x) ∧ 0 ≤ x.toInt ∧ x.toInt ≤ 150 ∧ (x.toInt = 0 → nk_inv (rw_h E a0 x1.toInt) (rw_p E a0 x1.toInt) x2.toInt 150)) ∧ kp = kq ∧ L = Lq ∧ E = Eq)) (As := [.int x1, .int x2]) (rest := []) ⟨hx, hb, hml, hown, hB⟩ (fun sz => tX12_kidsOf l D cs a0 x1 x2 hm0 hk0 (by omega) (by omega) sz) cg_12_315_X12_kidsOf rfl rfl (by decide +kernel) ⟨Nat.le_of_ble_eq_true rfl, Nat.le_of_ble_eq_true rfl⟩ hK hN TH hS hA rfl hm0 hk0 (by decide) rfl hl.1 rfl (Nat.le_of_ble_eq_true rfl) dX12_fitsBut_19 ⟨Nat.le_of_ble_eq_true rfl, Nat.le_of_ble_eq_true rfl⟩ (fun v17 kp17 L17 E17 H locs hq17 hx17 TH hS => ?_)
    obtain ⟨⟨xc18, rfl, hxc18a, hxc18b, hpoxc18_0⟩, rfl, rfl, rfl⟩ := hq17
    refine W.eq (g2 := F0 m 22 ls [.int xc18]) rfl ?_
    refine lv_if_ne (tgt := 29) hx hb dX12_fitsBut_22 (by decide) (fun hc19 => ?_) (fun hc19 => ?_)
    · have hf20 : ¬ (xc18.toInt = 0) := fun q => hc19 ((fa_eq _ _).mpr (by have : ((0 : Int32).toInt) = 0 := (by decide); omega))
      refine lv_iconst (v := 0) hx hb dX12_fitsBut_29 (by decide) ?_
      exact tw_zret hx hb hr hlocks (by decide) TH hS hex ⟨⟨_, rfl, (show 0 ≤ Int32.toInt 0 from by have : ((0 : Int32).toInt) = 0 := (by decide); omega), (show Int32.toInt 0 ≤ 1 from by have : ((0 : Int32).toInt) = 0 := (by decide); omega)⟩, rfl, rfl, hF⟩ (Nat.le_of_ble_eq_true rfl) (Nat.le_of_ble_eq_true rfl) dX12_fitsBut_30
    · have hf21 : xc18.toInt = 0 := by have z := (fa_eq _ _).mp hc19; have : ((0 : Int32).toInt) = 0 := (by decide); omega
      refine lv_iconst (v := 1) hx hb dX12_fitsBut_25 (by decide) ?_
      refine lv_goto (tgt := 30) hx hb dX12_fitsBut_26 (by decide) ?_
      exact tw_zret hx hb hr hlocks (by decide) TH hS hex ⟨⟨_, rfl, (show 0 ≤ Int32.toInt 1 from by have : ((1 : Int32).toInt) = 1 := (by decide); omega), (show Int32.toInt 1 ≤ 1 from by have : ((1 : Int32).toInt) = 1 := (by decide); omega)⟩, rfl, rfl, hF⟩ (Nat.le_of_ble_eq_true rfl) (Nat.le_of_ble_eq_true rfl) dX12_fitsBut_30
set_option maxHeartbeats 4000000 in
set_option maxRecDepth 100000 in
theorem tX12_firstBreak (l : Launch) (D : va_G) (cs : Nat → ClassId) {kp : Nat → Nat} {L : List Nat} {E : Nat → va_E} (a0 : Nat) (x1 : Int32) (hm0 : a0 ∈ L) (hk0 : kp a0 = 12) (hp1a : 0 ≤ x1.toInt) (hp1b : x1.toInt ≤ 15) (hg0 : ht_ok E a0) (hg1 : rw_ok E a0 (x1.toInt)) (sz : Nat) : Met l yX12_firstBreak (.code yX12_firstBreak cX12_firstBreak 4 (some .int) :: cx_big) { frames := 4, cells := 0, slots := 0, locals := 96 } (tw_P D cs kp L E [.ref a0, .int x1] sz) (tw_Q D cs kp L (fun v kq Lq Eq => (∃ x : Int32, v = some (.int x) ∧ (-1) ≤ x.toInt ∧ x.toInt ≤ 149) ∧ kp = kq ∧ L = Lq ∧ tw_fr kp L [] [348, 349] E Eq) (va_A (va_pl L E) sz)) 0 0 (va_A (va_pl L E) sz) := by
  refine tw_ofW (by decide) (Nat.le_of_ble_eq_true rfl) ?_
  intro p e s m below meth c A ls hx hb hr hml hB hown hlocks hK hN hA TH hS hl
  have hown : s.vm.findClass "TreeMergeModel" = some m.cls := hown
  have hl : lv_has ls 4 [(0, .ref a0), (1, .int x1)] := hl
  obtain ⟨kp0, ekp⟩ : ∃ z, z = kp := ⟨_, rfl⟩
  obtain ⟨L0, eL⟩ : ∃ z, z = L := ⟨_, rfl⟩
  rw [show tw_Q D cs kp L = tw_Q D cs kp0 L0 by rw [ekp, eL]]
  have hex : ∀ a : Nat, a ∈ L0 → a ∈ L ∧ kp a = kp0 a := fun a h => ⟨by rw [← eL]; exact h, by rw [ekp]⟩
  have hF : tw_fr kp L [] [348, 349] E E := tw_fr.rf
  refine lv_aload_n hx hb dX12_firstBreak_0 rfl (lv_at hl 0 rfl) ?_
  refine lv_iload_n hx hb dX12_firstBreak_1 rfl (lv_at hl 1 rfl) ?_
  refine tw_Vc (o := a0) (ci := 12) (n := 1) (post := (fun v kq Lq Eq => (∃ x : Int32, v = some (.int x) ∧ (-1) ≤ x.toInt ∧ x.toInt ≤ 149 ∧ ((x.toInt = -1 ∧ rt_nr (rw_h E a0 x1.toInt) (rw_p E a0 x1.toInt) 150) ∨ (0 ≤ x.toInt ∧ x.toInt < 150 ∧ rw_h E a0 x1.toInt (x.toInt).toNat ≠ 0 ∧ rw_p E a0 x1.toInt (x.toInt).toNat = -1))) ∧ kp = kq ∧ L = Lq ∧ E = Eq)) (As := [.int x1]) (rest := []) ⟨hx, hb, hml, hown, hB⟩ (fun sz => tX12_root l D cs a0 x1 hm0 hk0 (by omega) (by omega) sz) cg_12_324_X12_root rfl rfl (by decide +kernel) ⟨Nat.le_of_ble_eq_true rfl, Nat.le_of_ble_eq_true rfl⟩ hK hN TH hS hA rfl hm0 hk0 (by decide) rfl hl.1 rfl (Nat.le_of_ble_eq_true rfl) dX12_firstBreak_2 ⟨Nat.le_of_ble_eq_true rfl, Nat.le_of_ble_eq_true rfl⟩ (fun v1 kp1 L1 E1 H locs hq1 hx1 TH hS => ?_)
  obtain ⟨⟨xc2, rfl, hxc2a, hxc2b, hpoxc2_0⟩, rfl, rfl, rfl⟩ := hq1
  refine W.eq (g2 := F0 m 5 ls [.int xc2]) rfl ?_
  refine lv_istore_n (lv' := [(2, .int xc2), (0, .ref a0), (1, .int x1)]) hx hb dX12_firstBreak_5 rfl hl (by decide) rfl (fun ls hl => ?_)
  refine lv_iload_n hx hb dX12_firstBreak_6 rfl (lv_at hl 0 rfl) ?_
  refine lv_istore_n (lv' := [(3, .int xc2), (2, .int xc2), (0, .ref a0), (1, .int x1)]) hx hb dX12_firstBreak_7 rfl hl (by decide) rfl (fun ls hl => ?_)
  have hJ8 : ∀ (n8 : Nat) (y8_3 : Int32) (Eg8 : Nat → va_E) (H : Heap) (locs : List Loc) (ls : Array Slot), (-1) ≤ y8_3.toInt → y8_3.toInt ≤ 149 → (y8_3.toInt = -1 ∨ (0 ≤ y8_3.toInt ∧ y8_3.toInt < 150 ∧ rw_h E a0 (x1.toInt) (y8_3.toInt).toNat ≠ 0)) → (y8_3.toInt = -1 ∨ (0 ≤ xc2.toInt ∧ xc2.toInt < 150 ∧ rw_h E a0 (x1.toInt) (xc2.toInt).toNat ≠ 0 ∧ rw_p E a0 (x1.toInt) (xc2.toInt).toNat = -1)) → (rt_mz (rw_h E a0 (x1.toInt)) (rw_p E a0 (x1.toInt)) (rw_q E a0 (x1.toInt)) (y8_3.toInt) : Int) ≤ (n8 : Int) → tw_fr kp L [] [348, 349] E Eg8 → ht_ok Eg8 a0 → rw_ok Eg8 a0 (x1.toInt) → tw_H D cs kp L Eg8 A H → va_S A s.heap H locs → lv_has ls 4 [(3, .int y8_3), (2, .int xc2), (0, .ref a0), (1, .int x1)] → W p l e { frames := 4, cells := 0, slots := 0, locals := 96 } s m [.ref a0, .int x1].toArray below meth c H locs 0 0 (MQ below (tw_Q D cs kp0 L0 (fun v kq Lq Eq => (∃ x : Int32, v = some (.int x) ∧ (-1) ≤ x.toInt ∧ x.toInt ≤ 149) ∧ kp = kq ∧ L = Lq ∧ tw_fr kp L [] [348, 349] E Eq) A) [.ref a0, .int x1].toArray s 0 0 A) (F0 m 8 ls []) := by
    intro n8
    induction n8 using Nat.strongRecOn with
    | _ n8 ih8 =>
      intro y8_3 Eg8 H locs ls hy8_3a hy8_3b hin8_0 hin8_1 hmeas8 hG8 hg0 hg1 TH hS hl
      have hF := hF.tr hG8 (fun _ h => ⟨h, rfl⟩) (by decide) (by decide)
      refine lv_iload_n hx hb dX12_firstBreak_8 rfl (lv_at hl 0 rfl) ?_
      refine lv_iconst (v := (-1)) hx hb dX12_firstBreak_9 (by decide) ?_
      refine lv_icmp_eq (tgt := 58) hx hb dX12_firstBreak_10 (by decide) (fun hc3 => ?_) (fun hc3 => ?_)
      · have hf4 : y8_3.toInt = (-1) := by have z := (fa_eq _ _).mp hc3; have : (((-1) : Int32).toInt) = (-1) := (by decide); omega
        refine lv_iconst (v := (-1)) hx hb dX12_firstBreak_58 (by decide) ?_
        exact tw_iret hx hb hr hlocks TH hS hex ⟨⟨_, rfl, (show (-1) ≤ Int32.toInt (-1) from by have : (((-1) : Int32).toInt) = (-1) := (by decide); omega), (show Int32.toInt (-1) ≤ 149 from by have : (((-1) : Int32).toInt) = (-1) := (by decide); omega)⟩, rfl, rfl, hF⟩ (Nat.le_of_ble_eq_true rfl) (Nat.le_of_ble_eq_true rfl) dX12_firstBreak_59
      · have hf5 : ¬ (y8_3.toInt = (-1)) := fun q => hc3 ((fa_eq _ _).mpr (by have : (((-1) : Int32).toInt) = (-1) := (by decide); omega))
        have hn3 := hin8_0.resolve_left (by omega)
        have ht3 := hin8_1.resolve_left (by omega)
        refine lv_iload_n hx hb dX12_firstBreak_13 rfl (lv_at hl 0 rfl) ?_
        refine lv_iload_n hx hb dX12_firstBreak_14 rfl (lv_at hl 1 rfl) ?_
        have hJ27 : ∀  (H : Heap) (locs : List Loc) (ls : Array Slot), tw_H D cs kp L Eg8 A H → va_S A s.heap H locs → lv_has ls 4 [(3, .int y8_3), (2, .int xc2), (0, .ref a0), (1, .int x1)] → W p l e { frames := 4, cells := 0, slots := 0, locals := 96 } s m [.ref a0, .int x1].toArray below meth c H locs 0 0 (MQ below (tw_Q D cs kp0 L0 (fun v kq Lq Eq => (∃ x : Int32, v = some (.int x) ∧ (-1) ≤ x.toInt ∧ x.toInt ≤ 149) ∧ kp = kq ∧ L = Lq ∧ tw_fr kp L [] [348, 349] E Eq) A) [.ref a0, .int x1].toArray s 0 0 A) (F0 m 27 ls []) := by
          intro H locs ls TH hS hl
          refine lv_aload_n hx hb dX12_firstBreak_27 rfl (lv_at hl 2 rfl) ?_
          refine lv_iload_n hx hb dX12_firstBreak_28 rfl (lv_at hl 3 rfl) ?_
          refine lv_iload_n hx hb dX12_firstBreak_29 rfl (lv_at hl 0 rfl) ?_
          refine tw_Vc (o := a0) (ci := 12) (n := 2) (post := (fun v kq Lq Eq => (∃ x : Int32, v = some (.int x) ∧ 0 ≤ x.toInt ∧ x.toInt ≤ 1) ∧ kp = kq ∧ L = Lq ∧ tw_fr kp L [] [348, 349] Eg8 Eq)) (As := [.int x1, .int y8_3]) (rest := []) ⟨hx, hb, hml, hown, hB⟩ (fun sz => tX12_fitsBut l D cs a0 x1 y8_3 hm0 hk0 (by omega) (by omega) (by omega) (by omega) (by  have fh := rw_h_fr TH hF hm0 hk0 (by decide) (by decide) (by decide) (i := x1.toInt) (by omega); have fp := rw_p_fr TH hF hm0 hk0 (by decide) (by decide) (by decide) (i := x1.toInt) (by omega); have fq := rw_q_fr TH hF hm0 hk0 (by decide) (by decide) (by decide) (i := x1.toInt) (by omega); intro q15; have hn3 := hin8_0.resolve_left (by omega); exact ht_le hg0 hn3.1 hn3.2.1 (by rw [fh]; exact hn3.2.2) q15) hg0 sz) cg_12_327_X12_fitsBut rfl rfl (by decide +kernel) ⟨Nat.le_of_ble_eq_true rfl, Nat.le_of_ble_eq_true rfl⟩ hK hN TH hS hA rfl hm0 hk0 (by decide) rfl hl.1 rfl (Nat.le_of_ble_eq_true rfl) dX12_firstBreak_30 ⟨Nat.le_of_ble_eq_true rfl, Nat.le_of_ble_eq_true rfl⟩ (fun v6 kp6 L6 E6 H locs hq6 hx6 TH hS => ?_)
          obtain ⟨⟨xc7, rfl, hxc7a, hxc7b⟩, rfl, rfl, hst6⟩ := hq6
          have hF := hF.tr hst6 (fun _ h => ⟨h, rfl⟩) (by decide) (by decide)
          have hG8 := hG8.tr hst6 (fun _ h => ⟨h, rfl⟩) (by decide) (by decide)
          have hg0 : ht_ok E6 a0 := ht_ok_fr TH hst6 hm0 hk0 (by decide) (by decide) hg0
          have hg1 : rw_ok E6 a0 (x1.toInt) := rw_ok_fr TH hst6 hm0 hk0 (by decide) (by decide) (by omega) hg1
          refine W.eq (g2 := F0 m 33 ls [.int xc7]) rfl ?_
          refine lv_if_eq (tgt := 45) hx hb dX12_firstBreak_33 (by decide) (fun hc8 => ?_) (fun hc8 => ?_)
          · have hf9 : xc7.toInt = 0 := by have z := (fa_eq _ _).mp hc8; have : ((0 : Int32).toInt) = 0 := (by decide); omega
            refine lv_iload_n hx hb dX12_firstBreak_45 rfl (lv_at hl 0 rfl) ?_
            exact tw_iret hx hb hr hlocks TH hS hex ⟨⟨_, rfl, (show (-1) ≤ Int32.toInt y8_3 from by  omega), (show Int32.toInt y8_3 ≤ 149 from by  omega)⟩, rfl, rfl, hF⟩ (Nat.le_of_ble_eq_true rfl) (Nat.le_of_ble_eq_true rfl) dX12_firstBreak_46
          · have hf10 : ¬ (xc7.toInt = 0) := fun q => hc8 ((fa_eq _ _).mpr (by have : ((0 : Int32).toInt) = 0 := (by decide); omega))
            refine lv_aload_n hx hb dX12_firstBreak_36 rfl (lv_at hl 2 rfl) ?_
            refine lv_iload_n hx hb dX12_firstBreak_37 rfl (lv_at hl 3 rfl) ?_
            refine lv_iload_n hx hb dX12_firstBreak_38 rfl (lv_at hl 0 rfl) ?_
            refine tw_Vc (o := a0) (ci := 12) (n := 2) (post := (fun v kq Lq Eq => (∃ x : Int32, v = some (.int x) ∧ 0 ≤ x.toInt ∧ x.toInt ≤ 1) ∧ kp = kq ∧ L = Lq ∧ E6 = Eq)) (As := [.int x1, .int y8_3]) (rest := []) ⟨hx, hb, hml, hown, hB⟩ (fun sz => tX12_hasLike l D cs a0 x1 y8_3 hm0 hk0 (by omega) (by omega) (by omega) (by omega) (by  have fh := rw_h_fr TH hF hm0 hk0 (by decide) (by decide) (by decide) (i := x1.toInt) (by omega); have fp := rw_p_fr TH hF hm0 hk0 (by decide) (by decide) (by decide) (i := x1.toInt) (by omega); have fq := rw_q_fr TH hF hm0 hk0 (by decide) (by decide) (by decide) (i := x1.toInt) (by omega); intro q15; have hn3 := hin8_0.resolve_left (by omega); exact ht_le hg0 hn3.1 hn3.2.1 (by rw [fh]; exact hn3.2.2) q15) hg0 sz) cg_12_330_X12_hasLike rfl rfl (by decide +kernel) ⟨Nat.le_of_ble_eq_true rfl, Nat.le_of_ble_eq_true rfl⟩ hK hN TH hS hA rfl hm0 hk0 (by decide) rfl hl.1 rfl (Nat.le_of_ble_eq_true rfl) dX12_firstBreak_39 ⟨Nat.le_of_ble_eq_true rfl, Nat.le_of_ble_eq_true rfl⟩ (fun v11 kp11 L11 E11 H locs hq11 hx11 TH hS => ?_)
            obtain ⟨⟨xc12, rfl, hxc12a, hxc12b⟩, rfl, rfl, rfl⟩ := hq11
            refine W.eq (g2 := F0 m 42 ls [.int xc12]) rfl ?_
            refine lv_if_eq (tgt := 47) hx hb dX12_firstBreak_42 (by decide) (fun hc13 => ?_) (fun hc13 => ?_)
            · have hf14 : xc12.toInt = 0 := by have z := (fa_eq _ _).mp hc13; have : ((0 : Int32).toInt) = 0 := (by decide); omega
              refine lv_aload_n hx hb dX12_firstBreak_47 rfl (lv_at hl 2 rfl) ?_
              refine lv_iload_n hx hb dX12_firstBreak_48 rfl (lv_at hl 3 rfl) ?_
              refine lv_iload_n hx hb dX12_firstBreak_49 rfl (lv_at hl 0 rfl) ?_
              refine lv_iload_n hx hb dX12_firstBreak_50 rfl (lv_at hl 1 rfl) ?_
              refine tw_Vc (o := a0) (ci := 12) (n := 3) (post := (fun v kq Lq Eq => (∃ x : Int32, v = some (.int x) ∧ (-1) ≤ x.toInt ∧ x.toInt ≤ 149 ∧ (x.toInt = -1 ∨ (rw_h E6 a0 x1.toInt (x.toInt).toNat ≠ 0 ∧ rt_lt (rt_K (rw_p E6 a0 x1.toInt) (rw_q E6 a0 x1.toInt) y8_3.toInt) (rt_K (rw_p E6 a0 x1.toInt) (rw_q E6 a0 x1.toInt) x.toInt)))) ∧ kp = kq ∧ L = Lq ∧ E6 = Eq)) (As := [.int x1, .int y8_3, .int xc2]) (rest := []) ⟨hx, hb, hml, hown, hB⟩ (fun sz => tX12_next l D cs a0 x1 y8_3 xc2 hm0 hk0 (by omega) (by omega) (by omega) (by omega) (by omega) (by omega) (by  have fh := rw_h_fr TH hF hm0 hk0 (by decide) (by decide) (by decide) (i := x1.toInt) (by omega); have fp := rw_p_fr TH hF hm0 hk0 (by decide) (by decide) (by decide) (i := x1.toInt) (by omega); have fq := rw_q_fr TH hF hm0 hk0 (by decide) (by decide) (by decide) (i := x1.toInt) (by omega); have hn3 := hin8_0.resolve_left (by omega); rw [fh]; exact hn3.2.2) (by  have fh := rw_h_fr TH hF hm0 hk0 (by decide) (by decide) (by decide) (i := x1.toInt) (by omega); have fp := rw_p_fr TH hF hm0 hk0 (by decide) (by decide) (by decide) (i := x1.toInt) (by omega); have fq := rw_q_fr TH hF hm0 hk0 (by decide) (by decide) (by decide) (i := x1.toInt) (by omega); have ht3 := hin8_1.resolve_left (by omega); rw [fh]; exact ht3.2.2.1) (by  have fh := rw_h_fr TH hF hm0 hk0 (by decide) (by decide) (by decide) (i := x1.toInt) (by omega); have fp := rw_p_fr TH hF hm0 hk0 (by decide) (by decide) (by decide) (i := x1.toInt) (by omega); have fq := rw_q_fr TH hF hm0 hk0 (by decide) (by decide) (by decide) (i := x1.toInt) (by omega); have ht3 := hin8_1.resolve_left (by omega); rw [fp]; exact ht3.2.2.2) hg1 sz) cg_12_278_X12_next rfl rfl (by decide +kernel) ⟨Nat.le_of_ble_eq_true rfl, Nat.le_of_ble_eq_true rfl⟩ hK hN TH hS hA rfl hm0 hk0 (by decide) rfl hl.1 rfl (Nat.le_of_ble_eq_true rfl) dX12_firstBreak_51 ⟨Nat.le_of_ble_eq_true rfl, Nat.le_of_ble_eq_true rfl⟩ (fun v15 kp15 L15 E15 H locs hq15 hx15 TH hS => ?_)
              obtain ⟨⟨xc16, rfl, hxc16a, hxc16b, hpoxc16_0⟩, rfl, rfl, rfl⟩ := hq15
              refine W.eq (g2 := F0 m 54 ls [.int xc16]) rfl ?_
              refine lv_istore_n (lv' := [(3, .int xc16), (2, .int xc2), (0, .ref a0), (1, .int x1)]) hx hb dX12_firstBreak_54 rfl hl (by decide) rfl (fun ls hl => ?_)
              refine lv_goto (tgt := 8) hx hb dX12_firstBreak_55 (by decide) ?_
              exact ih8 (n8 - 1) (by  have fh := rw_h_fr TH hF hm0 hk0 (by decide) (by decide) (by decide) (i := x1.toInt) (by omega); have fp := rw_p_fr TH hF hm0 hk0 (by decide) (by decide) (by decide) (i := x1.toInt) (by omega); have fq := rw_q_fr TH hF hm0 hk0 (by decide) (by decide) (by decide) (i := x1.toInt) (by omega); have hn3 := hin8_0.resolve_left (by omega); have hfall := rt_mz_fall (h := rw_h E a0 (x1.toInt)) (p := rw_p E a0 (x1.toInt)) (q := rw_q E a0 (x1.toInt)) (n := y8_3.toInt) (c := xc16.toInt) hn3.1 (by rcases hpoxc16_0 with q | q; exact Or.inl q; (by_cases hz : xc16.toInt = -1; exact Or.inl hz; (rw [fh, fp, fq] at q; exact Or.inr ⟨by omega, by omega, q.1, q.2⟩)));  omega) xc16 _ _ _ ls (by omega) (by omega) (by  have fh := rw_h_fr TH hF hm0 hk0 (by decide) (by decide) (by decide) (i := x1.toInt) (by omega); have fp := rw_p_fr TH hF hm0 hk0 (by decide) (by decide) (by decide) (i := x1.toInt) (by omega); have fq := rw_q_fr TH hF hm0 hk0 (by decide) (by decide) (by decide) (i := x1.toInt) (by omega); rcases hpoxc16_0 with q | q; exact Or.inl q; (by_cases hz : xc16.toInt = -1; exact Or.inl hz; (rw [fh] at q; exact Or.inr ⟨by omega, by omega, q.1⟩))) (by  exact Or.inr (hin8_1.resolve_left (by omega))) (by  have fh := rw_h_fr TH hF hm0 hk0 (by decide) (by decide) (by decide) (i := x1.toInt) (by omega); have fp := rw_p_fr TH hF hm0 hk0 (by decide) (by decide) (by decide) (i := x1.toInt) (by omega); have fq := rw_q_fr TH hF hm0 hk0 (by decide) (by decide) (by decide) (i := x1.toInt) (by omega); have hn3 := hin8_0.resolve_left (by omega); have hfall := rt_mz_fall (h := rw_h E a0 (x1.toInt)) (p := rw_p E a0 (x1.toInt)) (q := rw_q E a0 (x1.toInt)) (n := y8_3.toInt) (c := xc16.toInt) hn3.1 (by rcases hpoxc16_0 with q | q; exact Or.inl q; (by_cases hz : xc16.toInt = -1; exact Or.inl hz; (rw [fh, fp, fq] at q; exact Or.inr ⟨by omega, by omega, q.1, q.2⟩)));  omega) hG8 hg0 hg1 TH hS (lv_sub hl [0, 1, 2, 3] rfl)
            · have hf17 : ¬ (xc12.toInt = 0) := fun q => hc13 ((fa_eq _ _).mpr (by have : ((0 : Int32).toInt) = 0 := (by decide); omega))
              refine lv_iload_n hx hb dX12_firstBreak_45 rfl (lv_at hl 0 rfl) ?_
              exact tw_iret hx hb hr hlocks TH hS hex ⟨⟨_, rfl, (show (-1) ≤ Int32.toInt y8_3 from by  omega), (show Int32.toInt y8_3 ≤ 149 from by  omega)⟩, rfl, rfl, hF⟩ (Nat.le_of_ble_eq_true rfl) (Nat.le_of_ble_eq_true rfl) dX12_firstBreak_46
        refine lv_icmp_ne (tgt := 27) hx hb dX12_firstBreak_15 (by decide) (fun hc18 => ?_) (fun hc18 => ?_)
        · have hf19 : ¬ (y8_3.toInt = xc2.toInt) := fun q => hc18 ((fa_eq _ _).mpr (by  omega))
          exact hJ27  _ _ ls  TH hS (lv_sub hl [0, 1, 2, 3] rfl)
        · have hf20 : y8_3.toInt = xc2.toInt := by have z := (fa_eq _ _).mp hc18;  omega
          refine lv_aload_n hx hb dX12_firstBreak_18 rfl (lv_at hl 2 rfl) ?_
          refine lv_iload_n hx hb dX12_firstBreak_19 rfl (lv_at hl 3 rfl) ?_
          refine lv_iload_n hx hb dX12_firstBreak_20 rfl (lv_at hl 0 rfl) ?_
          refine tw_Vc (o := a0) (ci := 12) (n := 2) (post := (fun v kq Lq Eq => (∃ x : Int32, v = some (.int x) ∧ 0 ≤ x.toInt ∧ x.toInt ≤ 9) ∧ kp = kq ∧ L = Lq ∧ Eg8 = Eq)) (As := [.int x1, .int y8_3]) (rest := []) ⟨hx, hb, hml, hown, hB⟩ (fun sz => tX12_kindOf l D cs a0 x1 y8_3 hm0 hk0 (by omega) (by omega) (by omega) (by omega) (by  have fh := rw_h_fr TH hF hm0 hk0 (by decide) (by decide) (by decide) (i := x1.toInt) (by omega); have fp := rw_p_fr TH hF hm0 hk0 (by decide) (by decide) (by decide) (i := x1.toInt) (by omega); have fq := rw_q_fr TH hF hm0 hk0 (by decide) (by decide) (by decide) (i := x1.toInt) (by omega); intro q15; have hn3 := hin8_0.resolve_left (by omega); exact ht_le hg0 hn3.1 hn3.2.1 (by rw [fh]; exact hn3.2.2) q15) sz) cg_12_301_X12_kindOf rfl rfl (by decide +kernel) ⟨Nat.le_of_ble_eq_true rfl, Nat.le_of_ble_eq_true rfl⟩ hK hN TH hS hA rfl hm0 hk0 (by decide) rfl hl.1 rfl (Nat.le_of_ble_eq_true rfl) dX12_firstBreak_21 ⟨Nat.le_of_ble_eq_true rfl, Nat.le_of_ble_eq_true rfl⟩ (fun v21 kp21 L21 E21 H locs hq21 hx21 TH hS => ?_)
          obtain ⟨⟨xc22, rfl, hxc22a, hxc22b⟩, rfl, rfl, rfl⟩ := hq21
          refine W.eq (g2 := F0 m 24 ls [.int xc22]) rfl ?_
          refine lv_if_ne (tgt := 45) hx hb dX12_firstBreak_24 (by decide) (fun hc23 => ?_) (fun hc23 => ?_)
          · have hf24 : ¬ (xc22.toInt = 0) := fun q => hc23 ((fa_eq _ _).mpr (by have : ((0 : Int32).toInt) = 0 := (by decide); omega))
            refine lv_iload_n hx hb dX12_firstBreak_45 rfl (lv_at hl 0 rfl) ?_
            exact tw_iret hx hb hr hlocks TH hS hex ⟨⟨_, rfl, (show (-1) ≤ Int32.toInt y8_3 from by  omega), (show Int32.toInt y8_3 ≤ 149 from by  omega)⟩, rfl, rfl, hF⟩ (Nat.le_of_ble_eq_true rfl) (Nat.le_of_ble_eq_true rfl) dX12_firstBreak_46
          · have hf25 : xc22.toInt = 0 := by have z := (fa_eq _ _).mp hc23; have : ((0 : Int32).toInt) = 0 := (by decide); omega
            exact hJ27  _ _ ls  TH hS (lv_sub hl [0, 1, 2, 3] rfl)
  exact hJ8 152 xc2 _ _ _ ls (by omega) (by omega) (by  rcases hpoxc2_0 with q | q; exact Or.inl q.1; exact Or.inr ⟨q.1, q.2.1, q.2.2.1⟩) (by  rcases hpoxc2_0 with q | q; exact Or.inl q.1; exact Or.inr q) (by  have := rt_mz_le (h := rw_h E a0 (x1.toInt)) (p := rw_p E a0 (x1.toInt)) (q := rw_q E a0 (x1.toInt)) (n := xc2.toInt); omega) tw_fr.rf hg0 hg1 TH hS (lv_sub hl [0, 1, 2, 3] rfl)
set_option maxHeartbeats 4000000 in
set_option maxRecDepth 100000 in
theorem tX12_isTouched (l : Launch) (D : va_G) (cs : Nat → ClassId) {kp : Nat → Nat} {L : List Nat} {E : Nat → va_E} (a0 : Nat) (x1 : Int32) (x2 : Int32) (x3 : Int32) (hm0 : a0 ∈ L) (hk0 : kp a0 = 12) (hp1a : 0 ≤ x1.toInt) (hp1b : x1.toInt ≤ 15) (hp3a : 0 ≤ x3.toInt) (hp3b : x3.toInt ≤ 15) (hg0 : rw_ok E a0 (x1.toInt)) (sz : Nat) : Met l yX12_isTouched (.code yX12_isTouched cX12_isTouched 5 (some .boolean) :: cx_big) { frames := 1, cells := 0, slots := 0, locals := 24 } (tw_P D cs kp L E [.ref a0, .int x1, .int x2, .int x3] sz) (tw_Q D cs kp L (fun v kq Lq Eq => (∃ x : Int32, v = some (.int x) ∧ 0 ≤ x.toInt ∧ x.toInt ≤ 1) ∧ kp = kq ∧ L = Lq ∧ E = Eq) (va_A (va_pl L E) sz)) 0 0 (va_A (va_pl L E) sz) := by
  refine tw_ofW (by decide) (Nat.le_of_ble_eq_true rfl) ?_
  intro p e s m below meth c A ls hx hb hr hml hB hown hlocks hK hN hA TH hS hl
  have hown : s.vm.findClass "TreeMergeModel" = some m.cls := hown
  have hl : lv_has ls 5 [(0, .ref a0), (1, .int x1), (2, .int x2), (3, .int x3)] := hl
  obtain ⟨kp0, ekp⟩ : ∃ z, z = kp := ⟨_, rfl⟩
  obtain ⟨L0, eL⟩ : ∃ z, z = L := ⟨_, rfl⟩
  rw [show tw_Q D cs kp L = tw_Q D cs kp0 L0 by rw [ekp, eL]]
  have hex : ∀ a : Nat, a ∈ L0 → a ∈ L ∧ kp a = kp0 a := fun a h => ⟨by rw [← eL]; exact h, by rw [ekp]⟩
  refine lv_iconst (v := 0) hx hb dX12_isTouched_0 (by decide) ?_
  refine lv_istore (lv' := [(4, .int 0), (0, .ref a0), (1, .int x1), (2, .int x2), (3, .int x3)]) hx hb dX12_isTouched_1 hl (by decide) rfl (fun ls hl => ?_)
  have hJ3 : ∀ (n3 : Nat) (y3_4 : Int32) (H : Heap) (locs : List Loc) (ls : Array Slot), 0 ≤ y3_4.toInt → y3_4.toInt ≤ 150 → 150 - y3_4.toInt ≤ (n3 : Int) → tw_H D cs kp L E A H → va_S A s.heap H locs → lv_has ls 5 [(4, .int y3_4), (0, .ref a0), (1, .int x1), (2, .int x2), (3, .int x3)] → W p l e { frames := 1, cells := 0, slots := 0, locals := 24 } s m [.ref a0, .int x1, .int x2, .int x3].toArray below meth c H locs 0 0 (MQ below (tw_Q D cs kp0 L0 (fun v kq Lq Eq => (∃ x : Int32, v = some (.int x) ∧ 0 ≤ x.toInt ∧ x.toInt ≤ 1) ∧ kp = kq ∧ L = Lq ∧ E = Eq) A) [.ref a0, .int x1, .int x2, .int x3].toArray s 0 0 A) (F0 m 3 ls []) := by
    intro n3
    induction n3 using Nat.strongRecOn with
    | _ n3 ih3 =>
      intro y3_4 H locs ls hy3_4a hy3_4b hmeas3 TH hS hl
      refine lv_iload hx hb dX12_isTouched_3 (lv_at hl 0 rfl) ?_
      refine lv_sipush (v := 150) hx hb dX12_isTouched_5 (by decide) ?_
      refine lv_icmp_ge (tgt := 53) hx hb dX12_isTouched_8 (by decide) (fun hc1 => ?_) (fun hc1 => ?_)
      · have hf2 : 150 ≤ y3_4.toInt := by have z := (fa_le _ _).mp hc1; have : ((150 : Int32).toInt) = 150 := (by decide); omega
        refine lv_iconst (v := 0) hx hb dX12_isTouched_53 (by decide) ?_
        exact tw_zret hx hb hr hlocks (by decide) TH hS hex ⟨⟨_, rfl, (show 0 ≤ Int32.toInt 0 from by have : ((0 : Int32).toInt) = 0 := (by decide); omega), (show Int32.toInt 0 ≤ 1 from by have : ((0 : Int32).toInt) = 0 := (by decide); omega)⟩, rfl, rfl, rfl⟩ (Nat.le_of_ble_eq_true rfl) (Nat.le_of_ble_eq_true rfl) dX12_isTouched_54
      · have hf3 : ¬ (150 ≤ y3_4.toInt) := fun q => hc1 ((fa_le _ _).mpr (by have : ((150 : Int32).toInt) = 150 := (by decide); omega))
        refine lv_aload_n hx hb dX12_isTouched_11 rfl (lv_at hl 1 rfl) ?_
        refine tw_get (ci := 12) (C := RX12) (T := TX12) (N := 64) hx hb hB cx_inX12 hown hK TH hm0 hk0 rfl ⟨by decide, rfl⟩ 16 (by decide) cw_1209 (fun _ h9 => h9) dX12_isTouched_12 (fun hv => ?_)
        obtain ⟨xr4, hxr4, hmxr4, hkxr4⟩ : ∃ a : Nat, tw_fv E a0 16 = .ref a ∧ a ∈ L ∧ kp a = 316 := hv
        rw [hxr4]
        refine lv_iload_n hx hb dX12_isTouched_15 rfl (lv_at hl 2 rfl) ?_
        refine tw_aald (k := 316) (t0 := 5) (n := 16) (lo := 326) (hi := 0) (ty := .boolean) hx hb hK TH hmxr4 hkxr4 (by decide) rfl rfl (i := x1) (vp_in_iff.mpr ⟨by  omega, by  omega⟩) dX12_isTouched_16 (fun xr5 exr5 hmxr5 hkxr5 => ?_)
        have hkxr5 : kp xr5 = 326 := hkxr5
        refine lv_iload hx hb dX12_isTouched_17 (lv_at hl 0 rfl) ?_
        refine tw_zald (k := 326) (t0 := 3) (n := 150) (lo := 0) (hi := 1) hx hb hK TH hmxr5 hkxr5 (by decide) rfl rfl (i := y3_4) (vp_in_iff.mpr ⟨by  omega, by  omega⟩) dX12_isTouched_19 (fun hxe6a hxe6b => ?_)
        obtain ⟨xe6, exe6⟩ : ∃ z : Int32, tw_iv E xr5 (Int32.toNatClampNeg y3_4) = z := ⟨_, rfl⟩
        rw [exe6] at hxe6a hxe6b ⊢
        have hJ47 : ∀  (H : Heap) (locs : List Loc) (ls : Array Slot), tw_H D cs kp L E A H → va_S A s.heap H locs → lv_has ls 5 [(4, .int y3_4), (0, .ref a0), (1, .int x1), (2, .int x2), (3, .int x3)] → W p l e { frames := 1, cells := 0, slots := 0, locals := 24 } s m [.ref a0, .int x1, .int x2, .int x3].toArray below meth c H locs 0 0 (MQ below (tw_Q D cs kp0 L0 (fun v kq Lq Eq => (∃ x : Int32, v = some (.int x) ∧ 0 ≤ x.toInt ∧ x.toInt ≤ 1) ∧ kp = kq ∧ L = Lq ∧ E = Eq) A) [.ref a0, .int x1, .int x2, .int x3].toArray s 0 0 A) (F0 m 47 ls []) := by
          intro H locs ls TH hS hl
          obtain ⟨zi7, ezi7⟩ : ∃ z : Int32, z = y3_4 + Int32.ofInt 1 := ⟨_, rfl⟩
          have hzi7 : zi7.toInt = y3_4.toInt + 1 := by rw [ezi7]; have : ((Int32.ofInt 1).toInt) = 1 := (by decide);  exact (ia_add (by omega) (by omega)).trans (by omega)
          refine lv_iinc (v := zi7) (lv' := [(4, .int zi7), (0, .ref a0), (1, .int x1), (2, .int x2), (3, .int x3)]) hx hb dX12_isTouched_47 hl (k := 0) rfl ezi7.symm (by decide) rfl (fun ls hl => ?_)
          refine lv_goto (tgt := 3) hx hb dX12_isTouched_50 (by decide) ?_
          exact ih3 (n3 - 1) (by   omega) zi7 _ _ ls (by omega) (by omega) (by   omega) TH hS (lv_sub hl [0, 1, 2, 3, 4] rfl)
        refine lv_if_eq (tgt := 47) hx hb dX12_isTouched_20 (by decide) (fun hc8 => ?_) (fun hc8 => ?_)
        · have hf9 : xe6.toInt = 0 := by have z := (fa_eq _ _).mp hc8; have : ((0 : Int32).toInt) = 0 := (by decide); omega
          exact hJ47  _ _ ls  TH hS (lv_sub hl [0, 1, 2, 3, 4] rfl)
        · have hf10 : ¬ (xe6.toInt = 0) := fun q => hc8 ((fa_eq _ _).mpr (by have : ((0 : Int32).toInt) = 0 := (by decide); omega))
          refine lv_aload_n hx hb dX12_isTouched_23 rfl (lv_at hl 1 rfl) ?_
          refine lv_iload_n hx hb dX12_isTouched_24 rfl (lv_at hl 2 rfl) ?_
          refine lv_iload hx hb dX12_isTouched_25 (lv_at hl 0 rfl) ?_
          refine lv_iload_n hx hb dX12_isTouched_27 rfl (lv_at hl 4 rfl) ?_
          refine tw_Vc (o := a0) (ci := 12) (n := 3) (post := (fun v kq Lq Eq => (∃ x : Int32, v = some (.int x) ∧ 0 ≤ x.toInt ∧ x.toInt ≤ 1) ∧ kp = kq ∧ L = Lq ∧ E = Eq)) (As := [.int x1, .int y3_4, .int x3]) (rest := []) ⟨hx, hb, hml, hown, hB⟩ (fun sz => tX12_isOther l D cs a0 x1 y3_4 x3 hm0 hk0 (by omega) (by omega) (by omega) (by omega) (by omega) (by omega) sz) cg_12_458_X12_isOther rfl rfl (by decide +kernel) ⟨Nat.le_of_ble_eq_true rfl, Nat.le_of_ble_eq_true rfl⟩ hK hN TH hS hA rfl hm0 hk0 (by decide) rfl hl.1 rfl (Nat.le_of_ble_eq_true rfl) dX12_isTouched_28 ⟨Nat.le_of_ble_eq_true rfl, Nat.le_of_ble_eq_true rfl⟩ (fun v11 kp11 L11 E11 H locs hq11 hx11 TH hS => ?_)
          obtain ⟨⟨xc12, rfl, hxc12a, hxc12b⟩, rfl, rfl, rfl⟩ := hq11
          refine W.eq (g2 := F0 m 31 ls [.int xc12]) rfl ?_
          refine lv_if_eq (tgt := 47) hx hb dX12_isTouched_31 (by decide) (fun hc13 => ?_) (fun hc13 => ?_)
          · have hf14 : xc12.toInt = 0 := by have z := (fa_eq _ _).mp hc13; have : ((0 : Int32).toInt) = 0 := (by decide); omega
            exact hJ47  _ _ ls  TH hS (lv_sub hl [0, 1, 2, 3, 4] rfl)
          · have hf15 : ¬ (xc12.toInt = 0) := fun q => hc13 ((fa_eq _ _).mpr (by have : ((0 : Int32).toInt) = 0 := (by decide); omega))
            refine lv_aload_n hx hb dX12_isTouched_34 rfl (lv_at hl 1 rfl) ?_
            refine lv_iload_n hx hb dX12_isTouched_35 rfl (lv_at hl 2 rfl) ?_
            refine lv_iload hx hb dX12_isTouched_36 (lv_at hl 0 rfl) ?_
            refine lv_iload_n hx hb dX12_isTouched_38 rfl (lv_at hl 3 rfl) ?_
            refine tw_Vc (o := a0) (ci := 12) (n := 3) (post := (fun v kq Lq Eq => (∃ x : Int32, v = some (.int x) ∧ 0 ≤ x.toInt ∧ x.toInt ≤ 1 ∧ (x.toInt = 0 → 0 ≤ x2.toInt → ∀ k : Nat, rt_up (rw_p E a0 x1.toInt) k y3_4.toInt ≠ x2.toInt)) ∧ kp = kq ∧ L = Lq ∧ E = Eq)) (As := [.int x1, .int y3_4, .int x2]) (rest := []) ⟨hx, hb, hml, hown, hB⟩ (fun sz => tX12_isUnder l D cs a0 x1 y3_4 x2 hm0 hk0 (by omega) (by omega) (by omega) (by omega) (by  have rf_xe6 : rw_h E a0 (x1.toInt) (y3_4.toInt).toNat = xe6.toInt := rw_h_of (m := a0) (i := x1) (c := y3_4) hxr4 exr5 exe6; rw [rf_xe6]; omega) hg0 sz) cg_12_442_X12_isUnder rfl rfl (by decide +kernel) ⟨Nat.le_of_ble_eq_true rfl, Nat.le_of_ble_eq_true rfl⟩ hK hN TH hS hA rfl hm0 hk0 (by decide) rfl hl.1 rfl (Nat.le_of_ble_eq_true rfl) dX12_isTouched_39 ⟨Nat.le_of_ble_eq_true rfl, Nat.le_of_ble_eq_true rfl⟩ (fun v16 kp16 L16 E16 H locs hq16 hx16 TH hS => ?_)
            obtain ⟨⟨xc17, rfl, hxc17a, hxc17b, hpoxc17_0⟩, rfl, rfl, rfl⟩ := hq16
            refine W.eq (g2 := F0 m 42 ls [.int xc17]) rfl ?_
            refine lv_if_eq (tgt := 47) hx hb dX12_isTouched_42 (by decide) (fun hc18 => ?_) (fun hc18 => ?_)
            · have hf19 : xc17.toInt = 0 := by have z := (fa_eq _ _).mp hc18; have : ((0 : Int32).toInt) = 0 := (by decide); omega
              exact hJ47  _ _ ls  TH hS (lv_sub hl [0, 1, 2, 3, 4] rfl)
            · have hf20 : ¬ (xc17.toInt = 0) := fun q => hc18 ((fa_eq _ _).mpr (by have : ((0 : Int32).toInt) = 0 := (by decide); omega))
              refine lv_iconst (v := 1) hx hb dX12_isTouched_45 (by decide) ?_
              exact tw_zret hx hb hr hlocks (by decide) TH hS hex ⟨⟨_, rfl, (show 0 ≤ Int32.toInt 1 from by have : ((1 : Int32).toInt) = 1 := (by decide); omega), (show Int32.toInt 1 ≤ 1 from by have : ((1 : Int32).toInt) = 1 := (by decide); omega)⟩, rfl, rfl, rfl⟩ (Nat.le_of_ble_eq_true rfl) (Nat.le_of_ble_eq_true rfl) dX12_isTouched_46
  exact hJ3 151 (0 : Int32) _ _ ls (by have : ((0 : Int32).toInt) = 0 := (by decide); omega) (by have : ((0 : Int32).toInt) = 0 := (by decide); omega) (by have : ((0 : Int32).toInt) = 0 := (by decide);  omega) TH hS (lv_sub hl [0, 1, 2, 3, 4] rfl)
set_option maxHeartbeats 4000000 in
set_option maxRecDepth 100000 in
theorem tX12_sideOf (l : Launch) (D : va_G) (cs : Nat → ClassId) {kp : Nat → Nat} {L : List Nat} {E : Nat → va_E} (a0 : Nat) (x1 : Int32) (x2 : Int32) (x3 : Int32) (x4 : Int32) (x5 : Int32) (hm0 : a0 ∈ L) (hk0 : kp a0 = 12) (hp1a : 0 ≤ x1.toInt) (hp1b : x1.toInt ≤ 149) (hp2a : 0 ≤ x2.toInt) (hp2b : x2.toInt ≤ 15) (hp3a : 0 ≤ x3.toInt) (hp3b : x3.toInt ≤ 15) (hp4a : 0 ≤ x4.toInt) (hp4b : x4.toInt ≤ 15) (hp5a : 0 ≤ x5.toInt) (hp5b : x5.toInt ≤ 1) (sz : Nat) : Met l yX12_sideOf (.code yX12_sideOf cX12_sideOf 8 (some .int) :: cx_big) { frames := 1, cells := 0, slots := 0, locals := 25 } (tw_P D cs kp L E [.ref a0, .int x1, .int x2, .int x3, .int x4, .int x5] sz) (tw_Q D cs kp L (fun v kq Lq Eq => (∃ x : Int32, v = some (.int x) ∧ (-2) ≤ x.toInt ∧ x.toInt ≤ 15 ∧ (x.toInt ≠ -1 ∧ (x5.toInt ≠ 0 → (x.toInt = -2 ↔ un_w E a0 x1.toInt x2.toInt x3.toInt x4.toInt)) ∧ (x5.toInt = 0 → (x.toInt = -2 ↔ un_p E a0 x1.toInt x2.toInt x3.toInt x4.toInt))) ∧ (rw_h E a0 x2.toInt (x1.toInt).toNat ≠ 0 → rw_h E a0 x3.toInt (x1.toInt).toNat ≠ 0 → x5.toInt = 0 → rw_p E a0 x2.toInt (x1.toInt).toNat = rw_p E a0 x3.toInt (x1.toInt).toNat → x.toInt = x2.toInt)) ∧ kp = kq ∧ L = Lq ∧ E = Eq) (va_A (va_pl L E) sz)) 0 0 (va_A (va_pl L E) sz) := by
  refine tw_ofW (by decide) (Nat.le_of_ble_eq_true rfl) ?_
  intro p e s m below meth c A ls hx hb hr hml hB hown hlocks hK hN hA TH hS hl
  have hown : s.vm.findClass "TreeMergeModel" = some m.cls := hown
  have hl : lv_has ls 8 [(0, .ref a0), (1, .int x1), (2, .int x2), (3, .int x3), (4, .int x4), (5, .int x5)] := hl
  obtain ⟨kp0, ekp⟩ : ∃ z, z = kp := ⟨_, rfl⟩
  obtain ⟨L0, eL⟩ : ∃ z, z = L := ⟨_, rfl⟩
  rw [show tw_Q D cs kp L = tw_Q D cs kp0 L0 by rw [ekp, eL]]
  have hex : ∀ a : Nat, a ∈ L0 → a ∈ L ∧ kp a = kp0 a := fun a h => ⟨by rw [← eL]; exact h, by rw [ekp]⟩
  refine lv_aload_n hx hb dX12_sideOf_0 rfl (lv_at hl 0 rfl) ?_
  refine tw_get (ci := 12) (C := RX12) (T := TX12) (N := 64) hx hb hB cx_inX12 hown hK TH hm0 hk0 rfl ⟨by decide, rfl⟩ 16 (by decide) cw_1209 (fun _ h9 => h9) dX12_sideOf_1 (fun hv => ?_)
  obtain ⟨xr1, hxr1, hmxr1, hkxr1⟩ : ∃ a : Nat, tw_fv E a0 16 = .ref a ∧ a ∈ L ∧ kp a = 316 := hv
  rw [hxr1]
  refine lv_iload_n hx hb dX12_sideOf_4 rfl (lv_at hl 2 rfl) ?_
  refine tw_aald (k := 316) (t0 := 5) (n := 16) (lo := 326) (hi := 0) (ty := .boolean) hx hb hK TH hmxr1 hkxr1 (by decide) rfl rfl (i := x2) (vp_in_iff.mpr ⟨by  omega, by  omega⟩) dX12_sideOf_5 (fun xr2 exr2 hmxr2 hkxr2 => ?_)
  have hkxr2 : kp xr2 = 326 := hkxr2
  refine lv_iload_n hx hb dX12_sideOf_6 rfl (lv_at hl 1 rfl) ?_
  refine tw_zald (k := 326) (t0 := 3) (n := 150) (lo := 0) (hi := 1) hx hb hK TH hmxr2 hkxr2 (by decide) rfl rfl (i := x1) (vp_in_iff.mpr ⟨by  omega, by  omega⟩) dX12_sideOf_7 (fun hxe3a hxe3b => ?_)
  obtain ⟨xe3, exe3⟩ : ∃ z : Int32, tw_iv E xr2 (Int32.toNatClampNeg x1) = z := ⟨_, rfl⟩
  rw [exe3] at hxe3a hxe3b ⊢
  refine lv_if_ne (tgt := 13) hx hb dX12_sideOf_8 (by decide) (fun hc4 => ?_) (fun hc4 => ?_)
  · have hf5 : ¬ (xe3.toInt = 0) := fun q => hc4 ((fa_eq _ _).mpr (by have : ((0 : Int32).toInt) = 0 := (by decide); omega))
    refine lv_aload_n hx hb dX12_sideOf_13 rfl (lv_at hl 0 rfl) ?_
    refine tw_get (ci := 12) (C := RX12) (T := TX12) (N := 64) hx hb hB cx_inX12 hown hK TH hm0 hk0 rfl ⟨by decide, rfl⟩ 16 (by decide) cw_1209 (fun _ h9 => h9) dX12_sideOf_14 (fun hv => ?_)
    rw [hxr1]
    refine lv_iload_n hx hb dX12_sideOf_17 rfl (lv_at hl 3 rfl) ?_
    refine tw_aald (k := 316) (t0 := 5) (n := 16) (lo := 326) (hi := 0) (ty := .boolean) hx hb hK TH hmxr1 hkxr1 (by decide) rfl rfl (i := x3) (vp_in_iff.mpr ⟨by  omega, by  omega⟩) dX12_sideOf_18 (fun xr6 exr6 hmxr6 hkxr6 => ?_)
    have hkxr6 : kp xr6 = 326 := hkxr6
    refine lv_iload_n hx hb dX12_sideOf_19 rfl (lv_at hl 1 rfl) ?_
    refine tw_zald (k := 326) (t0 := 3) (n := 150) (lo := 0) (hi := 1) hx hb hK TH hmxr6 hkxr6 (by decide) rfl rfl (i := x1) (vp_in_iff.mpr ⟨by  omega, by  omega⟩) dX12_sideOf_20 (fun hxe7a hxe7b => ?_)
    obtain ⟨xe7, exe7⟩ : ∃ z : Int32, tw_iv E xr6 (Int32.toNatClampNeg x1) = z := ⟨_, rfl⟩
    rw [exe7] at hxe7a hxe7b ⊢
    refine lv_if_ne (tgt := 26) hx hb dX12_sideOf_21 (by decide) (fun hc8 => ?_) (fun hc8 => ?_)
    · have hf9 : ¬ (xe7.toInt = 0) := fun q => hc8 ((fa_eq _ _).mpr (by have : ((0 : Int32).toInt) = 0 := (by decide); omega))
      refine lv_iload hx hb dX12_sideOf_26 (lv_at hl 5 rfl) ?_
      refine lv_if_eq (tgt := 59) hx hb dX12_sideOf_28 (by decide) (fun hc10 => ?_) (fun hc10 => ?_)
      · have hf11 : x5.toInt = 0 := by have z := (fa_eq _ _).mp hc10; have : ((0 : Int32).toInt) = 0 := (by decide); omega
        refine lv_aload_n hx hb dX12_sideOf_59 rfl (lv_at hl 0 rfl) ?_
        refine tw_get (ci := 12) (C := RX12) (T := TX12) (N := 64) hx hb hB cx_inX12 hown hK TH hm0 hk0 rfl ⟨by decide, rfl⟩ 18 (by decide) cw_1211 (fun _ h9 => h9) dX12_sideOf_60 (fun hv => ?_)
        obtain ⟨xr12, hxr12, hmxr12, hkxr12⟩ : ∃ a : Nat, tw_fv E a0 18 = .ref a ∧ a ∈ L ∧ kp a = 318 := hv
        rw [hxr12]
        refine lv_iload_n hx hb dX12_sideOf_63 rfl (lv_at hl 2 rfl) ?_
        refine tw_aald (k := 318) (t0 := 4) (n := 16) (lo := 328) (hi := 0) (ty := .int) hx hb hK TH hmxr12 hkxr12 (by decide) rfl rfl (i := x2) (vp_in_iff.mpr ⟨by  omega, by  omega⟩) dX12_sideOf_64 (fun xr13 exr13 hmxr13 hkxr13 => ?_)
        have hkxr13 : kp xr13 = 328 := hkxr13
        refine lv_iload_n hx hb dX12_sideOf_65 rfl (lv_at hl 1 rfl) ?_
        refine tw_iald (k := 328) (t0 := 0) (n := 150) (lo := (-1)) (hi := 149) hx hb hK TH hmxr13 hkxr13 (by decide) rfl rfl (i := x1) (vp_in_iff.mpr ⟨by  omega, by  omega⟩) dX12_sideOf_66 (fun hxe14a hxe14b => ?_)
        obtain ⟨xe14, exe14⟩ : ∃ z : Int32, tw_iv E xr13 (Int32.toNatClampNeg x1) = z := ⟨_, rfl⟩
        rw [exe14] at hxe14a hxe14b ⊢
        refine lv_aload_n hx hb dX12_sideOf_67 rfl (lv_at hl 0 rfl) ?_
        refine tw_get (ci := 12) (C := RX12) (T := TX12) (N := 64) hx hb hB cx_inX12 hown hK TH hm0 hk0 rfl ⟨by decide, rfl⟩ 18 (by decide) cw_1211 (fun _ h9 => h9) dX12_sideOf_68 (fun hv => ?_)
        rw [hxr12]
        refine lv_iload_n hx hb dX12_sideOf_71 rfl (lv_at hl 3 rfl) ?_
        refine tw_aald (k := 318) (t0 := 4) (n := 16) (lo := 328) (hi := 0) (ty := .int) hx hb hK TH hmxr12 hkxr12 (by decide) rfl rfl (i := x3) (vp_in_iff.mpr ⟨by  omega, by  omega⟩) dX12_sideOf_72 (fun xr15 exr15 hmxr15 hkxr15 => ?_)
        have hkxr15 : kp xr15 = 328 := hkxr15
        refine lv_iload_n hx hb dX12_sideOf_73 rfl (lv_at hl 1 rfl) ?_
        refine tw_iald (k := 328) (t0 := 0) (n := 150) (lo := (-1)) (hi := 149) hx hb hK TH hmxr15 hkxr15 (by decide) rfl rfl (i := x1) (vp_in_iff.mpr ⟨by  omega, by  omega⟩) dX12_sideOf_74 (fun hxe16a hxe16b => ?_)
        obtain ⟨xe16, exe16⟩ : ∃ z : Int32, tw_iv E xr15 (Int32.toNatClampNeg x1) = z := ⟨_, rfl⟩
        rw [exe16] at hxe16a hxe16b ⊢
        refine lv_icmp_ne (tgt := 82) hx hb dX12_sideOf_75 (by decide) (fun hc17 => ?_) (fun hc17 => ?_)
        · have hf18 : ¬ (xe14.toInt = xe16.toInt) := fun q => hc17 ((fa_eq _ _).mpr (by  omega))
          refine lv_iconst (v := 0) hx hb dX12_sideOf_82 (by decide) ?_
          refine lv_istore (lv' := [(6, .int 0), (0, .ref a0), (1, .int x1), (2, .int x2), (3, .int x3), (4, .int x4), (5, .int x5)]) hx hb dX12_sideOf_83 hl (by decide) rfl (fun ls hl => ?_)
          refine lv_iload hx hb dX12_sideOf_85 (lv_at hl 0 rfl) ?_
          refine lv_if_eq (tgt := 92) hx hb dX12_sideOf_87 (by decide) (fun hc19 => ?_) (fun hc19 => ?_)
          · have hf20 : 0 = 0 := by have z := (fa_eq _ _).mp hc19; have : ((0 : Int32).toInt) = 0 := (by decide); omega
            refine lv_aload_n hx hb dX12_sideOf_92 rfl (lv_at hl 1 rfl) ?_
            refine tw_get (ci := 12) (C := RX12) (T := TX12) (N := 64) hx hb hB cx_inX12 hown hK TH hm0 hk0 rfl ⟨by decide, rfl⟩ 16 (by decide) cw_1209 (fun _ h9 => h9) dX12_sideOf_93 (fun hv => ?_)
            rw [hxr1]
            refine lv_iload hx hb dX12_sideOf_96 (lv_at hl 5 rfl) ?_
            refine tw_aald (k := 316) (t0 := 5) (n := 16) (lo := 326) (hi := 0) (ty := .boolean) hx hb hK TH hmxr1 hkxr1 (by decide) rfl rfl (i := x4) (vp_in_iff.mpr ⟨by  omega, by  omega⟩) dX12_sideOf_98 (fun xr21 exr21 hmxr21 hkxr21 => ?_)
            have hkxr21 : kp xr21 = 326 := hkxr21
            refine lv_iload_n hx hb dX12_sideOf_99 rfl (lv_at hl 2 rfl) ?_
            refine tw_zald (k := 326) (t0 := 3) (n := 150) (lo := 0) (hi := 1) hx hb hK TH hmxr21 hkxr21 (by decide) rfl rfl (i := x1) (vp_in_iff.mpr ⟨by  omega, by  omega⟩) dX12_sideOf_100 (fun hxe22a hxe22b => ?_)
            obtain ⟨xe22, exe22⟩ : ∃ z : Int32, tw_iv E xr21 (Int32.toNatClampNeg x1) = z := ⟨_, rfl⟩
            rw [exe22] at hxe22a hxe22b ⊢
            refine lv_if_eq (tgt := 206) hx hb dX12_sideOf_101 (by decide) (fun hc23 => ?_) (fun hc23 => ?_)
            · have hf24 : xe22.toInt = 0 := by have z := (fa_eq _ _).mp hc23; have : ((0 : Int32).toInt) = 0 := (by decide); omega
              refine lv_aload_n hx hb dX12_sideOf_206 rfl (lv_at hl 1 rfl) ?_
              refine lv_iload_n hx hb dX12_sideOf_207 rfl (lv_at hl 2 rfl) ?_
              refine lv_iload hx hb dX12_sideOf_208 (lv_at hl 6 rfl) ?_
              refine lv_if_eq (tgt := 217) hx hb dX12_sideOf_210 (by decide) (fun hc25 => ?_) (fun hc25 => ?_)
              · have hf26 : x5.toInt = 0 := by have z := (fa_eq _ _).mp hc25; have : ((0 : Int32).toInt) = 0 := (by decide); omega
                refine lv_iconst (v := 3) hx hb dX12_sideOf_217 (by decide) ?_
                refine lv_iload_n hx hb dX12_sideOf_218 rfl (lv_at hl 3 rfl) ?_
                refine lv_iload_n hx hb dX12_sideOf_219 rfl (lv_at hl 4 rfl) ?_
                refine tw_Vc (o := a0) (ci := 12) (n := 4) (post := (fun v kq Lq Eq => (∃ x : Int32, v = some (.int x) ∧ (-1) ≤ x.toInt ∧ x.toInt ≤ 11 ∧ (x.toInt = -1 ↔ st_ns E a0 x1.toInt (3 : Int32).toInt x2.toInt x3.toInt)) ∧ kp = kq ∧ L = Lq ∧ E = Eq)) (As := [.int x1, .int 3, .int x2, .int x3]) (rest := []) ⟨hx, hb, hml, hown, hB⟩ (fun sz => tX12_settledFor l D cs a0 x1 (3 : Int32) x2 x3 hm0 hk0 sz) cg_12_461_X12_settledFor rfl rfl (by decide +kernel) ⟨Nat.le_of_ble_eq_true rfl, Nat.le_of_ble_eq_true rfl⟩ hK hN TH hS hA rfl hm0 hk0 (by decide) rfl hl.1 rfl (Nat.le_of_ble_eq_true rfl) dX12_sideOf_220 ⟨Nat.le_of_ble_eq_true rfl, Nat.le_of_ble_eq_true rfl⟩ (fun v27 kp27 L27 E27 H locs hq27 hx27 TH hS => ?_)
                obtain ⟨⟨xc28, rfl, hxc28a, hxc28b, hpoxc28_0⟩, rfl, rfl, rfl⟩ := hq27
                refine W.eq (g2 := F0 m 223 ls [.int xc28]) rfl ?_
                refine lv_istore (lv' := [(7, .int xc28), (6, .int 0), (0, .ref a0), (1, .int x1), (2, .int x2), (3, .int x3), (4, .int x4), (5, .int x5)]) hx hb dX12_sideOf_223 hl (by decide) rfl (fun ls hl => ?_)
                refine lv_iload hx hb dX12_sideOf_225 (lv_at hl 0 rfl) ?_
                refine lv_iconst (v := (-1)) hx hb dX12_sideOf_227 (by decide) ?_
                refine lv_icmp_ne (tgt := 236) hx hb dX12_sideOf_228 (by decide) (fun hc29 => ?_) (fun hc29 => ?_)
                · have hf30 : ¬ (xc28.toInt = (-1)) := fun q => hc29 ((fa_eq _ _).mpr (by have : (((-1) : Int32).toInt) = (-1) := (by decide); omega))
                  refine lv_iload hx hb dX12_sideOf_236 (lv_at hl 0 rfl) ?_
                  exact tw_iret hx hb hr hlocks TH hS hex ⟨⟨_, rfl, (show (-2) ≤ Int32.toInt xc28 from by  omega), (show Int32.toInt xc28 ≤ 15 from by  omega), (by  have rf_xe3 : rw_h E a0 (x2.toInt) (x1.toInt).toNat = xe3.toInt := rw_h_of (m := a0) (i := x2) (c := x1) hxr1 exr2 exe3; have rf_xe7 : rw_h E a0 (x3.toInt) (x1.toInt).toNat = xe7.toInt := rw_h_of (m := a0) (i := x3) (c := x1) hxr1 exr6 exe7; have rf_xe14 : rw_p E a0 (x2.toInt) (x1.toInt).toNat = xe14.toInt := rw_p_of (m := a0) (i := x2) (c := x1) hxr12 exr13 exe14; have rf_xe16 : rw_p E a0 (x3.toInt) (x1.toInt).toNat = xe16.toInt := rw_p_of (m := a0) (i := x3) (c := x1) hxr12 exr15 exe16; have rf_xe22 : rw_h E a0 (x4.toInt) (x1.toInt).toNat = xe22.toInt := rw_h_of (m := a0) (i := x4) (c := x1) hxr1 exr21 exe22; have e2 : ((2 : Int32).toInt) = 2 := (by decide); have e3 : ((3 : Int32).toInt) = 3 := (by decide); obtain ⟨σ, hσ⟩ := st_flag E a0 (x1.toInt) 2 (x2.toInt) (x3.toInt); obtain ⟨τ, hτ⟩ := st_flag E a0 (x1.toInt) 3 (x2.toInt) (x3.toInt); unfold un_w un_p; rw [← hσ, ← hτ]; have hc := hpoxc28_0; (try rw [e2] at hc); (try rw [e3] at hc); (try (have hcc := hσ.trans hc.symm)); (try (have hcc := hτ.trans hc.symm)); clear hc; clear hσ hτ; omega), (by  have rf_xe3 : rw_h E a0 (x2.toInt) (x1.toInt).toNat = xe3.toInt := rw_h_of (m := a0) (i := x2) (c := x1) hxr1 exr2 exe3; have rf_xe7 : rw_h E a0 (x3.toInt) (x1.toInt).toNat = xe7.toInt := rw_h_of (m := a0) (i := x3) (c := x1) hxr1 exr6 exe7; have rf_xe14 : rw_p E a0 (x2.toInt) (x1.toInt).toNat = xe14.toInt := rw_p_of (m := a0) (i := x2) (c := x1) hxr12 exr13 exe14; have rf_xe16 : rw_p E a0 (x3.toInt) (x1.toInt).toNat = xe16.toInt := rw_p_of (m := a0) (i := x3) (c := x1) hxr12 exr15 exe16; have rf_xe22 : rw_h E a0 (x4.toInt) (x1.toInt).toNat = xe22.toInt := rw_h_of (m := a0) (i := x4) (c := x1) hxr1 exr21 exe22; intro a1 a2 a3 a4; (try rw [rf_xe3] at a1); (try rw [rf_xe3] at a2); (try rw [rf_xe3] at a4); (try rw [rf_xe7] at a1); (try rw [rf_xe7] at a2); (try rw [rf_xe7] at a4); (try rw [rf_xe14] at a1); (try rw [rf_xe14] at a2); (try rw [rf_xe14] at a4); (try rw [rf_xe16] at a1); (try rw [rf_xe16] at a2); (try rw [rf_xe16] at a4); (try rw [rf_xe22] at a1); (try rw [rf_xe22] at a2); (try rw [rf_xe22] at a4); (try omega))⟩, rfl, rfl, rfl⟩ (Nat.le_of_ble_eq_true rfl) (Nat.le_of_ble_eq_true rfl) dX12_sideOf_238
                · have hf31 : xc28.toInt = (-1) := by have z := (fa_eq _ _).mp hc29; have : (((-1) : Int32).toInt) = (-1) := (by decide); omega
                  refine lv_bipush (v := (-2)) hx hb dX12_sideOf_231 (by decide) ?_
                  refine lv_goto (tgt := 238) hx hb dX12_sideOf_233 (by decide) ?_
                  exact tw_iret hx hb hr hlocks TH hS hex ⟨⟨_, rfl, (show (-2) ≤ Int32.toInt (-2) from by have : (((-2) : Int32).toInt) = (-2) := (by decide); omega), (show Int32.toInt (-2) ≤ 15 from by have : (((-2) : Int32).toInt) = (-2) := (by decide); omega), (by have : (((-2) : Int32).toInt) = (-2) := (by decide); have rf_xe3 : rw_h E a0 (x2.toInt) (x1.toInt).toNat = xe3.toInt := rw_h_of (m := a0) (i := x2) (c := x1) hxr1 exr2 exe3; have rf_xe7 : rw_h E a0 (x3.toInt) (x1.toInt).toNat = xe7.toInt := rw_h_of (m := a0) (i := x3) (c := x1) hxr1 exr6 exe7; have rf_xe14 : rw_p E a0 (x2.toInt) (x1.toInt).toNat = xe14.toInt := rw_p_of (m := a0) (i := x2) (c := x1) hxr12 exr13 exe14; have rf_xe16 : rw_p E a0 (x3.toInt) (x1.toInt).toNat = xe16.toInt := rw_p_of (m := a0) (i := x3) (c := x1) hxr12 exr15 exe16; have rf_xe22 : rw_h E a0 (x4.toInt) (x1.toInt).toNat = xe22.toInt := rw_h_of (m := a0) (i := x4) (c := x1) hxr1 exr21 exe22; have e2 : ((2 : Int32).toInt) = 2 := (by decide); have e3 : ((3 : Int32).toInt) = 3 := (by decide); obtain ⟨σ, hσ⟩ := st_flag E a0 (x1.toInt) 2 (x2.toInt) (x3.toInt); obtain ⟨τ, hτ⟩ := st_flag E a0 (x1.toInt) 3 (x2.toInt) (x3.toInt); unfold un_w un_p; rw [← hσ, ← hτ]; have hc := hpoxc28_0; (try rw [e2] at hc); (try rw [e3] at hc); (try (have hcc := hσ.trans hc.symm)); (try (have hcc := hτ.trans hc.symm)); clear hc; clear hσ hτ; omega), (by have : (((-2) : Int32).toInt) = (-2) := (by decide); have rf_xe3 : rw_h E a0 (x2.toInt) (x1.toInt).toNat = xe3.toInt := rw_h_of (m := a0) (i := x2) (c := x1) hxr1 exr2 exe3; have rf_xe7 : rw_h E a0 (x3.toInt) (x1.toInt).toNat = xe7.toInt := rw_h_of (m := a0) (i := x3) (c := x1) hxr1 exr6 exe7; have rf_xe14 : rw_p E a0 (x2.toInt) (x1.toInt).toNat = xe14.toInt := rw_p_of (m := a0) (i := x2) (c := x1) hxr12 exr13 exe14; have rf_xe16 : rw_p E a0 (x3.toInt) (x1.toInt).toNat = xe16.toInt := rw_p_of (m := a0) (i := x3) (c := x1) hxr12 exr15 exe16; have rf_xe22 : rw_h E a0 (x4.toInt) (x1.toInt).toNat = xe22.toInt := rw_h_of (m := a0) (i := x4) (c := x1) hxr1 exr21 exe22; intro a1 a2 a3 a4; (try rw [rf_xe3] at a1); (try rw [rf_xe3] at a2); (try rw [rf_xe3] at a4); (try rw [rf_xe7] at a1); (try rw [rf_xe7] at a2); (try rw [rf_xe7] at a4); (try rw [rf_xe14] at a1); (try rw [rf_xe14] at a2); (try rw [rf_xe14] at a4); (try rw [rf_xe16] at a1); (try rw [rf_xe16] at a2); (try rw [rf_xe16] at a4); (try rw [rf_xe22] at a1); (try rw [rf_xe22] at a2); (try rw [rf_xe22] at a4); (try omega))⟩, rfl, rfl, rfl⟩ (Nat.le_of_ble_eq_true rfl) (Nat.le_of_ble_eq_true rfl) dX12_sideOf_238
              · have hf32 : ¬ (x5.toInt = 0) := fun q => hc25 ((fa_eq _ _).mpr (by have : ((0 : Int32).toInt) = 0 := (by decide); omega))
                exfalso; omega
            · have hf33 : ¬ (xe22.toInt = 0) := fun q => hc23 ((fa_eq _ _).mpr (by have : ((0 : Int32).toInt) = 0 := (by decide); omega))
              refine lv_iload hx hb dX12_sideOf_104 (lv_at hl 6 rfl) ?_
              refine lv_if_eq (tgt := 133) hx hb dX12_sideOf_106 (by decide) (fun hc34 => ?_) (fun hc34 => ?_)
              · have hf35 : x5.toInt = 0 := by have z := (fa_eq _ _).mp hc34; have : ((0 : Int32).toInt) = 0 := (by decide); omega
                refine lv_aload_n hx hb dX12_sideOf_133 rfl (lv_at hl 1 rfl) ?_
                refine tw_get (ci := 12) (C := RX12) (T := TX12) (N := 64) hx hb hB cx_inX12 hown hK TH hm0 hk0 rfl ⟨by decide, rfl⟩ 18 (by decide) cw_1211 (fun _ h9 => h9) dX12_sideOf_134 (fun hv => ?_)
                rw [hxr12]
                refine lv_iload_n hx hb dX12_sideOf_137 rfl (lv_at hl 3 rfl) ?_
                refine tw_aald (k := 318) (t0 := 4) (n := 16) (lo := 328) (hi := 0) (ty := .int) hx hb hK TH hmxr12 hkxr12 (by decide) rfl rfl (i := x2) (vp_in_iff.mpr ⟨by  omega, by  omega⟩) dX12_sideOf_138 (fun xr36 exr36 hmxr36 hkxr36 => ?_)
                have ezxr36 : xr13 = xr36 := exr13.symm.trans exr36
                subst ezxr36
                refine lv_iload_n hx hb dX12_sideOf_139 rfl (lv_at hl 2 rfl) ?_
                refine tw_iald (k := 328) (t0 := 0) (n := 150) (lo := (-1)) (hi := 149) hx hb hK TH hmxr13 hkxr13 (by decide) rfl rfl (i := x1) (vp_in_iff.mpr ⟨by  omega, by  omega⟩) dX12_sideOf_140 (fun hxe37a hxe37b => ?_)
                rw [exe14]
                refine lv_aload_n hx hb dX12_sideOf_141 rfl (lv_at hl 1 rfl) ?_
                refine tw_get (ci := 12) (C := RX12) (T := TX12) (N := 64) hx hb hB cx_inX12 hown hK TH hm0 hk0 rfl ⟨by decide, rfl⟩ 18 (by decide) cw_1211 (fun _ h9 => h9) dX12_sideOf_142 (fun hv => ?_)
                rw [hxr12]
                refine lv_iload hx hb dX12_sideOf_145 (lv_at hl 5 rfl) ?_
                refine tw_aald (k := 318) (t0 := 4) (n := 16) (lo := 328) (hi := 0) (ty := .int) hx hb hK TH hmxr12 hkxr12 (by decide) rfl rfl (i := x4) (vp_in_iff.mpr ⟨by  omega, by  omega⟩) dX12_sideOf_147 (fun xr38 exr38 hmxr38 hkxr38 => ?_)
                have hkxr38 : kp xr38 = 328 := hkxr38
                refine lv_iload_n hx hb dX12_sideOf_148 rfl (lv_at hl 2 rfl) ?_
                refine tw_iald (k := 328) (t0 := 0) (n := 150) (lo := (-1)) (hi := 149) hx hb hK TH hmxr38 hkxr38 (by decide) rfl rfl (i := x1) (vp_in_iff.mpr ⟨by  omega, by  omega⟩) dX12_sideOf_149 (fun hxe39a hxe39b => ?_)
                obtain ⟨xe39, exe39⟩ : ∃ z : Int32, tw_iv E xr38 (Int32.toNatClampNeg x1) = z := ⟨_, rfl⟩
                rw [exe39] at hxe39a hxe39b ⊢
                refine lv_icmp_ne (tgt := 155) hx hb dX12_sideOf_150 (by decide) (fun hc40 => ?_) (fun hc40 => ?_)
                · have hf41 : ¬ (xe14.toInt = xe39.toInt) := fun q => hc40 ((fa_eq _ _).mpr (by  omega))
                  refine lv_iload hx hb dX12_sideOf_155 (lv_at hl 6 rfl) ?_
                  refine lv_if_eq (tgt := 184) hx hb dX12_sideOf_157 (by decide) (fun hc42 => ?_) (fun hc42 => ?_)
                  · have hf43 : x5.toInt = 0 := by have z := (fa_eq _ _).mp hc42; have : ((0 : Int32).toInt) = 0 := (by decide); omega
                    refine lv_aload_n hx hb dX12_sideOf_184 rfl (lv_at hl 1 rfl) ?_
                    refine tw_get (ci := 12) (C := RX12) (T := TX12) (N := 64) hx hb hB cx_inX12 hown hK TH hm0 hk0 rfl ⟨by decide, rfl⟩ 18 (by decide) cw_1211 (fun _ h9 => h9) dX12_sideOf_185 (fun hv => ?_)
                    rw [hxr12]
                    refine lv_iload_n hx hb dX12_sideOf_188 rfl (lv_at hl 4 rfl) ?_
                    refine tw_aald (k := 318) (t0 := 4) (n := 16) (lo := 328) (hi := 0) (ty := .int) hx hb hK TH hmxr12 hkxr12 (by decide) rfl rfl (i := x3) (vp_in_iff.mpr ⟨by  omega, by  omega⟩) dX12_sideOf_189 (fun xr44 exr44 hmxr44 hkxr44 => ?_)
                    have ezxr44 : xr15 = xr44 := exr15.symm.trans exr44
                    subst ezxr44
                    refine lv_iload_n hx hb dX12_sideOf_190 rfl (lv_at hl 2 rfl) ?_
                    refine tw_iald (k := 328) (t0 := 0) (n := 150) (lo := (-1)) (hi := 149) hx hb hK TH hmxr15 hkxr15 (by decide) rfl rfl (i := x1) (vp_in_iff.mpr ⟨by  omega, by  omega⟩) dX12_sideOf_191 (fun hxe45a hxe45b => ?_)
                    rw [exe16]
                    refine lv_aload_n hx hb dX12_sideOf_192 rfl (lv_at hl 1 rfl) ?_
                    refine tw_get (ci := 12) (C := RX12) (T := TX12) (N := 64) hx hb hB cx_inX12 hown hK TH hm0 hk0 rfl ⟨by decide, rfl⟩ 18 (by decide) cw_1211 (fun _ h9 => h9) dX12_sideOf_193 (fun hv => ?_)
                    rw [hxr12]
                    refine lv_iload hx hb dX12_sideOf_196 (lv_at hl 5 rfl) ?_
                    refine tw_aald (k := 318) (t0 := 4) (n := 16) (lo := 328) (hi := 0) (ty := .int) hx hb hK TH hmxr12 hkxr12 (by decide) rfl rfl (i := x4) (vp_in_iff.mpr ⟨by  omega, by  omega⟩) dX12_sideOf_198 (fun xr46 exr46 hmxr46 hkxr46 => ?_)
                    have ezxr46 : xr38 = xr46 := exr38.symm.trans exr46
                    subst ezxr46
                    refine lv_iload_n hx hb dX12_sideOf_199 rfl (lv_at hl 2 rfl) ?_
                    refine tw_iald (k := 328) (t0 := 0) (n := 150) (lo := (-1)) (hi := 149) hx hb hK TH hmxr38 hkxr38 (by decide) rfl rfl (i := x1) (vp_in_iff.mpr ⟨by  omega, by  omega⟩) dX12_sideOf_200 (fun hxe47a hxe47b => ?_)
                    rw [exe39]
                    refine lv_icmp_ne (tgt := 206) hx hb dX12_sideOf_201 (by decide) (fun hc48 => ?_) (fun hc48 => ?_)
                    · have hf49 : ¬ (xe16.toInt = xe39.toInt) := fun q => hc48 ((fa_eq _ _).mpr (by  omega))
                      refine lv_aload_n hx hb dX12_sideOf_206 rfl (lv_at hl 1 rfl) ?_
                      refine lv_iload_n hx hb dX12_sideOf_207 rfl (lv_at hl 2 rfl) ?_
                      refine lv_iload hx hb dX12_sideOf_208 (lv_at hl 6 rfl) ?_
                      refine lv_if_eq (tgt := 217) hx hb dX12_sideOf_210 (by decide) (fun hc50 => ?_) (fun hc50 => ?_)
                      · have hf51 : x5.toInt = 0 := by have z := (fa_eq _ _).mp hc50; have : ((0 : Int32).toInt) = 0 := (by decide); omega
                        refine lv_iconst (v := 3) hx hb dX12_sideOf_217 (by decide) ?_
                        refine lv_iload_n hx hb dX12_sideOf_218 rfl (lv_at hl 3 rfl) ?_
                        refine lv_iload_n hx hb dX12_sideOf_219 rfl (lv_at hl 4 rfl) ?_
                        refine tw_Vc (o := a0) (ci := 12) (n := 4) (post := (fun v kq Lq Eq => (∃ x : Int32, v = some (.int x) ∧ (-1) ≤ x.toInt ∧ x.toInt ≤ 11 ∧ (x.toInt = -1 ↔ st_ns E a0 x1.toInt (3 : Int32).toInt x2.toInt x3.toInt)) ∧ kp = kq ∧ L = Lq ∧ E = Eq)) (As := [.int x1, .int 3, .int x2, .int x3]) (rest := []) ⟨hx, hb, hml, hown, hB⟩ (fun sz => tX12_settledFor l D cs a0 x1 (3 : Int32) x2 x3 hm0 hk0 sz) cg_12_461_X12_settledFor rfl rfl (by decide +kernel) ⟨Nat.le_of_ble_eq_true rfl, Nat.le_of_ble_eq_true rfl⟩ hK hN TH hS hA rfl hm0 hk0 (by decide) rfl hl.1 rfl (Nat.le_of_ble_eq_true rfl) dX12_sideOf_220 ⟨Nat.le_of_ble_eq_true rfl, Nat.le_of_ble_eq_true rfl⟩ (fun v52 kp52 L52 E52 H locs hq52 hx52 TH hS => ?_)
                        obtain ⟨⟨xc53, rfl, hxc53a, hxc53b, hpoxc53_0⟩, rfl, rfl, rfl⟩ := hq52
                        refine W.eq (g2 := F0 m 223 ls [.int xc53]) rfl ?_
                        refine lv_istore (lv' := [(7, .int xc53), (6, .int 0), (0, .ref a0), (1, .int x1), (2, .int x2), (3, .int x3), (4, .int x4), (5, .int x5)]) hx hb dX12_sideOf_223 hl (by decide) rfl (fun ls hl => ?_)
                        refine lv_iload hx hb dX12_sideOf_225 (lv_at hl 0 rfl) ?_
                        refine lv_iconst (v := (-1)) hx hb dX12_sideOf_227 (by decide) ?_
                        refine lv_icmp_ne (tgt := 236) hx hb dX12_sideOf_228 (by decide) (fun hc54 => ?_) (fun hc54 => ?_)
                        · have hf55 : ¬ (xc53.toInt = (-1)) := fun q => hc54 ((fa_eq _ _).mpr (by have : (((-1) : Int32).toInt) = (-1) := (by decide); omega))
                          refine lv_iload hx hb dX12_sideOf_236 (lv_at hl 0 rfl) ?_
                          exact tw_iret hx hb hr hlocks TH hS hex ⟨⟨_, rfl, (show (-2) ≤ Int32.toInt xc53 from by  omega), (show Int32.toInt xc53 ≤ 15 from by  omega), (by  have rf_xe3 : rw_h E a0 (x2.toInt) (x1.toInt).toNat = xe3.toInt := rw_h_of (m := a0) (i := x2) (c := x1) hxr1 exr2 exe3; have rf_xe7 : rw_h E a0 (x3.toInt) (x1.toInt).toNat = xe7.toInt := rw_h_of (m := a0) (i := x3) (c := x1) hxr1 exr6 exe7; have rf_xe14 : rw_p E a0 (x2.toInt) (x1.toInt).toNat = xe14.toInt := rw_p_of (m := a0) (i := x2) (c := x1) hxr12 exr13 exe14; have rf_xe16 : rw_p E a0 (x3.toInt) (x1.toInt).toNat = xe16.toInt := rw_p_of (m := a0) (i := x3) (c := x1) hxr12 exr15 exe16; have rf_xe22 : rw_h E a0 (x4.toInt) (x1.toInt).toNat = xe22.toInt := rw_h_of (m := a0) (i := x4) (c := x1) hxr1 exr21 exe22; have rf_xe39 : rw_p E a0 (x4.toInt) (x1.toInt).toNat = xe39.toInt := rw_p_of (m := a0) (i := x4) (c := x1) hxr12 exr38 exe39; have e2 : ((2 : Int32).toInt) = 2 := (by decide); have e3 : ((3 : Int32).toInt) = 3 := (by decide); obtain ⟨σ, hσ⟩ := st_flag E a0 (x1.toInt) 2 (x2.toInt) (x3.toInt); obtain ⟨τ, hτ⟩ := st_flag E a0 (x1.toInt) 3 (x2.toInt) (x3.toInt); unfold un_w un_p; rw [← hσ, ← hτ]; have hc := hpoxc53_0; (try rw [e2] at hc); (try rw [e3] at hc); (try (have hcc := hσ.trans hc.symm)); (try (have hcc := hτ.trans hc.symm)); clear hc; clear hσ hτ; omega), (by  have rf_xe3 : rw_h E a0 (x2.toInt) (x1.toInt).toNat = xe3.toInt := rw_h_of (m := a0) (i := x2) (c := x1) hxr1 exr2 exe3; have rf_xe7 : rw_h E a0 (x3.toInt) (x1.toInt).toNat = xe7.toInt := rw_h_of (m := a0) (i := x3) (c := x1) hxr1 exr6 exe7; have rf_xe14 : rw_p E a0 (x2.toInt) (x1.toInt).toNat = xe14.toInt := rw_p_of (m := a0) (i := x2) (c := x1) hxr12 exr13 exe14; have rf_xe16 : rw_p E a0 (x3.toInt) (x1.toInt).toNat = xe16.toInt := rw_p_of (m := a0) (i := x3) (c := x1) hxr12 exr15 exe16; have rf_xe22 : rw_h E a0 (x4.toInt) (x1.toInt).toNat = xe22.toInt := rw_h_of (m := a0) (i := x4) (c := x1) hxr1 exr21 exe22; have rf_xe39 : rw_p E a0 (x4.toInt) (x1.toInt).toNat = xe39.toInt := rw_p_of (m := a0) (i := x4) (c := x1) hxr12 exr38 exe39; intro a1 a2 a3 a4; (try rw [rf_xe3] at a1); (try rw [rf_xe3] at a2); (try rw [rf_xe3] at a4); (try rw [rf_xe7] at a1); (try rw [rf_xe7] at a2); (try rw [rf_xe7] at a4); (try rw [rf_xe14] at a1); (try rw [rf_xe14] at a2); (try rw [rf_xe14] at a4); (try rw [rf_xe16] at a1); (try rw [rf_xe16] at a2); (try rw [rf_xe16] at a4); (try rw [rf_xe22] at a1); (try rw [rf_xe22] at a2); (try rw [rf_xe22] at a4); (try rw [rf_xe39] at a1); (try rw [rf_xe39] at a2); (try rw [rf_xe39] at a4); (try omega))⟩, rfl, rfl, rfl⟩ (Nat.le_of_ble_eq_true rfl) (Nat.le_of_ble_eq_true rfl) dX12_sideOf_238
                        · have hf56 : xc53.toInt = (-1) := by have z := (fa_eq _ _).mp hc54; have : (((-1) : Int32).toInt) = (-1) := (by decide); omega
                          refine lv_bipush (v := (-2)) hx hb dX12_sideOf_231 (by decide) ?_
                          refine lv_goto (tgt := 238) hx hb dX12_sideOf_233 (by decide) ?_
                          exact tw_iret hx hb hr hlocks TH hS hex ⟨⟨_, rfl, (show (-2) ≤ Int32.toInt (-2) from by have : (((-2) : Int32).toInt) = (-2) := (by decide); omega), (show Int32.toInt (-2) ≤ 15 from by have : (((-2) : Int32).toInt) = (-2) := (by decide); omega), (by have : (((-2) : Int32).toInt) = (-2) := (by decide); have rf_xe3 : rw_h E a0 (x2.toInt) (x1.toInt).toNat = xe3.toInt := rw_h_of (m := a0) (i := x2) (c := x1) hxr1 exr2 exe3; have rf_xe7 : rw_h E a0 (x3.toInt) (x1.toInt).toNat = xe7.toInt := rw_h_of (m := a0) (i := x3) (c := x1) hxr1 exr6 exe7; have rf_xe14 : rw_p E a0 (x2.toInt) (x1.toInt).toNat = xe14.toInt := rw_p_of (m := a0) (i := x2) (c := x1) hxr12 exr13 exe14; have rf_xe16 : rw_p E a0 (x3.toInt) (x1.toInt).toNat = xe16.toInt := rw_p_of (m := a0) (i := x3) (c := x1) hxr12 exr15 exe16; have rf_xe22 : rw_h E a0 (x4.toInt) (x1.toInt).toNat = xe22.toInt := rw_h_of (m := a0) (i := x4) (c := x1) hxr1 exr21 exe22; have rf_xe39 : rw_p E a0 (x4.toInt) (x1.toInt).toNat = xe39.toInt := rw_p_of (m := a0) (i := x4) (c := x1) hxr12 exr38 exe39; have e2 : ((2 : Int32).toInt) = 2 := (by decide); have e3 : ((3 : Int32).toInt) = 3 := (by decide); obtain ⟨σ, hσ⟩ := st_flag E a0 (x1.toInt) 2 (x2.toInt) (x3.toInt); obtain ⟨τ, hτ⟩ := st_flag E a0 (x1.toInt) 3 (x2.toInt) (x3.toInt); unfold un_w un_p; rw [← hσ, ← hτ]; have hc := hpoxc53_0; (try rw [e2] at hc); (try rw [e3] at hc); (try (have hcc := hσ.trans hc.symm)); (try (have hcc := hτ.trans hc.symm)); clear hc; clear hσ hτ; omega), (by have : (((-2) : Int32).toInt) = (-2) := (by decide); have rf_xe3 : rw_h E a0 (x2.toInt) (x1.toInt).toNat = xe3.toInt := rw_h_of (m := a0) (i := x2) (c := x1) hxr1 exr2 exe3; have rf_xe7 : rw_h E a0 (x3.toInt) (x1.toInt).toNat = xe7.toInt := rw_h_of (m := a0) (i := x3) (c := x1) hxr1 exr6 exe7; have rf_xe14 : rw_p E a0 (x2.toInt) (x1.toInt).toNat = xe14.toInt := rw_p_of (m := a0) (i := x2) (c := x1) hxr12 exr13 exe14; have rf_xe16 : rw_p E a0 (x3.toInt) (x1.toInt).toNat = xe16.toInt := rw_p_of (m := a0) (i := x3) (c := x1) hxr12 exr15 exe16; have rf_xe22 : rw_h E a0 (x4.toInt) (x1.toInt).toNat = xe22.toInt := rw_h_of (m := a0) (i := x4) (c := x1) hxr1 exr21 exe22; have rf_xe39 : rw_p E a0 (x4.toInt) (x1.toInt).toNat = xe39.toInt := rw_p_of (m := a0) (i := x4) (c := x1) hxr12 exr38 exe39; intro a1 a2 a3 a4; (try rw [rf_xe3] at a1); (try rw [rf_xe3] at a2); (try rw [rf_xe3] at a4); (try rw [rf_xe7] at a1); (try rw [rf_xe7] at a2); (try rw [rf_xe7] at a4); (try rw [rf_xe14] at a1); (try rw [rf_xe14] at a2); (try rw [rf_xe14] at a4); (try rw [rf_xe16] at a1); (try rw [rf_xe16] at a2); (try rw [rf_xe16] at a4); (try rw [rf_xe22] at a1); (try rw [rf_xe22] at a2); (try rw [rf_xe22] at a4); (try rw [rf_xe39] at a1); (try rw [rf_xe39] at a2); (try rw [rf_xe39] at a4); (try omega))⟩, rfl, rfl, rfl⟩ (Nat.le_of_ble_eq_true rfl) (Nat.le_of_ble_eq_true rfl) dX12_sideOf_238
                      · have hf57 : ¬ (x5.toInt = 0) := fun q => hc50 ((fa_eq _ _).mpr (by have : ((0 : Int32).toInt) = 0 := (by decide); omega))
                        exfalso; omega
                    · have hf58 : xe16.toInt = xe39.toInt := by have z := (fa_eq _ _).mp hc48;  omega
                      refine lv_iload_n hx hb dX12_sideOf_204 rfl (lv_at hl 3 rfl) ?_
                      exact tw_iret hx hb hr hlocks TH hS hex ⟨⟨_, rfl, (show (-2) ≤ Int32.toInt x2 from by  omega), (show Int32.toInt x2 ≤ 15 from by  omega), (by  have rf_xe3 : rw_h E a0 (x2.toInt) (x1.toInt).toNat = xe3.toInt := rw_h_of (m := a0) (i := x2) (c := x1) hxr1 exr2 exe3; have rf_xe7 : rw_h E a0 (x3.toInt) (x1.toInt).toNat = xe7.toInt := rw_h_of (m := a0) (i := x3) (c := x1) hxr1 exr6 exe7; have rf_xe14 : rw_p E a0 (x2.toInt) (x1.toInt).toNat = xe14.toInt := rw_p_of (m := a0) (i := x2) (c := x1) hxr12 exr13 exe14; have rf_xe16 : rw_p E a0 (x3.toInt) (x1.toInt).toNat = xe16.toInt := rw_p_of (m := a0) (i := x3) (c := x1) hxr12 exr15 exe16; have rf_xe22 : rw_h E a0 (x4.toInt) (x1.toInt).toNat = xe22.toInt := rw_h_of (m := a0) (i := x4) (c := x1) hxr1 exr21 exe22; have rf_xe39 : rw_p E a0 (x4.toInt) (x1.toInt).toNat = xe39.toInt := rw_p_of (m := a0) (i := x4) (c := x1) hxr12 exr38 exe39; have e2 : ((2 : Int32).toInt) = 2 := (by decide); have e3 : ((3 : Int32).toInt) = 3 := (by decide); obtain ⟨σ, hσ⟩ := st_flag E a0 (x1.toInt) 2 (x2.toInt) (x3.toInt); obtain ⟨τ, hτ⟩ := st_flag E a0 (x1.toInt) 3 (x2.toInt) (x3.toInt); unfold un_w un_p; rw [← hσ, ← hτ]; clear hσ hτ; omega), (by  have rf_xe3 : rw_h E a0 (x2.toInt) (x1.toInt).toNat = xe3.toInt := rw_h_of (m := a0) (i := x2) (c := x1) hxr1 exr2 exe3; have rf_xe7 : rw_h E a0 (x3.toInt) (x1.toInt).toNat = xe7.toInt := rw_h_of (m := a0) (i := x3) (c := x1) hxr1 exr6 exe7; have rf_xe14 : rw_p E a0 (x2.toInt) (x1.toInt).toNat = xe14.toInt := rw_p_of (m := a0) (i := x2) (c := x1) hxr12 exr13 exe14; have rf_xe16 : rw_p E a0 (x3.toInt) (x1.toInt).toNat = xe16.toInt := rw_p_of (m := a0) (i := x3) (c := x1) hxr12 exr15 exe16; have rf_xe22 : rw_h E a0 (x4.toInt) (x1.toInt).toNat = xe22.toInt := rw_h_of (m := a0) (i := x4) (c := x1) hxr1 exr21 exe22; have rf_xe39 : rw_p E a0 (x4.toInt) (x1.toInt).toNat = xe39.toInt := rw_p_of (m := a0) (i := x4) (c := x1) hxr12 exr38 exe39; intro a1 a2 a3 a4; (try rw [rf_xe3] at a1); (try rw [rf_xe3] at a2); (try rw [rf_xe3] at a4); (try rw [rf_xe7] at a1); (try rw [rf_xe7] at a2); (try rw [rf_xe7] at a4); (try rw [rf_xe14] at a1); (try rw [rf_xe14] at a2); (try rw [rf_xe14] at a4); (try rw [rf_xe16] at a1); (try rw [rf_xe16] at a2); (try rw [rf_xe16] at a4); (try rw [rf_xe22] at a1); (try rw [rf_xe22] at a2); (try rw [rf_xe22] at a4); (try rw [rf_xe39] at a1); (try rw [rf_xe39] at a2); (try rw [rf_xe39] at a4); (try omega))⟩, rfl, rfl, rfl⟩ (Nat.le_of_ble_eq_true rfl) (Nat.le_of_ble_eq_true rfl) dX12_sideOf_205
                  · have hf59 : ¬ (x5.toInt = 0) := fun q => hc42 ((fa_eq _ _).mpr (by have : ((0 : Int32).toInt) = 0 := (by decide); omega))
                    exfalso; omega
                · have hf60 : xe14.toInt = xe39.toInt := by have z := (fa_eq _ _).mp hc40;  omega
                  refine lv_iload_n hx hb dX12_sideOf_153 rfl (lv_at hl 4 rfl) ?_
                  exact tw_iret hx hb hr hlocks TH hS hex ⟨⟨_, rfl, (show (-2) ≤ Int32.toInt x3 from by  omega), (show Int32.toInt x3 ≤ 15 from by  omega), (by  have rf_xe3 : rw_h E a0 (x2.toInt) (x1.toInt).toNat = xe3.toInt := rw_h_of (m := a0) (i := x2) (c := x1) hxr1 exr2 exe3; have rf_xe7 : rw_h E a0 (x3.toInt) (x1.toInt).toNat = xe7.toInt := rw_h_of (m := a0) (i := x3) (c := x1) hxr1 exr6 exe7; have rf_xe14 : rw_p E a0 (x2.toInt) (x1.toInt).toNat = xe14.toInt := rw_p_of (m := a0) (i := x2) (c := x1) hxr12 exr13 exe14; have rf_xe16 : rw_p E a0 (x3.toInt) (x1.toInt).toNat = xe16.toInt := rw_p_of (m := a0) (i := x3) (c := x1) hxr12 exr15 exe16; have rf_xe22 : rw_h E a0 (x4.toInt) (x1.toInt).toNat = xe22.toInt := rw_h_of (m := a0) (i := x4) (c := x1) hxr1 exr21 exe22; have rf_xe39 : rw_p E a0 (x4.toInt) (x1.toInt).toNat = xe39.toInt := rw_p_of (m := a0) (i := x4) (c := x1) hxr12 exr38 exe39; have e2 : ((2 : Int32).toInt) = 2 := (by decide); have e3 : ((3 : Int32).toInt) = 3 := (by decide); obtain ⟨σ, hσ⟩ := st_flag E a0 (x1.toInt) 2 (x2.toInt) (x3.toInt); obtain ⟨τ, hτ⟩ := st_flag E a0 (x1.toInt) 3 (x2.toInt) (x3.toInt); unfold un_w un_p; rw [← hσ, ← hτ]; clear hσ hτ; omega), (by  have rf_xe3 : rw_h E a0 (x2.toInt) (x1.toInt).toNat = xe3.toInt := rw_h_of (m := a0) (i := x2) (c := x1) hxr1 exr2 exe3; have rf_xe7 : rw_h E a0 (x3.toInt) (x1.toInt).toNat = xe7.toInt := rw_h_of (m := a0) (i := x3) (c := x1) hxr1 exr6 exe7; have rf_xe14 : rw_p E a0 (x2.toInt) (x1.toInt).toNat = xe14.toInt := rw_p_of (m := a0) (i := x2) (c := x1) hxr12 exr13 exe14; have rf_xe16 : rw_p E a0 (x3.toInt) (x1.toInt).toNat = xe16.toInt := rw_p_of (m := a0) (i := x3) (c := x1) hxr12 exr15 exe16; have rf_xe22 : rw_h E a0 (x4.toInt) (x1.toInt).toNat = xe22.toInt := rw_h_of (m := a0) (i := x4) (c := x1) hxr1 exr21 exe22; have rf_xe39 : rw_p E a0 (x4.toInt) (x1.toInt).toNat = xe39.toInt := rw_p_of (m := a0) (i := x4) (c := x1) hxr12 exr38 exe39; intro a1 a2 a3 a4; (try rw [rf_xe3] at a1); (try rw [rf_xe3] at a2); (try rw [rf_xe3] at a4); (try rw [rf_xe7] at a1); (try rw [rf_xe7] at a2); (try rw [rf_xe7] at a4); (try rw [rf_xe14] at a1); (try rw [rf_xe14] at a2); (try rw [rf_xe14] at a4); (try rw [rf_xe16] at a1); (try rw [rf_xe16] at a2); (try rw [rf_xe16] at a4); (try rw [rf_xe22] at a1); (try rw [rf_xe22] at a2); (try rw [rf_xe22] at a4); (try rw [rf_xe39] at a1); (try rw [rf_xe39] at a2); (try rw [rf_xe39] at a4); (try omega))⟩, rfl, rfl, rfl⟩ (Nat.le_of_ble_eq_true rfl) (Nat.le_of_ble_eq_true rfl) dX12_sideOf_154
              · have hf61 : ¬ (x5.toInt = 0) := fun q => hc34 ((fa_eq _ _).mpr (by have : ((0 : Int32).toInt) = 0 := (by decide); omega))
                exfalso; omega
          · have hf62 : ¬ (0 = 0) := fun q => hc19 ((fa_eq _ _).mpr (by have : ((0 : Int32).toInt) = 0 := (by decide); omega))
            exfalso; omega
        · have hf63 : xe14.toInt = xe16.toInt := by have z := (fa_eq _ _).mp hc17;  omega
          refine lv_iconst (v := 1) hx hb dX12_sideOf_78 (by decide) ?_
          refine lv_goto (tgt := 83) hx hb dX12_sideOf_79 (by decide) ?_
          refine lv_istore (lv' := [(6, .int 1), (0, .ref a0), (1, .int x1), (2, .int x2), (3, .int x3), (4, .int x4), (5, .int x5)]) hx hb dX12_sideOf_83 hl (by decide) rfl (fun ls hl => ?_)
          refine lv_iload hx hb dX12_sideOf_85 (lv_at hl 0 rfl) ?_
          refine lv_if_eq (tgt := 92) hx hb dX12_sideOf_87 (by decide) (fun hc64 => ?_) (fun hc64 => ?_)
          · have hf65 : 1 = 0 := by have z := (fa_eq _ _).mp hc64; have : ((0 : Int32).toInt) = 0 := (by decide); have : ((1 : Int32).toInt) = 1 := (by decide); omega
            exfalso; omega
          · have hf66 : ¬ (1 = 0) := fun q => hc64 ((fa_eq _ _).mpr (by have : ((0 : Int32).toInt) = 0 := (by decide); have : ((1 : Int32).toInt) = 1 := (by decide); omega))
            refine lv_iload_n hx hb dX12_sideOf_90 rfl (lv_at hl 3 rfl) ?_
            exact tw_iret hx hb hr hlocks TH hS hex ⟨⟨_, rfl, (show (-2) ≤ Int32.toInt x2 from by  omega), (show Int32.toInt x2 ≤ 15 from by  omega), (by  have rf_xe3 : rw_h E a0 (x2.toInt) (x1.toInt).toNat = xe3.toInt := rw_h_of (m := a0) (i := x2) (c := x1) hxr1 exr2 exe3; have rf_xe7 : rw_h E a0 (x3.toInt) (x1.toInt).toNat = xe7.toInt := rw_h_of (m := a0) (i := x3) (c := x1) hxr1 exr6 exe7; have rf_xe14 : rw_p E a0 (x2.toInt) (x1.toInt).toNat = xe14.toInt := rw_p_of (m := a0) (i := x2) (c := x1) hxr12 exr13 exe14; have rf_xe16 : rw_p E a0 (x3.toInt) (x1.toInt).toNat = xe16.toInt := rw_p_of (m := a0) (i := x3) (c := x1) hxr12 exr15 exe16; have e2 : ((2 : Int32).toInt) = 2 := (by decide); have e3 : ((3 : Int32).toInt) = 3 := (by decide); obtain ⟨σ, hσ⟩ := st_flag E a0 (x1.toInt) 2 (x2.toInt) (x3.toInt); obtain ⟨τ, hτ⟩ := st_flag E a0 (x1.toInt) 3 (x2.toInt) (x3.toInt); unfold un_w un_p; rw [← hσ, ← hτ]; clear hσ hτ; omega), (by  have rf_xe3 : rw_h E a0 (x2.toInt) (x1.toInt).toNat = xe3.toInt := rw_h_of (m := a0) (i := x2) (c := x1) hxr1 exr2 exe3; have rf_xe7 : rw_h E a0 (x3.toInt) (x1.toInt).toNat = xe7.toInt := rw_h_of (m := a0) (i := x3) (c := x1) hxr1 exr6 exe7; have rf_xe14 : rw_p E a0 (x2.toInt) (x1.toInt).toNat = xe14.toInt := rw_p_of (m := a0) (i := x2) (c := x1) hxr12 exr13 exe14; have rf_xe16 : rw_p E a0 (x3.toInt) (x1.toInt).toNat = xe16.toInt := rw_p_of (m := a0) (i := x3) (c := x1) hxr12 exr15 exe16; intro a1 a2 a3 a4; (try rw [rf_xe3] at a1); (try rw [rf_xe3] at a2); (try rw [rf_xe3] at a4); (try rw [rf_xe7] at a1); (try rw [rf_xe7] at a2); (try rw [rf_xe7] at a4); (try rw [rf_xe14] at a1); (try rw [rf_xe14] at a2); (try rw [rf_xe14] at a4); (try rw [rf_xe16] at a1); (try rw [rf_xe16] at a2); (try rw [rf_xe16] at a4); (try omega))⟩, rfl, rfl, rfl⟩ (Nat.le_of_ble_eq_true rfl) (Nat.le_of_ble_eq_true rfl) dX12_sideOf_91
      · have hf67 : ¬ (x5.toInt = 0) := fun q => hc10 ((fa_eq _ _).mpr (by have : ((0 : Int32).toInt) = 0 := (by decide); omega))
        refine lv_aload_n hx hb dX12_sideOf_31 rfl (lv_at hl 0 rfl) ?_
        refine tw_get (ci := 12) (C := RX12) (T := TX12) (N := 64) hx hb hB cx_inX12 hown hK TH hm0 hk0 rfl ⟨by decide, rfl⟩ 17 (by decide) cw_1210 (fun _ h9 => h9) dX12_sideOf_32 (fun hv => ?_)
        obtain ⟨xr68, hxr68, hmxr68, hkxr68⟩ : ∃ a : Nat, tw_fv E a0 17 = .ref a ∧ a ∈ L ∧ kp a = 317 := hv
        rw [hxr68]
        refine lv_iload_n hx hb dX12_sideOf_35 rfl (lv_at hl 2 rfl) ?_
        refine tw_aald (k := 317) (t0 := 6) (n := 16) (lo := 327) (hi := 0) (ty := .long) hx hb hK TH hmxr68 hkxr68 (by decide) rfl rfl (i := x2) (vp_in_iff.mpr ⟨by  omega, by  omega⟩) dX12_sideOf_36 (fun xr69 exr69 hmxr69 hkxr69 => ?_)
        have hkxr69 : kp xr69 = 327 := hkxr69
        refine lv_iload_n hx hb dX12_sideOf_37 rfl (lv_at hl 1 rfl) ?_
        refine tw_lald2 (k := 327) (n := 150) (lo := 0) (hi := 0) hx hb hK TH hmxr69 hkxr69 (by decide) rfl (i := x1) (vp_in_iff.mpr ⟨by  omega, by  omega⟩) dX12_sideOf_38 (fun xl70 exl70 => ?_)
        refine lv_aload_n hx hb dX12_sideOf_39 rfl (lv_at hl 0 rfl) ?_
        refine tw_get (ci := 12) (C := RX12) (T := TX12) (N := 64) hx hb hB cx_inX12 hown hK TH hm0 hk0 rfl ⟨by decide, rfl⟩ 17 (by decide) cw_1210 (fun _ h9 => h9) dX12_sideOf_40 (fun hv => ?_)
        rw [hxr68]
        refine lv_iload_n hx hb dX12_sideOf_43 rfl (lv_at hl 3 rfl) ?_
        refine tw_aald (k := 317) (t0 := 6) (n := 16) (lo := 327) (hi := 0) (ty := .long) hx hb hK TH hmxr68 hkxr68 (by decide) rfl rfl (i := x3) (vp_in_iff.mpr ⟨by  omega, by  omega⟩) dX12_sideOf_44 (fun xr71 exr71 hmxr71 hkxr71 => ?_)
        have hkxr71 : kp xr71 = 327 := hkxr71
        refine lv_iload_n hx hb dX12_sideOf_45 rfl (lv_at hl 1 rfl) ?_
        refine tw_lald2 (k := 327) (n := 150) (lo := 0) (hi := 0) hx hb hK TH hmxr71 hkxr71 (by decide) rfl (i := x1) (vp_in_iff.mpr ⟨by  omega, by  omega⟩) dX12_sideOf_46 (fun xl72 exl72 => ?_)
        refine W.lcmp hx hb dX12_sideOf_47 ?_
        have hzi73 := ia_lc xl70 xl72
        generalize lg_cmp xl70 xl72 = zi73 at hzi73 ⊢
        refine lv_if_ne (tgt := 55) hx hb dX12_sideOf_48 (by decide) (fun hc74 => ?_) (fun hc74 => ?_)
        · have hf75 : ¬ (zi73.toInt = 0) := fun q => hc74 ((fa_eq _ _).mpr (by have : ((0 : Int32).toInt) = 0 := (by decide); omega))
          refine lv_iconst (v := 0) hx hb dX12_sideOf_55 (by decide) ?_
          refine lv_goto (tgt := 83) hx hb dX12_sideOf_56 (by decide) ?_
          refine lv_istore (lv' := [(6, .int 0), (0, .ref a0), (1, .int x1), (2, .int x2), (3, .int x3), (4, .int x4), (5, .int x5)]) hx hb dX12_sideOf_83 hl (by decide) rfl (fun ls hl => ?_)
          refine lv_iload hx hb dX12_sideOf_85 (lv_at hl 0 rfl) ?_
          refine lv_if_eq (tgt := 92) hx hb dX12_sideOf_87 (by decide) (fun hc76 => ?_) (fun hc76 => ?_)
          · have hf77 : 0 = 0 := by have z := (fa_eq _ _).mp hc76; have : ((0 : Int32).toInt) = 0 := (by decide); omega
            refine lv_aload_n hx hb dX12_sideOf_92 rfl (lv_at hl 1 rfl) ?_
            refine tw_get (ci := 12) (C := RX12) (T := TX12) (N := 64) hx hb hB cx_inX12 hown hK TH hm0 hk0 rfl ⟨by decide, rfl⟩ 16 (by decide) cw_1209 (fun _ h9 => h9) dX12_sideOf_93 (fun hv => ?_)
            rw [hxr1]
            refine lv_iload hx hb dX12_sideOf_96 (lv_at hl 5 rfl) ?_
            refine tw_aald (k := 316) (t0 := 5) (n := 16) (lo := 326) (hi := 0) (ty := .boolean) hx hb hK TH hmxr1 hkxr1 (by decide) rfl rfl (i := x4) (vp_in_iff.mpr ⟨by  omega, by  omega⟩) dX12_sideOf_98 (fun xr78 exr78 hmxr78 hkxr78 => ?_)
            have hkxr78 : kp xr78 = 326 := hkxr78
            refine lv_iload_n hx hb dX12_sideOf_99 rfl (lv_at hl 2 rfl) ?_
            refine tw_zald (k := 326) (t0 := 3) (n := 150) (lo := 0) (hi := 1) hx hb hK TH hmxr78 hkxr78 (by decide) rfl rfl (i := x1) (vp_in_iff.mpr ⟨by  omega, by  omega⟩) dX12_sideOf_100 (fun hxe79a hxe79b => ?_)
            obtain ⟨xe79, exe79⟩ : ∃ z : Int32, tw_iv E xr78 (Int32.toNatClampNeg x1) = z := ⟨_, rfl⟩
            rw [exe79] at hxe79a hxe79b ⊢
            refine lv_if_eq (tgt := 206) hx hb dX12_sideOf_101 (by decide) (fun hc80 => ?_) (fun hc80 => ?_)
            · have hf81 : xe79.toInt = 0 := by have z := (fa_eq _ _).mp hc80; have : ((0 : Int32).toInt) = 0 := (by decide); omega
              refine lv_aload_n hx hb dX12_sideOf_206 rfl (lv_at hl 1 rfl) ?_
              refine lv_iload_n hx hb dX12_sideOf_207 rfl (lv_at hl 2 rfl) ?_
              refine lv_iload hx hb dX12_sideOf_208 (lv_at hl 6 rfl) ?_
              refine lv_if_eq (tgt := 217) hx hb dX12_sideOf_210 (by decide) (fun hc82 => ?_) (fun hc82 => ?_)
              · have hf83 : x5.toInt = 0 := by have z := (fa_eq _ _).mp hc82; have : ((0 : Int32).toInt) = 0 := (by decide); omega
                exfalso; omega
              · have hf84 : ¬ (x5.toInt = 0) := fun q => hc82 ((fa_eq _ _).mpr (by have : ((0 : Int32).toInt) = 0 := (by decide); omega))
                refine lv_iconst (v := 2) hx hb dX12_sideOf_213 (by decide) ?_
                refine lv_goto (tgt := 218) hx hb dX12_sideOf_214 (by decide) ?_
                refine lv_iload_n hx hb dX12_sideOf_218 rfl (lv_at hl 3 rfl) ?_
                refine lv_iload_n hx hb dX12_sideOf_219 rfl (lv_at hl 4 rfl) ?_
                refine tw_Vc (o := a0) (ci := 12) (n := 4) (post := (fun v kq Lq Eq => (∃ x : Int32, v = some (.int x) ∧ (-1) ≤ x.toInt ∧ x.toInt ≤ 11 ∧ (x.toInt = -1 ↔ st_ns E a0 x1.toInt (2 : Int32).toInt x2.toInt x3.toInt)) ∧ kp = kq ∧ L = Lq ∧ E = Eq)) (As := [.int x1, .int 2, .int x2, .int x3]) (rest := []) ⟨hx, hb, hml, hown, hB⟩ (fun sz => tX12_settledFor l D cs a0 x1 (2 : Int32) x2 x3 hm0 hk0 sz) cg_12_461_X12_settledFor rfl rfl (by decide +kernel) ⟨Nat.le_of_ble_eq_true rfl, Nat.le_of_ble_eq_true rfl⟩ hK hN TH hS hA rfl hm0 hk0 (by decide) rfl hl.1 rfl (Nat.le_of_ble_eq_true rfl) dX12_sideOf_220 ⟨Nat.le_of_ble_eq_true rfl, Nat.le_of_ble_eq_true rfl⟩ (fun v85 kp85 L85 E85 H locs hq85 hx85 TH hS => ?_)
                obtain ⟨⟨xc86, rfl, hxc86a, hxc86b, hpoxc86_0⟩, rfl, rfl, rfl⟩ := hq85
                refine W.eq (g2 := F0 m 223 ls [.int xc86]) rfl ?_
                refine lv_istore (lv' := [(7, .int xc86), (6, .int 0), (0, .ref a0), (1, .int x1), (2, .int x2), (3, .int x3), (4, .int x4), (5, .int x5)]) hx hb dX12_sideOf_223 hl (by decide) rfl (fun ls hl => ?_)
                refine lv_iload hx hb dX12_sideOf_225 (lv_at hl 0 rfl) ?_
                refine lv_iconst (v := (-1)) hx hb dX12_sideOf_227 (by decide) ?_
                refine lv_icmp_ne (tgt := 236) hx hb dX12_sideOf_228 (by decide) (fun hc87 => ?_) (fun hc87 => ?_)
                · have hf88 : ¬ (xc86.toInt = (-1)) := fun q => hc87 ((fa_eq _ _).mpr (by have : (((-1) : Int32).toInt) = (-1) := (by decide); omega))
                  refine lv_iload hx hb dX12_sideOf_236 (lv_at hl 0 rfl) ?_
                  exact tw_iret hx hb hr hlocks TH hS hex ⟨⟨_, rfl, (show (-2) ≤ Int32.toInt xc86 from by  omega), (show Int32.toInt xc86 ≤ 15 from by  omega), (by  have rf_xe3 : rw_h E a0 (x2.toInt) (x1.toInt).toNat = xe3.toInt := rw_h_of (m := a0) (i := x2) (c := x1) hxr1 exr2 exe3; have rf_xe7 : rw_h E a0 (x3.toInt) (x1.toInt).toNat = xe7.toInt := rw_h_of (m := a0) (i := x3) (c := x1) hxr1 exr6 exe7; have rf_xe79 : rw_h E a0 (x4.toInt) (x1.toInt).toNat = xe79.toInt := rw_h_of (m := a0) (i := x4) (c := x1) hxr1 exr78 exe79; have rf_xl70 : rw_w E a0 (x2.toInt) (x1.toInt).toNat = xl70.toInt := rw_w_of (m := a0) (i := x2) (c := x1) hxr68 exr69 exl70; have rf_xl72 : rw_w E a0 (x3.toInt) (x1.toInt).toNat = xl72.toInt := rw_w_of (m := a0) (i := x3) (c := x1) hxr68 exr71 exl72; have e2 : ((2 : Int32).toInt) = 2 := (by decide); have e3 : ((3 : Int32).toInt) = 3 := (by decide); obtain ⟨σ, hσ⟩ := st_flag E a0 (x1.toInt) 2 (x2.toInt) (x3.toInt); obtain ⟨τ, hτ⟩ := st_flag E a0 (x1.toInt) 3 (x2.toInt) (x3.toInt); unfold un_w un_p; rw [← hσ, ← hτ]; have hc := hpoxc86_0; (try rw [e2] at hc); (try rw [e3] at hc); (try (have hcc := hσ.trans hc.symm)); (try (have hcc := hτ.trans hc.symm)); clear hc; clear hσ hτ; omega), (by  have rf_xe3 : rw_h E a0 (x2.toInt) (x1.toInt).toNat = xe3.toInt := rw_h_of (m := a0) (i := x2) (c := x1) hxr1 exr2 exe3; have rf_xe7 : rw_h E a0 (x3.toInt) (x1.toInt).toNat = xe7.toInt := rw_h_of (m := a0) (i := x3) (c := x1) hxr1 exr6 exe7; have rf_xe79 : rw_h E a0 (x4.toInt) (x1.toInt).toNat = xe79.toInt := rw_h_of (m := a0) (i := x4) (c := x1) hxr1 exr78 exe79; intro a1 a2 a3 a4; (try rw [rf_xe3] at a1); (try rw [rf_xe3] at a2); (try rw [rf_xe3] at a4); (try rw [rf_xe7] at a1); (try rw [rf_xe7] at a2); (try rw [rf_xe7] at a4); (try rw [rf_xe79] at a1); (try rw [rf_xe79] at a2); (try rw [rf_xe79] at a4); (try omega))⟩, rfl, rfl, rfl⟩ (Nat.le_of_ble_eq_true rfl) (Nat.le_of_ble_eq_true rfl) dX12_sideOf_238
                · have hf89 : xc86.toInt = (-1) := by have z := (fa_eq _ _).mp hc87; have : (((-1) : Int32).toInt) = (-1) := (by decide); omega
                  refine lv_bipush (v := (-2)) hx hb dX12_sideOf_231 (by decide) ?_
                  refine lv_goto (tgt := 238) hx hb dX12_sideOf_233 (by decide) ?_
                  exact tw_iret hx hb hr hlocks TH hS hex ⟨⟨_, rfl, (show (-2) ≤ Int32.toInt (-2) from by have : (((-2) : Int32).toInt) = (-2) := (by decide); omega), (show Int32.toInt (-2) ≤ 15 from by have : (((-2) : Int32).toInt) = (-2) := (by decide); omega), (by have : (((-2) : Int32).toInt) = (-2) := (by decide); have rf_xe3 : rw_h E a0 (x2.toInt) (x1.toInt).toNat = xe3.toInt := rw_h_of (m := a0) (i := x2) (c := x1) hxr1 exr2 exe3; have rf_xe7 : rw_h E a0 (x3.toInt) (x1.toInt).toNat = xe7.toInt := rw_h_of (m := a0) (i := x3) (c := x1) hxr1 exr6 exe7; have rf_xe79 : rw_h E a0 (x4.toInt) (x1.toInt).toNat = xe79.toInt := rw_h_of (m := a0) (i := x4) (c := x1) hxr1 exr78 exe79; have rf_xl70 : rw_w E a0 (x2.toInt) (x1.toInt).toNat = xl70.toInt := rw_w_of (m := a0) (i := x2) (c := x1) hxr68 exr69 exl70; have rf_xl72 : rw_w E a0 (x3.toInt) (x1.toInt).toNat = xl72.toInt := rw_w_of (m := a0) (i := x3) (c := x1) hxr68 exr71 exl72; have e2 : ((2 : Int32).toInt) = 2 := (by decide); have e3 : ((3 : Int32).toInt) = 3 := (by decide); obtain ⟨σ, hσ⟩ := st_flag E a0 (x1.toInt) 2 (x2.toInt) (x3.toInt); obtain ⟨τ, hτ⟩ := st_flag E a0 (x1.toInt) 3 (x2.toInt) (x3.toInt); unfold un_w un_p; rw [← hσ, ← hτ]; have hc := hpoxc86_0; (try rw [e2] at hc); (try rw [e3] at hc); (try (have hcc := hσ.trans hc.symm)); (try (have hcc := hτ.trans hc.symm)); clear hc; clear hσ hτ; omega), (by have : (((-2) : Int32).toInt) = (-2) := (by decide); have rf_xe3 : rw_h E a0 (x2.toInt) (x1.toInt).toNat = xe3.toInt := rw_h_of (m := a0) (i := x2) (c := x1) hxr1 exr2 exe3; have rf_xe7 : rw_h E a0 (x3.toInt) (x1.toInt).toNat = xe7.toInt := rw_h_of (m := a0) (i := x3) (c := x1) hxr1 exr6 exe7; have rf_xe79 : rw_h E a0 (x4.toInt) (x1.toInt).toNat = xe79.toInt := rw_h_of (m := a0) (i := x4) (c := x1) hxr1 exr78 exe79; intro a1 a2 a3 a4; (try rw [rf_xe3] at a1); (try rw [rf_xe3] at a2); (try rw [rf_xe3] at a4); (try rw [rf_xe7] at a1); (try rw [rf_xe7] at a2); (try rw [rf_xe7] at a4); (try rw [rf_xe79] at a1); (try rw [rf_xe79] at a2); (try rw [rf_xe79] at a4); (try omega))⟩, rfl, rfl, rfl⟩ (Nat.le_of_ble_eq_true rfl) (Nat.le_of_ble_eq_true rfl) dX12_sideOf_238
            · have hf90 : ¬ (xe79.toInt = 0) := fun q => hc80 ((fa_eq _ _).mpr (by have : ((0 : Int32).toInt) = 0 := (by decide); omega))
              refine lv_iload hx hb dX12_sideOf_104 (lv_at hl 6 rfl) ?_
              refine lv_if_eq (tgt := 133) hx hb dX12_sideOf_106 (by decide) (fun hc91 => ?_) (fun hc91 => ?_)
              · have hf92 : x5.toInt = 0 := by have z := (fa_eq _ _).mp hc91; have : ((0 : Int32).toInt) = 0 := (by decide); omega
                exfalso; omega
              · have hf93 : ¬ (x5.toInt = 0) := fun q => hc91 ((fa_eq _ _).mpr (by have : ((0 : Int32).toInt) = 0 := (by decide); omega))
                refine lv_aload_n hx hb dX12_sideOf_109 rfl (lv_at hl 1 rfl) ?_
                refine tw_get (ci := 12) (C := RX12) (T := TX12) (N := 64) hx hb hB cx_inX12 hown hK TH hm0 hk0 rfl ⟨by decide, rfl⟩ 17 (by decide) cw_1210 (fun _ h9 => h9) dX12_sideOf_110 (fun hv => ?_)
                rw [hxr68]
                refine lv_iload_n hx hb dX12_sideOf_113 rfl (lv_at hl 3 rfl) ?_
                refine tw_aald (k := 317) (t0 := 6) (n := 16) (lo := 327) (hi := 0) (ty := .long) hx hb hK TH hmxr68 hkxr68 (by decide) rfl rfl (i := x2) (vp_in_iff.mpr ⟨by  omega, by  omega⟩) dX12_sideOf_114 (fun xr94 exr94 hmxr94 hkxr94 => ?_)
                have ezxr94 : xr69 = xr94 := exr69.symm.trans exr94
                subst ezxr94
                refine lv_iload_n hx hb dX12_sideOf_115 rfl (lv_at hl 2 rfl) ?_
                refine tw_lald2 (k := 327) (n := 150) (lo := 0) (hi := 0) hx hb hK TH hmxr69 hkxr69 (by decide) rfl (i := x1) (vp_in_iff.mpr ⟨by  omega, by  omega⟩) dX12_sideOf_116 (fun xl95 exl95 => ?_)
                refine lv_aload_n hx hb dX12_sideOf_117 rfl (lv_at hl 1 rfl) ?_
                refine tw_get (ci := 12) (C := RX12) (T := TX12) (N := 64) hx hb hB cx_inX12 hown hK TH hm0 hk0 rfl ⟨by decide, rfl⟩ 17 (by decide) cw_1210 (fun _ h9 => h9) dX12_sideOf_118 (fun hv => ?_)
                rw [hxr68]
                refine lv_iload hx hb dX12_sideOf_121 (lv_at hl 5 rfl) ?_
                refine tw_aald (k := 317) (t0 := 6) (n := 16) (lo := 327) (hi := 0) (ty := .long) hx hb hK TH hmxr68 hkxr68 (by decide) rfl rfl (i := x4) (vp_in_iff.mpr ⟨by  omega, by  omega⟩) dX12_sideOf_123 (fun xr96 exr96 hmxr96 hkxr96 => ?_)
                have hkxr96 : kp xr96 = 327 := hkxr96
                refine lv_iload_n hx hb dX12_sideOf_124 rfl (lv_at hl 2 rfl) ?_
                refine tw_lald2 (k := 327) (n := 150) (lo := 0) (hi := 0) hx hb hK TH hmxr96 hkxr96 (by decide) rfl (i := x1) (vp_in_iff.mpr ⟨by  omega, by  omega⟩) dX12_sideOf_125 (fun xl97 exl97 => ?_)
                refine W.lcmp hx hb dX12_sideOf_126 ?_
                have hzi98 := ia_lc xl95 xl97
                generalize lg_cmp xl95 xl97 = zi98 at hzi98 ⊢
                refine lv_if_ne (tgt := 155) hx hb dX12_sideOf_127 (by decide) (fun hc99 => ?_) (fun hc99 => ?_)
                · have hf100 : ¬ (zi98.toInt = 0) := fun q => hc99 ((fa_eq _ _).mpr (by have : ((0 : Int32).toInt) = 0 := (by decide); omega))
                  refine lv_iload hx hb dX12_sideOf_155 (lv_at hl 6 rfl) ?_
                  refine lv_if_eq (tgt := 184) hx hb dX12_sideOf_157 (by decide) (fun hc101 => ?_) (fun hc101 => ?_)
                  · have hf102 : x5.toInt = 0 := by have z := (fa_eq _ _).mp hc101; have : ((0 : Int32).toInt) = 0 := (by decide); omega
                    exfalso; omega
                  · have hf103 : ¬ (x5.toInt = 0) := fun q => hc101 ((fa_eq _ _).mpr (by have : ((0 : Int32).toInt) = 0 := (by decide); omega))
                    refine lv_aload_n hx hb dX12_sideOf_160 rfl (lv_at hl 1 rfl) ?_
                    refine tw_get (ci := 12) (C := RX12) (T := TX12) (N := 64) hx hb hB cx_inX12 hown hK TH hm0 hk0 rfl ⟨by decide, rfl⟩ 17 (by decide) cw_1210 (fun _ h9 => h9) dX12_sideOf_161 (fun hv => ?_)
                    rw [hxr68]
                    refine lv_iload_n hx hb dX12_sideOf_164 rfl (lv_at hl 4 rfl) ?_
                    refine tw_aald (k := 317) (t0 := 6) (n := 16) (lo := 327) (hi := 0) (ty := .long) hx hb hK TH hmxr68 hkxr68 (by decide) rfl rfl (i := x3) (vp_in_iff.mpr ⟨by  omega, by  omega⟩) dX12_sideOf_165 (fun xr104 exr104 hmxr104 hkxr104 => ?_)
                    have ezxr104 : xr71 = xr104 := exr71.symm.trans exr104
                    subst ezxr104
                    refine lv_iload_n hx hb dX12_sideOf_166 rfl (lv_at hl 2 rfl) ?_
                    refine tw_lald2 (k := 327) (n := 150) (lo := 0) (hi := 0) hx hb hK TH hmxr71 hkxr71 (by decide) rfl (i := x1) (vp_in_iff.mpr ⟨by  omega, by  omega⟩) dX12_sideOf_167 (fun xl105 exl105 => ?_)
                    refine lv_aload_n hx hb dX12_sideOf_168 rfl (lv_at hl 1 rfl) ?_
                    refine tw_get (ci := 12) (C := RX12) (T := TX12) (N := 64) hx hb hB cx_inX12 hown hK TH hm0 hk0 rfl ⟨by decide, rfl⟩ 17 (by decide) cw_1210 (fun _ h9 => h9) dX12_sideOf_169 (fun hv => ?_)
                    rw [hxr68]
                    refine lv_iload hx hb dX12_sideOf_172 (lv_at hl 5 rfl) ?_
                    refine tw_aald (k := 317) (t0 := 6) (n := 16) (lo := 327) (hi := 0) (ty := .long) hx hb hK TH hmxr68 hkxr68 (by decide) rfl rfl (i := x4) (vp_in_iff.mpr ⟨by  omega, by  omega⟩) dX12_sideOf_174 (fun xr106 exr106 hmxr106 hkxr106 => ?_)
                    have ezxr106 : xr96 = xr106 := exr96.symm.trans exr106
                    subst ezxr106
                    refine lv_iload_n hx hb dX12_sideOf_175 rfl (lv_at hl 2 rfl) ?_
                    refine tw_lald2 (k := 327) (n := 150) (lo := 0) (hi := 0) hx hb hK TH hmxr96 hkxr96 (by decide) rfl (i := x1) (vp_in_iff.mpr ⟨by  omega, by  omega⟩) dX12_sideOf_176 (fun xl107 exl107 => ?_)
                    refine W.lcmp hx hb dX12_sideOf_177 ?_
                    have hzi108 := ia_lc xl105 xl107
                    generalize lg_cmp xl105 xl107 = zi108 at hzi108 ⊢
                    refine lv_if_ne (tgt := 206) hx hb dX12_sideOf_178 (by decide) (fun hc109 => ?_) (fun hc109 => ?_)
                    · have hf110 : ¬ (zi108.toInt = 0) := fun q => hc109 ((fa_eq _ _).mpr (by have : ((0 : Int32).toInt) = 0 := (by decide); omega))
                      refine lv_aload_n hx hb dX12_sideOf_206 rfl (lv_at hl 1 rfl) ?_
                      refine lv_iload_n hx hb dX12_sideOf_207 rfl (lv_at hl 2 rfl) ?_
                      refine lv_iload hx hb dX12_sideOf_208 (lv_at hl 6 rfl) ?_
                      refine lv_if_eq (tgt := 217) hx hb dX12_sideOf_210 (by decide) (fun hc111 => ?_) (fun hc111 => ?_)
                      · have hf112 : x5.toInt = 0 := by have z := (fa_eq _ _).mp hc111; have : ((0 : Int32).toInt) = 0 := (by decide); omega
                        exfalso; omega
                      · have hf113 : ¬ (x5.toInt = 0) := fun q => hc111 ((fa_eq _ _).mpr (by have : ((0 : Int32).toInt) = 0 := (by decide); omega))
                        refine lv_iconst (v := 2) hx hb dX12_sideOf_213 (by decide) ?_
                        refine lv_goto (tgt := 218) hx hb dX12_sideOf_214 (by decide) ?_
                        refine lv_iload_n hx hb dX12_sideOf_218 rfl (lv_at hl 3 rfl) ?_
                        refine lv_iload_n hx hb dX12_sideOf_219 rfl (lv_at hl 4 rfl) ?_
                        refine tw_Vc (o := a0) (ci := 12) (n := 4) (post := (fun v kq Lq Eq => (∃ x : Int32, v = some (.int x) ∧ (-1) ≤ x.toInt ∧ x.toInt ≤ 11 ∧ (x.toInt = -1 ↔ st_ns E a0 x1.toInt (2 : Int32).toInt x2.toInt x3.toInt)) ∧ kp = kq ∧ L = Lq ∧ E = Eq)) (As := [.int x1, .int 2, .int x2, .int x3]) (rest := []) ⟨hx, hb, hml, hown, hB⟩ (fun sz => tX12_settledFor l D cs a0 x1 (2 : Int32) x2 x3 hm0 hk0 sz) cg_12_461_X12_settledFor rfl rfl (by decide +kernel) ⟨Nat.le_of_ble_eq_true rfl, Nat.le_of_ble_eq_true rfl⟩ hK hN TH hS hA rfl hm0 hk0 (by decide) rfl hl.1 rfl (Nat.le_of_ble_eq_true rfl) dX12_sideOf_220 ⟨Nat.le_of_ble_eq_true rfl, Nat.le_of_ble_eq_true rfl⟩ (fun v114 kp114 L114 E114 H locs hq114 hx114 TH hS => ?_)
                        obtain ⟨⟨xc115, rfl, hxc115a, hxc115b, hpoxc115_0⟩, rfl, rfl, rfl⟩ := hq114
                        refine W.eq (g2 := F0 m 223 ls [.int xc115]) rfl ?_
                        refine lv_istore (lv' := [(7, .int xc115), (6, .int 0), (0, .ref a0), (1, .int x1), (2, .int x2), (3, .int x3), (4, .int x4), (5, .int x5)]) hx hb dX12_sideOf_223 hl (by decide) rfl (fun ls hl => ?_)
                        refine lv_iload hx hb dX12_sideOf_225 (lv_at hl 0 rfl) ?_
                        refine lv_iconst (v := (-1)) hx hb dX12_sideOf_227 (by decide) ?_
                        refine lv_icmp_ne (tgt := 236) hx hb dX12_sideOf_228 (by decide) (fun hc116 => ?_) (fun hc116 => ?_)
                        · have hf117 : ¬ (xc115.toInt = (-1)) := fun q => hc116 ((fa_eq _ _).mpr (by have : (((-1) : Int32).toInt) = (-1) := (by decide); omega))
                          refine lv_iload hx hb dX12_sideOf_236 (lv_at hl 0 rfl) ?_
                          exact tw_iret hx hb hr hlocks TH hS hex ⟨⟨_, rfl, (show (-2) ≤ Int32.toInt xc115 from by  omega), (show Int32.toInt xc115 ≤ 15 from by  omega), (by  have rf_xe3 : rw_h E a0 (x2.toInt) (x1.toInt).toNat = xe3.toInt := rw_h_of (m := a0) (i := x2) (c := x1) hxr1 exr2 exe3; have rf_xe7 : rw_h E a0 (x3.toInt) (x1.toInt).toNat = xe7.toInt := rw_h_of (m := a0) (i := x3) (c := x1) hxr1 exr6 exe7; have rf_xe79 : rw_h E a0 (x4.toInt) (x1.toInt).toNat = xe79.toInt := rw_h_of (m := a0) (i := x4) (c := x1) hxr1 exr78 exe79; have rf_xl70 : rw_w E a0 (x2.toInt) (x1.toInt).toNat = xl70.toInt := rw_w_of (m := a0) (i := x2) (c := x1) hxr68 exr69 exl70; have rf_xl72 : rw_w E a0 (x3.toInt) (x1.toInt).toNat = xl72.toInt := rw_w_of (m := a0) (i := x3) (c := x1) hxr68 exr71 exl72; have rf_xl95 : rw_w E a0 (x2.toInt) (x1.toInt).toNat = xl95.toInt := rw_w_of (m := a0) (i := x2) (c := x1) hxr68 exr69 exl95; have rf_xl97 : rw_w E a0 (x4.toInt) (x1.toInt).toNat = xl97.toInt := rw_w_of (m := a0) (i := x4) (c := x1) hxr68 exr96 exl97; have rf_xl105 : rw_w E a0 (x3.toInt) (x1.toInt).toNat = xl105.toInt := rw_w_of (m := a0) (i := x3) (c := x1) hxr68 exr71 exl105; have rf_xl107 : rw_w E a0 (x4.toInt) (x1.toInt).toNat = xl107.toInt := rw_w_of (m := a0) (i := x4) (c := x1) hxr68 exr96 exl107; have e2 : ((2 : Int32).toInt) = 2 := (by decide); have e3 : ((3 : Int32).toInt) = 3 := (by decide); obtain ⟨σ, hσ⟩ := st_flag E a0 (x1.toInt) 2 (x2.toInt) (x3.toInt); obtain ⟨τ, hτ⟩ := st_flag E a0 (x1.toInt) 3 (x2.toInt) (x3.toInt); unfold un_w un_p; rw [← hσ, ← hτ]; have hc := hpoxc115_0; (try rw [e2] at hc); (try rw [e3] at hc); (try (have hcc := hσ.trans hc.symm)); (try (have hcc := hτ.trans hc.symm)); clear hc; clear hσ hτ; omega), (by  have rf_xe3 : rw_h E a0 (x2.toInt) (x1.toInt).toNat = xe3.toInt := rw_h_of (m := a0) (i := x2) (c := x1) hxr1 exr2 exe3; have rf_xe7 : rw_h E a0 (x3.toInt) (x1.toInt).toNat = xe7.toInt := rw_h_of (m := a0) (i := x3) (c := x1) hxr1 exr6 exe7; have rf_xe79 : rw_h E a0 (x4.toInt) (x1.toInt).toNat = xe79.toInt := rw_h_of (m := a0) (i := x4) (c := x1) hxr1 exr78 exe79; intro a1 a2 a3 a4; (try rw [rf_xe3] at a1); (try rw [rf_xe3] at a2); (try rw [rf_xe3] at a4); (try rw [rf_xe7] at a1); (try rw [rf_xe7] at a2); (try rw [rf_xe7] at a4); (try rw [rf_xe79] at a1); (try rw [rf_xe79] at a2); (try rw [rf_xe79] at a4); (try omega))⟩, rfl, rfl, rfl⟩ (Nat.le_of_ble_eq_true rfl) (Nat.le_of_ble_eq_true rfl) dX12_sideOf_238
                        · have hf118 : xc115.toInt = (-1) := by have z := (fa_eq _ _).mp hc116; have : (((-1) : Int32).toInt) = (-1) := (by decide); omega
                          refine lv_bipush (v := (-2)) hx hb dX12_sideOf_231 (by decide) ?_
                          refine lv_goto (tgt := 238) hx hb dX12_sideOf_233 (by decide) ?_
                          exact tw_iret hx hb hr hlocks TH hS hex ⟨⟨_, rfl, (show (-2) ≤ Int32.toInt (-2) from by have : (((-2) : Int32).toInt) = (-2) := (by decide); omega), (show Int32.toInt (-2) ≤ 15 from by have : (((-2) : Int32).toInt) = (-2) := (by decide); omega), (by have : (((-2) : Int32).toInt) = (-2) := (by decide); have rf_xe3 : rw_h E a0 (x2.toInt) (x1.toInt).toNat = xe3.toInt := rw_h_of (m := a0) (i := x2) (c := x1) hxr1 exr2 exe3; have rf_xe7 : rw_h E a0 (x3.toInt) (x1.toInt).toNat = xe7.toInt := rw_h_of (m := a0) (i := x3) (c := x1) hxr1 exr6 exe7; have rf_xe79 : rw_h E a0 (x4.toInt) (x1.toInt).toNat = xe79.toInt := rw_h_of (m := a0) (i := x4) (c := x1) hxr1 exr78 exe79; have rf_xl70 : rw_w E a0 (x2.toInt) (x1.toInt).toNat = xl70.toInt := rw_w_of (m := a0) (i := x2) (c := x1) hxr68 exr69 exl70; have rf_xl72 : rw_w E a0 (x3.toInt) (x1.toInt).toNat = xl72.toInt := rw_w_of (m := a0) (i := x3) (c := x1) hxr68 exr71 exl72; have rf_xl95 : rw_w E a0 (x2.toInt) (x1.toInt).toNat = xl95.toInt := rw_w_of (m := a0) (i := x2) (c := x1) hxr68 exr69 exl95; have rf_xl97 : rw_w E a0 (x4.toInt) (x1.toInt).toNat = xl97.toInt := rw_w_of (m := a0) (i := x4) (c := x1) hxr68 exr96 exl97; have rf_xl105 : rw_w E a0 (x3.toInt) (x1.toInt).toNat = xl105.toInt := rw_w_of (m := a0) (i := x3) (c := x1) hxr68 exr71 exl105; have rf_xl107 : rw_w E a0 (x4.toInt) (x1.toInt).toNat = xl107.toInt := rw_w_of (m := a0) (i := x4) (c := x1) hxr68 exr96 exl107; have e2 : ((2 : Int32).toInt) = 2 := (by decide); have e3 : ((3 : Int32).toInt) = 3 := (by decide); obtain ⟨σ, hσ⟩ := st_flag E a0 (x1.toInt) 2 (x2.toInt) (x3.toInt); obtain ⟨τ, hτ⟩ := st_flag E a0 (x1.toInt) 3 (x2.toInt) (x3.toInt); unfold un_w un_p; rw [← hσ, ← hτ]; have hc := hpoxc115_0; (try rw [e2] at hc); (try rw [e3] at hc); (try (have hcc := hσ.trans hc.symm)); (try (have hcc := hτ.trans hc.symm)); clear hc; clear hσ hτ; omega), (by have : (((-2) : Int32).toInt) = (-2) := (by decide); have rf_xe3 : rw_h E a0 (x2.toInt) (x1.toInt).toNat = xe3.toInt := rw_h_of (m := a0) (i := x2) (c := x1) hxr1 exr2 exe3; have rf_xe7 : rw_h E a0 (x3.toInt) (x1.toInt).toNat = xe7.toInt := rw_h_of (m := a0) (i := x3) (c := x1) hxr1 exr6 exe7; have rf_xe79 : rw_h E a0 (x4.toInt) (x1.toInt).toNat = xe79.toInt := rw_h_of (m := a0) (i := x4) (c := x1) hxr1 exr78 exe79; intro a1 a2 a3 a4; (try rw [rf_xe3] at a1); (try rw [rf_xe3] at a2); (try rw [rf_xe3] at a4); (try rw [rf_xe7] at a1); (try rw [rf_xe7] at a2); (try rw [rf_xe7] at a4); (try rw [rf_xe79] at a1); (try rw [rf_xe79] at a2); (try rw [rf_xe79] at a4); (try omega))⟩, rfl, rfl, rfl⟩ (Nat.le_of_ble_eq_true rfl) (Nat.le_of_ble_eq_true rfl) dX12_sideOf_238
                    · have hf119 : zi108.toInt = 0 := by have z := (fa_eq _ _).mp hc109; have : ((0 : Int32).toInt) = 0 := (by decide); omega
                      refine lv_goto (tgt := 204) hx hb dX12_sideOf_181 (by decide) ?_
                      refine lv_iload_n hx hb dX12_sideOf_204 rfl (lv_at hl 3 rfl) ?_
                      exact tw_iret hx hb hr hlocks TH hS hex ⟨⟨_, rfl, (show (-2) ≤ Int32.toInt x2 from by  omega), (show Int32.toInt x2 ≤ 15 from by  omega), (by  have rf_xe3 : rw_h E a0 (x2.toInt) (x1.toInt).toNat = xe3.toInt := rw_h_of (m := a0) (i := x2) (c := x1) hxr1 exr2 exe3; have rf_xe7 : rw_h E a0 (x3.toInt) (x1.toInt).toNat = xe7.toInt := rw_h_of (m := a0) (i := x3) (c := x1) hxr1 exr6 exe7; have rf_xe79 : rw_h E a0 (x4.toInt) (x1.toInt).toNat = xe79.toInt := rw_h_of (m := a0) (i := x4) (c := x1) hxr1 exr78 exe79; have rf_xl70 : rw_w E a0 (x2.toInt) (x1.toInt).toNat = xl70.toInt := rw_w_of (m := a0) (i := x2) (c := x1) hxr68 exr69 exl70; have rf_xl72 : rw_w E a0 (x3.toInt) (x1.toInt).toNat = xl72.toInt := rw_w_of (m := a0) (i := x3) (c := x1) hxr68 exr71 exl72; have rf_xl95 : rw_w E a0 (x2.toInt) (x1.toInt).toNat = xl95.toInt := rw_w_of (m := a0) (i := x2) (c := x1) hxr68 exr69 exl95; have rf_xl97 : rw_w E a0 (x4.toInt) (x1.toInt).toNat = xl97.toInt := rw_w_of (m := a0) (i := x4) (c := x1) hxr68 exr96 exl97; have rf_xl105 : rw_w E a0 (x3.toInt) (x1.toInt).toNat = xl105.toInt := rw_w_of (m := a0) (i := x3) (c := x1) hxr68 exr71 exl105; have rf_xl107 : rw_w E a0 (x4.toInt) (x1.toInt).toNat = xl107.toInt := rw_w_of (m := a0) (i := x4) (c := x1) hxr68 exr96 exl107; have e2 : ((2 : Int32).toInt) = 2 := (by decide); have e3 : ((3 : Int32).toInt) = 3 := (by decide); obtain ⟨σ, hσ⟩ := st_flag E a0 (x1.toInt) 2 (x2.toInt) (x3.toInt); obtain ⟨τ, hτ⟩ := st_flag E a0 (x1.toInt) 3 (x2.toInt) (x3.toInt); unfold un_w un_p; rw [← hσ, ← hτ]; clear hσ hτ; omega), (by  have rf_xe3 : rw_h E a0 (x2.toInt) (x1.toInt).toNat = xe3.toInt := rw_h_of (m := a0) (i := x2) (c := x1) hxr1 exr2 exe3; have rf_xe7 : rw_h E a0 (x3.toInt) (x1.toInt).toNat = xe7.toInt := rw_h_of (m := a0) (i := x3) (c := x1) hxr1 exr6 exe7; have rf_xe79 : rw_h E a0 (x4.toInt) (x1.toInt).toNat = xe79.toInt := rw_h_of (m := a0) (i := x4) (c := x1) hxr1 exr78 exe79; intro a1 a2 a3 a4; (try rw [rf_xe3] at a1); (try rw [rf_xe3] at a2); (try rw [rf_xe3] at a4); (try rw [rf_xe7] at a1); (try rw [rf_xe7] at a2); (try rw [rf_xe7] at a4); (try rw [rf_xe79] at a1); (try rw [rf_xe79] at a2); (try rw [rf_xe79] at a4); (try omega))⟩, rfl, rfl, rfl⟩ (Nat.le_of_ble_eq_true rfl) (Nat.le_of_ble_eq_true rfl) dX12_sideOf_205
                · have hf120 : zi98.toInt = 0 := by have z := (fa_eq _ _).mp hc99; have : ((0 : Int32).toInt) = 0 := (by decide); omega
                  refine lv_goto (tgt := 153) hx hb dX12_sideOf_130 (by decide) ?_
                  refine lv_iload_n hx hb dX12_sideOf_153 rfl (lv_at hl 4 rfl) ?_
                  exact tw_iret hx hb hr hlocks TH hS hex ⟨⟨_, rfl, (show (-2) ≤ Int32.toInt x3 from by  omega), (show Int32.toInt x3 ≤ 15 from by  omega), (by  have rf_xe3 : rw_h E a0 (x2.toInt) (x1.toInt).toNat = xe3.toInt := rw_h_of (m := a0) (i := x2) (c := x1) hxr1 exr2 exe3; have rf_xe7 : rw_h E a0 (x3.toInt) (x1.toInt).toNat = xe7.toInt := rw_h_of (m := a0) (i := x3) (c := x1) hxr1 exr6 exe7; have rf_xe79 : rw_h E a0 (x4.toInt) (x1.toInt).toNat = xe79.toInt := rw_h_of (m := a0) (i := x4) (c := x1) hxr1 exr78 exe79; have rf_xl70 : rw_w E a0 (x2.toInt) (x1.toInt).toNat = xl70.toInt := rw_w_of (m := a0) (i := x2) (c := x1) hxr68 exr69 exl70; have rf_xl72 : rw_w E a0 (x3.toInt) (x1.toInt).toNat = xl72.toInt := rw_w_of (m := a0) (i := x3) (c := x1) hxr68 exr71 exl72; have rf_xl95 : rw_w E a0 (x2.toInt) (x1.toInt).toNat = xl95.toInt := rw_w_of (m := a0) (i := x2) (c := x1) hxr68 exr69 exl95; have rf_xl97 : rw_w E a0 (x4.toInt) (x1.toInt).toNat = xl97.toInt := rw_w_of (m := a0) (i := x4) (c := x1) hxr68 exr96 exl97; have e2 : ((2 : Int32).toInt) = 2 := (by decide); have e3 : ((3 : Int32).toInt) = 3 := (by decide); obtain ⟨σ, hσ⟩ := st_flag E a0 (x1.toInt) 2 (x2.toInt) (x3.toInt); obtain ⟨τ, hτ⟩ := st_flag E a0 (x1.toInt) 3 (x2.toInt) (x3.toInt); unfold un_w un_p; rw [← hσ, ← hτ]; clear hσ hτ; omega), (by  have rf_xe3 : rw_h E a0 (x2.toInt) (x1.toInt).toNat = xe3.toInt := rw_h_of (m := a0) (i := x2) (c := x1) hxr1 exr2 exe3; have rf_xe7 : rw_h E a0 (x3.toInt) (x1.toInt).toNat = xe7.toInt := rw_h_of (m := a0) (i := x3) (c := x1) hxr1 exr6 exe7; have rf_xe79 : rw_h E a0 (x4.toInt) (x1.toInt).toNat = xe79.toInt := rw_h_of (m := a0) (i := x4) (c := x1) hxr1 exr78 exe79; intro a1 a2 a3 a4; (try rw [rf_xe3] at a1); (try rw [rf_xe3] at a2); (try rw [rf_xe3] at a4); (try rw [rf_xe7] at a1); (try rw [rf_xe7] at a2); (try rw [rf_xe7] at a4); (try rw [rf_xe79] at a1); (try rw [rf_xe79] at a2); (try rw [rf_xe79] at a4); (try omega))⟩, rfl, rfl, rfl⟩ (Nat.le_of_ble_eq_true rfl) (Nat.le_of_ble_eq_true rfl) dX12_sideOf_154
          · have hf121 : ¬ (0 = 0) := fun q => hc76 ((fa_eq _ _).mpr (by have : ((0 : Int32).toInt) = 0 := (by decide); omega))
            exfalso; omega
        · have hf122 : zi73.toInt = 0 := by have z := (fa_eq _ _).mp hc74; have : ((0 : Int32).toInt) = 0 := (by decide); omega
          refine lv_iconst (v := 1) hx hb dX12_sideOf_51 (by decide) ?_
          refine lv_goto (tgt := 83) hx hb dX12_sideOf_52 (by decide) ?_
          refine lv_istore (lv' := [(6, .int 1), (0, .ref a0), (1, .int x1), (2, .int x2), (3, .int x3), (4, .int x4), (5, .int x5)]) hx hb dX12_sideOf_83 hl (by decide) rfl (fun ls hl => ?_)
          refine lv_iload hx hb dX12_sideOf_85 (lv_at hl 0 rfl) ?_
          refine lv_if_eq (tgt := 92) hx hb dX12_sideOf_87 (by decide) (fun hc123 => ?_) (fun hc123 => ?_)
          · have hf124 : 1 = 0 := by have z := (fa_eq _ _).mp hc123; have : ((0 : Int32).toInt) = 0 := (by decide); have : ((1 : Int32).toInt) = 1 := (by decide); omega
            exfalso; omega
          · have hf125 : ¬ (1 = 0) := fun q => hc123 ((fa_eq _ _).mpr (by have : ((0 : Int32).toInt) = 0 := (by decide); have : ((1 : Int32).toInt) = 1 := (by decide); omega))
            refine lv_iload_n hx hb dX12_sideOf_90 rfl (lv_at hl 3 rfl) ?_
            exact tw_iret hx hb hr hlocks TH hS hex ⟨⟨_, rfl, (show (-2) ≤ Int32.toInt x2 from by  omega), (show Int32.toInt x2 ≤ 15 from by  omega), (by  have rf_xe3 : rw_h E a0 (x2.toInt) (x1.toInt).toNat = xe3.toInt := rw_h_of (m := a0) (i := x2) (c := x1) hxr1 exr2 exe3; have rf_xe7 : rw_h E a0 (x3.toInt) (x1.toInt).toNat = xe7.toInt := rw_h_of (m := a0) (i := x3) (c := x1) hxr1 exr6 exe7; have rf_xl70 : rw_w E a0 (x2.toInt) (x1.toInt).toNat = xl70.toInt := rw_w_of (m := a0) (i := x2) (c := x1) hxr68 exr69 exl70; have rf_xl72 : rw_w E a0 (x3.toInt) (x1.toInt).toNat = xl72.toInt := rw_w_of (m := a0) (i := x3) (c := x1) hxr68 exr71 exl72; have e2 : ((2 : Int32).toInt) = 2 := (by decide); have e3 : ((3 : Int32).toInt) = 3 := (by decide); obtain ⟨σ, hσ⟩ := st_flag E a0 (x1.toInt) 2 (x2.toInt) (x3.toInt); obtain ⟨τ, hτ⟩ := st_flag E a0 (x1.toInt) 3 (x2.toInt) (x3.toInt); unfold un_w un_p; rw [← hσ, ← hτ]; clear hσ hτ; omega), (by  have rf_xe3 : rw_h E a0 (x2.toInt) (x1.toInt).toNat = xe3.toInt := rw_h_of (m := a0) (i := x2) (c := x1) hxr1 exr2 exe3; have rf_xe7 : rw_h E a0 (x3.toInt) (x1.toInt).toNat = xe7.toInt := rw_h_of (m := a0) (i := x3) (c := x1) hxr1 exr6 exe7; intro a1 a2 a3 a4; (try rw [rf_xe3] at a1); (try rw [rf_xe3] at a2); (try rw [rf_xe3] at a4); (try rw [rf_xe7] at a1); (try rw [rf_xe7] at a2); (try rw [rf_xe7] at a4); (try omega))⟩, rfl, rfl, rfl⟩ (Nat.le_of_ble_eq_true rfl) (Nat.le_of_ble_eq_true rfl) dX12_sideOf_91
    · have hf126 : xe7.toInt = 0 := by have z := (fa_eq _ _).mp hc8; have : ((0 : Int32).toInt) = 0 := (by decide); omega
      refine lv_iload_n hx hb dX12_sideOf_24 rfl (lv_at hl 2 rfl) ?_
      exact tw_iret hx hb hr hlocks TH hS hex ⟨⟨_, rfl, (show (-2) ≤ Int32.toInt x2 from by  omega), (show Int32.toInt x2 ≤ 15 from by  omega), (by  have rf_xe3 : rw_h E a0 (x2.toInt) (x1.toInt).toNat = xe3.toInt := rw_h_of (m := a0) (i := x2) (c := x1) hxr1 exr2 exe3; have rf_xe7 : rw_h E a0 (x3.toInt) (x1.toInt).toNat = xe7.toInt := rw_h_of (m := a0) (i := x3) (c := x1) hxr1 exr6 exe7; have e2 : ((2 : Int32).toInt) = 2 := (by decide); have e3 : ((3 : Int32).toInt) = 3 := (by decide); obtain ⟨σ, hσ⟩ := st_flag E a0 (x1.toInt) 2 (x2.toInt) (x3.toInt); obtain ⟨τ, hτ⟩ := st_flag E a0 (x1.toInt) 3 (x2.toInt) (x3.toInt); unfold un_w un_p; rw [← hσ, ← hτ]; clear hσ hτ; omega), (by  have rf_xe3 : rw_h E a0 (x2.toInt) (x1.toInt).toNat = xe3.toInt := rw_h_of (m := a0) (i := x2) (c := x1) hxr1 exr2 exe3; have rf_xe7 : rw_h E a0 (x3.toInt) (x1.toInt).toNat = xe7.toInt := rw_h_of (m := a0) (i := x3) (c := x1) hxr1 exr6 exe7; intro a1 a2 a3 a4; (try rw [rf_xe3] at a1); (try rw [rf_xe3] at a2); (try rw [rf_xe3] at a4); (try rw [rf_xe7] at a1); (try rw [rf_xe7] at a2); (try rw [rf_xe7] at a4); (try omega))⟩, rfl, rfl, rfl⟩ (Nat.le_of_ble_eq_true rfl) (Nat.le_of_ble_eq_true rfl) dX12_sideOf_25
  · have hf127 : xe3.toInt = 0 := by have z := (fa_eq _ _).mp hc4; have : ((0 : Int32).toInt) = 0 := (by decide); omega
    refine lv_iload_n hx hb dX12_sideOf_11 rfl (lv_at hl 3 rfl) ?_
    exact tw_iret hx hb hr hlocks TH hS hex ⟨⟨_, rfl, (show (-2) ≤ Int32.toInt x3 from by  omega), (show Int32.toInt x3 ≤ 15 from by  omega), (by  have rf_xe3 : rw_h E a0 (x2.toInt) (x1.toInt).toNat = xe3.toInt := rw_h_of (m := a0) (i := x2) (c := x1) hxr1 exr2 exe3; have e2 : ((2 : Int32).toInt) = 2 := (by decide); have e3 : ((3 : Int32).toInt) = 3 := (by decide); obtain ⟨σ, hσ⟩ := st_flag E a0 (x1.toInt) 2 (x2.toInt) (x3.toInt); obtain ⟨τ, hτ⟩ := st_flag E a0 (x1.toInt) 3 (x2.toInt) (x3.toInt); unfold un_w un_p; rw [← hσ, ← hτ]; clear hσ hτ; omega), (by  have rf_xe3 : rw_h E a0 (x2.toInt) (x1.toInt).toNat = xe3.toInt := rw_h_of (m := a0) (i := x2) (c := x1) hxr1 exr2 exe3; intro a1 a2 a3 a4; (try rw [rf_xe3] at a1); (try rw [rf_xe3] at a2); (try rw [rf_xe3] at a4); (try omega))⟩, rfl, rfl, rfl⟩ (Nat.le_of_ble_eq_true rfl) (Nat.le_of_ble_eq_true rfl) dX12_sideOf_12
