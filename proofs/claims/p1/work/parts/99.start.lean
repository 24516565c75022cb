set_option maxHeartbeats 4000000 in
set_option maxRecDepth 100000 in
theorem law_head {p : Program} {l : Launch} {e : Env} {s : State} {m : MethodId} {below : List Frame} {meth : Method} {c : Code} {D : va_G} {cs : Nat → ClassId} {A : Nat → Prop} {b : Nat} {xs : Nat → Int32} (mq xq : Nat) (ux um : Nat → Nat) (gm : Nat → (Nat → Int32) × (Nat → Nat)) (hx : p.tables.exec = Jvm.exec) (hb : c.code = cL_law) (hr : meth.sig.returnType = ret) (hml : c.maxLocals = 4) (hB : ∀ w ∈ cx_big, w.before #[Value.ref b] s = true) (hown : s.vm.findClass "TreeMergeLaw" = some m.cls) (hlocks : meth.locks = false) (hK : va_K D vwCl (cx_TY cs) s) (hN : cx_NW s) (hA : ∀ q : Nat, s.heap.size ≤ q → A q) (hA2 : ∀ q : Nat, A q → s.heap.size ≤ q) (hbA : ¬ A b) (hbl : b < s.heap.size) (hX : va_X b 6 xs s s.heap) (H : Heap) (locs : List Loc) (hP : va_P D vwCl [(xq, .inr (11, [.ref (ux 0), .ref (ux 1), .ref (ux 2), .ref (ux 3), .ref (ux 4), .ref (ux 5), .ref (ux 6), .ref (ux 7), .ref (ux 8), .ref (ux 9), .ref (ux 10), .ref (ux 11), .ref (ux 12), .ref (ux 13), .ref (ux 14), .int 0, .ref (ux 15), .int 0, .ref (ux 16)])), ((ux 0), .inr (9, [.ref (ux 17), .int 0, .int 0, .int 0, .int 0])), ((ux 17), .inl (cs 0, 500, .inl (fun _ => 0))), ((ux 1), .inr (2, [.ref (ux 18), .int 0, .ref (ux 19), .ref (ux 20), .ref (ux 21), .ref (ux 22), .ref (ux 23), .int 0, .ref (ux 24), .ref (ux 25), .ref (ux 26), .ref (ux 27), .ref (ux 28)])), ((ux 2), .inr (2, [.ref (ux 29), .int 0, .ref (ux 30), .ref (ux 31), .ref (ux 32), .ref (ux 33), .ref (ux 34), .int 0, .ref (ux 35), .ref (ux 36), .ref (ux 37), .ref (ux 38), .ref (ux 39)])), ((ux 29), .inl (cs 0, 500, .inl (fun _ => 0))), ((ux 3), .inr (10, [.int 0, .ref (ux 40), .ref (ux 41), .ref (ux 42), .ref (ux 43), .ref (ux 44), .ref (ux 45), .ref (ux 46)])), ((ux 7), .inr (1, [.int 0, .ref (ux 47), .ref (ux 48), .ref (ux 49), .ref (ux 50)])), ((ux 8), .inr (0, [.int 0, .int 0, .ref (ux 51), .ref (ux 52)])), ((ux 9), .inr (7, [.int 0, .ref (ux 53)])), ((ux 53), .inl (cs 0, 450, .inl (fun _ => 0))), (mq, .inr (12, [.ref (um 0), .int 0, .int 0, .int 0, .int 0, .ref (um 1), .ref (um 2), .ref (um 3), .ref (um 4), .ref (um 5), .ref (um 6), .ref (um 7), .ref (um 8), .ref (um 9), .int 0, .int 0, .ref (um 10), .ref (um 11), .ref (um 12), .ref (um 13), .ref (um 14), .ref (um 15), .ref (um 16), .ref (um 17), .ref (um 18), .ref (um 19), .int 0, .int 0, .int 0, .int 0, .ref (um 20), .ref (um 21), .ref (um 22), .ref (um 23), .ref (um 24), .ref (um 25), .ref (um 26), .ref (um 27), .ref (um 28), .ref (um 29), .ref (um 30), .ref (um 31), .ref (um 32), .ref (um 33), .ref (um 34), .ref (um 35), .ref (um 36), .ref (um 37), .ref (um 38), .ref (um 39), .int 0, .int 0, .int 0, .ref (um 40), .ref (um 41), .ref (um 42), .ref (um 43), .int 0, .int 0, .ref (um 44), .ref (um 45), .ref (um 46), .ref (um 47), .int 0])), ((um 0), .inl (cs 2, 500, .inl (fun _ => 0))), ((um 10), .inl (cs 5, 16, .inr (.inr (.inr (.inr (fun i => if i < 16 then some (((gm 0).2) i) else none)))))), ((((gm 0).2) 15), .inl (cs 3, 150, .inl (fun _ => 0)))] H) (hD : va_D A [(xq, .inr (11, [.ref (ux 0), .ref (ux 1), .ref (ux 2), .ref (ux 3), .ref (ux 4), .ref (ux 5), .ref (ux 6), .ref (ux 7), .ref (ux 8), .ref (ux 9), .ref (ux 10), .ref (ux 11), .ref (ux 12), .ref (ux 13), .ref (ux 14), .int 0, .ref (ux 15), .int 0, .ref (ux 16)])), ((ux 0), .inr (9, [.ref (ux 17), .int 0, .int 0, .int 0, .int 0])), ((ux 17), .inl (cs 0, 500, .inl (fun _ => 0))), ((ux 1), .inr (2, [.ref (ux 18), .int 0, .ref (ux 19), .ref (ux 20), .ref (ux 21), .ref (ux 22), .ref (ux 23), .int 0, .ref (ux 24), .ref (ux 25), .ref (ux 26), .ref (ux 27), .ref (ux 28)])), ((ux 2), .inr (2, [.ref (ux 29), .int 0, .ref (ux 30), .ref (ux 31), .ref (ux 32), .ref (ux 33), .ref (ux 34), .int 0, .ref (ux 35), .ref (ux 36), .ref (ux 37), .ref (ux 38), .ref (ux 39)])), ((ux 29), .inl (cs 0, 500, .inl (fun _ => 0))), ((ux 3), .inr (10, [.int 0, .ref (ux 40), .ref (ux 41), .ref (ux 42), .ref (ux 43), .ref (ux 44), .ref (ux 45), .ref (ux 46)])), ((ux 7), .inr (1, [.int 0, .ref (ux 47), .ref (ux 48), .ref (ux 49), .ref (ux 50)])), ((ux 8), .inr (0, [.int 0, .int 0, .ref (ux 51), .ref (ux 52)])), ((ux 9), .inr (7, [.int 0, .ref (ux 53)])), ((ux 53), .inl (cs 0, 450, .inl (fun _ => 0))), (mq, .inr (12, [.ref (um 0), .int 0, .int 0, .int 0, .int 0, .ref (um 1), .ref (um 2), .ref (um 3), .ref (um 4), .ref (um 5), .ref (um 6), .ref (um 7), .ref (um 8), .ref (um 9), .int 0, .int 0, .ref (um 10), .ref (um 11), .ref (um 12), .ref (um 13), .ref (um 14), .ref (um 15), .ref (um 16), .ref (um 17), .ref (um 18), .ref (um 19), .int 0, .int 0, .int 0, .int 0, .ref (um 20), .ref (um 21), .ref (um 22), .ref (um 23), .ref (um 24), .ref (um 25), .ref (um 26), .ref (um 27), .ref (um 28), .ref (um 29), .ref (um 30), .ref (um 31), .ref (um 32), .ref (um 33), .ref (um 34), .ref (um 35), .ref (um 36), .ref (um 37), .ref (um 38), .ref (um 39), .int 0, .int 0, .int 0, .ref (um 40), .ref (um 41), .ref (um 42), .ref (um 43), .int 0, .int 0, .ref (um 44), .ref (um 45), .ref (um 46), .ref (um 47), .int 0])), ((um 0), .inl (cs 2, 500, .inl (fun _ => 0))), ((um 10), .inl (cs 5, 16, .inr (.inr (.inr (.inr (fun i => if i < 16 then some (((gm 0).2) i) else none)))))), ((((gm 0).2) 15), .inl (cs 3, 150, .inl (fun _ => 0)))]) (hS : va_S A s.heap H locs) (ls : Array Slot) (hl : lv_has ls 4 [(3, .int 0), (2, .ref mq), (1, .ref xq), (0, .ref b)]) : W p l e room_1 s m #[Value.ref b] below meth c H locs 341 67325 (lw_Z below #[Value.ref b] s) (F0 m 18 ls []) := by
  refine lv_iload_n hx hb dL_law_18 rfl (lv_at hl 0 rfl) ?_
  refine lv_aload_n hx hb dL_law_19 rfl (lv_at hl 3 rfl) ?_
  refine va_slen hx hb hX hbl hbA hS dL_law_20 ?_
  refine cx_topi (w := 6) (by decide) ?_
  refine lv_bipush (v := 6) hx hb dL_law_21 (by decide) ?_
  refine lv_isub hx hb dL_law_23 ?_
  refine cx_topi (w := 0) (by decide) ?_
  refine lv_icmp_gt (tgt := 1185) hx hb dL_law_24 (by decide) (fun hq => absurd hq (by decide)) (fun _ => ?_)
  refine lv_aload_n hx hb dL_law_27 rfl (lv_at hl 3 rfl) ?_
  refine lv_iload_n hx hb dL_law_28 rfl (lv_at hl 0 rfl) ?_
  refine va_sld hx hb hX hbl hbA hS (i := 0) (cx_in (by decide +kernel)) dL_law_29 ?_
  refine lv_bipush (v := 31) hx hb dL_law_30 (by decide) ?_
  refine lv_iand hx hb dL_law_32 ?_
  by_cases hc1_0 : ((xs (Int32.toNatClampNeg 0)) &&& 31) = 0
  · refine lv_tableIn (x := ((xs (Int32.toNatClampNeg 0)) &&& 31)) (off := 143) (tgt := 176) hx hb dL_law_33 (by rw [hc1_0]; decide) (by rw [hc1_0]; decide) (by rw [hc1_0]; decide) (by decide) ?_
    exact law_op0 mq xq ux um gm hx hb hr hml hB hown hlocks hK hN hA hA2 hbA hbl hX _ _ hP hD hS ls (lv_sub hl [0, 1, 2, 3] rfl)
  by_cases hc1_1 : ((xs (Int32.toNatClampNeg 0)) &&& 31) = 1
  · refine lv_tableIn (x := ((xs (Int32.toNatClampNeg 0)) &&& 31)) (off := 206) (tgt := 239) hx hb dL_law_33 (by rw [hc1_1]; decide) (by rw [hc1_1]; decide) (by rw [hc1_1]; decide) (by decide) ?_
    exact law_op1 mq xq ux um gm hx hb hr hml hB hown hlocks hK hN hA hA2 hbA hbl hX _ _ hP hD hS ls (lv_sub hl [0, 1, 2, 3] rfl)
  by_cases hc1_2 : ((xs (Int32.toNatClampNeg 0)) &&& 31) = 2
  · refine lv_tableIn (x := ((xs (Int32.toNatClampNeg 0)) &&& 31)) (off := 229) (tgt := 262) hx hb dL_law_33 (by rw [hc1_2]; decide) (by rw [hc1_2]; decide) (by rw [hc1_2]; decide) (by decide) ?_
    exact law_op2 mq xq ux um gm hx hb hr hml hB hown hlocks hK hN hA hA2 hbA hbl hX _ _ hP hD hS ls (lv_sub hl [0, 1, 2, 3] rfl)
  by_cases hc1_3 : ((xs (Int32.toNatClampNeg 0)) &&& 31) = 3
  · refine lv_tableIn (x := ((xs (Int32.toNatClampNeg 0)) &&& 31)) (off := 268) (tgt := 301) hx hb dL_law_33 (by rw [hc1_3]; decide) (by rw [hc1_3]; decide) (by rw [hc1_3]; decide) (by decide) ?_
    exact law_op3 mq xq ux um gm hx hb hr hml hB hown hlocks hK hN hA hA2 hbA hbl hX _ _ hP hD hS ls (lv_sub hl [0, 1, 2, 3] rfl)
  by_cases hc1_4 : ((xs (Int32.toNatClampNeg 0)) &&& 31) = 4
  · refine lv_tableIn (x := ((xs (Int32.toNatClampNeg 0)) &&& 31)) (off := 281) (tgt := 314) hx hb dL_law_33 (by rw [hc1_4]; decide) (by rw [hc1_4]; decide) (by rw [hc1_4]; decide) (by decide) ?_
    exact law_op4 mq xq ux um gm hx hb hr hml hB hown hlocks hK hN hA hA2 hbA hbl hX _ _ hP hD hS ls (lv_sub hl [0, 1, 2, 3] rfl)
  by_cases hc1_5 : ((xs (Int32.toNatClampNeg 0)) &&& 31) = 5
  · refine lv_tableIn (x := ((xs (Int32.toNatClampNeg 0)) &&& 31)) (off := 294) (tgt := 327) hx hb dL_law_33 (by rw [hc1_5]; decide) (by rw [hc1_5]; decide) (by rw [hc1_5]; decide) (by decide) ?_
    exact law_op5 mq xq ux um gm hx hb hr hml hB hown hlocks hK hN hA hA2 hbA hbl hX _ _ hP hD hS ls (lv_sub hl [0, 1, 2, 3] rfl)
  by_cases hc1_6 : ((xs (Int32.toNatClampNeg 0)) &&& 31) = 6
  · refine lv_tableIn (x := ((xs (Int32.toNatClampNeg 0)) &&& 31)) (off := 307) (tgt := 340) hx hb dL_law_33 (by rw [hc1_6]; decide) (by rw [hc1_6]; decide) (by rw [hc1_6]; decide) (by decide) ?_
    exact law_op6 mq xq ux um gm hx hb hr hml hB hown hlocks hK hN hA hA2 hbA hbl hX _ _ hP hD hS ls (lv_sub hl [0, 1, 2, 3] rfl)
  by_cases hc1_7 : ((xs (Int32.toNatClampNeg 0)) &&& 31) = 7
  · refine lv_tableIn (x := ((xs (Int32.toNatClampNeg 0)) &&& 31)) (off := 340) (tgt := 373) hx hb dL_law_33 (by rw [hc1_7]; decide) (by rw [hc1_7]; decide) (by rw [hc1_7]; decide) (by decide) ?_
    exact law_op7 mq xq ux um gm hx hb hr hml hB hown hlocks hK hN hA hA2 hbA hbl hX _ _ hP hD hS ls (lv_sub hl [0, 1, 2, 3] rfl)
  by_cases hc1_8 : ((xs (Int32.toNatClampNeg 0)) &&& 31) = 8
  · refine lv_tableIn (x := ((xs (Int32.toNatClampNeg 0)) &&& 31)) (off := 363) (tgt := 396) hx hb dL_law_33 (by rw [hc1_8]; decide) (by rw [hc1_8]; decide) (by rw [hc1_8]; decide) (by decide) ?_
    exact law_op8 mq xq ux um gm hx hb hr hml hB hown hlocks hK hN hA hA2 hbA hbl hX _ _ hP hD hS ls (lv_sub hl [0, 1, 2, 3] rfl)
  by_cases hc1_9 : ((xs (Int32.toNatClampNeg 0)) &&& 31) = 9
  · refine lv_tableIn (x := ((xs (Int32.toNatClampNeg 0)) &&& 31)) (off := 386) (tgt := 419) hx hb dL_law_33 (by rw [hc1_9]; decide) (by rw [hc1_9]; decide) (by rw [hc1_9]; decide) (by decide) ?_
    exact law_op9 mq xq ux um gm hx hb hr hml hB hown hlocks hK hN hA hA2 hbA hbl hX _ _ hP hD hS ls (lv_sub hl [0, 1, 2, 3] rfl)
  by_cases hc1_10 : ((xs (Int32.toNatClampNeg 0)) &&& 31) = 10
  · refine lv_tableIn (x := ((xs (Int32.toNatClampNeg 0)) &&& 31)) (off := 399) (tgt := 432) hx hb dL_law_33 (by rw [hc1_10]; decide) (by rw [hc1_10]; decide) (by rw [hc1_10]; decide) (by decide) ?_
    exact law_op10 mq xq ux um gm hx hb hr hml hB hown hlocks hK hN hA hA2 hbA hbl hX _ _ hP hD hS ls (lv_sub hl [0, 1, 2, 3] rfl)
  by_cases hc1_11 : ((xs (Int32.toNatClampNeg 0)) &&& 31) = 11
  · refine lv_tableIn (x := ((xs (Int32.toNatClampNeg 0)) &&& 31)) (off := 482) (tgt := 515) hx hb dL_law_33 (by rw [hc1_11]; decide) (by rw [hc1_11]; decide) (by rw [hc1_11]; decide) (by decide) ?_
    exact law_op11 mq xq ux um gm hx hb hr hml hB hown hlocks hK hN hA hA2 hbA hbl hX _ _ hP hD hS ls (lv_sub hl [0, 1, 2, 3] rfl)
  by_cases hc1_12 : ((xs (Int32.toNatClampNeg 0)) &&& 31) = 12
  · refine lv_tableIn (x := ((xs (Int32.toNatClampNeg 0)) &&& 31)) (off := 505) (tgt := 538) hx hb dL_law_33 (by rw [hc1_12]; decide) (by rw [hc1_12]; decide) (by rw [hc1_12]; decide) (by decide) ?_
    exact law_op12 mq xq ux um gm hx hb hr hml hB hown hlocks hK hN hA hA2 hbA hbl hX _ _ hP hD hS ls (lv_sub hl [0, 1, 2, 3] rfl)
  by_cases hc1_13 : ((xs (Int32.toNatClampNeg 0)) &&& 31) = 13
  · refine lv_tableIn (x := ((xs (Int32.toNatClampNeg 0)) &&& 31)) (off := 548) (tgt := 581) hx hb dL_law_33 (by rw [hc1_13]; decide) (by rw [hc1_13]; decide) (by rw [hc1_13]; decide) (by decide) ?_
    exact law_op13 mq xq ux um gm hx hb hr hml hB hown hlocks hK hN hA hA2 hbA hbl hX _ _ hP hD hS ls (lv_sub hl [0, 1, 2, 3] rfl)
  by_cases hc1_14 : ((xs (Int32.toNatClampNeg 0)) &&& 31) = 14
  · refine lv_tableIn (x := ((xs (Int32.toNatClampNeg 0)) &&& 31)) (off := 611) (tgt := 644) hx hb dL_law_33 (by rw [hc1_14]; decide) (by rw [hc1_14]; decide) (by rw [hc1_14]; decide) (by decide) ?_
    exact law_op14 mq xq ux um gm hx hb hr hml hB hown hlocks hK hN hA hA2 hbA hbl hX _ _ hP hD hS ls (lv_sub hl [0, 1, 2, 3] rfl)
  by_cases hc1_15 : ((xs (Int32.toNatClampNeg 0)) &&& 31) = 15
  · refine lv_tableIn (x := ((xs (Int32.toNatClampNeg 0)) &&& 31)) (off := 624) (tgt := 657) hx hb dL_law_33 (by rw [hc1_15]; decide) (by rw [hc1_15]; decide) (by rw [hc1_15]; decide) (by decide) ?_
    exact law_op15 mq xq ux um gm hx hb hr hml hB hown hlocks hK hN hA hA2 hbA hbl hX _ _ hP hD hS ls (lv_sub hl [0, 1, 2, 3] rfl)
  by_cases hc1_16 : ((xs (Int32.toNatClampNeg 0)) &&& 31) = 16
  · refine lv_tableIn (x := ((xs (Int32.toNatClampNeg 0)) &&& 31)) (off := 657) (tgt := 690) hx hb dL_law_33 (by rw [hc1_16]; decide) (by rw [hc1_16]; decide) (by rw [hc1_16]; decide) (by decide) ?_
    exact law_op16 mq xq ux um gm hx hb hr hml hB hown hlocks hK hN hA hA2 hbA hbl hX _ _ hP hD hS ls (lv_sub hl [0, 1, 2, 3] rfl)
  by_cases hc1_17 : ((xs (Int32.toNatClampNeg 0)) &&& 31) = 17
  · refine lv_tableIn (x := ((xs (Int32.toNatClampNeg 0)) &&& 31)) (off := 690) (tgt := 723) hx hb dL_law_33 (by rw [hc1_17]; decide) (by rw [hc1_17]; decide) (by rw [hc1_17]; decide) (by decide) ?_
    exact law_op17 mq xq ux um gm hx hb hr hml hB hown hlocks hK hN hA hA2 hbA hbl hX _ _ hP hD hS ls (lv_sub hl [0, 1, 2, 3] rfl)
  by_cases hc1_18 : ((xs (Int32.toNatClampNeg 0)) &&& 31) = 18
  · refine lv_tableIn (x := ((xs (Int32.toNatClampNeg 0)) &&& 31)) (off := 723) (tgt := 756) hx hb dL_law_33 (by rw [hc1_18]; decide) (by rw [hc1_18]; decide) (by rw [hc1_18]; decide) (by decide) ?_
    exact law_op18 mq xq ux um gm hx hb hr hml hB hown hlocks hK hN hA hA2 hbA hbl hX _ _ hP hD hS ls (lv_sub hl [0, 1, 2, 3] rfl)
  by_cases hc1_19 : ((xs (Int32.toNatClampNeg 0)) &&& 31) = 19
  · refine lv_tableIn (x := ((xs (Int32.toNatClampNeg 0)) &&& 31)) (off := 756) (tgt := 789) hx hb dL_law_33 (by rw [hc1_19]; decide) (by rw [hc1_19]; decide) (by rw [hc1_19]; decide) (by decide) ?_
    exact law_op19 mq xq ux um gm hx hb hr hml hB hown hlocks hK hN hA hA2 hbA hbl hX _ _ hP hD hS ls (lv_sub hl [0, 1, 2, 3] rfl)
  by_cases hc1_20 : ((xs (Int32.toNatClampNeg 0)) &&& 31) = 20
  · refine lv_tableIn (x := ((xs (Int32.toNatClampNeg 0)) &&& 31)) (off := 779) (tgt := 812) hx hb dL_law_33 (by rw [hc1_20]; decide) (by rw [hc1_20]; decide) (by rw [hc1_20]; decide) (by decide) ?_
    exact law_op20 mq xq ux um gm hx hb hr hml hB hown hlocks hK hN hA hA2 hbA hbl hX _ _ hP hD hS ls (lv_sub hl [0, 1, 2, 3] rfl)
  by_cases hc1_21 : ((xs (Int32.toNatClampNeg 0)) &&& 31) = 21
  · refine lv_tableIn (x := ((xs (Int32.toNatClampNeg 0)) &&& 31)) (off := 822) (tgt := 855) hx hb dL_law_33 (by rw [hc1_21]; decide) (by rw [hc1_21]; decide) (by rw [hc1_21]; decide) (by decide) ?_
    exact law_op21 mq xq ux um gm hx hb hr hml hB hown hlocks hK hN hA hA2 hbA hbl hX _ _ hP hD hS ls (lv_sub hl [0, 1, 2, 3] rfl)
  by_cases hc1_22 : ((xs (Int32.toNatClampNeg 0)) &&& 31) = 22
  · refine lv_tableIn (x := ((xs (Int32.toNatClampNeg 0)) &&& 31)) (off := 835) (tgt := 868) hx hb dL_law_33 (by rw [hc1_22]; decide) (by rw [hc1_22]; decide) (by rw [hc1_22]; decide) (by decide) ?_
    exact law_op22 mq xq ux um gm hx hb hr hml hB hown hlocks hK hN hA hA2 hbA hbl hX _ _ hP hD hS ls (lv_sub hl [0, 1, 2, 3] rfl)
  by_cases hc1_23 : ((xs (Int32.toNatClampNeg 0)) &&& 31) = 23
  · refine lv_tableIn (x := ((xs (Int32.toNatClampNeg 0)) &&& 31)) (off := 868) (tgt := 901) hx hb dL_law_33 (by rw [hc1_23]; decide) (by rw [hc1_23]; decide) (by rw [hc1_23]; decide) (by decide) ?_
    exact law_op23 mq xq ux um gm hx hb hr hml hB hown hlocks hK hN hA hA2 hbA hbl hX _ _ hP hD hS ls (lv_sub hl [0, 1, 2, 3] rfl)
  by_cases hc1_24 : ((xs (Int32.toNatClampNeg 0)) &&& 31) = 24
  · refine lv_tableIn (x := ((xs (Int32.toNatClampNeg 0)) &&& 31)) (off := 911) (tgt := 944) hx hb dL_law_33 (by rw [hc1_24]; decide) (by rw [hc1_24]; decide) (by rw [hc1_24]; decide) (by decide) ?_
    exact law_op24 mq xq ux um gm hx hb hr hml hB hown hlocks hK hN hA hA2 hbA hbl hX _ _ hP hD hS ls (lv_sub hl [0, 1, 2, 3] rfl)
  by_cases hc1_25 : ((xs (Int32.toNatClampNeg 0)) &&& 31) = 25
  · refine lv_tableIn (x := ((xs (Int32.toNatClampNeg 0)) &&& 31)) (off := 945) (tgt := 978) hx hb dL_law_33 (by rw [hc1_25]; decide) (by rw [hc1_25]; decide) (by rw [hc1_25]; decide) (by decide) ?_
    exact law_op25 mq xq ux um gm hx hb hr hml hB hown hlocks hK hN hA hA2 hbA hbl hX _ _ hP hD hS ls (lv_sub hl [0, 1, 2, 3] rfl)
  by_cases hc1_26 : ((xs (Int32.toNatClampNeg 0)) &&& 31) = 26
  · refine lv_tableIn (x := ((xs (Int32.toNatClampNeg 0)) &&& 31)) (off := 968) (tgt := 1001) hx hb dL_law_33 (by rw [hc1_26]; decide) (by rw [hc1_26]; decide) (by rw [hc1_26]; decide) (by decide) ?_
    exact law_op26 mq xq ux um gm hx hb hr hml hB hown hlocks hK hN hA hA2 hbA hbl hX _ _ hP hD hS ls (lv_sub hl [0, 1, 2, 3] rfl)
  by_cases hc1_27 : ((xs (Int32.toNatClampNeg 0)) &&& 31) = 27
  · refine lv_tableIn (x := ((xs (Int32.toNatClampNeg 0)) &&& 31)) (off := 991) (tgt := 1024) hx hb dL_law_33 (by rw [hc1_27]; decide) (by rw [hc1_27]; decide) (by rw [hc1_27]; decide) (by decide) ?_
    exact law_op27 mq xq ux um gm hx hb hr hml hB hown hlocks hK hN hA hA2 hbA hbl hX _ _ hP hD hS ls (lv_sub hl [0, 1, 2, 3] rfl)
  by_cases hc1_28 : ((xs (Int32.toNatClampNeg 0)) &&& 31) = 28
  · refine lv_tableIn (x := ((xs (Int32.toNatClampNeg 0)) &&& 31)) (off := 1024) (tgt := 1057) hx hb dL_law_33 (by rw [hc1_28]; decide) (by rw [hc1_28]; decide) (by rw [hc1_28]; decide) (by decide) ?_
    exact law_op28 mq xq ux um gm hx hb hr hml hB hown hlocks hK hN hA hA2 hbA hbl hX _ _ hP hD hS ls (lv_sub hl [0, 1, 2, 3] rfl)
  by_cases hc1_29 : ((xs (Int32.toNatClampNeg 0)) &&& 31) = 29
  · refine lv_tableIn (x := ((xs (Int32.toNatClampNeg 0)) &&& 31)) (off := 1057) (tgt := 1090) hx hb dL_law_33 (by rw [hc1_29]; decide) (by rw [hc1_29]; decide) (by rw [hc1_29]; decide) (by decide) ?_
    exact law_op29 mq xq ux um gm hx hb hr hml hB hown hlocks hK hN hA hA2 hbA hbl hX _ _ hP hD hS ls (lv_sub hl [0, 1, 2, 3] rfl)
  by_cases hc1_30 : ((xs (Int32.toNatClampNeg 0)) &&& 31) = 30
  · refine lv_tableIn (x := ((xs (Int32.toNatClampNeg 0)) &&& 31)) (off := 1090) (tgt := 1123) hx hb dL_law_33 (by rw [hc1_30]; decide) (by rw [hc1_30]; decide) (by rw [hc1_30]; decide) (by decide) ?_
    exact law_op30 mq xq ux um gm hx hb hr hml hB hown hlocks hK hN hA hA2 hbA hbl hX _ _ hP hD hS ls (lv_sub hl [0, 1, 2, 3] rfl)
  by_cases hc1_31 : ((xs (Int32.toNatClampNeg 0)) &&& 31) = 31
  · refine lv_tableIn (x := ((xs (Int32.toNatClampNeg 0)) &&& 31)) (off := 1123) (tgt := 1156) hx hb dL_law_33 (by rw [hc1_31]; decide) (by rw [hc1_31]; decide) (by rw [hc1_31]; decide) (by decide) ?_
    exact law_op31 mq xq ux um gm hx hb hr hml hB hown hlocks hK hN hA hA2 hbA hbl hX _ _ hP hD hS ls (lv_sub hl [0, 1, 2, 3] rfl)
  have hout : ((xs (Int32.toNatClampNeg 0)) &&& 31).toInt < 0 ∨ 31 < ((xs (Int32.toNatClampNeg 0)) &&& 31).toInt := by simp only [fa_eq] at hc1_0 hc1_1 hc1_2 hc1_3 hc1_4 hc1_5 hc1_6 hc1_7 hc1_8 hc1_9 hc1_10 hc1_11 hc1_12 hc1_13 hc1_14 hc1_15 hc1_16 hc1_17 hc1_18 hc1_19 hc1_20 hc1_21 hc1_22 hc1_23 hc1_24 hc1_25 hc1_26 hc1_27 hc1_28 hc1_29 hc1_30 hc1_31; have : ((0 : Int32).toInt) = 0 := (by decide); have : ((1 : Int32).toInt) = 1 := (by decide); have : ((2 : Int32).toInt) = 2 := (by decide); have : ((3 : Int32).toInt) = 3 := (by decide); have : ((4 : Int32).toInt) = 4 := (by decide); have : ((5 : Int32).toInt) = 5 := (by decide); have : ((6 : Int32).toInt) = 6 := (by decide); have : ((7 : Int32).toInt) = 7 := (by decide); have : ((8 : Int32).toInt) = 8 := (by decide); have : ((9 : Int32).toInt) = 9 := (by decide); have : ((10 : Int32).toInt) = 10 := (by decide); have : ((11 : Int32).toInt) = 11 := (by decide); have : ((12 : Int32).toInt) = 12 := (by decide); have : ((13 : Int32).toInt) = 13 := (by decide); have : ((14 : Int32).toInt) = 14 := (by decide); have : ((15 : Int32).toInt) = 15 := (by decide); have : ((16 : Int32).toInt) = 16 := (by decide); have : ((17 : Int32).toInt) = 17 := (by decide); have : ((18 : Int32).toInt) = 18 := (by decide); have : ((19 : Int32).toInt) = 19 := (by decide); have : ((20 : Int32).toInt) = 20 := (by decide); have : ((21 : Int32).toInt) = 21 := (by decide); have : ((22 : Int32).toInt) = 22 := (by decide); have : ((23 : Int32).toInt) = 23 := (by decide); have : ((24 : Int32).toInt) = 24 := (by decide); have : ((25 : Int32).toInt) = 25 := (by decide); have : ((26 : Int32).toInt) = 26 := (by decide); have : ((27 : Int32).toInt) = 27 := (by decide); have : ((28 : Int32).toInt) = 28 := (by decide); have : ((29 : Int32).toInt) = 29 := (by decide); have : ((30 : Int32).toInt) = 30 := (by decide); have : ((31 : Int32).toInt) = 31 := (by decide); omega
  refine lv_tableOut (tgt := 1179) hx hb dL_law_33 hout (by decide) ?_
  exact law_exit mq xq (Nat.le_of_ble_eq_true rfl) (Nat.le_of_ble_eq_true rfl) hx hb hr hml hB hown hlocks hK hN hA hA2 hbA hbl hX _ _ hS ls (lv_sub hl [0, 1, 2, 3] rfl)
set_option maxHeartbeats 4000000 in
set_option maxRecDepth 100000 in
theorem whole_start {p : Program} {e : Env} {s : State} {m : MethodId} {below : List Frame} {meth : Method} {c : Code} (l : Launch) {b L : Nat} {xs : Nat → Int32} (hL : L ≤ 6) (C0 : lw_At p s m meth c b L xs) : W p l e room_1 s m #[Value.ref b] below meth c s.heap [] 0 0 (lw_Z below #[Value.ref b] s) (entryFrame m ([Value.ref b] : List Value).toArray 4) := by
  obtain ⟨hx, hb, hr, hml, hown, hts, hX, hbl, hlocks, hgv⟩ := id C0
  have hb : c.code = cL_law := hb
  have hown : s.vm.findClass "TreeMergeLaw" = some m.cls := hown
  have hB : ∀ w ∈ cx_big, w.before #[Value.ref b] s = true := fun w h => hts w (List.mem_filter.mp h).1
  have hN : cx_NW s := cx_NW_start hts
  obtain ⟨c0, iS0, hKn0⟩ := u_known (C := RX0) (T := TX0) (N := 4) (n := 4) hB cx_inX0 (hB _ cw_249)
  obtain ⟨c1, iS1, hKn1⟩ := u_known (C := RX1) (T := TX1) (N := 5) (n := 5) hB cx_inX1 (hB _ cw_222)
  obtain ⟨c2, iS2, hKn2⟩ := u_known (C := RX2) (T := TX2) (N := 13) (n := 13) hB cx_inX2 (hB _ cw_61)
  obtain ⟨c3, iS3, hKn3⟩ := u_known (C := RX3) (T := TX3) (N := 3) (n := 3) hB cx_inX3 (hB _ cw_172)
  obtain ⟨c4, iS4, hKn4⟩ := u_known (C := RX4) (T := TX4) (N := 7) (n := 7) hB cx_inX4 (hB _ cw_190)
  obtain ⟨c5, iS5, hKn5⟩ := u_known (C := RX5) (T := TX5) (N := 15) (n := 15) hB cx_inX5 (hB _ cw_286)
  obtain ⟨c6, iS6, hKn6⟩ := u_known (C := RX6) (T := TX6) (N := 3) (n := 3) hB cx_inX6 (hB _ cw_366)
  obtain ⟨c7, iS7, hKn7⟩ := u_known (C := RX7) (T := TX7) (N := 2) (n := 2) hB cx_inX7 (hB _ cw_272)
  obtain ⟨c8, iS8, hKn8⟩ := u_known (C := RX8) (T := TX8) (N := 4) (n := 4) hB cx_inX8 (hB _ cw_292)
  obtain ⟨c9, iS9, hKn9⟩ := u_known (C := RX9) (T := TX9) (N := 5) (n := 5) hB cx_inX9 (hB _ cw_29)
  obtain ⟨c10, iS10, hKn10⟩ := u_known (C := RX10) (T := TX10) (N := 8) (n := 8) hB cx_inX10 (hB _ cw_111)
  obtain ⟨c11, iS11, hKn11⟩ := u_known (C := RX11) (T := TX11) (N := 19) (n := 19) hB cx_inX11 (hB _ cw_21)
  obtain ⟨c12, iS12, hKn12⟩ := u_known (C := RX12) (T := TX12) (N := 64) (n := 64) hB cx_inX12 (hB _ cw_1182)
  obtain ⟨d0, kd0, ke0, f0a, f0b, f0c⟩ := Cond.arrayClass_spec (hB _ cw_59)
  obtain ⟨d1, kd1, ke1, f1a, f1b, f1c⟩ := Cond.arrayClass_spec (hB _ cw_170)
  obtain ⟨d2, kd2, ke2, f2a, f2b, f2c⟩ := Cond.arrayClass_spec (hB _ cw_622)
  obtain ⟨d3, kd3, ke3, f3a, f3b, f3c⟩ := Cond.arrayClass_spec (hB _ cw_1386)
  obtain ⟨ke4, d4, kd4, -, -, f4b, f4c, f4a⟩ := mg_spec hN.2.2.1
  obtain ⟨ke5, d5, kd5, -, -, f5b, f5c, f5a⟩ := mg_spec hN.2.2.2.1
  obtain ⟨ke6, d6, kd6, -, -, f6b, f6c, f6a⟩ := mg_spec hN.2.2.2.2
  obtain ⟨D, hKc⟩ : ∃ D : va_G, ∀ (k : Nat) (q : vw_C), vwCl[k]? = some q → u_Kn s q.1 q.2.1 q.2.2 (D.1 k) (D.2 k) := by
    refine ⟨(fun k => [c0, c1, c2, c3, c4, c5, c6, c7, c8, c9, c10, c11, c12].getD k c0, fun k => [iS0, iS1, iS2, iS3, iS4, iS5, iS6, iS7, iS8, iS9, iS10, iS11, iS12].getD k iS0), ?_⟩
    intro k q hq
    match k, hq with
    | 0, hq => cases hq; exact hKn0
    | 1, hq => cases hq; exact hKn1
    | 2, hq => cases hq; exact hKn2
    | 3, hq => cases hq; exact hKn3
    | 4, hq => cases hq; exact hKn4
    | 5, hq => cases hq; exact hKn5
    | 6, hq => cases hq; exact hKn6
    | 7, hq => cases hq; exact hKn7
    | 8, hq => cases hq; exact hKn8
    | 9, hq => cases hq; exact hKn9
    | 10, hq => cases hq; exact hKn10
    | 11, hq => cases hq; exact hKn11
    | 12, hq => cases hq; exact hKn12
    | k + 13, hq => simp [vwCl] at hq
  obtain ⟨cs, hK⟩ : ∃ cs : Nat → ClassId, va_K D vwCl (cx_TY cs) s := by
    refine ⟨fun k => [d0, d1, d2, d3, d4, d5, d6].getD k d0, hKc, ?_⟩
    intro k q hq
    match k, hq with
    | 0, hq => cases hq; exact ⟨fun n z => ⟨(fun k h => by cases h), kd0, f0b, ke0, f0c⟩, f0a⟩
    | 1, hq => cases hq; exact ⟨fun n z => ⟨(fun k h => by cases h), kd1, f1b, ke1, f1c⟩, f1a⟩
    | 2, hq => cases hq; exact ⟨fun n z => ⟨(fun k h => by cases h), kd2, f2b, ke2, f2c⟩, f2a⟩
    | 3, hq => cases hq; exact ⟨fun n z => ⟨(fun k h => by cases h), kd3, f3b, ke3, f3c⟩, f3a⟩
    | 4, hq => cases hq; exact ⟨fun n z => ⟨(fun k h => by cases h), kd4, f4b, ke4, f4c⟩, f4a⟩
    | 5, hq => cases hq; exact ⟨fun n z => ⟨(fun k h => by cases h), kd5, f5b, ke5, f5c⟩, f5a⟩
    | 6, hq => cases hq; exact ⟨fun n z => ⟨(fun k h => by cases h), kd6, f6b, ke6, f6c⟩, f6a⟩
    | k + 7, hq => simp [cx_TY] at hq
  generalize hAe : (fun q : Nat => s.heap.size ≤ q) = A
  have hA : ∀ q : Nat, s.heap.size ≤ q → A q := fun q h => by rw [← hAe]; exact h
  have hA2 : ∀ q : Nat, A q → s.heap.size ≤ q := fun q h => by rw [← hAe] at h; exact h
  have hbA : ¬ A b := fun h => Nat.not_le.mpr hbl (hA2 b h)
  have hS : va_S A s.heap s.heap [] := va_S.rf
  have hP : va_P D vwCl [] s.heap := fun k q h => by simp at h
  have hD : va_D A [] := ⟨fun i j p q h => by simp at h, fun k q h => by simp at h⟩
  have hl := lv_entry ([.ref b]) (n := 4) (Nat.le_of_ble_eq_true rfl)
  rw [lg_entry_eq]
  generalize (lg_sl ([.ref b]) ++ List.replicate (4 - (lg_sl ([.ref b])).length) Slot.unset).toArray = ls at hl ⊢
  have hl : lv_has ls 4 [(0, .ref b)] := hl
  refine va_new (ci := 11) (fs := [.null, .null, .null, .null, .null, .null, .null, .null, .null, .null, .null, .null, .null, .null, .null, .int 0, .null, .int 0, .null]) (C := RX11) (T := TX11) (N := 19) hx hb hB cx_inX11 tyX11 tyX11_ok hown (hB _ cw_20) (hB _ cw_21) (hB _ cw_1) hK hP hD hS hA rfl cx_fsX11 (Nat.le_of_ble_eq_true rfl) (Nat.le_of_ble_eq_true rfl) dL_law_0 (fun qn1 H hP hD hS => ?_)
  have hP : va_P D vwCl [(qn1, .inr (11, [.null, .null, .null, .null, .null, .null, .null, .null, .null, .null, .null, .null, .null, .null, .null, .int 0, .null, .int 0, .null]))] H := hP
  have hD : va_D A [(qn1, .inr (11, [.null, .null, .null, .null, .null, .null, .null, .null, .null, .null, .null, .null, .null, .null, .null, .int 0, .null, .int 0, .null]))] := hD
  refine lv_dup hx hb dL_law_3 rfl ?_
  refine cx_I (D := D) (cs := cs) (n := 0) (wc := [(qn1, .inr (11, [.null, .null, .null, .null, .null, .null, .null, .null, .null, .null, .null, .null, .null, .null, .null, .int 0, .null, .int 0, .null]))]) (wr := []) (v := none) (w1 := fun u g => [(qn1, .inr (11, [.ref (u 0), .ref (u 1), .ref (u 2), .ref (u 3), .ref (u 4), .ref (u 5), .ref (u 6), .ref (u 7), .ref (u 8), .ref (u 9), .ref (u 10), .ref (u 11), .ref (u 12), .ref (u 13), .ref (u 14), .int 0, .ref (u 15), .int 0, .ref (u 16)])), ((u 0), .inr (9, [.ref (u 17), .int 0, .int 0, .int 0, .int 0])), ((u 17), .inl (cs 0, 500, .inl (fun _ => 0))), ((u 1), .inr (2, [.ref (u 18), .int 0, .ref (u 19), .ref (u 20), .ref (u 21), .ref (u 22), .ref (u 23), .int 0, .ref (u 24), .ref (u 25), .ref (u 26), .ref (u 27), .ref (u 28)])), ((u 2), .inr (2, [.ref (u 29), .int 0, .ref (u 30), .ref (u 31), .ref (u 32), .ref (u 33), .ref (u 34), .int 0, .ref (u 35), .ref (u 36), .ref (u 37), .ref (u 38), .ref (u 39)])), ((u 29), .inl (cs 0, 500, .inl (fun _ => 0))), ((u 3), .inr (10, [.int 0, .ref (u 40), .ref (u 41), .ref (u 42), .ref (u 43), .ref (u 44), .ref (u 45), .ref (u 46)])), ((u 7), .inr (1, [.int 0, .ref (u 47), .ref (u 48), .ref (u 49), .ref (u 50)])), ((u 8), .inr (0, [.int 0, .int 0, .ref (u 51), .ref (u 52)])), ((u 9), .inr (7, [.int 0, .ref (u 53)])), ((u 53), .inl (cs 0, 450, .inl (fun _ => 0)))]) (As := []) (rest := [.ref qn1]) (o := qn1) ⟨hx, hb, hml, hown, hB⟩ (fun sz => kX11_init l D cs qn1 sz) cw_24 cw_1 cw_22 cw_23 rfl rfl rfl (by decide +kernel) ⟨Nat.le_of_ble_eq_true rfl, Nat.le_of_ble_eq_true rfl⟩ hK hN hP hD hS hA [0] [] rfl rfl (by decide) rfl hl.1 rfl (Nat.le_of_ble_eq_true rfl) dL_law_4 ⟨Nat.le_of_ble_eq_true rfl, Nat.le_of_ble_eq_true rfl⟩ (fun uu2 gg2 H locs hP hD hS => ?_)
  refine W.eq (g2 := F0 m 7 ls [.ref qn1]) rfl ?_
  have hP : va_P D vwCl [(qn1, .inr (11, [.ref (uu2 0), .ref (uu2 1), .ref (uu2 2), .ref (uu2 3), .ref (uu2 4), .ref (uu2 5), .ref (uu2 6), .ref (uu2 7), .ref (uu2 8), .ref (uu2 9), .ref (uu2 10), .ref (uu2 11), .ref (uu2 12), .ref (uu2 13), .ref (uu2 14), .int 0, .ref (uu2 15), .int 0, .ref (uu2 16)])), ((uu2 0), .inr (9, [.ref (uu2 17), .int 0, .int 0, .int 0, .int 0])), ((uu2 17), .inl (cs 0, 500, .inl (fun _ => 0))), ((uu2 1), .inr (2, [.ref (uu2 18), .int 0, .ref (uu2 19), .ref (uu2 20), .ref (uu2 21), .ref (uu2 22), .ref (uu2 23), .int 0, .ref (uu2 24), .ref (uu2 25), .ref (uu2 26), .ref (uu2 27), .ref (uu2 28)])), ((uu2 2), .inr (2, [.ref (uu2 29), .int 0, .ref (uu2 30), .ref (uu2 31), .ref (uu2 32), .ref (uu2 33), .ref (uu2 34), .int 0, .ref (uu2 35), .ref (uu2 36), .ref (uu2 37), .ref (uu2 38), .ref (uu2 39)])), ((uu2 29), .inl (cs 0, 500, .inl (fun _ => 0))), ((uu2 3), .inr (10, [.int 0, .ref (uu2 40), .ref (uu2 41), .ref (uu2 42), .ref (uu2 43), .ref (uu2 44), .ref (uu2 45), .ref (uu2 46)])), ((uu2 7), .inr (1, [.int 0, .ref (uu2 47), .ref (uu2 48), .ref (uu2 49), .ref (uu2 50)])), ((uu2 8), .inr (0, [.int 0, .int 0, .ref (uu2 51), .ref (uu2 52)])), ((uu2 9), .inr (7, [.int 0, .ref (uu2 53)])), ((uu2 53), .inl (cs 0, 450, .inl (fun _ => 0)))] H := hP
  have hD : va_D A [(qn1, .inr (11, [.ref (uu2 0), .ref (uu2 1), .ref (uu2 2), .ref (uu2 3), .ref (uu2 4), .ref (uu2 5), .ref (uu2 6), .ref (uu2 7), .ref (uu2 8), .ref (uu2 9), .ref (uu2 10), .ref (uu2 11), .ref (uu2 12), .ref (uu2 13), .ref (uu2 14), .int 0, .ref (uu2 15), .int 0, .ref (uu2 16)])), ((uu2 0), .inr (9, [.ref (uu2 17), .int 0, .int 0, .int 0, .int 0])), ((uu2 17), .inl (cs 0, 500, .inl (fun _ => 0))), ((uu2 1), .inr (2, [.ref (uu2 18), .int 0, .ref (uu2 19), .ref (uu2 20), .ref (uu2 21), .ref (uu2 22), .ref (uu2 23), .int 0, .ref (uu2 24), .ref (uu2 25), .ref (uu2 26), .ref (uu2 27), .ref (uu2 28)])), ((uu2 2), .inr (2, [.ref (uu2 29), .int 0, .ref (uu2 30), .ref (uu2 31), .ref (uu2 32), .ref (uu2 33), .ref (uu2 34), .int 0, .ref (uu2 35), .ref (uu2 36), .ref (uu2 37), .ref (uu2 38), .ref (uu2 39)])), ((uu2 29), .inl (cs 0, 500, .inl (fun _ => 0))), ((uu2 3), .inr (10, [.int 0, .ref (uu2 40), .ref (uu2 41), .ref (uu2 42), .ref (uu2 43), .ref (uu2 44), .ref (uu2 45), .ref (uu2 46)])), ((uu2 7), .inr (1, [.int 0, .ref (uu2 47), .ref (uu2 48), .ref (uu2 49), .ref (uu2 50)])), ((uu2 8), .inr (0, [.int 0, .int 0, .ref (uu2 51), .ref (uu2 52)])), ((uu2 9), .inr (7, [.int 0, .ref (uu2 53)])), ((uu2 53), .inl (cs 0, 450, .inl (fun _ => 0)))] := hD
  refine lv_astore_n (lv' := [(1, .ref qn1), (0, .ref b)]) hx hb dL_law_7 rfl hl (by decide) rfl (fun ls hl => ?_)
  refine va_new (ci := 12) (fs := [.null, .int 0, .int 0, .int 0, .int 0, .null, .null, .null, .null, .null, .null, .null, .null, .null, .int 0, .int 0, .null, .null, .null, .null, .null, .null, .null, .null, .null, .null, .int 0, .int 0, .int 0, .int 0, .null, .null, .null, .null, .null, .null, .null, .null, .null, .null, .null, .null, .null, .null, .null, .null, .null, .null, .null, .null, .int 0, .int 0, .int 0, .null, .null, .null, .null, .int 0, .int 0, .null, .null, .null, .null, .int 0]) (C := RX12) (T := TX12) (N := 64) hx hb hB cx_inX12 tyX12 tyX12_ok hown (hB _ cw_1181) (hB _ cw_1182) (hB _ cw_13) hK hP hD hS hA rfl cx_fsX12 (Nat.le_of_ble_eq_true rfl) (Nat.le_of_ble_eq_true rfl) dL_law_8 (fun qn3 H hP hD hS => ?_)
  have hP : va_P D vwCl [(qn1, .inr (11, [.ref (uu2 0), .ref (uu2 1), .ref (uu2 2), .ref (uu2 3), .ref (uu2 4), .ref (uu2 5), .ref (uu2 6), .ref (uu2 7), .ref (uu2 8), .ref (uu2 9), .ref (uu2 10), .ref (uu2 11), .ref (uu2 12), .ref (uu2 13), .ref (uu2 14), .int 0, .ref (uu2 15), .int 0, .ref (uu2 16)])), ((uu2 0), .inr (9, [.ref (uu2 17), .int 0, .int 0, .int 0, .int 0])), ((uu2 17), .inl (cs 0, 500, .inl (fun _ => 0))), ((uu2 1), .inr (2, [.ref (uu2 18), .int 0, .ref (uu2 19), .ref (uu2 20), .ref (uu2 21), .ref (uu2 22), .ref (uu2 23), .int 0, .ref (uu2 24), .ref (uu2 25), .ref (uu2 26), .ref (uu2 27), .ref (uu2 28)])), ((uu2 2), .inr (2, [.ref (uu2 29), .int 0, .ref (uu2 30), .ref (uu2 31), .ref (uu2 32), .ref (uu2 33), .ref (uu2 34), .int 0, .ref (uu2 35), .ref (uu2 36), .ref (uu2 37), .ref (uu2 38), .ref (uu2 39)])), ((uu2 29), .inl (cs 0, 500, .inl (fun _ => 0))), ((uu2 3), .inr (10, [.int 0, .ref (uu2 40), .ref (uu2 41), .ref (uu2 42), .ref (uu2 43), .ref (uu2 44), .ref (uu2 45), .ref (uu2 46)])), ((uu2 7), .inr (1, [.int 0, .ref (uu2 47), .ref (uu2 48), .ref (uu2 49), .ref (uu2 50)])), ((uu2 8), .inr (0, [.int 0, .int 0, .ref (uu2 51), .ref (uu2 52)])), ((uu2 9), .inr (7, [.int 0, .ref (uu2 53)])), ((uu2 53), .inl (cs 0, 450, .inl (fun _ => 0))), (qn3, .inr (12, [.null, .int 0, .int 0, .int 0, .int 0, .null, .null, .null, .null, .null, .null, .null, .null, .null, .int 0, .int 0, .null, .null, .null, .null, .null, .null, .null, .null, .null, .null, .int 0, .int 0, .int 0, .int 0, .null, .null, .null, .null, .null, .null, .null, .null, .null, .null, .null, .null, .null, .null, .null, .null, .null, .null, .null, .null, .int 0, .int 0, .int 0, .null, .null, .null, .null, .int 0, .int 0, .null, .null, .null, .null, .int 0]))] H := hP
  have hD : va_D A [(qn1, .inr (11, [.ref (uu2 0), .ref (uu2 1), .ref (uu2 2), .ref (uu2 3), .ref (uu2 4), .ref (uu2 5), .ref (uu2 6), .ref (uu2 7), .ref (uu2 8), .ref (uu2 9), .ref (uu2 10), .ref (uu2 11), .ref (uu2 12), .ref (uu2 13), .ref (uu2 14), .int 0, .ref (uu2 15), .int 0, .ref (uu2 16)])), ((uu2 0), .inr (9, [.ref (uu2 17), .int 0, .int 0, .int 0, .int 0])), ((uu2 17), .inl (cs 0, 500, .inl (fun _ => 0))), ((uu2 1), .inr (2, [.ref (uu2 18), .int 0, .ref (uu2 19), .ref (uu2 20), .ref (uu2 21), .ref (uu2 22), .ref (uu2 23), .int 0, .ref (uu2 24), .ref (uu2 25), .ref (uu2 26), .ref (uu2 27), .ref (uu2 28)])), ((uu2 2), .inr (2, [.ref (uu2 29), .int 0, .ref (uu2 30), .ref (uu2 31), .ref (uu2 32), .ref (uu2 33), .ref (uu2 34), .int 0, .ref (uu2 35), .ref (uu2 36), .ref (uu2 37), .ref (uu2 38), .ref (uu2 39)])), ((uu2 29), .inl (cs 0, 500, .inl (fun _ => 0))), ((uu2 3), .inr (10, [.int 0, .ref (uu2 40), .ref (uu2 41), .ref (uu2 42), .ref (uu2 43), .ref (uu2 44), .ref (uu2 45), .ref (uu2 46)])), ((uu2 7), .inr (1, [.int 0, .ref (uu2 47), .ref (uu2 48), .ref (uu2 49), .ref (uu2 50)])), ((uu2 8), .inr (0, [.int 0, .int 0, .ref (uu2 51), .ref (uu2 52)])), ((uu2 9), .inr (7, [.int 0, .ref (uu2 53)])), ((uu2 53), .inl (cs 0, 450, .inl (fun _ => 0))), (qn3, .inr (12, [.null, .int 0, .int 0, .int 0, .int 0, .null, .null, .null, .null, .null, .null, .null, .null, .null, .int 0, .int 0, .null, .null, .null, .null, .null, .null, .null, .null, .null, .null, .int 0, .int 0, .int 0, .int 0, .null, .null, .null, .null, .null, .null, .null, .null, .null, .null, .null, .null, .null, .null, .null, .null, .null, .null, .null, .null, .int 0, .int 0, .int 0, .null, .null, .null, .null, .int 0, .int 0, .null, .null, .null, .null, .int 0]))] := hD
  refine lv_dup hx hb dL_law_11 rfl ?_
  refine cx_I (D := D) (cs := cs) (n := 0) (wc := [(qn3, .inr (12, [.null, .int 0, .int 0, .int 0, .int 0, .null, .null, .null, .null, .null, .null, .null, .null, .null, .int 0, .int 0, .null, .null, .null, .null, .null, .null, .null, .null, .null, .null, .int 0, .int 0, .int 0, .int 0, .null, .null, .null, .null, .null, .null, .null, .null, .null, .null, .null, .null, .null, .null, .null, .null, .null, .null, .null, .null, .int 0, .int 0, .int 0, .null, .null, .null, .null, .int 0, .int 0, .null, .null, .null, .null, .int 0]))]) (wr := [(qn1, .inr (11, [.ref (uu2 0), .ref (uu2 1), .ref (uu2 2), .ref (uu2 3), .ref (uu2 4), .ref (uu2 5), .ref (uu2 6), .ref (uu2 7), .ref (uu2 8), .ref (uu2 9), .ref (uu2 10), .ref (uu2 11), .ref (uu2 12), .ref (uu2 13), .ref (uu2 14), .int 0, .ref (uu2 15), .int 0, .ref (uu2 16)])), ((uu2 0), .inr (9, [.ref (uu2 17), .int 0, .int 0, .int 0, .int 0])), ((uu2 17), .inl (cs 0, 500, .inl (fun _ => 0))), ((uu2 1), .inr (2, [.ref (uu2 18), .int 0, .ref (uu2 19), .ref (uu2 20), .ref (uu2 21), .ref (uu2 22), .ref (uu2 23), .int 0, .ref (uu2 24), .ref (uu2 25), .ref (uu2 26), .ref (uu2 27), .ref (uu2 28)])), ((uu2 2), .inr (2, [.ref (uu2 29), .int 0, .ref (uu2 30), .ref (uu2 31), .ref (uu2 32), .ref (uu2 33), .ref (uu2 34), .int 0, .ref (uu2 35), .ref (uu2 36), .ref (uu2 37), .ref (uu2 38), .ref (uu2 39)])), ((uu2 29), .inl (cs 0, 500, .inl (fun _ => 0))), ((uu2 3), .inr (10, [.int 0, .ref (uu2 40), .ref (uu2 41), .ref (uu2 42), .ref (uu2 43), .ref (uu2 44), .ref (uu2 45), .ref (uu2 46)])), ((uu2 7), .inr (1, [.int 0, .ref (uu2 47), .ref (uu2 48), .ref (uu2 49), .ref (uu2 50)])), ((uu2 8), .inr (0, [.int 0, .int 0, .ref (uu2 51), .ref (uu2 52)])), ((uu2 9), .inr (7, [.int 0, .ref (uu2 53)])), ((uu2 53), .inl (cs 0, 450, .inl (fun _ => 0)))]) (v := none) (w1 := fun u g => [(qn3, .inr (12, [.ref (u 0), .int 0, .int 0, .int 0, .int 0, .ref (u 1), .ref (u 2), .ref (u 3), .ref (u 4), .ref (u 5), .ref (u 6), .ref (u 7), .ref (u 8), .ref (u 9), .int 0, .int 0, .ref (u 10), .ref (u 11), .ref (u 12), .ref (u 13), .ref (u 14), .ref (u 15), .ref (u 16), .ref (u 17), .ref (u 18), .ref (u 19), .int 0, .int 0, .int 0, .int 0, .ref (u 20), .ref (u 21), .ref (u 22), .ref (u 23), .ref (u 24), .ref (u 25), .ref (u 26), .ref (u 27), .ref (u 28), .ref (u 29), .ref (u 30), .ref (u 31), .ref (u 32), .ref (u 33), .ref (u 34), .ref (u 35), .ref (u 36), .ref (u 37), .ref (u 38), .ref (u 39), .int 0, .int 0, .int 0, .ref (u 40), .ref (u 41), .ref (u 42), .ref (u 43), .int 0, .int 0, .ref (u 44), .ref (u 45), .ref (u 46), .ref (u 47), .int 0])), ((u 0), .inl (cs 2, 500, .inl (fun _ => 0))), ((u 10), .inl (cs 5, 16, .inr (.inr (.inr (.inr (fun i => if i < 16 then some (((g 0).2) i) else none)))))), ((((g 0).2) 15), .inl (cs 3, 150, .inl (fun _ => 0)))]) (As := []) (rest := [.ref qn3]) (o := qn3) ⟨hx, hb, hml, hown, hB⟩ (fun sz => kX12_init l D cs qn3 sz) cw_1185 cw_13 cw_1183 cw_1184 rfl rfl rfl (by decide +kernel) ⟨Nat.le_of_ble_eq_true rfl, Nat.le_of_ble_eq_true rfl⟩ hK hN hP hD hS hA [11] [0, 1, 2, 3, 4, 5, 6, 7, 8, 9, 10] rfl rfl (by decide) rfl hl.1 rfl (Nat.le_of_ble_eq_true rfl) dL_law_12 ⟨Nat.le_of_ble_eq_true rfl, Nat.le_of_ble_eq_true rfl⟩ (fun uu4 gg4 H locs hP hD hS => ?_)
  refine W.eq (g2 := F0 m 15 ls [.ref qn3]) rfl ?_
  have hP : va_P D vwCl [(qn1, .inr (11, [.ref (uu2 0), .ref (uu2 1), .ref (uu2 2), .ref (uu2 3), .ref (uu2 4), .ref (uu2 5), .ref (uu2 6), .ref (uu2 7), .ref (uu2 8), .ref (uu2 9), .ref (uu2 10), .ref (uu2 11), .ref (uu2 12), .ref (uu2 13), .ref (uu2 14), .int 0, .ref (uu2 15), .int 0, .ref (uu2 16)])), ((uu2 0), .inr (9, [.ref (uu2 17), .int 0, .int 0, .int 0, .int 0])), ((uu2 17), .inl (cs 0, 500, .inl (fun _ => 0))), ((uu2 1), .inr (2, [.ref (uu2 18), .int 0, .ref (uu2 19), .ref (uu2 20), .ref (uu2 21), .ref (uu2 22), .ref (uu2 23), .int 0, .ref (uu2 24), .ref (uu2 25), .ref (uu2 26), .ref (uu2 27), .ref (uu2 28)])), ((uu2 2), .inr (2, [.ref (uu2 29), .int 0, .ref (uu2 30), .ref (uu2 31), .ref (uu2 32), .ref (uu2 33), .ref (uu2 34), .int 0, .ref (uu2 35), .ref (uu2 36), .ref (uu2 37), .ref (uu2 38), .ref (uu2 39)])), ((uu2 29), .inl (cs 0, 500, .inl (fun _ => 0))), ((uu2 3), .inr (10, [.int 0, .ref (uu2 40), .ref (uu2 41), .ref (uu2 42), .ref (uu2 43), .ref (uu2 44), .ref (uu2 45), .ref (uu2 46)])), ((uu2 7), .inr (1, [.int 0, .ref (uu2 47), .ref (uu2 48), .ref (uu2 49), .ref (uu2 50)])), ((uu2 8), .inr (0, [.int 0, .int 0, .ref (uu2 51), .ref (uu2 52)])), ((uu2 9), .inr (7, [.int 0, .ref (uu2 53)])), ((uu2 53), .inl (cs 0, 450, .inl (fun _ => 0))), (qn3, .inr (12, [.ref (uu4 0), .int 0, .int 0, .int 0, .int 0, .ref (uu4 1), .ref (uu4 2), .ref (uu4 3), .ref (uu4 4), .ref (uu4 5), .ref (uu4 6), .ref (uu4 7), .ref (uu4 8), .ref (uu4 9), .int 0, .int 0, .ref (uu4 10), .ref (uu4 11), .ref (uu4 12), .ref (uu4 13), .ref (uu4 14), .ref (uu4 15), .ref (uu4 16), .ref (uu4 17), .ref (uu4 18), .ref (uu4 19), .int 0, .int 0, .int 0, .int 0, .ref (uu4 20), .ref (uu4 21), .ref (uu4 22), .ref (uu4 23), .ref (uu4 24), .ref (uu4 25), .ref (uu4 26), .ref (uu4 27), .ref (uu4 28), .ref (uu4 29), .ref (uu4 30), .ref (uu4 31), .ref (uu4 32), .ref (uu4 33), .ref (uu4 34), .ref (uu4 35), .ref (uu4 36), .ref (uu4 37), .ref (uu4 38), .ref (uu4 39), .int 0, .int 0, .int 0, .ref (uu4 40), .ref (uu4 41), .ref (uu4 42), .ref (uu4 43), .int 0, .int 0, .ref (uu4 44), .ref (uu4 45), .ref (uu4 46), .ref (uu4 47), .int 0])), ((uu4 0), .inl (cs 2, 500, .inl (fun _ => 0))), ((uu4 10), .inl (cs 5, 16, .inr (.inr (.inr (.inr (fun i => if i < 16 then some (((gg4 0).2) i) else none)))))), ((((gg4 0).2) 15), .inl (cs 3, 150, .inl (fun _ => 0)))] H := hP
  have hD : va_D A [(qn1, .inr (11, [.ref (uu2 0), .ref (uu2 1), .ref (uu2 2), .ref (uu2 3), .ref (uu2 4), .ref (uu2 5), .ref (uu2 6), .ref (uu2 7), .ref (uu2 8), .ref (uu2 9), .ref (uu2 10), .ref (uu2 11), .ref (uu2 12), .ref (uu2 13), .ref (uu2 14), .int 0, .ref (uu2 15), .int 0, .ref (uu2 16)])), ((uu2 0), .inr (9, [.ref (uu2 17), .int 0, .int 0, .int 0, .int 0])), ((uu2 17), .inl (cs 0, 500, .inl (fun _ => 0))), ((uu2 1), .inr (2, [.ref (uu2 18), .int 0, .ref (uu2 19), .ref (uu2 20), .ref (uu2 21), .ref (uu2 22), .ref (uu2 23), .int 0, .ref (uu2 24), .ref (uu2 25), .ref (uu2 26), .ref (uu2 27), .ref (uu2 28)])), ((uu2 2), .inr (2, [.ref (uu2 29), .int 0, .ref (uu2 30), .ref (uu2 31), .ref (uu2 32), .ref (uu2 33), .ref (uu2 34), .int 0, .ref (uu2 35), .ref (uu2 36), .ref (uu2 37), .ref (uu2 38), .ref (uu2 39)])), ((uu2 29), .inl (cs 0, 500, .inl (fun _ => 0))), ((uu2 3), .inr (10, [.int 0, .ref (uu2 40), .ref (uu2 41), .ref (uu2 42), .ref (uu2 43), .ref (uu2 44), .ref (uu2 45), .ref (uu2 46)])), ((uu2 7), .inr (1, [.int 0, .ref (uu2 47), .ref (uu2 48), .ref (uu2 49), .ref (uu2 50)])), ((uu2 8), .inr (0, [.int 0, .int 0, .ref (uu2 51), .ref (uu2 52)])), ((uu2 9), .inr (7, [.int 0, .ref (uu2 53)])), ((uu2 53), .inl (cs 0, 450, .inl (fun _ => 0))), (qn3, .inr (12, [.ref (uu4 0), .int 0, .int 0, .int 0, .int 0, .ref (uu4 1), .ref (uu4 2), .ref (uu4 3), .ref (uu4 4), .ref (uu4 5), .ref (uu4 6), .ref (uu4 7), .ref (uu4 8), .ref (uu4 9), .int 0, .int 0, .ref (uu4 10), .ref (uu4 11), .ref (uu4 12), .ref (uu4 13), .ref (uu4 14), .ref (uu4 15), .ref (uu4 16), .ref (uu4 17), .ref (uu4 18), .ref (uu4 19), .int 0, .int 0, .int 0, .int 0, .ref (uu4 20), .ref (uu4 21), .ref (uu4 22), .ref (uu4 23), .ref (uu4 24), .ref (uu4 25), .ref (uu4 26), .ref (uu4 27), .ref (uu4 28), .ref (uu4 29), .ref (uu4 30), .ref (uu4 31), .ref (uu4 32), .ref (uu4 33), .ref (uu4 34), .ref (uu4 35), .ref (uu4 36), .ref (uu4 37), .ref (uu4 38), .ref (uu4 39), .int 0, .int 0, .int 0, .ref (uu4 40), .ref (uu4 41), .ref (uu4 42), .ref (uu4 43), .int 0, .int 0, .ref (uu4 44), .ref (uu4 45), .ref (uu4 46), .ref (uu4 47), .int 0])), ((uu4 0), .inl (cs 2, 500, .inl (fun _ => 0))), ((uu4 10), .inl (cs 5, 16, .inr (.inr (.inr (.inr (fun i => if i < 16 then some (((gg4 0).2) i) else none)))))), ((((gg4 0).2) 15), .inl (cs 3, 150, .inl (fun _ => 0)))] := hD
  refine lv_astore_n (lv' := [(2, .ref qn3), (1, .ref qn1), (0, .ref b)]) hx hb dL_law_15 rfl hl (by decide) rfl (fun ls hl => ?_)
  refine lv_iconst (v := 0) hx hb dL_law_16 (by decide) ?_
  refine lv_istore_n (lv' := [(3, .int 0), (2, .ref qn3), (1, .ref qn1), (0, .ref b)]) hx hb dL_law_17 rfl hl (by decide) rfl (fun ls hl => ?_)
  have hl := lv_sub hl [0, 1, 2, 3] (l' := [(3, .int 0), (2, .ref qn3), (1, .ref qn1), (0, .ref b)]) rfl
  rcases (show L = 0 ∨ L = 1 ∨ L = 2 ∨ L = 3 ∨ L = 4 ∨ L = 5 ∨ L = 6 by omega) with rfl | rfl | rfl | rfl | rfl | rfl | rfl
  · exact law_short0 qn3 qn1 (Nat.le_of_ble_eq_true rfl) (Nat.le_of_ble_eq_true rfl) hx hb hr hml hB hown hlocks hK hN hA hA2 hbA hbl hX _ _ hS ls hl
  · exact law_short1 qn3 qn1 (Nat.le_of_ble_eq_true rfl) (Nat.le_of_ble_eq_true rfl) hx hb hr hml hB hown hlocks hK hN hA hA2 hbA hbl hX _ _ hS ls hl
  · exact law_short2 qn3 qn1 (Nat.le_of_ble_eq_true rfl) (Nat.le_of_ble_eq_true rfl) hx hb hr hml hB hown hlocks hK hN hA hA2 hbA hbl hX _ _ hS ls hl
  · exact law_short3 qn3 qn1 (Nat.le_of_ble_eq_true rfl) (Nat.le_of_ble_eq_true rfl) hx hb hr hml hB hown hlocks hK hN hA hA2 hbA hbl hX _ _ hS ls hl
  · exact law_short4 qn3 qn1 (Nat.le_of_ble_eq_true rfl) (Nat.le_of_ble_eq_true rfl) hx hb hr hml hB hown hlocks hK hN hA hA2 hbA hbl hX _ _ hS ls hl
  · exact law_short5 qn3 qn1 (Nat.le_of_ble_eq_true rfl) (Nat.le_of_ble_eq_true rfl) hx hb hr hml hB hown hlocks hK hN hA hA2 hbA hbl hX _ _ hS ls hl
  · exact law_head qn3 qn1 uu2 uu4 gg4 hx hb hr hml hB hown hlocks hK hN hA hA2 hbA hbl hX _ _ hP hD hS ls hl
-- ===== YOUR PART ENDS =====
set_option maxHeartbeats 4000000 in
theorem lw_walk (l : Launch) (b : Addr) (xs : List Int32) : MetFree l x (headSpec (Jvm.Cond.code x code maxLocals ret :: tables_1) room_1) (lw_P b xs) (fun _ _ _ _ _ => True) lw_Q := by
  refine MetFree.of_bodyS (code := code) (maxLocals := maxLocals) (ret := ret) (by decide) ?_ ?_
  · intro args s m h hn
    obtain ⟨meth, c, h1, h2, h3, h4, h5, h6, -, -⟩ := Cond.code_spec hn (atoms_spec (ws := Jvm.Cond.code x code maxLocals ret :: tables_1) h _ List.mem_cons_self)
    exact ⟨meth, c, h1, h2, h3, h4, h5, h6⟩
  · intro p e s m args below meth c s₁ B hml0 hP _
    obtain ⟨rfl, hx, hbd, hgv⟩ := hP
    obtain ⟨scr, harrAt, hlist, hof, hsmall⟩ := hx
    obtain ⟨hcb, hkn, -, -⟩ := State.arrayAt?_spec harrAt
    have hown : s.vm.findClass R_law = some m.cls := findClass_of_methodNamed B.named
    have hts0 : ∀ c ∈ (Jvm.Cond.code x code maxLocals ret :: tables_1), c.before #[Value.ref b] s = true := atoms_spec (ws := Jvm.Cond.code x code maxLocals ret :: tables_1) B.pre
    have hts : ∀ w ∈ lw_tbl, w.before #[Value.ref b] s = true := k2_hts_sels lw_privs (fun w hw => hts0 w (List.mem_cons_of_mem _ hw)) lw_privs_ok
    have hml : c.maxLocals = 4 := B.maxLocals_eq (hts0 _ List.mem_cons_self)
    have X₀ : Stand p l e room_1 s m #[Value.ref b] below meth c s₁ [] 0 0 := Stand.of_body B
    have hh0 : s₁.heap = s.heap := by rw [B.state]; rfl
    have hsz : scr.slots.size = xs.length := by rw [← Array.length_toList, hlist, List.length_map]
    have hval : ∀ j : Nat, j < xs.length → scr.slots[j]? = some (.int (xs.getD j 0)) := fun j hj => by
      rw [← Array.getElem?_toList, hlist]
      simp [hj]
    have hbl : b < s.heap.size := (Array.getElem?_eq_some_iff.mp hcb).1
    have hX : va_X b xs.length (fun j => xs.getD j 0) s s.heap := ⟨scr, hcb, hof, hkn, hsz, hval⟩
    have K : W p l e room_1 s m #[Value.ref b] below meth c s₁.heap [] 0 0 (lw_Z below #[Value.ref b] s) (entryFrame m ([Value.ref b] : List Value).toArray 4) := by
      rw [hh0]
      exact whole_start l hbd ⟨B.exec, B.bytes, B.returns, hml, hown, hts, hX, hbl, B.notSynchronized, hgv⟩
    obtain ⟨t, a1, o, b1, b2, b3⟩ := K s₁ rfl X₀
    exact ⟨t, o, a1, b1, b2, b3⟩
theorem lw_pre_spec {args : Array Value} {s : State} (h : (Jvm.Cond.and given_1 narrow_1).before args s = true) (hr : rest_1_c.before args s = true) : ∃ (b : Addr) (xs : List Int32), lw_P b xs args s := by
  have hs := flat_of_before _ h
  have hq := flat_of_before _ hr
  have hc : (Cond.count 1).before args s = true := hs _ (by decide +kernel)
  have harr : (Cond.arrayOf (.arg 0) .int).before args s = true := hs _ (by decide +kernel)
  have hle : (Cond.le (.length (.arg 0)) (.int 6)).before args s = true := hs _ (by decide +kernel)
  have hlen : (Cond.isInt (.length (.arg 0))).before args s = true := hq _ (by decide +kernel)
  have hall : (Cond.all (.arg 0) (.isInt (.elem (.arg 0) (.index 0)))).before args s = true := hq _ (by decide +kernel)
  obtain ⟨b, xs, hb, hx⟩ := State.ints_of_pre rfl harr hlen hall
  have hsm : xs.length < 2 ^ 31 := hx.choose_spec.2.2.2
  have hev : (Term.length (.arg 0)).eval args s none [] s = some (.int xs.length.toInt32) := hx.length_eval hb
  have hv := Cond.le_ints hev (show (Term.int 6).eval args s none [] s = some (.int 6) from rfl)
  have hd : xs.length.toInt32 ≤ 6 := by
    simpa [Cond.before, Cond.holds, hv] using hle
  have hN : xs.length ≤ 6 := (Int32.ofNat_le_ofNat hsm (by decide)).mp (show Int32.ofNat xs.length ≤ Int32.ofNat 6 from hd)
  exact ⟨b, xs, Cond.one_arg hc (show args[0]? = some (.ref b) from hb), hx, hN, h⟩
theorem lw_comes (l : Launch) : Comes l x (Jvm.Cond.code x code maxLocals ret :: tables_1) room_1 (fun tb e args s => Calls_1 tb e args s ∧ rest_1 tb e args s ∧ Pre_1 tb e args s)
    (fun _ _ args s o t => lw_Q args s o t) := by
  intro p e ha hc hk s m args below hf hfit hheap happ hpre
  obtain ⟨b, xs, hP⟩ := lw_pre_spec hpre.2.2 hpre.2.1
  obtain ⟨k, o, h1, h2, h3, hQ⟩ := lw_walk l b xs p e ha hc hk s m args below hf ((Spec.applies_iff_loose hf).mp happ).1 hP trivial
  exact ⟨k, o, h1, h2, h3, hQ⟩
theorem lw_frame {s t : State} {o : Outcome} {args : Array Value} (h : Framed s o t [] 600000 7302250) :
    Framed s o t (fieldLocs frame_1_writes args s ++ arrayLocs frame_1_arrays args s ++ staticLocs frame_1_statics s) 600000 7302250 := h
theorem lw_limb (L : Cond) (hL : ∀ (args : Array Value) (s t : State), L.after args s (.returned (some (.int 1))) t = true) :
    ArmFor flags0 classFile x code maxLocals ret World_1 tables_1 room_1 Calls_1 rest_1 Pre_1
      (fun tb e a s o t => postC L tb e a s o t ∧ Framed s o t (fieldLocs frame_1_writes a s ++ arrayLocs frame_1_arrays a s ++ staticLocs frame_1_statics s) 600000 7302250) := by
  intro l _ _ _ p e ha hc hk s m args below hf hfit hheap happ hpre
  obtain ⟨k, o, h1, h2, h3, rfl, hF⟩ := lw_comes l p e ha hc hk s m args below hf hfit hheap happ hpre
  exact ⟨k, _, h1, h2, h3, hL args s _, lw_frame hF⟩
theorem i_vc : Claimed_1_1 ∧ Claimed_1_2 := ⟨lw_limb limb_1_1 (fun args s t => by simp [limb_1_1, Cond.after, Cond.holds, Cond.value]), lw_limb limb_1_2 (fun args s t => Cond.after_iff.mpr (by
  first | (rw [show limb_1_2 = Cond.eq .result (.int 1) from rfl, Cond.eq_ints (x := 1) (y := 1) rfl rfl]; simp; done) | (simp [limb_1_2, Cond.value, Term.eval]; done)))⟩
