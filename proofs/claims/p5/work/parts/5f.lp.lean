set_option maxHeartbeats 4000000 in
set_option maxRecDepth 100000 in
theorem law_exit {p : Program} {l : Launch} {e : Env} {s : State} {m : MethodId} {below : List Frame} {meth : Method} {c : Code} {D : va_G} {cs : Nat → ClassId} {A : Nat → Prop} {b Len : Nat} {xs : Nat → Int32} {cells slots : Nat} (hc : cells ≤ 600000) (hs : slots ≤ 7302250) (hx : p.tables.exec = Jvm.exec) (hb : c.code = cL_law) (hr : meth.sig.returnType = ret) (hml : c.maxLocals = 4) (hB : ∀ w ∈ cx_big, w.before #[Value.ref b] s = true) (hown : s.vm.findClass "TreeMergeLaw" = some m.cls) (hlocks : meth.locks = false) (hK : va_K D vwCl (cx_TY cs) s) (hN : tw_NZ D A s s.heap) (hA : ∀ q : Nat, s.heap.size ≤ q → A q) (hA2 : ∀ q : Nat, A q → s.heap.size ≤ q) (hbA : ¬ A b) (hbl : b < s.heap.size) (hX : va_X b Len xs s s.heap) (hLen : Len ≤ 3072) (H : Heap) (locs : List Loc) (hS : va_S A s.heap H locs) (ls : Array Slot) : W p l e room_1 s m #[Value.ref b] below meth c H locs cells slots (lw_Z below #[Value.ref b] s) (F0 m 1184 ls []) := by
  refine lv_iconst (v := 1) hx hb dL_law_1184 (by decide) ?_
  refine va_forget (fun q hq => hA2 _ (hS.2.2 q hq)) ?_
  refine W.widen (k := 600000) (n := 7302250) hc hs ?_
  exact lw_ret hx hb hr hlocks dL_law_1185
set_option maxHeartbeats 4000000 in
set_option maxRecDepth 100000 in
theorem law_loop {p : Program} {l : Launch} {e : Env} {s : State} {m : MethodId} {below : List Frame} {meth : Method} {c : Code} {D : va_G} {cs : Nat → ClassId} {A : Nat → Prop} {b Len : Nat} {xs : Nat → Int32} (hx : p.tables.exec = Jvm.exec) (hb : c.code = cL_law) (hr : meth.sig.returnType = ret) (hml : c.maxLocals = 4) (hB : ∀ w ∈ cx_big, w.before #[Value.ref b] s = true) (hown : s.vm.findClass "TreeMergeLaw" = some m.cls) (hlocks : meth.locks = false) (hK : va_K D vwCl (cx_TY cs) s) (hN : tw_NZ D A s s.heap) (hA : ∀ q : Nat, s.heap.size ≤ q → A q) (hA2 : ∀ q : Nat, A q → s.heap.size ≤ q) (hbA : ¬ A b) (hbl : b < s.heap.size) (hX : va_X b Len xs s s.heap) (hLen : Len ≤ 3072) {xq mq : Nat} (n : Nat) : ∀ (kp : Nat → Nat) (L : List Nat) (E : Nat → va_E) (i : Int32) (cells slots : Nat) (H : Heap) (locs : List Loc) (ls : Array Slot), 0 ≤ i.toInt → i.toInt ≤ 3072 → 3078 - i.toInt ≤ (n : Int) → (cells : Int) + 2 * (3084 - i.toInt) ≤ 600000 → (slots : Int) + 60 * (3084 - i.toInt) ≤ 7302250 → lv_I kp L E xq mq → tw_H D cs kp L E A H → va_S A s.heap H locs → lv_has ls 4 [(3, .int i), (2, .ref mq), (1, .ref xq), (0, .ref b)] → W p l e room_1 s m #[Value.ref b] below meth c H locs cells slots (lw_Z below #[Value.ref b] s) (F0 m 18 ls []) := by
  induction n with
  | zero =>
    intro kp L E i cells slots H locs ls hi0 hi1 hn
    exfalso
    omega
  | succ n ih =>
    intro kp L E i cells slots H locs ls hi0 hi1 hn hc hs I TH hS hl
    refine law_head hx hb hr hml hB hown hlocks hK hN hA hA2 hbA hbl hX hLen i hi0 (by omega) (by omega) I TH hS hl (fun kp1 L1 E1 H1 locs1 cells1 slots1 h1 h2 h3 I1 TH1 hS1 => ?_) (fun ls1 _ => law_exit (by omega) (by omega) hx hb hr hml hB hown hlocks hK hN hA hA2 hbA hbl hX hLen _ _ hS ls1)
    obtain ⟨z, ez⟩ : ∃ z : Int32, z = i + Int32.ofInt 6 := ⟨_, rfl⟩
    have hz : z.toInt = i.toInt + 6 := by rw [ez]; have : ((Int32.ofInt 6).toInt) = 6 := (by decide); exact (ia_add (by omega) (by omega)).trans (by omega)
    refine lv_iinc (v := z) (lv' := [(3, .int z), (2, .ref mq), (1, .ref xq), (0, .ref b)]) hx hb dL_law_1178 hl (k := 0) rfl ez.symm (by decide) rfl (fun ls hl => ?_)
    refine lv_goto (tgt := 18) hx hb dL_law_1181 (by decide) ?_
    exact ih kp1 L1 E1 z cells1 slots1 H1 locs1 ls (by omega) (by omega) (by omega) (by omega) (by omega) I1 TH1 hS1 hl
theorem lv_start {cs : Nat → ClassId} {kp1 kp2 : Nat → Nat} {L1 L2 : List Nat} {E1 E2 : Nat → va_E} {x m : Nat} (hT1 : tw_ok cs kp1 L1 E1) (hmx : x ∈ L1) (hkx : kp1 x = 11) (hx2 : ∀ a : Nat, a ∈ L1 → a ∈ L2 ∧ kp2 a = kp1 a ∧ E2 a = E1 a) (hmm : m ∈ L2) (hkm : kp2 m = 12) (P1 : ∃ t r1 r2 : Nat, tw_fv E1 x 0 = .ref t ∧ tw_fv E1 x 1 = .ref r1 ∧ tw_fv E1 x 2 = .ref r2 ∧ tw_fv E1 t 1 = .int 0 ∧ tw_fv E1 r1 1 = .int 0 ∧ sp_ok E1 r2 r1 ∧ ab_ok E1 r1 t ∧ ab_ok E1 r2 t) (P2 : rz_ok E2 m ∧ tw_fv E2 m 1 = .int 0 ∧ tw_fv E2 m 14 = .int 0) : lv_I kp2 L2 E2 x m := by
  obtain ⟨t, r1, r2, a0, a1, a2, at1, ar1, sp, b1, b2⟩ := P1
  obtain ⟨t', e0, m0, -⟩ := tw_rak hT1 hmx hkx (k := 0) (by decide) (by decide) (kd := 9) rfl
  obtain ⟨r1', e1, m1, -⟩ := tw_rak hT1 hmx hkx (k := 1) (by decide) (by decide) (kd := 2) rfl
  obtain ⟨r2', e2, m2, -⟩ := tw_rak hT1 hmx hkx (k := 2) (by decide) (by decide) (kd := 2) rfl
  have q0 : t = t' := by have q := a0.symm.trans e0; injection q
  have q1 : r1 = r1' := by have q := a1.symm.trans e1; injection q
  have q2 : r2 = r2' := by have q := a2.symm.trans e2; injection q
  subst q0 q1 q2
  have fx := (hx2 x hmx).2.2
  have ft := (hx2 t m0).2.2
  have f1 := (hx2 r1 m1).2.2
  have f2 := (hx2 r2 m2).2.2
  have z0 : ((0 : Int32).toInt) = 0 := by decide
  have c0 : tw_fa E2 x 0 = t := tw_fa_of (fv_ext fx a0)
  have c1 : tw_fa E2 x 1 = r1 := tw_fa_of (fv_ext fx a1)
  have c2 : tw_fa E2 x 2 = r2 := tw_fa_of (fv_ext fx a2)
  have nt : tw_fi E2 t 1 = 0 := (tw_fi_of (fv_ext ft at1)).trans z0
  have nr : tw_fi E2 r1 1 = 0 := (tw_fi_of (fv_ext f1 ar1)).trans z0
  have n1 : tw_fi E2 m 1 = 0 := (tw_fi_of P2.2.1).trans z0
  have n14 : tw_fi E2 m 14 = 0 := (tw_fi_of P2.2.2).trans z0
  refine ⟨(hx2 x hmx).1, (hx2 x hmx).2.1.trans hkx, hmm, hkm, ?_, ?_, ?_, P2.1, ?_⟩
  · unfold gz_ok
    rw [c1]
    intro k hk
    omega
  · unfold ss_ok
    rw [c1, c2]
    exact sp_ok_ext f2 f1 sp
  · unfold ac_ok
    rw [c0, c1, c2]
    exact ⟨ab_ok_ext f1 ft b1, ab_ok_ext f2 ft b2⟩
  · refine Or.inr ⟨?_, n14, ?_, fun i hi => by omega⟩
    · show tw_fi E2 (tw_fa E2 x 1) 1 = 0
      rw [c1]; exact nr
    · show tw_fi E2 (tw_fa E2 x 0) 1 = tw_fi E2 m 1
      rw [c0, nt, n1]
def tm_s (i : Nat) : Term := match i with
  | 0 => Term.string "TreeMerge$Text" 41
  | _ => Term.string "TreeMerge$Text" 47
set_option maxHeartbeats 4000000 in
set_option maxRecDepth 100000 in
theorem st_start {b : Nat} {s : State} {A : Nat → Prop} (hts : ∀ w ∈ lw_tbl, w.before #[Value.ref b] s = true) (hgv : (Jvm.Cond.and given_1 narrow_1).before #[Value.ref b] s = true) (hA2 : ∀ q : Nat, A q → s.heap.size ≤ q) : ∃ adK adV : Nat → Nat, ∀ D : va_G, D.2 100 = adK → D.2 101 = adV → st_S D A s s.heap := by
  have hs := flat_of_before _ hgv
  have hw : ∀ {w : Cond} (i : Nat), tables_1[i]? = some w → w.before #[Value.ref b] s = true := fun i h => hts _ (List.mem_append_right _ (List.mem_of_getElem? h))
  have hnA : ∀ a : Nat, a < s.heap.size → ¬ A a := fun a h z => Nat.not_le.mpr h (hA2 a z)
  obtain ⟨adK, adV, hV, hev⟩ := vk_Sof (args := #[Value.ref b]) (s := s) (N := 2) (tm := tm_s) (len := [4, 3]) (byt := [[108, 101, 97, 102], [115, 101, 116]]) (A := A)
    (fun i hi => match i, hi with | 0, _ => by decide | 1, _ => by decide)
    (fun i hi => match i, hi with | 0, _ => hs _ (by decide +kernel) | 1, _ => hs _ (by decide +kernel))
    (fun i hi => match i, hi with | 0, _ => hs _ (by decide +kernel) | 1, _ => hs _ (by decide +kernel))
    (fun i hi => match i, hi with | 0, _ => hs _ (by decide +kernel) | 1, _ => hs _ (by decide +kernel))
    (fun i hi => match i, hi with | 0, _ => hs _ (by decide +kernel) | 1, _ => hs _ (by decide +kernel))
    (fun i hi j hj => match i, hi, j, hj with | 0, _, 0, _ => hs _ (by decide +kernel) | 0, _, 1, _ => hs _ (by decide +kernel) | 0, _, 2, _ => hs _ (by decide +kernel) | 0, _, 3, _ => hs _ (by decide +kernel) | 1, _, 0, _ => hs _ (by decide +kernel) | 1, _, 1, _ => hs _ (by decide +kernel) | 1, _, 2, _ => hs _ (by decide +kernel))
    (fun i j hi hj hne => match i, hi, j, hj, hne with | 0, _, 0, _, hne => absurd rfl hne | 0, _, 1, _, _ => Or.inl (hs _ (by decide +kernel)) | 1, _, 0, _, _ => Or.inr (hs _ (by decide +kernel)) | 1, _, 1, _, hne => absurd rfl hne) hnA
  have t0 : (Term.string "TreeMerge$Text" 41).eval #[Value.ref b] s none [] s = some (.ref (adK 0)) := hev 0 (by decide)
  have t1 : (Term.string "TreeMerge$Text" 47).eval #[Value.ref b] s none [] s = some (.ref (adK 1)) := hev 1 (by decide)
  have k0 : (Term.string "TreeMergeModel" 213).eval #[Value.ref b] s none [] s = some (.ref (adK 0)) := by
    have h : (Cond.eq (Term.string "TreeMerge$Text" 41) (Term.string "TreeMergeModel" 213)).before #[Value.ref b] s = true := hs _ (by decide +kernel)
    obtain ⟨y, h1, h2⟩ := Cond.eq_one h
    rw [t0] at h1
    cases h1
    exact h2
  have k1 : (Term.string "TreeMergeModel" 219).eval #[Value.ref b] s none [] s = some (.ref (adK 1)) := by
    have h : (Cond.eq (Term.string "TreeMerge$Text" 47) (Term.string "TreeMergeModel" 219)).before #[Value.ref b] s = true := hs _ (by decide +kernel)
    obtain ⟨y, h1, h2⟩ := Cond.eq_one h
    rw [t1] at h1
    cases h1
    exact h2
  have i0 : (Cond.initialized "java/lang/String").before #[Value.ref b] s = true := hw 14 (by decide +kernel)
  have i1 : (Cond.initialized "jdk/internal/util/Preconditions").before #[Value.ref b] s = true := hw 16 (by decide +kernel)
  have v0 : (Cond.eq (Term.static "java/lang/String" "COMPACT_STRINGS" "Z") (Term.int 1)).before #[Value.ref b] s = true := hs _ (by decide +kernel)
  have v1 : (Cond.isRef (Term.static "jdk/internal/util/Preconditions" "SIOOBE_FORMATTER" "Ljava/util/function/BiFunction;")).before #[Value.ref b] s = true := hs _ (by decide +kernel)
  refine ⟨adK, adV, fun D d0 d1 => ?_⟩
  unfold st_S
  rw [d0, d1]
  exact ⟨hV, va_Zof (hw 502 (by decide +kernel)) i0 (va_eqt v0) hnA, va_Zqof (hw 518 (by decide +kernel)) i1 v1 hnA, vk_R.of (hw 488 (by decide +kernel)) t0, vk_R.of (hw 541 (by decide +kernel)) t1, vk_R.of (hw 1507 (by decide +kernel)) k0, vk_R.of (hw 1514 (by decide +kernel)) k1⟩
theorem ao_spec {A : Array Value} {U : State} {C : String} (h : (Cond.arrayOver (.object C)).before A U = true) : ∃ cA k comp, U.vm.classes[cA]? = some k ∧ k.kind = .array comp (.object C) ∧ va_RA U cA (.object C) := by
  unfold Cond.before at h
  simp only [Cond.holds, Cond.value, beq_iff_eq, Option.bind_eq_some_iff, Option.map_eq_some_iff] at h
  obtain ⟨comp, hc, cA, hi, k, hk, hb⟩ := h
  obtain ⟨hlt, hp, -⟩ := Array.findIdx?_eq_some_iff_getElem.mp hi
  rw [(Array.getElem?_eq_some_iff.mp hk).2] at hp
  cases hkd : k.kind with
  | array c9 t9 =>
    rw [hkd] at hp hb
    simp at hp hb
    have e9 : k.kind = .array comp (.object C) := by rw [hkd, hp, hb.1]
    exact ⟨cA, k, comp, hk, e9, k, comp, hk, e9, hc, hb.2⟩
  | _ => rw [hkd] at hp; simp at hp
