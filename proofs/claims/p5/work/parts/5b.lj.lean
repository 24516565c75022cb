/-! the law's loop: both objects in one world -/
abbrev lj_r (E : Nat → va_E) (x : Nat) : Int := tw_fi E (tw_fa E x 1) 1
abbrev lj_n (E : Nat → va_E) (x : Nat) : Int := tw_fi E (tw_fa E x 0) 1
abbrev lj_t (E : Nat → va_E) (x : Nat) : Nat → Int := tw_el E (tw_fa E x 0) 0
def lj_ok (E : Nat → va_E) (x m : Nat) : Prop := (0 < lj_r E x ∧ 0 < tw_fi E m 14) ∨ (lj_r E x = 0 ∧ tw_fi E m 14 = 0 ∧ lj_n E x = tw_fi E m 1 ∧ smt_ok (lj_t E x) (tw_el E m 0) (tw_fi E m 1))
section LJF
variable {D : va_G} {A : Nat → Prop} {H : Heap} {cs : Nat → ClassId} {kp : Nat → Nat} {L : List Nat} {E E1 : Nat → va_E} {ms : List (Nat × Nat)} {ks : List Nat} {x m a ci k : Nat}
theorem cl_a (h : tw_fr kp L ms ks E E1) (hm : x ∈ L) (hk : kp x = 11) (h1 : (11, 0) ∉ ms) : tw_fa E1 x 0 = tw_fa E x 0 := tw_fa_fr h hm hk h1
theorem cl_r (hT : tw_ok cs kp L E) (h : tw_fr kp L ms ks E E1) (hm : x ∈ L) (hk : kp x = 11) (h1 : (11, 1) ∉ ms) (h2 : (2, 1) ∉ ms) : lj_r E1 x = lj_r E x := by
  obtain ⟨b, e1, e2, e3⟩ := tw_rak hT hm hk (k := 1) (by decide) (by decide) (kd := 2) rfl
  show tw_fi E1 (tw_fa E1 x 1) 1 = tw_fi E (tw_fa E x 1) 1
  rw [tw_fa_fr h hm hk h1, tw_fa_of e1]
  exact tw_fi_fr h e2 e3 h2
theorem cl_n (hT : tw_ok cs kp L E) (h : tw_fr kp L ms ks E E1) (hm : x ∈ L) (hk : kp x = 11) (h1 : (11, 0) ∉ ms) (h2 : (9, 1) ∉ ms) : lj_n E1 x = lj_n E x := by
  obtain ⟨b, e1, e2, e3⟩ := tw_rak hT hm hk (k := 0) (by decide) (by decide) (kd := 9) rfl
  show tw_fi E1 (tw_fa E1 x 0) 1 = tw_fi E (tw_fa E x 0) 1
  rw [tw_fa_fr h hm hk h1, tw_fa_of e1]
  exact tw_fi_fr h e2 e3 h2
theorem cl_t (hT : tw_ok cs kp L E) (h : tw_fr kp L ms ks E E1) (hm : x ∈ L) (hk : kp x = 11) (h1 : (11, 0) ∉ ms) (h2 : (9, 0) ∉ ms) (h3 : 100 ∉ ks) : lj_t E1 x = lj_t E x := by
  obtain ⟨b, e1, e2, e3⟩ := tw_rak hT hm hk (k := 0) (by decide) (by decide) (kd := 9) rfl
  show tw_el E1 (tw_fa E1 x 0) 0 = tw_el E (tw_fa E x 0) 0
  rw [tw_fa_fr h hm hk h1, tw_fa_of e1]
  exact funext (fun j => tw_el_fo hT h e2 e3 (by decide) (by decide) (kd := 100) rfl (by decide) h2 h3 j)
theorem rf_t (hT : tw_ok cs kp L E) (h : tw_fr kp L ms ks E E1) (hm : m ∈ L) (hk : kp m = 12) (h2 : (12, 0) ∉ ms) (h3 : 300 ∉ ks) : tw_el E1 m 0 = tw_el E m 0 := funext (fun j => tw_el_fo hT h hm hk (by decide) (by decide) (kd := 300) rfl (by decide) h2 h3 j)
theorem lj_of {R N : Int} {T : Nat → Int} {K M : Int} {U : Nat → Int} (r : lj_r E1 x = R) (n : lj_n E1 x = N) (t : lj_t E1 x = T) (k : tw_fi E1 m 14 = K) (l : tw_fi E1 m 1 = M) (u : tw_el E1 m 0 = U) (q : (0 < R ∧ 0 < K) ∨ (R = 0 ∧ K = 0 ∧ N = M ∧ smt_ok T U M)) : lj_ok E1 x m := by
  unfold lj_ok
  rw [r, n, t, k, l, u]
  exact q
theorem lj_ok_fo (hT : tw_ok cs kp L E) (h : tw_fr kp L ms ks E E1) (hmx : x ∈ L) (hkx : kp x = 11) (hmm : m ∈ L) (hkm : kp m = 12) (h1 : ∀ y ∈ [(11, 0), (11, 1), (2, 1), (9, 0), (9, 1), (12, 0), (12, 1), (12, 14)], y ∉ ms) (h2 : ∀ y ∈ [100, 300], y ∉ ks) (q : lj_ok E x m) : lj_ok E1 x m :=
  lj_of (cl_r hT h hmx hkx (h1 _ (by decide)) (h1 _ (by decide))) (cl_n hT h hmx hkx (h1 _ (by decide)) (h1 _ (by decide))) (cl_t hT h hmx hkx (h1 _ (by decide)) (h1 _ (by decide)) (h2 _ (by decide))) (tw_fi_fr h hmm hkm (h1 (12, 14) (by decide))) (tw_fi_fr h hmm hkm (h1 (12, 1) (by decide))) (rf_t hT h hmm hkm (h1 _ (by decide)) (h2 _ (by decide))) q
theorem tw_fr_sy (h : tw_fr kp L ms ks E E1) : tw_fr kp L ms ks E1 E := ⟨fun b j hb hn => (h.1 b j hb hn).symm, fun b hb h0 hn => (h.2 b hb h0 hn).symm⟩
theorem lj_ok_fr (TH : tw_H D cs kp L E1 A H) (h : tw_fr kp L ms ks E E1) (hmx : x ∈ L) (hkx : kp x = 11) (hmm : m ∈ L) (hkm : kp m = 12) (h1 : ∀ y ∈ [(11, 0), (11, 1), (2, 1), (9, 0), (9, 1), (12, 0), (12, 1), (12, 14)], y ∉ ms) (h2 : ∀ y ∈ [100, 300], y ∉ ks) (q : lj_ok E x m) : lj_ok E1 x m :=
  lj_of (cl_r TH.2.2 (tw_fr_sy h) hmx hkx (h1 _ (by decide)) (h1 _ (by decide))).symm (cl_n TH.2.2 (tw_fr_sy h) hmx hkx (h1 _ (by decide)) (h1 _ (by decide))).symm (cl_t TH.2.2 (tw_fr_sy h) hmx hkx (h1 _ (by decide)) (h1 _ (by decide)) (h2 _ (by decide))).symm (tw_fi_fr h hmm hkm (h1 (12, 14) (by decide))) (tw_fi_fr h hmm hkm (h1 (12, 1) (by decide))) (rf_t TH.2.2 (tw_fr_sy h) hmm hkm (h1 _ (by decide)) (h2 _ (by decide))).symm q
/-- a world that has grown, in two steps: the old cells as they were, then as they are -/
theorem tw_mid {kp1 : Nat → Nat} {L1 : List Nat} (TH0 : tw_H D cs kp L E A H) (h : tw_fr kp L ms ks E E1) (hx : ∀ a : Nat, a ∈ L → a ∈ L1 ∧ kp1 a = kp a) : ∃ E2 : Nat → va_E, tw_H D cs kp L E2 A H ∧ tw_fr kp L [] [] E E2 ∧ tw_fr kp1 L1 ms ks E2 E1 := by
  have key : ∀ a : Nat, a ∈ L → (fun a => if a ∈ L then E a else E1 a) a = E a := fun a ha => if_pos ha
  have kfv : ∀ a j : Nat, a ∈ L → tw_fv (fun a => if a ∈ L then E a else E1 a) a j = tw_fv E a j := fun a j ha => by
    unfold tw_fv
    rw [key a ha]
  have kne : ∀ a : Nat, a ∉ L → (fun a => if a ∈ L then E a else E1 a) a = E1 a := fun a ha => if_neg ha
  have epl : va_pl L (fun a => if a ∈ L then E a else E1 a) = va_pl L E := List.map_congr_left (fun a ha => by rw [key a ha])
  refine ⟨fun a => if a ∈ L then E a else E1 a, ⟨by rw [epl]; exact TH0.1, by rw [epl]; exact TH0.2.1, fun a ha => by rw [key a ha]; exact TH0.2.2 a ha⟩, ⟨fun b j hb _ => kfv b j hb, fun b hb _ _ => key b hb⟩, ⟨fun b j hb hn => ?_, fun b hb h0 hn => ?_⟩⟩
  · by_cases z : b ∈ L
    · rw [kfv b j z]
      exact h.1 b j z (by rw [← (hx b z).2]; exact hn)
    · unfold tw_fv
      rw [kne b z]
  · by_cases z : b ∈ L
    · rw [key b z]
      exact h.2 b z (by rw [← (hx b z).2]; exact h0) (by rw [← (hx b z).2]; exact hn)
    · exact (kne b z).symm
end LJF
section LJO
variable {cs : Nat → ClassId} {kp kp1 : Nat → Nat} {L L1 : List Nat} {E E1 E2 : Nat → va_E} {ms1 ms2 : List (Nat × Nat)} {ks1 ks2 : List Nat} {x m : Nat}
/-- what a call of the reference leaves of the class, and a call of the class of the reference -/
theorem lj_feed {a b c d e n : Int} (hT : tw_ok cs kp L E) (hT1 : tw_ok cs kp L E1) (F1 : tw_fr kp L ms1 ks1 E E1) (F2 : tw_fr kp L ms2 ks2 E1 E2) (hmx : x ∈ L) (hkx : kp x = 11) (hmm : m ∈ L) (hkm : kp m = 12)
    (d1 : ∀ y ∈ [(11, 0), (11, 1), (2, 1), (12, 0), (12, 1), (12, 14)], y ∉ ms1) (d2 : 300 ∉ ks1) (d3 : ∀ y ∈ [(11, 0), (11, 1), (2, 1), (9, 0), (9, 1), (12, 14)], y ∉ ms2) (d4 : 100 ∉ ks2) (q : lj_ok E x m)
    (c0 : lj_n E x ≤ 480 → tw_fi E1 (tw_fa E x 0) 1 = lj_n E x + 20 ∧ tw_el E1 (tw_fa E x 0) 0 = fd5 by_c a b c d e (lj_t E x) (lj_n E x)) (c1 : 480 < lj_n E x → tw_fi E1 (tw_fa E x 0) 1 = lj_n E x ∧ tw_el E1 (tw_fa E x 0) 0 = lj_t E x)
    (hn : tw_fi E1 m 1 = n) (r0 : n ≤ 480 → tw_fi E2 m 1 = n + 20 ∧ tw_el E2 m 0 = fd5 by_r a b c d e (tw_el E1 m 0) n) (r1 : 480 < n → tw_fi E2 m 1 = n ∧ tw_el E2 m 0 = tw_el E1 m 0) : lj_ok E2 x m := by
  have er : lj_r E2 x = lj_r E x := (cl_r hT1 F2 hmx hkx (d3 _ (by decide)) (d3 _ (by decide))).trans (cl_r hT F1 hmx hkx (d1 _ (by decide)) (d1 _ (by decide)))
  have en := cl_n hT1 F2 hmx hkx (d3 _ (by decide)) (d3 _ (by decide))
  have et := cl_t hT1 F2 hmx hkx (d3 _ (by decide)) (d3 _ (by decide)) d4
  have ea := cl_a F1 hmx hkx (d1 _ (by decide))
  have e14 : tw_fi E2 m 14 = tw_fi E m 14 := (tw_fi_fr F2 hmm hkm (d3 (12, 14) (by decide))).trans (tw_fi_fr F1 hmm hkm (d1 (12, 14) (by decide)))
  have e1 : tw_fi E1 m 1 = tw_fi E m 1 := tw_fi_fr F1 hmm hkm (d1 (12, 1) (by decide))
  have e0 : tw_el E1 m 0 = tw_el E m 0 := rf_t hT F1 hmm hkm (d1 _ (by decide)) d2
  rcases q with ⟨q1, q2⟩ | ⟨q1, q2, q3, q4⟩
  · exact Or.inl ⟨by rw [er]; exact q1, by rw [e14]; exact q2⟩
  · have hne : n = lj_n E x := by rw [q3, ← e1, hn]
    by_cases z : lj_n E x ≤ 480
    · obtain ⟨u1, u2⟩ := c0 z
      obtain ⟨v1, v2⟩ := r0 (by omega)
      have a1 : lj_n E1 x = lj_n E x + 20 := by show tw_fi E1 (tw_fa E1 x 0) 1 = _; rw [ea]; exact u1
      have a2 : lj_t E1 x = fd5 by_c a b c d e (lj_t E x) (lj_n E x) := by show tw_el E1 (tw_fa E1 x 0) 0 = _; rw [ea]; exact u2
      refine lj_of er (en.trans a1) (et.trans a2) e14 v1 v2 (Or.inr ⟨q1, q2, by omega, ?_⟩)
      rw [hne, e0]
      refine fd5_sm ?_
      rw [q3]
      exact q4
    · obtain ⟨u1, u2⟩ := c1 (by omega)
      obtain ⟨v1, v2⟩ := r1 (by omega)
      have a1 : lj_n E1 x = lj_n E x := by show tw_fi E1 (tw_fa E1 x 0) 1 = _; rw [ea]; exact u1
      have a2 : lj_t E1 x = lj_t E x := by show tw_el E1 (tw_fa E1 x 0) 0 = _; rw [ea]; exact u2
      refine lj_of er (en.trans a1) (et.trans a2) e14 v1 v2 (Or.inr ⟨q1, q2, by omega, ?_⟩)
      rw [hne, e0, q3]
      exact q4
/-- the length alone may have changed, on both sides alike -/
theorem lj_len (hT : tw_ok cs kp L E) (hT1 : tw_ok cs kp1 L1 E1) (hx : ∀ a : Nat, a ∈ L → a ∈ L1 ∧ kp1 a = kp a) (F1 : tw_fr kp L ms1 ks1 E E1) (F2 : tw_fr kp1 L1 ms2 ks2 E1 E2) (hmx : x ∈ L) (hkx : kp x = 11) (hmm : m ∈ L) (hkm : kp m = 12)
    (d1 : ∀ y ∈ [(11, 0), (11, 1), (2, 1), (9, 0), (12, 0), (12, 1), (12, 14)], y ∉ ms1) (d2 : ∀ y ∈ [100, 300], y ∉ ks1) (d3 : ∀ y ∈ [(11, 0), (11, 1), (2, 1), (9, 0), (9, 1), (12, 0), (12, 14)], y ∉ ms2) (d4 : ∀ y ∈ [100, 300], y ∉ ks2) (q : lj_ok E x m)
    (hl : lj_r E x = 0 → tw_fi E m 14 = 0 → lj_n E x = tw_fi E m 1 → tw_fi E1 (tw_fa E x 0) 1 = tw_fi E2 m 1 ∧ tw_fi E2 m 1 ≤ tw_fi E m 1) : lj_ok E2 x m := by
  obtain ⟨hmx1, kx1⟩ := hx x hmx
  obtain ⟨hmm1, km1⟩ := hx m hmm
  have hkx1 := kx1.trans hkx
  have hkm1 := km1.trans hkm
  have er : lj_r E2 x = lj_r E x := (cl_r hT1 F2 hmx1 hkx1 (d3 _ (by decide)) (d3 _ (by decide))).trans (cl_r hT F1 hmx hkx (d1 _ (by decide)) (d1 _ (by decide)))
  have en := cl_n hT1 F2 hmx1 hkx1 (d3 _ (by decide)) (d3 _ (by decide))
  have et := (cl_t hT1 F2 hmx1 hkx1 (d3 _ (by decide)) (d3 _ (by decide)) (d4 _ (by decide))).trans (cl_t hT F1 hmx hkx (d1 _ (by decide)) (d1 _ (by decide)) (d2 _ (by decide)))
  have ea := cl_a F1 hmx hkx (d1 _ (by decide))
  have e14 : tw_fi E2 m 14 = tw_fi E m 14 := (tw_fi_fr F2 hmm1 hkm1 (d3 (12, 14) (by decide))).trans (tw_fi_fr F1 hmm hkm (d1 (12, 14) (by decide)))
  have e0 : tw_el E2 m 0 = tw_el E m 0 := (rf_t hT1 F2 hmm1 hkm1 (d3 _ (by decide)) (d4 _ (by decide))).trans (rf_t hT F1 hmm hkm (d1 _ (by decide)) (d2 _ (by decide)))
  rcases q with ⟨q1, q2⟩ | ⟨q1, q2, q3, q4⟩
  · exact Or.inl ⟨by rw [er]; exact q1, by rw [e14]; exact q2⟩
  · obtain ⟨u1, u2⟩ := hl q1 q2 q3
    refine lj_of er en et e14 rfl e0 (Or.inr ⟨q1, q2, ?_, smt_ok_le q4 u2⟩)
    show tw_fi E1 (tw_fa E1 x 0) 1 = _
    rw [ea]
    exact u1
/-- grammar: both answer alike, and are alike behind it -/
theorem lj_gram {v w n k : Int} (hT : tw_ok cs kp L E) (hT1 : tw_ok cs kp L E1) (F1 : tw_fr kp L ms1 ks1 E E1) (F2 : tw_fr kp L ms2 ks2 E1 E2) (hmx : x ∈ L) (hkx : kp x = 11) (hmm : m ∈ L) (hkm : kp m = 12)
    (d1 : ∀ y ∈ [(11, 0), (9, 0), (12, 0), (12, 1), (12, 14)], y ∉ ms1) (d2 : 300 ∉ ks1) (d3 : ∀ y ∈ [(11, 0), (11, 1), (2, 1), (9, 0), (9, 1), (12, 0)], y ∉ ms2) (d4 : ∀ y ∈ [100, 300], y ∉ ks2) (q : lj_ok E x m)
    (n0 : 0 ≤ tw_fi E m 1)
    (c0 : 0 < lj_r E x → v = -1 ∧ 0 < lj_r E1 x) (c1 : lj_r E x = 0 → v = gy_all (lj_t E x) (lj_n E x)) (c2 : lj_r E x = 0 → (v = -1 ∧ lj_r E1 x = 0 ∧ tw_fi E1 (tw_fa E x 0) 1 = lj_n E x ∧ tw_el E1 (tw_fa E x 0) 0 = lj_t E x) ∨ (1 ≤ lj_r E1 x ∧ v = lj_r E1 x))
    (hn : tw_fi E1 m 1 = n) (hk : tw_fi E1 m 14 = k) (r0 : 0 < k → w = -1 ∧ tw_fi E2 m 14 = k) (r1 : k = 0 → w = gy_all (tw_el E1 m 0) n) (r2 : k = 0 → (w = -1 ∧ tw_fi E2 m 14 = 0 ∧ tw_fi E2 m 1 = n) ∨ (1 ≤ tw_fi E2 m 14 ∧ w = tw_fi E2 m 14)) : v = w ∧ lj_ok E2 x m := by
  have er := cl_r hT1 F2 hmx hkx (d3 _ (by decide)) (d3 _ (by decide))
  have en := cl_n hT1 F2 hmx hkx (d3 _ (by decide)) (d3 _ (by decide))
  have et := cl_t hT1 F2 hmx hkx (d3 _ (by decide)) (d3 _ (by decide)) (d4 _ (by decide))
  have ea := cl_a F1 hmx hkx (d1 _ (by decide))
  have e14 : tw_fi E1 m 14 = tw_fi E m 14 := tw_fi_fr F1 hmm hkm (d1 (12, 14) (by decide))
  have e1 : tw_fi E1 m 1 = tw_fi E m 1 := tw_fi_fr F1 hmm hkm (d1 (12, 1) (by decide))
  have e0 : tw_el E1 m 0 = tw_el E m 0 := rf_t hT F1 hmm hkm (d1 _ (by decide)) d2
  have e02 : tw_el E2 m 0 = tw_el E1 m 0 := rf_t hT1 F2 hmm hkm (d3 _ (by decide)) (d4 _ (by decide))
  rcases q with ⟨q1, q2⟩ | ⟨q1, q2, q3, q4⟩
  · obtain ⟨u1, u2⟩ := c0 q1
    obtain ⟨v1, v2⟩ := r0 (by omega)
    exact ⟨by omega, Or.inl ⟨by rw [er]; exact u2, by omega⟩⟩
  · have k0 : k = 0 := by omega
    have hv := c1 q1
    have hw := r1 k0
    have hvw : v = w := by
      rw [hv, hw, e0, q3, ← hn, e1]
      exact sm_all q4 n0
    refine ⟨hvw, ?_⟩
    rcases c2 q1 with ⟨a1, a2, a3, a4⟩ | ⟨a1, a5⟩
    · rcases r2 k0 with ⟨b1, b2, b3⟩ | ⟨b1, b5⟩
      · have z1 : lj_n E1 x = lj_n E x := by show tw_fi E1 (tw_fa E1 x 0) 1 = _; rw [ea]; exact a3
        have z2 : lj_t E1 x = lj_t E x := by show tw_el E1 (tw_fa E1 x 0) 0 = _; rw [ea]; exact a4
        refine lj_of (er.trans a2) (en.trans z1) (et.trans z2) b2 b3 (e02.trans e0) (Or.inr ⟨rfl, rfl, by omega, ?_⟩)
        rw [← hn, e1]
        exact q4
      · exfalso; omega
    · rcases r2 k0 with ⟨b1, b2, b3⟩ | ⟨b1, b5⟩
      · exfalso; omega
      · exact Or.inl ⟨by rw [er]; omega, by omega⟩
/-- fault: the class reads into the other grammar; its text stays -/
theorem lj_fault (hT : tw_ok cs kp L E) (hT1 : tw_ok cs kp L E1) (F1 : tw_fr kp L ms1 ks1 E E1) (F2 : tw_fr kp L ms2 ks2 E1 E2) (hmx : x ∈ L) (hkx : kp x = 11) (hmm : m ∈ L) (hkm : kp m = 12)
    (d1 : ∀ y ∈ [(11, 0), (9, 1), (12, 0), (12, 1), (12, 14)], y ∉ ms1) (d2 : 300 ∉ ks1) (d3 : ∀ y ∈ [(11, 0), (11, 1), (2, 1), (9, 0), (9, 1), (12, 0), (12, 1), (12, 14)], y ∉ ms2) (d4 : ∀ y ∈ [100, 300], y ∉ ks2) (q : lj_ok E x m)
    (c0 : lj_r E1 x = lj_r E x) (c1 : tw_el E1 (tw_fa E x 0) 0 = lj_t E x) : lj_ok E2 x m := by
  have ea := cl_a F1 hmx hkx (d1 _ (by decide))
  have z2 : lj_t E1 x = lj_t E x := by show tw_el E1 (tw_fa E1 x 0) 0 = _; rw [ea]; exact c1
  refine lj_of ((cl_r hT1 F2 hmx hkx (d3 _ (by decide)) (d3 _ (by decide))).trans c0) ((cl_n hT1 F2 hmx hkx (d3 _ (by decide)) (d3 _ (by decide))).trans (cl_n hT F1 hmx hkx (d1 _ (by decide)) (d1 _ (by decide)))) ((cl_t hT1 F2 hmx hkx (d3 _ (by decide)) (d3 _ (by decide)) (d4 _ (by decide))).trans z2) ((tw_fi_fr F2 hmm hkm (d3 (12, 14) (by decide))).trans (tw_fi_fr F1 hmm hkm (d1 (12, 14) (by decide)))) ((tw_fi_fr F2 hmm hkm (d3 (12, 1) (by decide))).trans (tw_fi_fr F1 hmm hkm (d1 (12, 1) (by decide)))) ((rf_t hT1 F2 hmm hkm (d3 _ (by decide)) (d4 _ (by decide))).trans (rf_t hT F1 hmm hkm (d1 _ (by decide)) d2)) q
end LJO
theorem ia_and31 (x : Int32) : 0 ≤ (x &&& 31).toInt ∧ (x &&& 31).toInt ≤ 31 := by
  rw [pk_and x (m := 31) 5 (by decide), nI_toInt (by omega)]
  omega
