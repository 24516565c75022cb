/-! the whole grammar read by the reference: the copy of the text, items and their names -/
theorem kp_zero (E : Nat → va_E) (m : Nat) : kp_ E m 0 = fun _ => False := funext fun x => propext ⟨fun ⟨j, hj, _⟩ => absurd hj (by omega), False.elim⟩
theorem ip_zero (E : Nat → va_E) (m : Nat) : ip_ E m 0 = fun _ => False := funext fun x => propext ⟨fun ⟨j, _, hj, _⟩ => absurd hj (by omega), False.elim⟩
theorem gk_none {E : Nat → va_E} {m : Nat} (h : tw_fi E m 15 ≤ 0) : gk_ok E m := fun j hj => absurd hj (by omega)
/-- the first k bytes are copied -/
def gtk_ok (E : Nat → va_E) (m : Nat) (k : Int) : Prop := ∀ i : Nat, (i : Int) < k → tw_el E m 5 i = tw_el E m 0 i
theorem gtk_ok_cast {E : Nat → va_E} {m : Nat} {k k1 : Int} (h : k = k1) (q : gtk_ok E m k) : gtk_ok E m k1 := h ▸ q
theorem gtk_push {E E1 : Nat → va_E} {m : Nat} {k v : Int} (q : gtk_ok E m k) (k0 : 0 ≤ k) (h5 : ∀ j : Nat, tw_el E1 m 5 j = if j = k.toNat then v else tw_el E m 5 j) (h0 : ∀ j : Nat, tw_el E1 m 0 j = tw_el E m 0 j) (hv : tw_el E m 0 k.toNat = v) : gtk_ok E1 m (k + 1) := fun i hi => by
  rw [h5, h0]
  by_cases e : i = k.toNat
  · rw [if_pos e, e, hv]
  · rw [if_neg e]; exact q i (by omega)
theorem gtk_ok_fr {D : va_G} {A : Nat → Prop} {H : Heap} {cs : Nat → ClassId} {kp : Nat → Nat} {L : List Nat} {E E1 : Nat → va_E} {ms : List (Nat × Nat)} {ks : List Nat} {m : Nat} {k : Int} (TH : tw_H D cs kp L E1 A H) (h : tw_fr kp L ms ks E E1) (hm : m ∈ L) (hk : kp m = 12) (h1 : ∀ x ∈ [(12, 0), (12, 5)], x ∉ ms) (h2 : ∀ x ∈ [300, 301], x ∉ ks) (q : gtk_ok E m k) : gtk_ok E1 m k := by
  unfold gtk_ok
  rw [el_fr TH h hm hk (k := 0) (by decide) rfl (by decide) (h1 _ (by decide)) (h2 _ (by decide)), el_fr TH h hm hk (k := 5) (by decide) rfl (by decide) (h1 _ (by decide)) (h2 _ (by decide))]
  exact q
/-- all items ahead of item i of kind k are named -/
def na_ok (P : Nat → Nat → Prop) (M : Nat → Int) (k i : Int) : Prop := ∀ j n : Nat, ((j : Int) < k ∨ ((j : Int) = k ∧ (n : Int) < i)) → (n : Int) < M j → P j n
theorem na_zero (P : Nat → Nat → Prop) (M : Nat → Int) : na_ok P M 0 0 := fun j n h _ => absurd h (by omega)
theorem na_row {P : Nat → Nat → Prop} {M : Nat → Int} {k k1 i : Int} (k0 : 0 ≤ k) (hi : M k.toNat ≤ i) (hk : k1 = k + 1) : na_ok P M k i ↔ na_ok P M k1 0 := by
  constructor
  · intro q j n h hn
    by_cases e : (j : Int) = k
    · refine q j n (Or.inr ⟨e, ?_⟩) hn
      have e2 : j = k.toNat := by omega
      rw [e2] at hn
      omega
    · exact q j n (Or.inl (by omega)) hn
  · intro q j n h hn
    exact q j n (Or.inl (by omega)) hn
theorem na_yes {P : Nat → Nat → Prop} {M : Nat → Int} {k i i1 : Int} (k0 : 0 ≤ k) (i0 : 0 ≤ i) (h : P k.toNat i.toNat) (hi : i1 = i + 1) : na_ok P M k i ↔ na_ok P M k i1 := by
  constructor
  · intro q j n hj hn
    by_cases e : (j : Int) = k ∧ (n : Int) = i
    · have e1 : j = k.toNat := by omega
      have e2 : n = i.toNat := by omega
      rw [e1, e2]
      exact h
    · exact q j n (by omega) hn
  · intro q j n hj hn
    exact q j n (by omega) hn
theorem na_no {P : Nat → Nat → Prop} {M : Nat → Int} {k i i1 : Int} (k0 : 0 ≤ k) (i0 : 0 ≤ i) (hm : i < M k.toNat) (h : ¬ P k.toNat i.toNat) (hi : i1 = i + 1) : ¬ na_ok P M k i1 := fun q => h (q k.toNat i.toNat (Or.inr ⟨by omega, by omega⟩) (by omega))
def pn_ (E : Nat → va_E) (m : Nat) (T : Nat → Int) (K : Int × Int → Prop) : Nat → Nat → Prop := fun j n => gy_nm T K (rx E m 10 j n, rx E m 10 j n + rx E m 11 j n)
theorem na_fin {E : Nat → va_E} {m : Nat} {T : Nat → Int} {K : Int × Int → Prop} {k : Int} : (∀ x : Int × Int, ip_ E m k x → gy_nm T K x) ↔ na_ok (pn_ E m T K) (tw_el E m 9) k 0 := by
  constructor
  · intro q j n h hn
    exact q _ ⟨j, n, by omega, hn, rfl⟩
  · rintro q x ⟨j, n, hj, hn, rfl⟩
    exact q j n (Or.inl hj) hn
theorem rx_of {E : Nat → va_E} {m f o a : Nat} {i c x : Int32} (ho : tw_fv E m f = .ref o) (er : tw_rf E o i.toNatClampNeg = a) (ez : tw_iv E a c.toNatClampNeg = x) : rx E m f i.toInt.toNat c.toInt.toNat = x.toInt := by
  show (tw_iv E (tw_rf E (tw_fa E m f) i.toNatClampNeg) c.toNatClampNeg).toInt = _
  rw [tw_fa_of ho, er, ez]
/-- what was stored in a row is read again -/
theorem rw_again {E E1 : Nat → va_E} {kp : Nat → Nat} {o a b : Nat} {i c x z : Int32} {ka kb : Nat} (hko : kp o = ka) (hka : kp a = kb) (hne : ka ≠ kb) (er : tw_rf E o i.toNatClampNeg = a) (er1 : tw_rf E1 o i.toNatClampNeg = b) (p3 : ∀ b : Nat, b ≠ a → E1 b = E b) (p4 : ∀ j : Nat, tw_iv E1 a j = if j = c.toNatClampNeg then x else tw_iv E a j) (ez : tw_iv E1 b c.toNatClampNeg = z) : z = x := by
  have h1 : o ≠ a := fun w => hne (by rw [← hko, ← hka, w])
  have h2 : b = a := by rw [← er1, tw_rf_keep h1 p3, er]
  rw [← ez, h2, p4, if_pos rfl]
theorem gy_fin_of {t : Nat → Int} {n k y : Int} {K I : Int × Int → Prop} (h : gy_all t n = gy_fin t k K I) (hy : y = -1 ↔ ∀ x : Int × Int, I x → gy_nm t K x) : (y = -1 → gy_all t n = k) ∧ (y ≠ -1 → gy_all t n = -1) := by
  rw [h]
  exact ⟨fun z => cite_pos (hy.mp z), fun z => cite_neg (fun w => z (hy.mpr w))⟩
/-! the class: its tokens, and the parser's steps as they tell them -/
def tc_sg (c : Int) : Prop := c = 61 ∨ c = 59 ∨ c = 42 ∨ c = 63 ∨ c = 40 ∨ c = 41
def tc_tk (t : Nat → Int) (n s e y : Int) : Prop :=
  (n ≤ s ∧ y = 0 ∧ e = s) ∨
  (s < n ∧ lx_le (t s.toNat) ∧ s < e ∧ e ≤ n ∧ lx_al lx_le t s e ∧ (e < n → ¬ lx_le (t e.toNat)) ∧ ((y = 1 ∧ ¬ lx_rs t n s e 0 ∧ ¬ lx_rs t n s e 1) ∨ (y = 2 ∧ lx_rs t n s e 0) ∨ (y = 3 ∧ ¬ lx_rs t n s e 0 ∧ lx_rs t n s e 1))) ∨
  (s < n ∧ ¬ lx_le (t s.toNat) ∧ s < e ∧ e ≤ n ∧ ((tc_sg (t s.toNat) ∧ y = t s.toNat ∧ e = s + 1) ∨ (¬ tc_sg (t s.toNat) ∧ 4 ≤ y ∧ y ≤ 6)))
def ib (n : Int) (I : Int × Int → Prop) : Prop := ∀ x : Int × Int, I x → 0 ≤ x.1 ∧ x.1 ≤ x.2 ∧ x.2 ≤ n
theorem ib_ins {n s e : Int} {I : Int × Int → Prop} (q : ib n I) (h0 : 0 ≤ s) (h1 : s ≤ e) (h2 : e ≤ n) : ib n (gy_ins I (s, e)) := fun x hx => by
  rcases hx with hx | hx
  · exact q x hx
  · rw [hx]; exact ⟨h0, h1, h2⟩
theorem ib_none (n : Int) : ib n (fun _ => False) := fun _ h => h.elim
section TCS
variable {t : Nat → Int} {n s e y k : Int} {K I : Int × Int → Prop}
theorem tc_le (q : tc_tk t n s e y) (hs : s ≤ n) : s ≤ e ∧ e ≤ n ∧ (s < n → s < e) := by
  rcases q with q | q | q
  · omega
  · omega
  · omega
theorem tc_nm (q : tc_tk t n s e y) : y = 1 ↔ lx_nm t n s e := by
  rcases q with ⟨q1, q2, q3⟩ | ⟨q1, q2, -, -, -, -, q3⟩ | ⟨q1, q2, -, -, q3⟩
  · exact ⟨fun h => by omega, fun h => by have := h.1; omega⟩
  · rcases q3 with ⟨h1, h2, h3⟩ | ⟨h1, h2⟩ | ⟨h1, h2, h3⟩
    · exact ⟨fun _ => ⟨q1, q2, h2, h3⟩, fun _ => h1⟩
    · exact ⟨fun h => by omega, fun h => absurd h2 h.2.2.1⟩
    · exact ⟨fun h => by omega, fun h => absurd h3 h.2.2.2⟩
  · refine ⟨fun h => ?_, fun h => absurd h.2.1 q2⟩
    rcases q3 with ⟨h1, h2, -⟩ | h1
    · unfold tc_sg at h1; omega
    · omega
theorem tc_TK (q : tc_tk t n s e y) : ∃ e1 : Int, lx_TK t n s e1 ∧ (s < n → lx_le (t s.toNat) → e1 = e) := by
  rcases q with ⟨q1, q2, q3⟩ | ⟨q1, q2, q3, q4, q5, q6, q7⟩ | ⟨q1, q2, -, -, q3⟩
  · exact ⟨e, Or.inl ⟨q1, q3⟩, fun h => by omega⟩
  · exact ⟨e, Or.inr (Or.inl ⟨q1, q2, q3, q4, q5, q6⟩), fun _ _ => rfl⟩
  · exact ⟨s + 1, Or.inr (Or.inr ⟨q1, q2, Or.inl rfl⟩), fun _ h => absurd h q2⟩
theorem tc_c {c : Int} (q : tc_tk t n s e y) (hc : c = 61 ∨ c = 59 ∨ c = 42 ∨ c = 63) : (y = c ↔ (s < n ∧ t s.toNat = c)) ∧ (y = c → e = s + 1) := by
  rcases q with ⟨q1, q2, q3⟩ | ⟨q1, q2, -, -, -, -, q3⟩ | ⟨q1, q2, -, -, q3⟩
  · exact ⟨⟨fun h => by omega, fun h => by omega⟩, fun h => by omega⟩
  · unfold lx_le at q2
    exact ⟨⟨fun h => by omega, fun h => by omega⟩, fun h => by omega⟩
  · rcases q3 with ⟨h1, h2, h3⟩ | ⟨h1, h2, h3⟩
    · exact ⟨⟨fun h => ⟨q1, by omega⟩, fun h => by omega⟩, fun _ => h3⟩
    · refine ⟨⟨fun h => by omega, fun h => ?_⟩, fun h => by omega⟩
      unfold tc_sg at h1
      omega
theorem tc_TKl (q : tc_tk t n s e y) (h : s < n) (hl : lx_le (t s.toNat)) : lx_TK t n s e := by
  obtain ⟨e1, h1, h2⟩ := tc_TK q
  rw [← h2 h hl]
  exact h1
theorem cy_0f (g : gy_at t n 0 s k K I) (h : tc_tk t n s e y) (s0 : 0 ≤ s) (hs : s ≤ 500) (hx : ¬ (y = 1 ∧ k < 10 ∧ ¬ gy_nm t K (s, e))) : gy_all t n = -1 := by
  obtain ⟨e1, h1, h2⟩ := tc_TK h
  refine gy_0f g h1 s0 hs (fun z => hx ?_)
  have ee := h2 z.1.1 z.1.2.1
  rw [ee] at z
  exact ⟨(tc_nm h).mpr z.1, z.2⟩
theorem cy_0 {s1 : Int} (g : gy_at t n 0 s k K I) (h : tc_tk t n s e y) (s0 : 0 ≤ s) (hs : s ≤ 500) (h1 : y = 1) (h2 : k < 10) (h3 : ¬ gy_nm t K (s, e)) (w : lx_WS t n e s1) : gy_at t n 4 s1 (k + 1) (gy_ins K (s, e)) I := by
  have nm := (tc_nm h).mp h1
  exact gy_0 g (tc_TKl h nm.1 nm.2.1) s0 hs nm h2 h3 w
theorem tc_rs (q : tc_tk t n s e y) (hy : y = 2 ∨ y = 3) : s < n ∧ lx_le (t s.toNat) ∧ (y = 2 → lx_rs t n s e 0) ∧ (y = 3 → ¬ lx_rs t n s e 0 ∧ lx_rs t n s e 1) := by
  rcases q with ⟨q1, q2, q3⟩ | ⟨q1, q2, -, -, -, -, q3⟩ | ⟨q1, q2, -, -, q3⟩
  · exfalso; omega
  · refine ⟨q1, q2, fun h => ?_, fun h => ?_⟩
    · rcases q3 with q3 | q3 | q3
      · exfalso; omega
      · exact q3.2
      · exfalso; omega
    · rcases q3 with q3 | q3 | q3
      · exfalso; omega
      · exfalso; omega
      · exact q3.2
  · exfalso
    rcases q3 with ⟨h1, h2, -⟩ | h1
    · unfold tc_sg at h1; omega
    · omega
theorem cy_4l {s1 : Int} (g : gy_at t n 4 s k K I) (h : tc_tk t n s e y) (s0 : 0 ≤ s) (hs : s ≤ 500) (hy : y = 2) (w : lx_WS t n e s1) : gy_at t n 3 s1 k K I := by
  obtain ⟨h1, h2, h3, -⟩ := tc_rs h (Or.inl hy)
  exact gy_4l g (tc_TKl h h1 h2) s0 hs h1 h2 (h3 hy) w
theorem cy_4s {s1 : Int} (g : gy_at t n 4 s k K I) (h : tc_tk t n s e y) (s0 : 0 ≤ s) (hs : s ≤ 500) (hy : y = 3) (w : lx_WS t n e s1) : gy_at t n 1 s1 k K I := by
  obtain ⟨h1, h2, -, h3⟩ := tc_rs h (Or.inr hy)
  exact gy_4s g (tc_TKl h h1 h2) s0 hs h1 h2 (h3 hy).1 (h3 hy).2 w
theorem cy_4e {s1 : Int} (g : gy_at t n 4 s k K I) (h : tc_tk t n s e y) (s0 : 0 ≤ s) (hs : s ≤ 500) (hy : y = 61) (w : lx_WS t n e s1) : gy_at t n 2 s1 k K I := by
  obtain ⟨h1, h2⟩ := tc_c h (c := 61) (by omega)
  have h3 := h1.mp hy
  have h4 := h2 hy
  rw [h4] at w
  exact gy_4e g s0 hs h3.1 h3.2 w
theorem cy_4f (g : gy_at t n 4 s k K I) (h : tc_tk t n s e y) (s0 : 0 ≤ s) (hs : s ≤ 500) (hy : y ≠ 2 ∧ y ≠ 3 ∧ y ≠ 61) : gy_all t n = -1 := by
  obtain ⟨e1, h1, h2⟩ := tc_TK h
  refine gy_4f g h1 s0 hs (fun z1 z2 => ?_) (fun z => ?_)
  · rw [h2 z1 z2]
    rcases h with ⟨q1, -, -⟩ | ⟨-, -, -, -, -, -, q3⟩ | ⟨-, q2, -⟩
    · exfalso; omega
    · rcases q3 with q3 | q3 | q3
      · exact q3.2
      · exfalso; omega
      · exfalso; omega
    · exact absurd z2 q2
  · exact hy.2.2 ((tc_c h (c := 61) (by omega)).1.mpr z)
theorem cy_if {q : Nat} (hq : q = 1 ∨ q = 2) (g : gy_at t n q s k K I) (h : tc_tk t n s e y) (s0 : 0 ≤ s) (hs : s ≤ 500) (hy : y ≠ 1) : gy_all t n = -1 := by
  obtain ⟨e1, h1, h2⟩ := tc_TK h
  refine gy_if hq g h1 s0 hs (fun z => hy ((tc_nm h).mpr ?_))
  rw [h2 z.1 z.2.1] at z
  exact z
theorem cy_in {q : Nat} {s1 e1 y1 : Int} (hq : q = 1 ∨ q = 2) (g : gy_at t n q s k K I) (h : tc_tk t n s e y) (s0 : 0 ≤ s) (hs : s ≤ 500) (hy : y = 1) (w : lx_WS t n e s1) (h1 : tc_tk t n s1 e1 y1) (hm : ¬ (q = 2 ∧ (y1 = 63 ∨ y1 = 42))) : (y1 = 59 → gy_at t n 3 s1 k K (gy_ins I (s, e))) ∧ (y1 ≠ 59 → gy_at t n q s1 k K (gy_ins I (s, e))) := by
  have nm := (tc_nm h).mp hy
  have r := gy_in hq g (tc_TKl h nm.1 nm.2.1) s0 hs nm w (fun z => hm ⟨z.1, z.2.2.imp (fun a => (tc_c h1 (c := 63) (by omega)).1.mpr ⟨z.2.1, a⟩) (fun a => (tc_c h1 (c := 42) (by omega)).1.mpr ⟨z.2.1, a⟩)⟩)
  exact ⟨fun a => r.1 ((tc_c h1 (c := 59) (by omega)).1.mp a), fun a => r.2 (fun z => a ((tc_c h1 (c := 59) (by omega)).1.mpr z))⟩
theorem cy_im {q : Nat} {s1 e1 y1 s2 e2 y2 : Int} (hq : q = 2) (g : gy_at t n q s k K I) (h : tc_tk t n s e y) (s0 : 0 ≤ s) (hs : s ≤ 500) (hy : y = 1) (w : lx_WS t n e s1) (h1 : tc_tk t n s1 e1 y1) (hm : y1 = 63 ∨ y1 = 42) (w2 : lx_WS t n e1 s2) (h2 : tc_tk t n s2 e2 y2) : (y2 = 59 → gy_at t n 3 s2 k K (gy_ins I (s, e))) ∧ (y2 ≠ 59 → gy_at t n q s2 k K (gy_ins I (s, e))) := by
  have nm := (tc_nm h).mp hy
  have m1 : (s1 < n ∧ (t s1.toNat = 63 ∨ t s1.toNat = 42)) ∧ e1 = s1 + 1 := by
    rcases hm with hm | hm
    · have z := tc_c h1 (c := 63) (by omega)
      exact ⟨⟨(z.1.mp hm).1, Or.inl (z.1.mp hm).2⟩, z.2 hm⟩
    · have z := tc_c h1 (c := 42) (by omega)
      exact ⟨⟨(z.1.mp hm).1, Or.inr (z.1.mp hm).2⟩, z.2 hm⟩
  rw [m1.2] at w2
  have r := gy_im hq g (tc_TKl h nm.1 nm.2.1) s0 hs nm w m1.1 w2
  exact ⟨fun a => r.1 ((tc_c h2 (c := 59) (by omega)).1.mp a), fun a => r.2 (fun z => a ((tc_c h2 (c := 59) (by omega)).1.mpr z))⟩
theorem cy_3f (g : gy_at t n 3 s k K I) (h : tc_tk t n s e y) (hs : s ≤ 500) (hy : y ≠ 59) : gy_all t n = -1 := gy_3f g hs (fun z => hy ((tc_c h (c := 59) (by omega)).1.mpr z))
theorem cy_3 {s1 : Int} (g : gy_at t n 3 s k K I) (h : tc_tk t n s e y) (s0 : 0 ≤ s) (hs : s ≤ 500) (hy : y = 59) (w : lx_WS t n e s1) : (n ≤ s1 → gy_all t n = gy_fin t k K I) ∧ (s1 < n → gy_at t n 0 s1 k K I) := by
  obtain ⟨h1, h2⟩ := tc_c h (c := 59) (by omega)
  have w2 := h2 hy
  rw [w2] at w
  exact gy_3 g s0 hs (h1.mp hy) w
end TCS
/-! names and items of the class, as pairs -/
def prs (f h : Nat → Int) (k : Int) : Int × Int → Prop := fun x => ∃ j : Nat, (j : Int) < k ∧ x = (f j, h j)
theorem prs_zero (f h : Nat → Int) {k : Int} (hk : k ≤ 0) : prs f h k = fun _ => False := funext fun x => propext ⟨fun ⟨j, hj, _⟩ => absurd hj (by omega), False.elim⟩
theorem prs_push {f h f1 h1 : Nat → Int} {k k1 s e : Int} (k0 : 0 ≤ k) (hk : k1 = k + 1) (hf : ∀ j : Nat, f1 j = if j = k.toNat then s else f j) (hh : ∀ j : Nat, h1 j = if j = k.toNat then e else h j) : prs f1 h1 k1 = gy_ins (prs f h k) (s, e) := by
  subst hk
  funext x
  apply propext
  constructor
  · rintro ⟨j, hj, rfl⟩
    rw [hf, hh]
    by_cases z : j = k.toNat
    · rw [if_pos z, if_pos z]; exact Or.inr rfl
    · rw [if_neg z, if_neg z]; exact Or.inl ⟨j, by omega, rfl⟩
  · rintro (⟨j, hj, rfl⟩ | rfl)
    · exact ⟨j, by omega, by rw [hf, hh, if_neg (by omega), if_neg (by omega)]⟩
    · exact ⟨k.toNat, by omega, by rw [hf, hh, if_pos rfl, if_pos rfl]⟩
/-- a name is that row of bytes -/
def nm_is (r u : Nat → Int) (a b s e : Int) : Prop := b - e = a - s ∧ ∀ i : Nat, s ≤ (i : Int) → (i : Int) < e → r i = u ((i : Int) + (a - s)).toNat
def nm_k (r u : Nat → Int) (a s k : Int) : Prop := ∀ i : Nat, s ≤ (i : Int) → (i : Int) < k → r i = u ((i : Int) + (a - s)).toNat
theorem nm_k_push {r u : Nat → Int} {a s k k1 : Int} (q : nm_k r u a s k) (k0 : 0 ≤ k) (hk : k1 = k + 1) (h : r k.toNat = u (k + (a - s)).toNat) : nm_k r u a s k1 := fun i h1 h2 => by
  by_cases z : (i : Int) = k
  · rw [show i = k.toNat by omega, show (((k.toNat : Nat) : Int) + (a - s)).toNat = (k + (a - s)).toNat by omega]; exact h
  · exact q i h1 (by omega)
theorem nm_iff {r u t f h : Nat → Int} {n k s e : Int} (hr : ∀ i : Nat, (i : Int) < n → r i = t i) (hu : ∀ i : Nat, (i : Int) < n → u i = t i) (hb : ib n (prs f h k)) (s0 : 0 ≤ s) (en : e ≤ n) : (∃ j : Nat, (j : Int) < k ∧ nm_is r u (f j) (h j) s e) ↔ gy_nm t (prs f h k) (s, e) := by
  constructor
  · rintro ⟨j, hj, h1, h2⟩
    have b := hb (f j, h j) ⟨j, hj, rfl⟩
    have b0 : 0 ≤ f j := b.1
    have b1 : h j ≤ n := b.2.2
    refine ⟨(f j, h j), ⟨j, hj, rfl⟩, by show h j - f j = e - s; omega, fun i hi => ?_⟩
    have hi : (i : Int) < e - s := hi
    have z := h2 (s + i).toNat (by omega) (by omega)
    rw [hr _ (by omega), hu _ (by omega)] at z
    show t (f j + i).toNat = t (s + i).toNat
    rw [z]
    congr 1
    omega
  · rintro ⟨x, ⟨j, hj, rfl⟩, h1, h2⟩
    have b := hb (f j, h j) ⟨j, hj, rfl⟩
    have b0 : 0 ≤ f j := b.1
    have b1 : h j ≤ n := b.2.2
    have h1 : h j - f j = e - s := h1
    refine ⟨j, hj, by omega, fun i h3 h4 => ?_⟩
    have z := h2 ((i : Int) - s).toNat (by show (((((i : Int) - s).toNat : Nat) : Int)) < e - s; omega)
    have z : t (f j + ((((i : Int) - s).toNat : Nat) : Int)).toNat = t (s + ((((i : Int) - s).toNat : Nat) : Int)).toNat := z
    rw [hr _ (by omega), hu _ (by omega)]
    rw [show (s + ((((i : Int) - s).toNat : Nat) : Int)).toNat = i by omega, show (f j + ((((i : Int) - s).toNat : Nat) : Int)).toNat = ((i : Int) + (f j - s)).toNat by omega] at z
    exact z.symm
/-- a name in one row of bytes is one in another that is the same below n -/
theorem gy_nm_same {t u : Nat → Int} {n : Int} {K : Int × Int → Prop} {x : Int × Int} (h : ∀ i : Nat, (i : Int) < n → u i = t i) (hb : ib n K) (x0 : 0 ≤ x.1) (xn : x.2 ≤ n) : gy_nm u K x ↔ gy_nm t K x := by
  constructor
  · rintro ⟨k, hk, h1, h2⟩
    have b := hb k hk
    exact ⟨k, hk, h1, fun i hi => by rw [← h _ (by omega), ← h _ (by omega)]; exact h2 i hi⟩
  · rintro ⟨k, hk, h1, h2⟩
    have b := hb k hk
    exact ⟨k, hk, h1, fun i hi => by rw [h _ (by omega), h _ (by omega)]; exact h2 i hi⟩
theorem gy_fin_is {t : Nat → Int} {n k y : Int} {K I : Int × Int → Prop} (h : gy_all t n = gy_fin t k K I) (hy : y = -1 ↔ ∀ x : Int × Int, I x → gy_nm t K x) : (y = -1 → gy_all t n = k) ∧ (y ≠ -1 → gy_all t n = -1) := gy_fin_of h hy
section CFR
variable {D : va_G} {A : Nat → Prop} {H : Heap} {cs : Nat → ClassId} {kp : Nat → Nat} {L : List Nat} {E E1 : Nat → va_E} {ms : List (Nat × Nat)} {ks : List Nat} {m g : Nat} {F : Nat → Int}
theorem elg_fr {ci : Nat} (TH : tw_H D cs kp L E1 A H) (h : tw_fr kp L ms ks E E1) (hm : m ∈ L) (hk : kp m = ci) (hc : ci < 100) {k : Nat} {kd : Int} (hN : k < tw_N ci) (hf : tw_FT ci k = (2, kd, 0)) (hge : 100 ≤ kd) (h1 : (ci, k) ∉ ms) (h2 : kd.toNat ∉ ks) : tw_el E1 m k = tw_el E m k := funext fun j => tw_el_fr TH h hm hk hc hN hf hge h1 h2 j
def cf_ok (E : Nat → va_E) (g f : Nat) (F : Nat → Int) : Prop := ∀ j : Nat, tw_el E g f j = F j
theorem c2_ok_fr (TH : tw_H D cs kp L E1 A H) (h : tw_fr kp L ms ks E E1) (hm : g ∈ L) (hk : kp g = 2) (h1 : ∀ x ∈ [(2, 2)], x ∉ ms) (h2 : ∀ x ∈ [130], x ∉ ks) (q : cf_ok E g 2 F) : cf_ok E1 g 2 F := fun j => (tw_el_fr TH h hm hk (k := 2) (by decide) (by decide) (kd := 130) rfl (by decide) (h1 _ (by decide)) (h2 _ (by decide)) j).trans (q j)
theorem c3_ok_fr (TH : tw_H D cs kp L E1 A H) (h : tw_fr kp L ms ks E E1) (hm : g ∈ L) (hk : kp g = 2) (h1 : ∀ x ∈ [(2, 3)], x ∉ ms) (h2 : ∀ x ∈ [137], x ∉ ks) (q : cf_ok E g 3 F) : cf_ok E1 g 3 F := fun j => (tw_el_fr TH h hm hk (k := 3) (by decide) (by decide) (kd := 137) rfl (by decide) (h1 _ (by decide)) (h2 _ (by decide)) j).trans (q j)
theorem c8_ok_fr (TH : tw_H D cs kp L E1 A H) (h : tw_fr kp L ms ks E E1) (hm : g ∈ L) (hk : kp g = 2) (h1 : ∀ x ∈ [(2, 8)], x ∉ ms) (h2 : ∀ x ∈ [132], x ∉ ks) (q : cf_ok E g 8 F) : cf_ok E1 g 8 F := fun j => (tw_el_fr TH h hm hk (k := 8) (by decide) (by decide) (kd := 132) rfl (by decide) (h1 _ (by decide)) (h2 _ (by decide)) j).trans (q j)
theorem c9_ok_fr (TH : tw_H D cs kp L E1 A H) (h : tw_fr kp L ms ks E E1) (hm : g ∈ L) (hk : kp g = 2) (h1 : ∀ x ∈ [(2, 9)], x ∉ ms) (h2 : ∀ x ∈ [139], x ∉ ks) (q : cf_ok E g 9 F) : cf_ok E1 g 9 F := fun j => (tw_el_fr TH h hm hk (k := 9) (by decide) (by decide) (kd := 139) rfl (by decide) (h1 _ (by decide)) (h2 _ (by decide)) j).trans (q j)
/-- the grammar's copy of the text is one -/
def ctx_ok (E : Nat → va_E) (g t : Nat) : Prop := ∀ i : Nat, (i : Int) < tw_fi E t 1 → tw_el E g 0 i = tw_el E t 0 i
theorem ctx_ok_fr {t : Nat} (TH : tw_H D cs kp L E1 A H) (h : tw_fr kp L ms ks E E1) (hm : g ∈ L) (hk : kp g = 2) (hm2 : t ∈ L) (hk2 : kp t = 9) (h1 : ∀ x ∈ [(2, 0), (9, 0), (9, 1)], x ∉ ms) (h2 : ∀ x ∈ [100], x ∉ ks) (q : ctx_ok E g t) : ctx_ok E1 g t := by
  intro i hi
  rw [tw_fi_fr h hm2 hk2 (h1 (9, 1) (by decide))] at hi
  rw [tw_el_fr TH h hm hk (k := 0) (by decide) (by decide) (kd := 100) rfl (by decide) (h1 _ (by decide)) (h2 _ (by decide)), tw_el_fr TH h hm2 hk2 (k := 0) (by decide) (by decide) (kd := 100) rfl (by decide) (h1 _ (by decide)) (h2 _ (by decide))]
  exact q i hi
/-- the rows of bytes of text and grammar are two -/
def ab_ok (E : Nat → va_E) (g t : Nat) : Prop := tw_fa E g 0 ≠ tw_fa E t 0
theorem ab_ok_fr {t : Nat} (_ : tw_H D cs kp L E1 A H) (h : tw_fr kp L ms ks E E1) (hm : g ∈ L) (hk : kp g = 2) (hm2 : t ∈ L) (hk2 : kp t = 9) (h1 : ∀ x ∈ [(2, 0), (9, 0)], x ∉ ms) (_ : ∀ x ∈ ([] : List Nat), x ∉ ks) (q : ab_ok E g t) : ab_ok E1 g t := by
  unfold ab_ok
  rw [tw_fa_fr h hm hk (h1 (2, 0) (by decide)), tw_fa_fr h hm2 hk2 (h1 (9, 0) (by decide))]
  exact q
/-- the object's text lies apart from both its grammars, and these are two -/
def ac_ok (E : Nat → va_E) (x : Nat) : Prop := ab_ok E (tw_fa E x 1) (tw_fa E x 0) ∧ ab_ok E (tw_fa E x 2) (tw_fa E x 0)
theorem ac_ok_fo {x : Nat} (hT : tw_ok cs kp L E) (h : tw_fr kp L ms ks E E1) (hm : x ∈ L) (hk : kp x = 11) (h1 : ∀ y ∈ [(11, 0), (11, 1), (11, 2), (2, 0), (9, 0)], y ∉ ms) (_ : ∀ x ∈ ([] : List Nat), x ∉ ks) (q : ac_ok E x) : ac_ok E1 x := by
  unfold ac_ok
  rw [tw_fa_fr h hm hk (h1 (11, 0) (by decide)), tw_fa_fr h hm hk (h1 (11, 1) (by decide)), tw_fa_fr h hm hk (h1 (11, 2) (by decide))]
  obtain ⟨b0, e0, m0, k0⟩ := tw_rak hT hm hk (k := 0) (by decide) (by decide) (kd := 9) rfl
  obtain ⟨b1, e1, m1, k1⟩ := tw_rak hT hm hk (k := 1) (by decide) (by decide) (kd := 2) rfl
  obtain ⟨b2, e2, m2, k2⟩ := tw_rak hT hm hk (k := 2) (by decide) (by decide) (kd := 2) rfl
  unfold ac_ok at q
  rw [tw_fa_of e0, tw_fa_of e1, tw_fa_of e2] at q ⊢
  unfold ab_ok at q ⊢
  rw [tw_fa_fr h m1 k1 (h1 (2, 0) (by decide)), tw_fa_fr h m0 k0 (h1 (9, 0) (by decide)), tw_fa_fr h m2 k2 (h1 (2, 0) (by decide))]
  exact q
theorem ac_ok_fr {x : Nat} (TH : tw_H D cs kp L E1 A H) (h : tw_fr kp L ms ks E E1) (hm : x ∈ L) (hk : kp x = 11) (h1 : ∀ y ∈ [(11, 0), (11, 1), (11, 2), (2, 0), (9, 0)], y ∉ ms) (_ : ∀ x ∈ ([] : List Nat), x ∉ ks) (q : ac_ok E x) : ac_ok E1 x := by
  unfold ac_ok
  have g0 := tw_fa_fr h hm hk (k := 0) (h1 (11, 0) (by decide))
  have g1 := tw_fa_fr h hm hk (k := 1) (h1 (11, 1) (by decide))
  have g2 := tw_fa_fr h hm hk (k := 2) (h1 (11, 2) (by decide))
  obtain ⟨b0, e0, m0, k0⟩ := tw_ra TH hm hk (k := 0) (by decide) (by decide) (kd := 9) rfl
  obtain ⟨b1, e1, m1, k1⟩ := tw_ra TH hm hk (k := 1) (by decide) (by decide) (kd := 2) rfl
  obtain ⟨b2, e2, m2, k2⟩ := tw_ra TH hm hk (k := 2) (by decide) (by decide) (kd := 2) rfl
  unfold ac_ok at q
  rw [← g0, ← g1, ← g2] at q
  rw [tw_fa_of e0, tw_fa_of e1, tw_fa_of e2] at q ⊢
  unfold ab_ok at q ⊢
  rw [tw_fa_fr h m1 k1 (h1 (2, 0) (by decide)), tw_fa_fr h m0 k0 (h1 (9, 0) (by decide)), tw_fa_fr h m2 k2 (h1 (2, 0) (by decide))]
  exact q
end CFR
def cq_ (m : Int) : Nat := if m = 0 then 1 else 2
theorem cq_12 (m : Int) : cq_ m = 1 ∨ cq_ m = 2 := by
  unfold cq_
  by_cases h : m = 0
  · exact Or.inl (if_pos h)
  · exact Or.inr (if_neg h)
theorem cq_2 {m : Int} (h : m ≠ 0) : cq_ m = 2 := if_neg h
theorem cq_1 {m : Int} (h : m = 0) : cq_ m = 1 := if_pos h
theorem cq_n {m : Int} (h : cq_ m = 2) : m ≠ 0 := fun z => by rw [cq_1 z] at h; exact absurd h (by decide)
theorem ib_le {n m : Int} {I : Int × Int → Prop} (q : ib n I) (h : n ≤ m) : ib m I := fun x hx => by have z := q x hx; omega
/-- all items named, one by one -/
def rv_ok (P : Nat → Prop) (k : Int) : Prop := ∀ j : Nat, (j : Int) < k → P j
theorem rv_push {P : Nat → Prop} {k k1 : Int} (q : rv_ok P k) (k0 : 0 ≤ k) (hk : k1 = k + 1) (h : P k.toNat) : rv_ok P k1 := fun j hj => by
  by_cases e : j = k.toNat
  · rw [e]; exact h
  · exact q j (by omega)
theorem prs_all {f h : Nat → Int} {k : Int} {P : Int × Int → Prop} : (∀ x : Int × Int, prs f h k x → P x) ↔ rv_ok (fun j => P (f j, h j)) k := by
  constructor
  · intro q j hj
    exact q _ ⟨j, hj, rfl⟩
  · rintro q x ⟨j, hj, rfl⟩
    exact q j hj
theorem ctx_copy {E E1 : Nat → va_E} {g t a b : Nat} {n : Int32} (hg : tw_fv E g 0 = .ref a) (ht : tw_fv E t 0 = .ref b) (hn : tw_fv E t 1 = .int n) (h0 : 0 ≤ n.toInt) (ab : ab_ok E g t) (p2 : ∀ b j : Nat, tw_fv E1 b j = tw_fv E b j) (p3 : ∀ b : Nat, b ≠ a → E1 b = E b) (p4 : ∀ j : Nat, tw_iv E1 a j = va_cpy (tw_iv E b) (tw_iv E a) (Int32.toNatClampNeg 0) (Int32.toNatClampNeg 0) n.toNatClampNeg j) : ctx_ok E1 g t ∧ tw_el E1 t 0 = tw_el E t 0 := by
  have hne : b ≠ a := fun z => by
    unfold ab_ok at ab
    rw [tw_fa_of hg, tw_fa_of ht] at ab
    exact ab z.symm
  have key : ∀ i : Nat, tw_el E1 t 0 i = tw_el E t 0 i := fun i => by
    rw [tw_el_of ((p2 t 0).trans ht), tw_el_of ht]
    unfold tw_iv
    rw [p3 b hne]
  refine ⟨fun i hi => ?_, funext key⟩
  rw [tw_fi_of ((p2 t 1).trans hn)] at hi
  rw [key, tw_el_of ((p2 g 0).trans hg), tw_el_of ht, p4]
  have z0 : Int32.toNatClampNeg 0 = 0 := by decide
  have zn : (n.toNatClampNeg : Int) = n.toInt := by show ((n.toInt.toNat : Nat) : Int) = n.toInt; omega
  unfold va_cpy
  rw [if_pos (by rw [z0]; omega), z0]
  congr 2
  omega
theorem sp_ne {E : Nat → va_E} {g h : Nat} (q : sp_ok E g h) : g ≠ h := q.1
/-- a field of another object stays -/
theorem tw_fi_oth {E E1 : Nat → va_E} {a g k : Nat} (p2 : ∀ b j : Nat, b ≠ a ∨ j ≠ k → tw_fv E1 b j = tw_fv E b j) (h : g ≠ a) : tw_fi E1 g k = tw_fi E g k := by
  unfold tw_fi
  rw [p2 g k (Or.inl h)]
def kc_ok (E : Nat → va_E) (g : Nat) (v : Int) : Prop := tw_fi E g 1 = v
theorem kc_ok_fr {D : va_G} {A : Nat → Prop} {H : Heap} {cs : Nat → ClassId} {kp : Nat → Nat} {L : List Nat} {E E1 : Nat → va_E} {ms : List (Nat × Nat)} {ks : List Nat} {g : Nat} {v : Int} (_ : tw_H D cs kp L E1 A H) (h : tw_fr kp L ms ks E E1) (hm : g ∈ L) (hk : kp g = 2) (h1 : ∀ x ∈ [(2, 1)], x ∉ ms) (_ : ∀ x ∈ ([] : List Nat), x ∉ ks) (q : kc_ok E g v) : kc_ok E1 g v := (tw_fi_fr h hm hk (h1 _ (by decide))).trans q
theorem kc_oth {E E1 : Nat → va_E} {a g : Nat} {v : Int} (p2 : ∀ b j : Nat, b ≠ a ∨ j ≠ 1 → tw_fv E1 b j = tw_fv E b j) (h : g ≠ a) (q : kc_ok E g v) : kc_ok E1 g v := (tw_fi_oth p2 h).trans q
theorem tc_end {t : Nat → Int} {n s e y : Int} (q : tc_tk t n s e y) : y = 0 ↔ n ≤ s := by
  rcases q with ⟨q1, q2, q3⟩ | ⟨q1, q2, -, -, -, -, q3⟩ | ⟨q1, q2, -, -, q3⟩
  · exact ⟨fun _ => q1, fun _ => q2⟩
  · exact ⟨fun h => by omega, fun h => by omega⟩
  · refine ⟨fun h => ?_, fun h => by omega⟩
    rcases q3 with ⟨h1, h2, -⟩ | h1
    · unfold tc_sg at h1; omega
    · omega
theorem ac_swap {E E1 : Nat → va_E} {x t g h : Nat} (q : ac_ok E x) (a0 : tw_fa E x 0 = t) (a1 : tw_fa E x 1 = g) (a2 : tw_fa E x 2 = h) (b0 : tw_fa E1 x 0 = t) (b1 : tw_fa E1 x 1 = h) (b2 : tw_fa E1 x 2 = g) (ft : tw_fa E1 t 0 = tw_fa E t 0) (fg : tw_fa E1 g 0 = tw_fa E g 0) (fh : tw_fa E1 h 0 = tw_fa E h 0) : ac_ok E1 x := by
  unfold ac_ok at q ⊢
  rw [a0, a1, a2] at q
  rw [b0, b1, b2]
  unfold ab_ok at q ⊢
  rw [ft, fg, fh]
  exact ⟨q.2, q.1⟩
/-! the two texts: bytes from 0 to 255 and from -128 to 127 -/
def sm_b (x y : Int) : Prop := (x = y ∧ 0 ≤ y ∧ y ≤ 127) ∨ (x = y + 256 ∧ -128 ≤ y ∧ y < 0)
def smt_ok (t u : Nat → Int) (n : Int) : Prop := ∀ i : Nat, (i : Int) < n → sm_b (t i) (u i)
theorem smt_ok_le {t u : Nat → Int} {n m : Int} (q : smt_ok t u n) (h : m ≤ n) : smt_ok t u m := fun i hi => q i (by omega)
theorem cite_congr {P Q : Prop} {a b c d : Int} (h : P ↔ Q) (h1 : P → a = b) (h2 : c = d) : cite P a c = cite Q b d := by
  rcases Classical.em P with z | z
  · rw [cite_pos z, cite_pos (h.mp z)]; exact h1 z
  · rw [cite_neg z, cite_neg (fun w => z (h.mpr w))]; exact h2
section SMS
variable {t u : Nat → Int} {n : Int}
theorem sm_le (q : smt_ok t u n) {s : Int} (s0 : 0 ≤ s) (hs : s < n) : lx_le (t s.toNat) ↔ lx_le (u s.toNat) := by
  have z := q s.toNat (by omega)
  unfold sm_b at z
  unfold lx_le
  omega
theorem sm_sp (q : smt_ok t u n) {s : Int} (s0 : 0 ≤ s) (hs : s < n) : lx_sp (t s.toNat) ↔ lx_sp (u s.toNat) := by
  have z := q s.toNat (by omega)
  unfold sm_b at z
  unfold lx_sp
  omega
theorem sm_ow (q : smt_ok t u n) {s : Int} (s0 : 0 ≤ s) (hs : s < n) : lx_ow (t s.toNat) ↔ lx_ow (u s.toNat) := by
  have z := q s.toNat (by omega)
  unfold sm_b at z
  unfold lx_ow
  omega
theorem sm_c (q : smt_ok t u n) {s c : Int} (s0 : 0 ≤ s) (hs : s < n) (c0 : 0 ≤ c) (c1 : c ≤ 127) : t s.toNat = c ↔ u s.toNat = c := by
  have z := q s.toNat (by omega)
  unfold sm_b at z
  omega
theorem sm_al {P : Int → Prop} (hP : ∀ s : Int, 0 ≤ s → s < n → (P (t s.toNat) ↔ P (u s.toNat))) {a b : Int} (b1 : b ≤ n) : lx_al P t a b ↔ lx_al P u a b := by
  constructor
  · intro h k h0 h1
    have z := hP (k : Int) (by omega) (by omega)
    rw [show ((k : Int)).toNat = k by omega] at z
    exact z.mp (h k h0 h1)
  · intro h k h0 h1
    have z := hP (k : Int) (by omega) (by omega)
    rw [show ((k : Int)).toNat = k by omega] at z
    exact z.mpr (h k h0 h1)
theorem sm_WS (q : smt_ok t u n) {a : Int} (a0 : 0 ≤ a) : lx_WS t n a = lx_WS u n a := by
  funext b
  apply propext
  unfold lx_WS
  constructor
  · rintro ⟨h1, h2, h3, h4⟩
    exact ⟨h1, h2, (sm_al (fun s s0 s1 => sm_sp q s0 s1) h2).mp h3, fun z w => h4 z ((sm_sp q (by omega) z).mpr w)⟩
  · rintro ⟨h1, h2, h3, h4⟩
    exact ⟨h1, h2, (sm_al (fun s s0 s1 => sm_sp q s0 s1) h2).mpr h3, fun z w => h4 z ((sm_sp q (by omega) z).mp w)⟩
theorem sm_TK (q : smt_ok t u n) {s : Int} (s0 : 0 ≤ s) : lx_TK t n s = lx_TK u n s := by
  funext e
  apply propext
  unfold lx_TK lx_wd
  constructor
  · rintro (h | ⟨h1, h2, h3, h4, h5, h6⟩ | ⟨h1, h2, h3⟩)
    · exact Or.inl h
    · exact Or.inr (Or.inl ⟨h1, (sm_le q s0 h1).mp h2, h3, h4, (sm_al (fun s s0 s1 => sm_le q s0 s1) h4).mp h5, fun z w => h6 z ((sm_le q (by omega) z).mpr w)⟩)
    · refine Or.inr (Or.inr ⟨h1, fun w => h2 ((sm_le q s0 h1).mpr w), ?_⟩)
      rcases h3 with h3 | ⟨h3, h4, h5, h6, h7, h8⟩
      · exact Or.inl h3
      · exact Or.inr ⟨(sm_c q s0 h1 (by decide) (by decide)).mp h3, h4, h5, h6, (sm_c q (by omega) (by omega) (by decide) (by decide)).mp h7, (sm_al (fun s s0 s1 => sm_ow q s0 s1) (by omega)).mp h8⟩
  · rintro (h | ⟨h1, h2, h3, h4, h5, h6⟩ | ⟨h1, h2, h3⟩)
    · exact Or.inl h
    · exact Or.inr (Or.inl ⟨h1, (sm_le q s0 h1).mpr h2, h3, h4, (sm_al (fun s s0 s1 => sm_le q s0 s1) h4).mpr h5, fun z w => h6 z ((sm_le q (by omega) z).mp w)⟩)
    · refine Or.inr (Or.inr ⟨h1, fun w => h2 ((sm_le q s0 h1).mp w), ?_⟩)
      rcases h3 with h3 | ⟨h3, h4, h5, h6, h7, h8⟩
      · exact Or.inl h3
      · exact Or.inr ⟨(sm_c q s0 h1 (by decide) (by decide)).mpr h3, h4, h5, h6, (sm_c q (by omega) (by omega) (by decide) (by decide)).mpr h7, (sm_al (fun s s0 s1 => sm_ow q s0 s1) (by omega)).mpr h8⟩
theorem sm_n (q : smt_ok t u n) {a : Int} (a0 : 0 ≤ a) : lx_n t n a = lx_n u n a := by unfold lx_n; rw [sm_WS q a0]
theorem sm_e (q : smt_ok t u n) {s : Int} (s0 : 0 ≤ s) : lx_e t n s = lx_e u n s := by unfold lx_e; rw [sm_TK q s0]
theorem sm_rs (q : smt_ok t u n) {s e : Int} (s0 : 0 ≤ s) (en : e ≤ n) (w : Nat) : lx_rs t n s e w ↔ lx_rs u n s e w := by
  match w with
  | 0 =>
    show (s ≠ n ∧ e - s = 4 ∧ _) ↔ (s ≠ n ∧ e - s = 4 ∧ _)
    constructor
    · rintro ⟨h1, h2, h3, h4, h5, h6⟩
      exact ⟨h1, h2, (sm_c q (by omega) (by omega) (by decide) (by decide)).mp h3, (sm_c q (by omega) (by omega) (by decide) (by decide)).mp h4, (sm_c q (by omega) (by omega) (by decide) (by decide)).mp h5, (sm_c q (by omega) (by omega) (by decide) (by decide)).mp h6⟩
    · rintro ⟨h1, h2, h3, h4, h5, h6⟩
      exact ⟨h1, h2, (sm_c q (by omega) (by omega) (by decide) (by decide)).mpr h3, (sm_c q (by omega) (by omega) (by decide) (by decide)).mpr h4, (sm_c q (by omega) (by omega) (by decide) (by decide)).mpr h5, (sm_c q (by omega) (by omega) (by decide) (by decide)).mpr h6⟩
  | w + 1 =>
    show (s ≠ n ∧ e - s = 3 ∧ _) ↔ (s ≠ n ∧ e - s = 3 ∧ _)
    constructor
    · rintro ⟨h1, h2, h3, h4, h5⟩
      exact ⟨h1, h2, (sm_c q (by omega) (by omega) (by decide) (by decide)).mp h3, (sm_c q (by omega) (by omega) (by decide) (by decide)).mp h4, (sm_c q (by omega) (by omega) (by decide) (by decide)).mp h5⟩
    · rintro ⟨h1, h2, h3, h4, h5⟩
      exact ⟨h1, h2, (sm_c q (by omega) (by omega) (by decide) (by decide)).mpr h3, (sm_c q (by omega) (by omega) (by decide) (by decide)).mpr h4, (sm_c q (by omega) (by omega) (by decide) (by decide)).mpr h5⟩
theorem sm_gn (q : smt_ok t u n) {K : Int × Int → Prop} {x : Int × Int} (hb : ib n K) (x0 : 0 ≤ x.1) (xn : x.2 ≤ n) : gy_nm t K x ↔ gy_nm u K x := by
  constructor
  · rintro ⟨k, hk, h1, h2⟩
    have b := hb k hk
    refine ⟨k, hk, h1, fun i hi => ?_⟩
    have z1 := q (k.1 + i).toNat (by omega)
    have z2 := q (x.1 + i).toNat (by omega)
    have z3 := h2 i hi
    unfold sm_b at z1 z2
    omega
  · rintro ⟨k, hk, h1, h2⟩
    have b := hb k hk
    refine ⟨k, hk, h1, fun i hi => ?_⟩
    have z1 := q (k.1 + i).toNat (by omega)
    have z2 := q (x.1 + i).toNat (by omega)
    have z3 := h2 i hi
    unfold sm_b at z1 z2
    omega
/-- blanks end somewhere, and so do names -/
theorem lx_WS_ex (u : Nat → Int) (n : Int) (f : Nat) : ∀ a : Int, 0 ≤ a → a ≤ n → n - a ≤ (f : Int) → ∃ b : Int, lx_WS u n a b := by
  induction f with
  | zero => intro a a0 a1 a2; exact ⟨a, by omega, by omega, fun k h0 h1 => absurd h0 (by omega), fun z => by omega⟩
  | succ f ih =>
    intro a a0 a1 a2
    rcases Classical.em (a < n ∧ lx_sp (u a.toNat)) with h | h
    · obtain ⟨b, h1, h2, h3, h4⟩ := ih (a + 1) (by omega) (by omega) (by omega)
      refine ⟨b, by omega, h2, fun k k0 k1 => ?_, h4⟩
      by_cases e : (k : Int) = a
      · rw [show k = a.toNat by omega]; exact h.2
      · exact h3 k (by omega) k1
    · exact ⟨a, by omega, by omega, fun k h0 h1 => absurd h0 (by omega), fun z w => h ⟨z, w⟩⟩
theorem lx_le_ex (u : Nat → Int) (n : Int) (f : Nat) : ∀ a : Int, 0 ≤ a → a ≤ n → n - a ≤ (f : Int) → ∃ e : Int, a ≤ e ∧ e ≤ n ∧ lx_al lx_le u a e ∧ (e < n → ¬ lx_le (u e.toNat)) := by
  induction f with
  | zero => intro a a0 a1 a2; exact ⟨a, by omega, by omega, fun k h0 h1 => absurd h0 (by omega), fun z => by omega⟩
  | succ f ih =>
    intro a a0 a1 a2
    rcases Classical.em (a < n ∧ lx_le (u a.toNat)) with h | h
    · obtain ⟨b, h1, h2, h3, h4⟩ := ih (a + 1) (by omega) (by omega) (by omega)
      refine ⟨b, by omega, h2, fun k k0 k1 => ?_, h4⟩
      by_cases e : (k : Int) = a
      · rw [show k = a.toNat by omega]; exact h.2
      · exact h3 k (by omega) k1
    · exact ⟨a, by omega, by omega, fun k h0 h1 => absurd h0 (by omega), fun z w => h ⟨z, w⟩⟩
theorem lx_n_rg (u : Nat → Int) {n a : Int} (a0 : 0 ≤ a) (a1 : a ≤ n) : a ≤ lx_n u n a ∧ lx_n u n a ≤ n := by
  obtain ⟨b, h⟩ := lx_WS_ex u n (n - a).toNat a a0 a1 (by omega)
  rw [lx_n_of h a0]
  exact ⟨h.1, h.2.1⟩
theorem lx_e_rg (u : Nat → Int) {n s : Int} (s0 : 0 ≤ s) (s1 : s < n) (hl : lx_le (u s.toNat)) : s < lx_e u n s ∧ lx_e u n s ≤ n := by
  obtain ⟨e, h1, h2, h3, h4⟩ := lx_le_ex u n (n - s).toNat s s0 (by omega) (by omega)
  have hne : s < e := by
    rcases (show s = e ∨ s < e by omega) with z | z
    · exact absurd hl (by rw [z]; exact h4 (by omega))
    · exact z
  have hT : lx_TK u n s e := Or.inr (Or.inl ⟨s1, hl, hne, h2, h3, h4⟩)
  rw [lx_e_of hT s0 s1 hl]
  exact ⟨hne, h2⟩
theorem sm_nm (q : smt_ok t u n) {s : Int} (s0 : 0 ≤ s) : lx_nm t n s (lx_e u n s) ↔ lx_nm u n s (lx_e u n s) := by
  constructor
  · rintro ⟨h1, h2, h3, h4⟩
    have hl := (sm_le q s0 h1).mp h2
    have r := lx_e_rg u s0 h1 hl
    exact ⟨h1, hl, fun w => h3 ((sm_rs q s0 r.2 0).mpr w), fun w => h4 ((sm_rs q s0 r.2 1).mpr w)⟩
  · rintro ⟨h1, h2, h3, h4⟩
    have r := lx_e_rg u s0 h1 h2
    exact ⟨h1, (sm_le q s0 h1).mpr h2, fun w => h3 ((sm_rs q s0 r.2 0).mp w), fun w => h4 ((sm_rs q s0 r.2 1).mp w)⟩
theorem sm_sg (q : smt_ok t u n) {s c : Int} (s0 : 0 ≤ s) (c0 : 0 ≤ c) (c1 : c ≤ 127) : (s < n ∧ t s.toNat = c) ↔ (s < n ∧ u s.toNat = c) := ⟨fun h => ⟨h.1, (sm_c q s0 h.1 c0 c1).mp h.2⟩, fun h => ⟨h.1, (sm_c q s0 h.1 c0 c1).mpr h.2⟩⟩
theorem sm_fin (q : smt_ok t u n) {k : Int} {K I : Int × Int → Prop} (hK : ib n K) (hI : ib n I) : gy_fin t k K I = gy_fin u k K I := cite_congr ⟨fun h x hx => (sm_gn q hK (hI x hx).1 (hI x hx).2.2).mp (h x hx), fun h x hx => (sm_gn q hK (hI x hx).1 (hI x hx).2.2).mpr (h x hx)⟩ (fun _ => rfl) rfl
theorem sm_gy (q : smt_ok t u n) (f : Nat) : ∀ (m : Nat) (s k : Int) (K I : Int × Int → Prop), 0 ≤ s → s ≤ n → ib n K → ib n I → gy t n f m s k K I = gy u n f m s k K I := by
  induction f with
  | zero => intro m s k K I _ _ _ _; rfl
  | succ f ih =>
    intro m s k K I s0 s1 hK hI
    have nxt : ∀ a : Int, 0 ≤ a → a ≤ n → 0 ≤ lx_n u n a ∧ lx_n u n a ≤ n := fun a a0 a1 => by have := lx_n_rg u a0 a1; omega
    have item : ∀ m : Nat, m = 1 ∨ m = 2 → gy t n (f + 1) m s k K I = gy u n (f + 1) m s k K I := fun m hm => by
      rw [gy_it hm, gy_it hm, sm_e q s0]
      refine cite_congr (sm_nm q s0) (fun hn => ?_) rfl
      have hn := (sm_nm q s0).mp hn
      have r := lx_e_rg u s0 hn.1 hn.2.1
      have w := nxt _ (by omega) r.2
      have hI2 : ib n (gy_ins I (s, lx_e u n s)) := ib_ins hI s0 (by omega) r.2
      rw [sm_n q (by omega)]
      refine cite_congr ⟨fun h => ⟨h.1, h.2.1, h.2.2.imp (sm_c q w.1 h.2.1 (by decide) (by decide)).mp (sm_c q w.1 h.2.1 (by decide) (by decide)).mp⟩, fun h => ⟨h.1, h.2.1, h.2.2.imp (sm_c q w.1 h.2.1 (by decide) (by decide)).mpr (sm_c q w.1 h.2.1 (by decide) (by decide)).mpr⟩⟩ (fun h => ?_) ?_
      · have h2 := h.2.1
        have w2 := nxt (lx_n u n (lx_e u n s) + 1) (by omega) (by omega)
        rw [sm_n q (a := lx_n u n (lx_e u n s) + 1) (by omega)]
        exact cite_congr (sm_sg q w2.1 (by decide) (by decide)) (fun _ => ih 3 _ _ _ _ w2.1 w2.2 hK hI2) (ih m _ _ _ _ w2.1 w2.2 hK hI2)
      · exact cite_congr (sm_sg q w.1 (by decide) (by decide)) (fun _ => ih 3 _ _ _ _ w.1 w.2 hK hI2) (ih m _ _ _ _ w.1 w.2 hK hI2)
    match m with
    | 0 =>
      show cite _ _ _ = cite _ _ _
      rw [sm_e q s0]
      refine cite_congr ⟨fun h => ?_, fun h => ?_⟩ (fun h => ?_) rfl
      · have hn := (sm_nm q s0).mp h.1
        have r := lx_e_rg u s0 hn.1 hn.2.1
        exact ⟨hn, h.2.1, fun w => h.2.2 ((sm_gn q hK s0 r.2).mpr w)⟩
      · have r := lx_e_rg u s0 h.1.1 h.1.2.1
        exact ⟨(sm_nm q s0).mpr h.1, h.2.1, fun w => h.2.2 ((sm_gn q hK s0 r.2).mp w)⟩
      · have hn := (sm_nm q s0).mp h.1
        have r := lx_e_rg u s0 hn.1 hn.2.1
        have w := nxt _ (by omega) r.2
        rw [sm_n q (by omega)]
        exact ih 4 _ _ _ _ w.1 w.2 (ib_ins hK s0 (by omega) r.2) hI
    | 1 => exact item 1 (Or.inl rfl)
    | 2 => exact item 2 (Or.inr rfl)
    | 3 =>
      show cite _ _ _ = cite _ _ _
      refine cite_congr (sm_sg q s0 (by decide) (by decide)) (fun h => ?_) rfl
      have w := nxt (s + 1) (by omega) (by have := h.1; omega)
      rw [sm_n q (by omega)]
      exact cite_congr Iff.rfl (fun _ => sm_fin q hK hI) (ih 0 _ _ _ _ w.1 w.2 hK hI)
    | 4 =>
      show cite _ _ _ = cite _ _ _
      rw [sm_e q s0]
      have key : ∀ i : Nat, (s < n ∧ lx_le (t s.toNat) ∧ lx_rs t n s (lx_e u n s) i) ↔ (s < n ∧ lx_le (u s.toNat) ∧ lx_rs u n s (lx_e u n s) i) := fun i => by
        constructor
        · rintro ⟨h1, h2, h3⟩
          have hl := (sm_le q s0 h1).mp h2
          have r := lx_e_rg u s0 h1 hl
          exact ⟨h1, hl, (sm_rs q s0 r.2 i).mp h3⟩
        · rintro ⟨h1, h2, h3⟩
          have r := lx_e_rg u s0 h1 h2
          exact ⟨h1, (sm_le q s0 h1).mpr h2, (sm_rs q s0 r.2 i).mpr h3⟩
      refine cite_congr (key 0) (fun h => ?_) (cite_congr (key 1) (fun h => ?_) (cite_congr (sm_sg q s0 (by decide) (by decide)) (fun h => ?_) rfl))
      · have h := (key 0).mp h
        have r := lx_e_rg u s0 h.1 h.2.1
        have w := nxt _ (by omega) r.2
        rw [sm_n q (by omega)]
        exact ih 3 _ _ _ _ w.1 w.2 hK hI
      · have h := (key 1).mp h
        have r := lx_e_rg u s0 h.1 h.2.1
        have w := nxt _ (by omega) r.2
        rw [sm_n q (by omega)]
        exact ih 1 _ _ _ _ w.1 w.2 hK hI
      · have w := nxt (s + 1) (by omega) (by have := h.1; omega)
        rw [sm_n q (by omega)]
        exact ih 2 _ _ _ _ w.1 w.2 hK hI
    | m + 5 =>
      have e5 : ∀ v : Nat → Int, gy v n (f + 1) (m + 5) s k K I = cite (lx_nm v n s (lx_e v n s))
        (cite (m + 5 = 2 ∧ lx_n v n (lx_e v n s) < n ∧ (v (lx_n v n (lx_e v n s)).toNat = 63 ∨ v (lx_n v n (lx_e v n s)).toNat = 42))
          (cite (lx_n v n (lx_n v n (lx_e v n s) + 1) < n ∧ v (lx_n v n (lx_n v n (lx_e v n s) + 1)).toNat = 59)
            (gy v n f 3 (lx_n v n (lx_n v n (lx_e v n s) + 1)) k K (gy_ins I (s, lx_e v n s)))
            (gy v n f (m + 5) (lx_n v n (lx_n v n (lx_e v n s) + 1)) k K (gy_ins I (s, lx_e v n s))))
          (cite (lx_n v n (lx_e v n s) < n ∧ v (lx_n v n (lx_e v n s)).toNat = 59)
            (gy v n f 3 (lx_n v n (lx_e v n s)) k K (gy_ins I (s, lx_e v n s)))
            (gy v n f (m + 5) (lx_n v n (lx_e v n s)) k K (gy_ins I (s, lx_e v n s)))))
        (-1) := fun _ => rfl
      rw [e5, e5, sm_e q s0]
      refine cite_congr (sm_nm q s0) (fun hn => ?_) rfl
      have hn := (sm_nm q s0).mp hn
      have r := lx_e_rg u s0 hn.1 hn.2.1
      have w := nxt _ (by omega) r.2
      have hI2 : ib n (gy_ins I (s, lx_e u n s)) := ib_ins hI s0 (by omega) r.2
      rw [sm_n q (by omega)]
      refine cite_congr ⟨fun h => absurd h.1 (by omega), fun h => absurd h.1 (by omega)⟩ (fun h => absurd h.1 (by omega)) ?_
      exact cite_congr (sm_sg q w.1 (by decide) (by decide)) (fun _ => ih 3 _ _ _ _ w.1 w.2 hK hI2) (ih (m + 5) _ _ _ _ w.1 w.2 hK hI2)
theorem sm_all (q : smt_ok t u n) (n0 : 0 ≤ n) : gy_all t n = gy_all u n := by
  unfold gy_all
  have w := lx_n_rg u (a := 0) (n := n) (by decide) n0
  rw [sm_n q (by decide)]
  exact sm_gy q 501 0 _ _ _ _ w.1 w.2 (ib_none n) (ib_none n)
end SMS
/-! what is fed -/
def by_w (v s : Int) : Int32 := ((Int32.ofInt v).toUInt32 >>> ((Int32.ofInt s).toUInt32 &&& Int32.toUInt32 31)).toInt32
def by_c (v s : Int) : Int := (by_w v s &&& 255).toInt
def by_r (v s : Int) : Int := (by_w v s).toInt8.toInt32.toInt
theorem by_sm (v s : Int) : sm_b (by_c v s) (by_r v s) := by
  unfold by_c by_r
  generalize by_w v s = x
  have hb : x.toInt = (x.toBitVec.toNat : Int) ∨ x.toInt = (x.toBitVec.toNat : Int) - 4294967296 := by
    show x.toBitVec.toInt = _ ∨ x.toBitVec.toInt = _
    rw [BitVec.toInt_eq_toNat_cond]
    split
    · exact Or.inl rfl
    · exact Or.inr rfl
  have h1 : (x &&& 255).toInt = x.toInt % 256 := by
    rw [pk_and x (m := 255) 8 (by decide), nI_toInt (by omega)]
    omega
  have h2 : (x.toInt8.toInt32).toInt = x.toInt.bmod 256 := by
    rw [lg_i2b_toInt]
  rw [h1, h2]
  unfold sm_b Int.bmod
  dsimp only
  split <;> omega
def fd_ (B : Int → Int) (t : Nat → Int) (p m : Int) : Nat → Int := fun i => if p ≤ (i : Int) ∧ (i : Int) < m then B (24 - 8 * ((i : Int) - p)) else t i
theorem fd_zero (B : Int → Int) (t : Nat → Int) {p m : Int} (h : m ≤ p) : fd_ B t p m = t := funext fun i => if_neg (by omega)
theorem fd_push {B : Int → Int} {t : Nat → Int} {p m v : Int} (hp : p ≤ m) (p0 : 0 ≤ p) (hv : B (24 - 8 * (m - p)) = v) (i : Nat) : (if i = m.toNat then v else fd_ B t p m i) = fd_ B t p (m + 1) i := by
  unfold fd_
  by_cases e : i = m.toNat
  · rw [if_pos e, if_pos (by omega), ← hv, show (i : Int) = m by omega]
  · rw [if_neg e]
    by_cases z : p ≤ (i : Int) ∧ (i : Int) < m
    · rw [if_pos z, if_pos (by omega)]
    · rw [if_neg z, if_neg (by omega)]
def fd5 (B : Int → Int → Int) (a b c d e : Int) (t : Nat → Int) (p : Int) : Nat → Int := fd_ (B e) (fd_ (B d) (fd_ (B c) (fd_ (B b) (fd_ (B a) t p (p + 4)) (p + 4) (p + 8)) (p + 8) (p + 12)) (p + 12) (p + 16)) (p + 16) (p + 20)
theorem fd_sm {t u : Nat → Int} {v p m : Int} (q : smt_ok t u p) : smt_ok (fd_ (by_c v) t p m) (fd_ (by_r v) u p m) m := fun i hi => by
  unfold fd_
  by_cases z : p ≤ (i : Int)
  · rw [if_pos ⟨z, hi⟩, if_pos ⟨z, hi⟩]; exact by_sm _ _
  · rw [if_neg (fun w => z w.1), if_neg (fun w => z w.1)]; exact q i (by omega)
theorem fd5_sm {t u : Nat → Int} {a b c d e p : Int} (q : smt_ok t u p) : smt_ok (fd5 by_c a b c d e t p) (fd5 by_r a b c d e u p) (p + 20) := fd_sm (fd_sm (fd_sm (fd_sm (fd_sm q))))
/-! feeding, step by step; the kept names -/
def fdr_ok (E : Nat → va_E) (m : Nat) (B : Int → Int) (t : Nat → Int) (p k : Int) : Prop := ∀ i : Nat, tw_el E m 0 i = fd_ B t p k i
def fdc_ok (E : Nat → va_E) (m : Nat) (B : Int → Int) (t : Nat → Int) (p k : Int) : Prop := ∀ i : Nat, tw_el E m 0 i = fd_ B t p k i
theorem fdr_ok_cast {E : Nat → va_E} {m : Nat} {B : Int → Int} {t : Nat → Int} {p k k1 : Int} (h : k = k1) (q : fdr_ok E m B t p k) : fdr_ok E m B t p k1 := h ▸ q
theorem fdc_ok_cast {E : Nat → va_E} {m : Nat} {B : Int → Int} {t : Nat → Int} {p k k1 : Int} (h : k = k1) (q : fdc_ok E m B t p k) : fdc_ok E m B t p k1 := h ▸ q
section FDF
variable {D : va_G} {A : Nat → Prop} {H : Heap} {cs : Nat → ClassId} {kp : Nat → Nat} {L : List Nat} {E E1 : Nat → va_E} {ms : List (Nat × Nat)} {ks : List Nat} {m : Nat} {B : Int → Int} {t : Nat → Int} {p k : Int}
theorem fdr_ok_fr (TH : tw_H D cs kp L E1 A H) (h : tw_fr kp L ms ks E E1) (hm : m ∈ L) (hk : kp m = 12) (h1 : ∀ x ∈ [(12, 0)], x ∉ ms) (h2 : ∀ x ∈ [300], x ∉ ks) (q : fdr_ok E m B t p k) : fdr_ok E1 m B t p k := fun i => (tw_el_fr TH h hm hk (k := 0) (by decide) (by decide) (kd := 300) rfl (by decide) (h1 _ (by decide)) (h2 _ (by decide)) i).trans (q i)
theorem fdc_ok_fr (TH : tw_H D cs kp L E1 A H) (h : tw_fr kp L ms ks E E1) (hm : m ∈ L) (hk : kp m = 9) (h1 : ∀ x ∈ [(9, 0)], x ∉ ms) (h2 : ∀ x ∈ [100], x ∉ ks) (q : fdc_ok E m B t p k) : fdc_ok E1 m B t p k := fun i => (tw_el_fr TH h hm hk (k := 0) (by decide) (by decide) (kd := 100) rfl (by decide) (h1 _ (by decide)) (h2 _ (by decide)) i).trans (q i)
end FDF
theorem fd_st {B : Int → Int} {t f g : Nat → Int} {p k v : Int} (hp : p ≤ k) (p0 : 0 ≤ p) (hv : B (24 - 8 * (k - p)) = v) (hf : ∀ i : Nat, f i = fd_ B t p k i) (hg : ∀ i : Nat, g i = if i = k.toNat then v else f i) (i : Nat) : g i = fd_ B t p (k + 1) i := by
  rw [hg, ← fd_push hp p0 hv i, hf]
theorem fd5_of {B : Int → Int → Int} {a b c d e p p1 p2 p3 p4 : Int} {t0 t1 t2 t3 t4 t5 : Nat → Int} (h1 : ∀ i : Nat, t1 i = fd_ (B a) t0 p (p + 4) i) (h2 : ∀ i : Nat, t2 i = fd_ (B b) t1 p1 (p1 + 4) i) (h3 : ∀ i : Nat, t3 i = fd_ (B c) t2 p2 (p2 + 4) i) (h4 : ∀ i : Nat, t4 i = fd_ (B d) t3 p3 (p3 + 4) i) (h5 : ∀ i : Nat, t5 i = fd_ (B e) t4 p4 (p4 + 4) i) (e1 : p1 = p + 4) (e2 : p2 = p + 8) (e3 : p3 = p + 12) (e4 : p4 = p + 16) : t5 = fd5 B a b c d e t0 p := by
  subst e1 e2 e3 e4
  have f1 := funext h1
  have f2 := funext h2
  have f3 := funext h3
  have f4 := funext h4
  have f5 := funext h5
  unfold fd5
  rw [f5, f4, f3, f2, f1, show p + 4 + 4 = p + 8 by omega, show p + 8 + 4 = p + 12 by omega, show p + 12 + 4 = p + 16 by omega, show p + 16 + 4 = p + 20 by omega]
theorem by_r_is {x s z w : Int32} {v : Int} (hv : v = s.toInt) (ez : z = w.toInt8.toInt32) (ew : w = (x.toUInt32 >>> (s.toUInt32 &&& Int32.toUInt32 31)).toInt32) : by_r x.toInt v = z.toInt := by
  unfold by_r by_w
  rw [hv, Int32.ofInt_toInt, Int32.ofInt_toInt, ez, ew]
theorem by_c_is {x s z w : Int32} {v : Int} (hv : v = s.toInt) (ez : z = w &&& 255) (ew : w = (x.toUInt32 >>> (s.toUInt32 &&& Int32.toUInt32 31)).toInt32) : by_c x.toInt v = z.toInt := by
  unfold by_c by_w
  rw [hv, Int32.ofInt_toInt, Int32.ofInt_toInt, ez, ew]
theorem kg_push {E E1 : Nat → va_E} {m : Nat} {k s l : Int} (q : kg_ok E m) (h31 : ∀ j : Nat, tw_el E1 m 31 j = if j = k.toNat then s else tw_el E m 31 j) (h32 : ∀ j : Nat, tw_el E1 m 32 j = if j = k.toNat then l else tw_el E m 32 j) (h : s + l ≤ 500) : kg_ok E1 m := fun j hj => by
  rw [h31, h32]
  by_cases e : j = k.toNat
  · rw [if_pos e, if_pos e]; exact h
  · rw [if_neg e, if_neg e]; exact q j hj
theorem sd_none {E : Nat → va_E} {m : Nat} (h : tw_fi E m 58 ≤ 0) : sd_ok E m := fun i hi => absurd hi (by omega)
/-! grids among typed worlds: a row of rows, all of one kind -/
theorem tw_dj {A : Nat → Prop} {W1 W2 : va_W} (h : va_D A (W1 ++ W2)) {a b : Nat × va_E} (ha : a ∈ W1) (hb : b ∈ W2) : a.1 ≠ b.1 := by
  obtain ⟨i, hi, ei⟩ := List.getElem_of_mem ha
  obtain ⟨j, hj, ej⟩ := List.getElem_of_mem hb
  intro e
  have h1 : (W1 ++ W2)[i]? = some a := by rw [List.getElem?_append_left hi, List.getElem?_eq_getElem hi, ei]
  have h2 : (W1 ++ W2)[W1.length + j]? = some b := by rw [List.getElem?_append_right (by omega), show W1.length + j - W1.length = j by omega, List.getElem?_eq_getElem hj, ej]
  have := h.1 _ _ _ _ h1 h2 e
  omega
theorem tw_dr {A : Nat → Prop} {W1 W2 : va_W} (h : va_D A (W1 ++ W2)) : va_D A W2 := by
  have key : ∀ j : Nat, (W1 ++ W2)[W1.length + j]? = W2[j]? := fun j => by rw [List.getElem?_append_right (by omega), show W1.length + j - W1.length = j by omega]
  refine ⟨fun i j a b hi hj e => ?_, fun k q hk => h.2 (W1.length + k) q (by rw [key]; exact hk)⟩
  have := h.1 (W1.length + i) (W1.length + j) a b (by rw [key]; exact hi) (by rw [key]; exact hj) e
  omega
def gd_out (cA : ClassId) (N : Nat) (r : Nat → Nat) : va_E := .inl (cA, N, .inr (.inr (.inr (.inr (fun i => if i < N then some (r i) else none)))))
theorem tw_absg {D : va_G} {cs : Nat → ClassId} {kp : Nat → Nat} {L : List Nat} {E : Nat → va_E} {A : Nat → Prop} {H : Heap} {Xs : va_W} {q ko kr N : Nat} {r : Nat → Nat} {cA cy : ClassId} {z : vp_A}
    (hP : va_P D vwCl ((Xs ++ va_pl L E) ++ (q, gd_out cA N r) :: (List.range N).map (fun j => (r j, .inl (cy, z)))) H) (hD : va_D A ((Xs ++ va_pl L E) ++ (q, gd_out cA N r) :: (List.range N).map (fun j => (r j, .inl (cy, z))))) (hT : tw_ok cs kp L E)
    (h1 : 100 ≤ ko) (h2 : cA = cs (tw_KD ko).2.1) (h3 : N = (tw_KD ko).2.2.1) (h4 : (tw_KD ko).1 = 2) (h5 : (tw_KD ko).2.2.2.1.toNat = kr) (hz : ∀ (kp1 : Nat → Nat) (L1 : List Nat), tw_E cs kp1 L1 kr (.inl (cy, z))) :
    ∃ (kp1 : Nat → Nat) (L1 : List Nat) (E1 : Nat → va_E), va_P D vwCl (Xs ++ va_pl L1 E1) H ∧ va_D A (Xs ++ va_pl L1 E1) ∧ tw_ok cs kp1 L1 E1 ∧ (∀ a : Nat, a ∈ L → a ∈ L1 ∧ kp1 a = kp a ∧ E1 a = E a) ∧ q ∈ L1 ∧ kp1 q = ko ∧ E1 q = gd_out cA N r ∧ q ∉ L ∧ (∀ j : Nat, j < N → r j ∈ L1 ∧ kp1 (r j) = kr ∧ E1 (r j) = .inl (cy, z)) ∧ ∀ i j : Nat, i < N → j < N → r i = r j → i = j := by
  have fq : q ∉ L := fun z0 => tw_dj hD (a := (q, E q)) (b := (q, gd_out cA N r)) (List.mem_append_right _ (List.mem_map.mpr ⟨q, z0, rfl⟩)) List.mem_cons_self rfl
  have fr : ∀ j : Nat, j < N → r j ∉ L := fun j hj z0 => tw_dj hD (a := (r j, E (r j))) (b := (r j, .inl (cy, z))) (List.mem_append_right _ (List.mem_map.mpr ⟨r j, z0, rfl⟩)) (List.mem_cons_of_mem _ (List.mem_map.mpr ⟨j, List.mem_range.mpr hj, rfl⟩)) rfl
  have hD2 := tw_dr hD
  have hD3 : va_D A ([(q, gd_out cA N r)] ++ (List.range N).map (fun j => (r j, .inl (cy, z)))) := hD2
  have fqr : ∀ j : Nat, j < N → r j ≠ q := fun j hj e => tw_dj hD3 (a := (q, gd_out cA N r)) (b := (r j, .inl (cy, z))) List.mem_cons_self (List.mem_map.mpr ⟨j, List.mem_range.mpr hj, rfl⟩) e.symm
  have hD4 := tw_dr hD3
  have inj : ∀ i j : Nat, i < N → j < N → r i = r j → i = j := fun i j hi hj e => hD4.1 i j (r i, .inl (cy, z)) (r j, .inl (cy, z)) (by rw [List.getElem?_map, List.getElem?_range hi]; rfl) (by rw [List.getElem?_map, List.getElem?_range hj]; rfl) e
  let E1 : Nat → va_E := fun a => if a = q then gd_out cA N r else if a ∈ (List.range N).map r then .inl (cy, z) else E a
  let kp1 : Nat → Nat := fun a => if a = q then ko else if a ∈ (List.range N).map r then kr else kp a
  have mr : ∀ j : Nat, j < N → r j ∈ (List.range N).map r := fun j hj => List.mem_map.mpr ⟨j, List.mem_range.mpr hj, rfl⟩
  have e1q : E1 q = gd_out cA N r := if_pos rfl
  have k1q : kp1 q = ko := if_pos rfl
  have e1r : ∀ j : Nat, j < N → E1 (r j) = .inl (cy, z) := fun j hj => (if_neg (fqr j hj)).trans (if_pos (mr j hj))
  have k1r : ∀ j : Nat, j < N → kp1 (r j) = kr := fun j hj => (if_neg (fqr j hj)).trans (if_pos (mr j hj))
  have nl : ∀ a : Nat, a ∈ L → a ≠ q ∧ a ∉ (List.range N).map r := fun a ha => ⟨fun e => fq (e ▸ ha), fun hm => by
    obtain ⟨j, hj, e⟩ := List.mem_map.mp hm
    exact fr j (List.mem_range.mp hj) (e ▸ ha)⟩
  have e1l : ∀ a : Nat, a ∈ L → E1 a = E a := fun a ha => (if_neg (nl a ha).1).trans (if_neg (nl a ha).2)
  have k1l : ∀ a : Nat, a ∈ L → kp1 a = kp a := fun a ha => (if_neg (nl a ha).1).trans (if_neg (nl a ha).2)
  have hpl : va_pl (L ++ q :: (List.range N).map r) E1 = va_pl L E ++ (q, gd_out cA N r) :: (List.range N).map (fun j => (r j, .inl (cy, z))) := by
    unfold va_pl
    rw [List.map_append, List.map_cons, List.map_map]
    congr 1
    · exact List.map_congr_left (fun a ha => by rw [e1l a ha])
    · rw [e1q]
      congr 1
      exact List.map_congr_left (fun j hj => by show (r j, E1 (r j)) = _; rw [e1r j (List.mem_range.mp hj)])
  have hL : ∀ a : Nat, a ∈ L → a ∈ L ++ q :: (List.range N).map r := fun a ha => List.mem_append_left _ ha
  have hq : q ∈ L ++ q :: (List.range N).map r := List.mem_append_right _ List.mem_cons_self
  have hr : ∀ j : Nat, j < N → r j ∈ L ++ q :: (List.range N).map r := fun j hj => List.mem_append_right _ (List.mem_cons_of_mem _ (mr j hj))
  refine ⟨kp1, L ++ q :: (List.range N).map r, E1, by rw [hpl, ← List.append_assoc]; exact hP, by rw [hpl, ← List.append_assoc]; exact hD, fun a ha => ?_, fun a ha => ⟨hL a ha, k1l a ha, e1l a ha⟩, hq, k1q, e1q, fq, fun j hj => ⟨hr j hj, k1r j hj, e1r j hj⟩, inj⟩
  rcases List.mem_append.mp ha with h | h
  · rw [k1l a h, e1l a h]
    exact tw_E_mono (fun b hb => ⟨hL b hb, k1l b hb⟩) _ _ (hT a h)
  · rcases List.mem_cons.mp h with h | h
    · rw [h, k1q, e1q]
      refine ⟨h1, h2, h3, ?_⟩
      unfold tw_C
      rw [h4]
      intro j hj
      exact ⟨r j, if_pos hj, hr j hj, by rw [k1r j hj, h5]⟩
    · obtain ⟨j, hj, e⟩ := List.mem_map.mp h
      have hj := List.mem_range.mp hj
      rw [← e, k1r j hj, e1r j hj]
      exact hz _ _
/-- what a new grid is: rows apart, all of them zeros -/
theorem gd_rf {E : Nat → va_E} {q N j : Nat} {r : Nat → Nat} {cA : ClassId} (h : E q = gd_out cA N r) (hj : j < N) : tw_rf E q j = r j := by
  unfold tw_rf gd_out at *
  rw [h]
  simp [hj]
theorem gd_iv {E : Nat → va_E} {q N j K : Nat} {r : Nat → Nat} {cA cy : ClassId} (h : E q = gd_out cA N r) (hj : j < N) (hr : E (r j) = .inl (cy, K, .inl (fun _ => 0))) (n : Nat) : tw_iv E (tw_rf E q j) n = 0 := by
  rw [gd_rf h hj]
  unfold tw_iv
  rw [hr]
theorem gd_dis {E : Nat → va_E} {q N : Nat} {r : Nat → Nat} {cA : ClassId} (h : E q = gd_out cA N r) (inj : ∀ i j : Nat, i < N → j < N → r i = r j → i = j) (i j : Nat) (hi : i < N) (hj : j < N) (e : tw_rf E q i = tw_rf E q j) : i = j := by
  rw [gd_rf h hi, gd_rf h hj] at e
  exact inj i j hi hj e
/-- a new row of ints is zero -/
theorem ar_zero {E : Nat → va_E} {m f q K : Nat} {c : ClassId} (hf : tw_fv E m f = .ref q) (h : E q = .inl (c, K, .inl (fun _ => 0))) (j : Nat) : tw_el E m f j = 0 := by
  rw [tw_el_of hf]
  unfold tw_iv
  rw [h]
  rfl
/-- the reference as it is made -/
def rz_ok (E : Nat → va_E) (m : Nat) : Prop := rd_ok E m ∧ eo_ok E m ∧ ht_ok E m ∧ dr_ok E m ∧ ln_ok E m ∧ dl_ok E m ∧ fw_ok E m ∧ kg_ok E m ∧ sd_ok E m ∧ rg_ok E m
theorem rz_of {E : Nat → va_E} {m g10 g11 g16 g18 q31 q32 : Nat} {r10 r11 r16 r18 : Nat → Nat} {a10 a11 a16 a18 c16 c31 c32 : ClassId}
    (f10 : tw_fv E m 10 = .ref g10) (f11 : tw_fv E m 11 = .ref g11) (f16 : tw_fv E m 16 = .ref g16) (f18 : tw_fv E m 18 = .ref g18) (f31 : tw_fv E m 31 = .ref q31) (f32 : tw_fv E m 32 = .ref q32) (f27 : tw_fv E m 27 = .int 0) (f29 : tw_fv E m 29 = .int 0) (f58 : tw_fv E m 58 = .int 0)
    (h10 : E g10 = gd_out a10 10 r10) (i10 : ∀ i j : Nat, i < 10 → j < 10 → r10 i = r10 j → i = j) (h11 : E g11 = gd_out a11 10 r11) (i11 : ∀ i j : Nat, i < 10 → j < 10 → r11 i = r11 j → i = j)
    (h16 : E g16 = gd_out a16 16 r16) (i16 : ∀ i j : Nat, i < 16 → j < 16 → r16 i = r16 j → i = j) (z16 : ∀ j : Nat, j < 16 → E (r16 j) = .inl (c16, 150, .inl (fun _ => 0))) (h18 : E g18 = gd_out a18 16 r18) (i18 : ∀ i j : Nat, i < 16 → j < 16 → r18 i = r18 j → i = j)
    (z31 : E q31 = .inl (c31, 10, .inl (fun _ => 0))) (z32 : E q32 = .inl (c32, 10, .inl (fun _ => 0))) : rz_ok E m := by
  have e0 : ((0 : Int32).toInt) = 0 := by decide
  have n27 : tw_fi E m 27 = 0 := (tw_fi_of f27).trans e0
  have n29 : tw_fi E m 29 = 0 := (tw_fi_of f29).trans e0
  have n58 : tw_fi E m 58 = 0 := (tw_fi_of f58).trans e0
  refine ⟨fun f hf i j hi hj e => ?_, fun i h0 h1 => by omega, fun n h0 h1 => ?_, fun h => by omega, fun e he => by omega, fun h => by omega, fun i h0 h1 c hc => ?_, fun k hk => ?_, fun i hi => by omega, fun f hf i j hi hj e => ?_⟩
  · have hf2 : f = 16 ∨ f = 18 := by simpa using hf
    rcases hf2 with rfl | rfl
    · rw [tw_fa_of f16] at e; exact gd_dis h16 i16 i j hi hj e
    · rw [tw_fa_of f18] at e; exact gd_dis h18 i18 i j hi hj e
  · rw [tw_fa_of f16]; exact gd_iv h16 (by decide) (z16 15 (by decide)) n
  · show (tw_iv E (tw_rf E (tw_fa E m 16) i.toNat) c).toInt = 0
    rw [tw_fa_of f16, gd_iv h16 (by omega) (z16 i.toNat (by omega))]
    rfl
  · rw [ar_zero f31 z31, ar_zero f32 z32]; decide
  · have hf2 : f = 10 ∨ f = 11 := by simpa using hf
    rcases hf2 with rfl | rfl
    · rw [tw_fa_of f10] at e; exact gd_dis h10 i10 i j hi hj e
    · rw [tw_fa_of f11] at e; exact gd_dis h11 i11 i j hi hj e
theorem ab_ok_ext {E E1 : Nat → va_E} {g t : Nat} (e1 : E1 g = E g) (e2 : E1 t = E t) (q : ab_ok E g t) : ab_ok E1 g t := by
  unfold ab_ok tw_fa tw_fv at *
  rw [e1, e2]
  exact q
theorem ab_ok_new {cs : Nat → ClassId} {kp kp1 : Nat → Nat} {L L1 : List Nat} {E E1 : Nat → va_E} {t g : Nat} (hTo : tw_ok cs kp L E) (h1 : t ∈ L) (k1 : kp t = 9) (hE : E1 t = E t) (hn : nw_ok L g E1) (T2 : tw_ok cs kp1 L1 E1) (m2 : g ∈ L1) (k2 : kp1 g = 2) : ab_ok E1 g t := by
  obtain ⟨b, e1, mb, -⟩ := tw_rak hTo h1 k1 (k := 0) (by decide) (by decide) (kd := 100) rfl
  obtain ⟨c, e2, -, -⟩ := tw_rak T2 m2 k2 (k := 0) (by decide) (by decide) (kd := 100) rfl
  have e3 : tw_fv E1 t 0 = .ref b := fv_ext hE e1
  unfold ab_ok
  rw [tw_fa_of e2, tw_fa_of e3]
  exact fun z => hn.1 0 c e2 (z ▸ mb)
