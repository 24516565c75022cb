/-! grammars: the reading of a text, token by token -/
def gy_ins (P : Int × Int → Prop) (x : Int × Int) : Int × Int → Prop := fun y => P y ∨ y = x
def gy_nm (t : Nat → Int) (K : Int × Int → Prop) (x : Int × Int) : Prop := ∃ k : Int × Int, K k ∧ k.2 - k.1 = x.2 - x.1 ∧ ∀ i : Nat, (i : Int) < x.2 - x.1 → t (k.1 + i).toNat = t (x.1 + i).toNat
noncomputable def gy_fin (t : Nat → Int) (k : Int) (K I : Int × Int → Prop) : Int := cite (∀ x : Int × Int, I x → gy_nm t K x) k (-1)
/-- modes: 0 a rule begins; 1, 2 an item (2: signs may lie behind items); 3 the rule's end; 4 its shape -/
noncomputable def gy (t : Nat → Int) (n : Int) : Nat → Nat → Int → Int → (Int × Int → Prop) → (Int × Int → Prop) → Int
  | 0, _, _, _, _, _ => -1
  | f + 1, 0, s, k, K, I => cite (lx_nm t n s (lx_e t n s) ∧ k < 10 ∧ ¬ gy_nm t K (s, lx_e t n s)) (gy t n f 4 (lx_n t n (lx_e t n s)) (k + 1) (gy_ins K (s, lx_e t n s)) I) (-1)
  | f + 1, 3, s, k, K, I => cite (s < n ∧ t s.toNat = 59) (cite (n ≤ lx_n t n (s + 1)) (gy_fin t k K I) (gy t n f 0 (lx_n t n (s + 1)) k K I)) (-1)
  | f + 1, 4, s, k, K, I => cite (s < n ∧ lx_le (t s.toNat) ∧ lx_rs t n s (lx_e t n s) 0) (gy t n f 3 (lx_n t n (lx_e t n s)) k K I)
      (cite (s < n ∧ lx_le (t s.toNat) ∧ lx_rs t n s (lx_e t n s) 1) (gy t n f 1 (lx_n t n (lx_e t n s)) k K I)
        (cite (s < n ∧ t s.toNat = 61) (gy t n f 2 (lx_n t n (s + 1)) k K I) (-1)))
  | f + 1, q, s, k, K, I => cite (lx_nm t n s (lx_e t n s))
      (cite (q = 2 ∧ lx_n t n (lx_e t n s) < n ∧ (t (lx_n t n (lx_e t n s)).toNat = 63 ∨ t (lx_n t n (lx_e t n s)).toNat = 42))
        (cite (lx_n t n (lx_n t n (lx_e t n s) + 1) < n ∧ t (lx_n t n (lx_n t n (lx_e t n s) + 1)).toNat = 59)
          (gy t n f 3 (lx_n t n (lx_n t n (lx_e t n s) + 1)) k K (gy_ins I (s, lx_e t n s)))
          (gy t n f q (lx_n t n (lx_n t n (lx_e t n s) + 1)) k K (gy_ins I (s, lx_e t n s))))
        (cite (lx_n t n (lx_e t n s) < n ∧ t (lx_n t n (lx_e t n s)).toNat = 59)
          (gy t n f 3 (lx_n t n (lx_e t n s)) k K (gy_ins I (s, lx_e t n s)))
          (gy t n f q (lx_n t n (lx_e t n s)) k K (gy_ins I (s, lx_e t n s)))))
      (-1)
noncomputable def gy_all (t : Nat → Int) (n : Int) : Int := gy t n 501 0 (lx_n t n 0) 0 (fun _ => False) (fun _ => False)
/-- from here on the answer is what the whole text's is -/
def gy_at (t : Nat → Int) (n : Int) (q : Nat) (s k : Int) (K I : Int × Int → Prop) : Prop := ∃ f : Nat, 501 ≤ (f : Int) + s ∧ gy t n f q s k K I = gy_all t n
theorem gy_start {t : Nat → Int} {n s : Int} (h : lx_WS t n 0 s) : gy_at t n 0 s 0 (fun _ => False) (fun _ => False) := ⟨501, by have := h.1; omega, by unfold gy_all; rw [lx_n_of h (by decide)]⟩
section GRS
variable {t : Nat → Int} {n s e k : Int} {K I : Int × Int → Prop}
theorem gy_e (h : lx_TK t n s e) (s0 : 0 ≤ s) : (lx_nm t n s e ↔ lx_nm t n s (lx_e t n s)) ∧ (lx_nm t n s e → lx_e t n s = e) := by
  have key : s < n → lx_le (t s.toNat) → lx_e t n s = e := fun h1 h2 => lx_e_of h s0 h1 h2
  refine ⟨⟨fun z => ?_, fun z => ?_⟩, fun z => key z.1 z.2.1⟩
  · rw [key z.1 z.2.1]; exact z
  · rw [key z.1 z.2.1] at z; exact z
theorem gy_f {q : Nat} (g : gy_at t n q s k K I) (hs : s ≤ 500) : ∃ f : Nat, 501 ≤ (f : Int) + s + 1 ∧ gy t n (f + 1) q s k K I = gy_all t n := by
  obtain ⟨f, h, e⟩ := g
  match f, h, e with
  | 0, h, e => exfalso; omega
  | f + 1, h, e => exact ⟨f, by omega, e⟩
theorem gy_0f (g : gy_at t n 0 s k K I) (h : lx_TK t n s e) (s0 : 0 ≤ s) (hs : s ≤ 500) (hx : ¬ (lx_nm t n s e ∧ k < 10 ∧ ¬ gy_nm t K (s, e))) : gy_all t n = -1 := by
  obtain ⟨f, hf, g⟩ := gy_f g hs
  rw [← g]
  refine cite_neg (fun z => hx ?_)
  have z1 := (gy_e h s0).1.mpr z.1
  have ee := (gy_e h s0).2 z1
  rw [ee] at z
  exact ⟨z1, z.2⟩
theorem gy_0 {s1 : Int} (g : gy_at t n 0 s k K I) (h : lx_TK t n s e) (s0 : 0 ≤ s) (hs : s ≤ 500) (h1 : lx_nm t n s e) (h2 : k < 10) (h3 : ¬ gy_nm t K (s, e)) (w : lx_WS t n e s1) : gy_at t n 4 s1 (k + 1) (gy_ins K (s, e)) I := by
  obtain ⟨f, hf, g⟩ := gy_f g hs
  have ee := (gy_e h s0).2 h1
  have he := lx_TK_end h (by have := h1.1; omega)
  have hlt := he.2.2 h1.1
  refine ⟨f, by have := w.1; omega, ?_⟩
  rw [← g]
  have c := cite_pos (α := Int) (P := lx_nm t n s (lx_e t n s) ∧ k < 10 ∧ ¬ gy_nm t K (s, lx_e t n s)) (a := gy t n f 4 (lx_n t n (lx_e t n s)) (k + 1) (gy_ins K (s, lx_e t n s)) I) (b := -1) (by rw [ee]; exact ⟨h1, h2, h3⟩)
  refine Eq.trans ?_ c.symm
  rw [ee, lx_n_of w (by omega)]
theorem gy_3f (g : gy_at t n 3 s k K I) (hs : s ≤ 500) (hx : ¬ (s < n ∧ t s.toNat = 59)) : gy_all t n = -1 := by
  obtain ⟨f, hf, g⟩ := gy_f g hs
  rw [← g]
  exact cite_neg hx
theorem gy_3 {s1 : Int} (g : gy_at t n 3 s k K I) (s0 : 0 ≤ s) (hs : s ≤ 500) (hx : s < n ∧ t s.toNat = 59) (w : lx_WS t n (s + 1) s1) : (n ≤ s1 → gy_all t n = gy_fin t k K I) ∧ (s1 < n → gy_at t n 0 s1 k K I) := by
  obtain ⟨f, hf, g⟩ := gy_f g hs
  have c : gy t n (f + 1) 3 s k K I = cite (n ≤ lx_n t n (s + 1)) (gy_fin t k K I) (gy t n f 0 (lx_n t n (s + 1)) k K I) := cite_pos hx
  rw [lx_n_of w (by omega)] at c
  refine ⟨fun z => ?_, fun z => ⟨f, by have := w.1; omega, ?_⟩⟩
  · rw [← g, c]; exact cite_pos z
  · rw [← g, c]; exact (cite_neg (by omega)).symm
theorem gy_4l {s1 : Int} (g : gy_at t n 4 s k K I) (h : lx_TK t n s e) (s0 : 0 ≤ s) (hs : s ≤ 500) (hn : s < n) (hl : lx_le (t s.toNat)) (hx : lx_rs t n s e 0) (w : lx_WS t n e s1) : gy_at t n 3 s1 k K I := by
  obtain ⟨f, hf, g⟩ := gy_f g hs
  have ee := lx_e_of h s0 hn hl
  have hlt := (lx_TK_end h (by omega)).2.2 hn
  refine ⟨f, by have := w.1; omega, ?_⟩
  have c : gy t n (f + 1) 4 s k K I = gy t n f 3 (lx_n t n (lx_e t n s)) k K I := cite_pos (by rw [ee]; exact ⟨hn, hl, hx⟩)
  rw [ee, lx_n_of w (by omega)] at c
  rw [← g, c]
theorem gy_4s {s1 : Int} (g : gy_at t n 4 s k K I) (h : lx_TK t n s e) (s0 : 0 ≤ s) (hs : s ≤ 500) (hn : s < n) (hl : lx_le (t s.toNat)) (h0 : ¬ lx_rs t n s e 0) (hx : lx_rs t n s e 1) (w : lx_WS t n e s1) : gy_at t n 1 s1 k K I := by
  obtain ⟨f, hf, g⟩ := gy_f g hs
  have ee := lx_e_of h s0 hn hl
  have hlt := (lx_TK_end h (by omega)).2.2 hn
  refine ⟨f, by have := w.1; omega, ?_⟩
  have c : gy t n (f + 1) 4 s k K I = gy t n f 1 (lx_n t n (lx_e t n s)) k K I := (cite_neg (by rw [ee]; exact fun z => h0 z.2.2)).trans (cite_pos (by rw [ee]; exact ⟨hn, hl, hx⟩))
  rw [ee, lx_n_of w (by omega)] at c
  rw [← g, c]
theorem gy_4e {s1 : Int} (g : gy_at t n 4 s k K I) (s0 : 0 ≤ s) (hs : s ≤ 500) (hn : s < n) (hx : t s.toNat = 61) (w : lx_WS t n (s + 1) s1) : gy_at t n 2 s1 k K I := by
  obtain ⟨f, hf, g⟩ := gy_f g hs
  have nl : ¬ lx_le (t s.toNat) := by unfold lx_le; omega
  refine ⟨f, by have := w.1; omega, ?_⟩
  have c : gy t n (f + 1) 4 s k K I = gy t n f 2 (lx_n t n (s + 1)) k K I := (cite_neg (fun z => nl z.2.1)).trans ((cite_neg (fun z => nl z.2.1)).trans (cite_pos ⟨hn, hx⟩))
  rw [lx_n_of w (by omega)] at c
  rw [← g, c]
theorem gy_4f (g : gy_at t n 4 s k K I) (h : lx_TK t n s e) (s0 : 0 ≤ s) (hs : s ≤ 500) (h0 : s < n → lx_le (t s.toNat) → ¬ lx_rs t n s e 0 ∧ ¬ lx_rs t n s e 1) (hx : ¬ (s < n ∧ t s.toNat = 61)) : gy_all t n = -1 := by
  obtain ⟨f, hf, g⟩ := gy_f g hs
  rw [← g]
  have a : ∀ i : Nat, i < 2 → ¬ (s < n ∧ lx_le (t s.toNat) ∧ lx_rs t n s (lx_e t n s) i) := fun i hi z => by
    have ee := lx_e_of h s0 z.1 z.2.1
    rw [ee] at z
    match i, hi, z with
    | 0, _, z => exact (h0 z.1 z.2.1).1 z.2.2
    | 1, _, z => exact (h0 z.1 z.2.1).2 z.2.2
    | i + 2, hi, _ => omega
  exact (cite_neg (a 0 (by decide))).trans ((cite_neg (a 1 (by decide))).trans (cite_neg hx))
theorem gy_it {q : Nat} (hq : q = 1 ∨ q = 2) (f : Nat) : gy t n (f + 1) q s k K I = cite (lx_nm t n s (lx_e t n s))
      (cite (q = 2 ∧ lx_n t n (lx_e t n s) < n ∧ (t (lx_n t n (lx_e t n s)).toNat = 63 ∨ t (lx_n t n (lx_e t n s)).toNat = 42))
        (cite (lx_n t n (lx_n t n (lx_e t n s) + 1) < n ∧ t (lx_n t n (lx_n t n (lx_e t n s) + 1)).toNat = 59)
          (gy t n f 3 (lx_n t n (lx_n t n (lx_e t n s) + 1)) k K (gy_ins I (s, lx_e t n s)))
          (gy t n f q (lx_n t n (lx_n t n (lx_e t n s) + 1)) k K (gy_ins I (s, lx_e t n s))))
        (cite (lx_n t n (lx_e t n s) < n ∧ t (lx_n t n (lx_e t n s)).toNat = 59)
          (gy t n f 3 (lx_n t n (lx_e t n s)) k K (gy_ins I (s, lx_e t n s)))
          (gy t n f q (lx_n t n (lx_e t n s)) k K (gy_ins I (s, lx_e t n s)))))
      (-1) := by
  rcases hq with rfl | rfl <;> rfl
theorem gy_if {q : Nat} (hq : q = 1 ∨ q = 2) (g : gy_at t n q s k K I) (h : lx_TK t n s e) (s0 : 0 ≤ s) (hs : s ≤ 500) (hx : ¬ lx_nm t n s e) : gy_all t n = -1 := by
  obtain ⟨f, hf, g⟩ := gy_f g hs
  rw [← g, gy_it hq]
  exact cite_neg (fun z => hx ((gy_e h s0).1.mpr z))
/-- an item, no sign behind it -/
theorem gy_in {q : Nat} {s1 : Int} (hq : q = 1 ∨ q = 2) (g : gy_at t n q s k K I) (h : lx_TK t n s e) (s0 : 0 ≤ s) (hs : s ≤ 500) (hx : lx_nm t n s e) (w : lx_WS t n e s1) (hm : ¬ (q = 2 ∧ s1 < n ∧ (t s1.toNat = 63 ∨ t s1.toNat = 42))) : ((s1 < n ∧ t s1.toNat = 59) → gy_at t n 3 s1 k K (gy_ins I (s, e))) ∧ (¬ (s1 < n ∧ t s1.toNat = 59) → gy_at t n q s1 k K (gy_ins I (s, e))) := by
  obtain ⟨f, hf, g⟩ := gy_f g hs
  have ee := (gy_e h s0).2 hx
  have hlt := (lx_TK_end h (by have := hx.1; omega)).2.2 hx.1
  rw [gy_it hq, cite_pos ((gy_e h s0).1.mp hx), ee, lx_n_of w (by omega), cite_neg hm] at g
  refine ⟨fun z => ⟨f, by have := w.1; omega, ?_⟩, fun z => ⟨f, by have := w.1; omega, ?_⟩⟩
  · rw [← g]; exact (cite_pos z).symm
  · rw [← g]; exact (cite_neg z).symm
/-- an item with a sign behind it -/
theorem gy_im {q : Nat} {s1 s2 : Int} (hq : q = 2) (g : gy_at t n q s k K I) (h : lx_TK t n s e) (s0 : 0 ≤ s) (hs : s ≤ 500) (hx : lx_nm t n s e) (w : lx_WS t n e s1) (hm : s1 < n ∧ (t s1.toNat = 63 ∨ t s1.toNat = 42)) (w2 : lx_WS t n (s1 + 1) s2) : ((s2 < n ∧ t s2.toNat = 59) → gy_at t n 3 s2 k K (gy_ins I (s, e))) ∧ (¬ (s2 < n ∧ t s2.toNat = 59) → gy_at t n q s2 k K (gy_ins I (s, e))) := by
  obtain ⟨f, hf, g⟩ := gy_f g hs
  have ee := (gy_e h s0).2 hx
  have hlt := (lx_TK_end h (by have := hx.1; omega)).2.2 hx.1
  have hw := w.1
  have hw2 := w2.1
  rw [gy_it (Or.inr hq), cite_pos ((gy_e h s0).1.mp hx), ee, lx_n_of w (by omega), cite_pos ⟨hq, hm⟩, lx_n_of w2 (by omega)] at g
  refine ⟨fun z => ⟨f, by omega, ?_⟩, fun z => ⟨f, by omega, ?_⟩⟩
  · rw [← g]; exact (cite_pos z).symm
  · rw [← g]; exact (cite_neg z).symm
end GRS
/-- the answer depends on signs, letters and blanks alone: bytes may be told from 0 to 255 or from -128 to 127 -/
def gy_sim (t u : Nat → Int) (n : Int) : Prop := ∀ i : Nat, (i : Int) < n → (t i = u i ∨ (t i = u i + 256 ∧ u i < 0))
