/-! tokens of a text: t says the bytes, n how many there are -/
def lx_sp (c : Int) : Prop := c = 32 ∨ c = 10
def lx_le (c : Int) : Prop := 97 ≤ c ∧ c ≤ 122
def lx_ow (c : Int) : Prop := (97 ≤ c ∧ c ≤ 122) ∨ (48 ≤ c ∧ c ≤ 57)
def lx_al (P : Int → Prop) (t : Nat → Int) (a b : Int) : Prop := ∀ k : Nat, a ≤ (k : Int) → (k : Int) < b → P (t k)
theorem lx_al_zero {P : Int → Prop} {t : Nat → Int} {a b : Int} (h : b ≤ a) : lx_al P t a b := fun k h0 h1 => absurd h0 (by omega)
theorem lx_al_push {P : Int → Prop} {t : Nat → Int} {a b b1 : Int} (q : lx_al P t a b) (b0 : 0 ≤ b) (hb : b1 = b + 1) (hp : P (t b.toNat)) : lx_al P t a b1 := fun k h0 h1 => by
  by_cases e : (k : Int) = b
  · rw [show k = b.toNat by omega]
    exact hp
  · exact q k h0 (by omega)
def lx_WS (t : Nat → Int) (n a b : Int) : Prop := a ≤ b ∧ b ≤ n ∧ lx_al lx_sp t a b ∧ (b < n → ¬ lx_sp (t b.toNat))
def lx_wd (t : Nat → Int) (n s e : Int) : Prop := s + 3 ≤ e ∧ e ≤ s + 10 ∧ e ≤ n ∧ t (e - 1).toNat = 125 ∧ lx_al lx_ow t (s + 1) (e - 1)
def lx_TK (t : Nat → Int) (n s e : Int) : Prop := (n ≤ s ∧ e = s) ∨ (s < n ∧ lx_le (t s.toNat) ∧ s < e ∧ e ≤ n ∧ lx_al lx_le t s e ∧ (e < n → ¬ lx_le (t e.toNat))) ∨ (s < n ∧ ¬ lx_le (t s.toNat) ∧ (e = s + 1 ∨ (t s.toNat = 123 ∧ lx_wd t n s e)))
theorem lx_TK_end {t : Nat → Int} {n s e : Int} (q : lx_TK t n s e) (hs : s ≤ n) : s ≤ e ∧ e ≤ n ∧ (s < n → s < e) := by
  rcases q with q | q | ⟨q1, q2, q | ⟨-, q⟩⟩
  · omega
  · omega
  · omega
  · have := q.1
    have := q.2.2.1
    omega
theorem lx_WS_cast {t : Nat → Int} {n a b n1 a1 b1 : Int} (h : n = n1 ∧ a = a1 ∧ b = b1) (q : lx_WS t n a b) : lx_WS t n1 a1 b1 := by
  obtain ⟨rfl, rfl, rfl⟩ := h
  exact q
theorem lx_TK_cast {t : Nat → Int} {n a b n1 a1 b1 : Int} (h : n = n1 ∧ a = a1 ∧ b = b1) (q : lx_TK t n a b) : lx_TK t n1 a1 b1 := by
  obtain ⟨rfl, rfl, rfl⟩ := h
  exact q
/-- the token under the head is one -/
def tk_at (E : Nat → va_E) (m : Nat) : Prop := tw_fi E m 2 ≤ tw_fi E m 1 ∧ lx_TK (tw_el E m 0) (tw_fi E m 1) (tw_fi E m 2) (tw_fi E m 3)
theorem tk_at_fr {D : va_G} {A : Nat → Prop} {H : Heap} {cs : Nat → ClassId} {kp : Nat → Nat} {L : List Nat} {E E1 : Nat → va_E} {ms : List (Nat × Nat)} {ks : List Nat} {m : Nat} (TH : tw_H D cs kp L E1 A H) (h : tw_fr kp L ms ks E E1) (hm : m ∈ L) (hk : kp m = 12) (h1 : ∀ x ∈ [(12, 0), (12, 1), (12, 2), (12, 3)], x ∉ ms) (h2 : ∀ x ∈ [300], x ∉ ks) (q : tk_at E m) : tk_at E1 m := by
  unfold tk_at
  rw [tw_fi_fr h hm hk (h1 (12, 1) (by decide)), tw_fi_fr h hm hk (h1 (12, 2) (by decide)), tw_fi_fr h hm hk (h1 (12, 3) (by decide)), el_fr TH h hm hk (k := 0) (by decide) rfl (by decide) (h1 _ (by decide)) (h2 _ (by decide))]
  exact q
/-- a name that means something else: leaf, set -/
def lx_rs (t : Nat → Int) (n s e : Int) : Nat → Prop
  | 0 => s ≠ n ∧ e - s = 4 ∧ t s.toNat = 108 ∧ t (s + 1).toNat = 101 ∧ t (s + 2).toNat = 97 ∧ t (s + 3).toNat = 102
  | _ => s ≠ n ∧ e - s = 3 ∧ t s.toNat = 115 ∧ t (s + 1).toNat = 101 ∧ t (s + 2).toNat = 116
def lx_nm (t : Nat → Int) (n s e : Int) : Prop := s < n ∧ lx_le (t s.toNat) ∧ ¬ lx_rs t n s e 0 ∧ ¬ lx_rs t n s e 1
/-- the first k bytes of a reserved name -/
def lx_rk (t : Nat → Int) (s : Int) (w : Nat) (k : Int) : Prop := ∀ j : Nat, (j : Int) < k → t (s + j).toNat = (st_ch w j).toInt
theorem lx_rk_of0 {t : Nat → Int} {n s e : Int} (h : lx_rs t n s e 0) : lx_rk t s 0 4 := fun j hj => by
  have e0 : (st_ch 0 0).toInt = 108 := by decide
  have e1 : (st_ch 0 1).toInt = 101 := by decide
  have e2 : (st_ch 0 2).toInt = 97 := by decide
  have e3 : (st_ch 0 3).toInt = 102 := by decide
  obtain ⟨-, -, h0, h1, h2, h3⟩ := h
  match j, hj with
  | 0, _ => rw [e0]; show t (s + 0).toNat = 108; rw [Int.add_zero]; exact h0
  | 1, _ => rw [e1]; exact h1
  | 2, _ => rw [e2]; exact h2
  | 3, _ => rw [e3]; exact h3
  | j + 4, hj => exfalso; omega
theorem lx_rk_of1 {t : Nat → Int} {n s e : Int} (h : lx_rs t n s e 1) : lx_rk t s 1 3 := fun j hj => by
  have e0 : (st_ch 1 0).toInt = 115 := by decide
  have e1 : (st_ch 1 1).toInt = 101 := by decide
  have e2 : (st_ch 1 2).toInt = 116 := by decide
  obtain ⟨-, -, h0, h1, h2⟩ := h
  match j, hj with
  | 0, _ => rw [e0]; show t (s + 0).toNat = 115; rw [Int.add_zero]; exact h0
  | 1, _ => rw [e1]; exact h1
  | 2, _ => rw [e2]; exact h2
  | j + 3, hj => exfalso; omega
theorem lx_rs_of0 {t : Nat → Int} {n s e k : Int} (hs : s ≠ n) (he : e - s = 4) (h : lx_rk t s 0 k) (hk : 4 ≤ k) : lx_rs t n s e 0 := by
  have e0 : (st_ch 0 0).toInt = 108 := by decide
  have e1 : (st_ch 0 1).toInt = 101 := by decide
  have e2 : (st_ch 0 2).toInt = 97 := by decide
  have e3 : (st_ch 0 3).toInt = 102 := by decide
  have h0 := h 0 (by omega)
  have h1 := h 1 (by omega)
  have h2 := h 2 (by omega)
  have h3 := h 3 (by omega)
  rw [e0] at h0
  rw [e1] at h1
  rw [e2] at h2
  rw [e3] at h3
  have h0 : t (s + 0).toNat = 108 := h0
  rw [Int.add_zero] at h0
  exact ⟨hs, he, h0, h1, h2, h3⟩
theorem lx_rs_of1 {t : Nat → Int} {n s e k : Int} (hs : s ≠ n) (he : e - s = 3) (h : lx_rk t s 1 k) (hk : 3 ≤ k) : lx_rs t n s e 1 := by
  have e0 : (st_ch 1 0).toInt = 115 := by decide
  have e1 : (st_ch 1 1).toInt = 101 := by decide
  have e2 : (st_ch 1 2).toInt = 116 := by decide
  have h0 := h 0 (by omega)
  have h1 := h 1 (by omega)
  have h2 := h 2 (by omega)
  rw [e0] at h0
  rw [e1] at h1
  rw [e2] at h2
  have h0 : t (s + 0).toNat = 115 := h0
  rw [Int.add_zero] at h0
  exact ⟨hs, he, h0, h1, h2⟩
