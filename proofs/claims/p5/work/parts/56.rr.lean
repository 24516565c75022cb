theorem ip_new2 {E E1 : Nat → va_E} {m : Nat} {k : Int} (k0 : 0 ≤ k) (k1 : k < 10) (h9 : ∀ j : Nat, tw_el E1 m 9 j = if j = k.toNat then 0 else tw_el E m 9 j) (h10 : ∀ j i : Nat, j < 10 → rx E1 m 10 j i = rx E m 10 j i) (h11 : ∀ j i : Nat, j < 10 → rx E1 m 11 j i = rx E m 11 j i) : ip_ E1 m (k + 1) = ip_ E m k := by
  funext x
  apply propext
  unfold ip_
  constructor
  · rintro ⟨j, i, hj, hi, e⟩
    rw [h9] at hi
    rw [h10 j i (by omega), h11 j i (by omega)] at e
    by_cases ej : j = k.toNat
    · rw [if_pos ej] at hi; omega
    · rw [if_neg ej] at hi; exact ⟨j, i, by omega, hi, e⟩
  · rintro ⟨j, i, hj, hi, e⟩
    exact ⟨j, i, by omega, by rw [h9, if_neg (by omega)]; exact hi, by rw [h10 j i (by omega), h11 j i (by omega)]; exact e⟩
/-- a name more lies in the text -/
theorem gk_push {E E1 : Nat → va_E} {m : Nat} {k s l n : Int} (q : gk_ok E m) (hk : tw_fi E m 15 = k) (hk1 : tw_fi E1 m 15 = k + 1) (k0 : 0 ≤ k) (h1 : tw_fi E1 m 1 = tw_fi E m 1) (hn : tw_fi E m 1 = n) (s0 : 0 ≤ s) (l0 : 0 ≤ l) (sl : s + l ≤ n) (h6 : ∀ j : Nat, tw_el E1 m 6 j = if j = k.toNat then s else tw_el E m 6 j) (h7 : ∀ j : Nat, tw_el E1 m 7 j = if j = k.toNat then l else tw_el E m 7 j) : gk_ok E1 m := fun j hj => by
  rw [hk1] at hj
  rw [h6, h7, h1, hn]
  by_cases e : j = k.toNat
  · rw [if_pos e, if_pos e]; exact ⟨s0, l0, sl⟩
  · rw [if_neg e, if_neg e]
    have w := q j (by omega)
    rw [hn] at w
    exact w
theorem rs_le0 {t : Nat → Int} {n s e : Int} (h : lx_rs t n s e 0) : lx_le (t s.toNat) := by
  have := h.2.2.1
  unfold lx_le
  omega
theorem rs_le1 {t : Nat → Int} {n s e : Int} (h : lx_rs t n s e 1) : lx_le (t s.toNat) := by
  have := h.2.2.1
  unfold lx_le
  omega
