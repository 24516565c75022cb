theorem tk_one {E : Nat → va_E} {m : Nat} {n s e c : Int} (q : tk_at E m) (h1 : tw_fi E m 1 = n) (h2 : tw_fi E m 2 = s) (h3 : tw_fi E m 3 = e) (hs : s < n) (hc : tw_el E m 0 s.toNat = c) (hl : c < 97) : e = s + 1 := by
  unfold tk_at at q
  rw [h1, h2, h3] at q
  rcases q.2 with z | z | ⟨-, -, z | z⟩
  · omega
  · have := z.2.1
    unfold lx_le at this
    omega
  · exact z
  · have := z.1
    omega
