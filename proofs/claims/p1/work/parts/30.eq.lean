theorem an_eq_count (n : Int32) : an_X11_count n = an_X12_count n := rfl
theorem an_eq_quarrel (n : Int32) : an_X11_quarrel n = an_X12_quarrel n := by
  unfold an_X11_quarrel an_X12_quarrel
  rw [ite_self]
theorem an_eq_end (n : Int32) : an_X11_end n = an_X12_end n := by
  unfold an_X11_end an_X12_end an_X12_in
  have z1 : ((0 : Int32).toInt) = 0 := by decide
  have z2 : ((0 : Int64).toInt) = 0 := by decide
  have z3 : (n.toInt64).toInt = n.toInt := Int32.toInt_toInt64 n
  rcases Int.lt_trichotomy n.toInt 0 with h | h | h
  · have h1 : n < 0 := (fa_lt _ _).mpr (by omega)
    have h2 : lg_cmp n.toInt64 0 < 0 := (cx_lc1 _ _).mpr (by omega)
    rw [if_pos h1, if_pos h2, if_pos rfl]
  · have h1 : n = 0 := (fa_eq _ _).mpr (by omega)
    subst h1
    decide
  · have h1 : ¬ n < 0 := fun q => by have := (fa_lt _ _).mp q; omega
    have h2 : ¬ n ≤ 0 := fun q => by have := (fa_le _ _).mp q; omega
    have h3 : ¬ lg_cmp n.toInt64 0 < 0 := fun q => by have := (cx_lc1 _ _).mp q; omega
    have h4 : 0 < lg_cmp n.toInt64 0 := (cx_lc2 _ _).mpr (by omega)
    rw [if_neg h1, if_neg h2, if_neg h3, if_pos h4, if_pos rfl]
