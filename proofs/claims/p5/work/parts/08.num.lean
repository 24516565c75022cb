theorem ia_add {x y : Int32} (h1 : -2147483648 ≤ x.toInt + y.toInt) (h2 : x.toInt + y.toInt ≤ 2147483647) : (x + y).toInt = x.toInt + y.toInt := by
  rw [Int32.toInt_add]
  have e : ((2 : Nat) ^ 32) = 4294967296 := rfl
  rw [e]
  unfold Int.bmod
  dsimp only
  split <;> omega
theorem ia_sub {x y : Int32} (h1 : -2147483648 ≤ x.toInt - y.toInt) (h2 : x.toInt - y.toInt ≤ 2147483647) : (x - y).toInt = x.toInt - y.toInt := by
  rw [Int32.toInt_sub]
  have e : ((2 : Nat) ^ 32) = 4294967296 := rfl
  rw [e]
  unfold Int.bmod
  dsimp only
  split <;> omega
theorem ia_and255 (x : Int32) : 0 ≤ (x &&& 255).toInt ∧ (x &&& 255).toInt ≤ 255 := by
  rw [pk_and x (m := 255) 8 (by decide), nI_toInt (by omega)]
  omega
theorem ia_bool {x : Int32} (h1 : 0 ≤ x.toInt) (h2 : x.toInt ≤ 1) : narrow .boolean (.int x) = .int x := by
  have z0 : ((0 : Int32).toInt) = 0 := by decide
  have z1 : ((1 : Int32).toInt) = 1 := by decide
  have hx : x = 0 ∨ x = 1 := by
    rcases (show x.toInt = 0 ∨ x.toInt = 1 by omega) with h | h
    · exact Or.inl ((fa_eq _ _).mpr (by omega))
    · exact Or.inr ((fa_eq _ _).mpr (by omega))
  rcases hx with h | h <;> subst h <;> decide
theorem ia_lcmp (x y : Int64) : -1 ≤ (lg_cmp x y).toInt ∧ (lg_cmp x y).toInt ≤ 1 := by
  rcases cx_lc0 x y with ⟨-, h⟩ | ⟨-, h⟩ | ⟨-, h⟩ <;> rw [h] <;> decide
theorem ia_mul {x y : Int32} (h1 : -2147483648 ≤ x.toInt * y.toInt) (h2 : x.toInt * y.toInt ≤ 2147483647) : (x * y).toInt = x.toInt * y.toInt := by
  rw [Int32.toInt_mul]
  have e : ((2 : Nat) ^ 32) = 4294967296 := rfl
  rw [e]
  generalize x.toInt * y.toInt = z at *
  unfold Int.bmod
  dsimp only
  split <;> omega
theorem ia_lo (x : Int32) : -2147483648 ≤ x.toInt := by
  have h := Int32.le_toInt x
  omega
theorem ia_hi (x : Int32) : x.toInt ≤ 2147483647 := by
  have h := Int32.toInt_lt x
  omega
theorem ia_boolf {x : Int32} (h1 : 0 ≤ x.toInt) (h2 : x.toInt ≤ 1) : fits .boolean (.int x) = true := by
  have z0 : ((0 : Int32).toInt) = 0 := by decide
  have z1 : ((1 : Int32).toInt) = 1 := by decide
  have hx : x = 0 ∨ x = 1 := by
    rcases (show x.toInt = 0 ∨ x.toInt = 1 by omega) with h | h
    · exact Or.inl ((fa_eq _ _).mpr (by omega))
    · exact Or.inr ((fa_eq _ _).mpr (by omega))
  rcases hx with h | h <;> subst h <;> decide
