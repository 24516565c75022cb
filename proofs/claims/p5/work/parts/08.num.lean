theorem ia_add {x y : Int32} (h1 : -2147483648 ≤ x.toInt + y.toInt) (h2 : x.toInt + y.toInt ≤ 2147483647) : (x + y).toInt = x.toInt + y.toInt := by
  rw [Int32.toInt_add]
  have e : ((2 : Nat) ^ 32) = 4294967296 := rfl
  rw [e]
  unfold Int.bmod
  dsimp only
  split <;> omega
theorem ia_sub {x y : Int32} (h1 : -2147483648 ≤ x.toInt - y.toInt) (h2 : x.toInt - y.toInt ≤ 2147483647) : (x - y).toInt = x.toInt - y.toInt := by
  rw [Int32.toInt_sub]
  have e : ((2 : Nat) ^ 32) = 4294967296 := rfl
  rw [e]
  unfold Int.bmod
  dsimp only
  split <;> omega
theorem ia_and255 (x : Int32) : 0 ≤ (x &&& 255).toInt ∧ (x &&& 255).toInt ≤ 255 := by
  rw [pk_and x (m := 255) 8 (by decide), nI_toInt (by omega)]
  omega
