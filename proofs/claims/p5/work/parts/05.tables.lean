/-! what the cells of each kind may hold (a first draft: the class's text alone) -/
def tw_N (ci : Nat) : Nat := match ci with
  | 0 => 4 | 1 => 5 | 2 => 13 | 3 => 3 | 4 => 7 | 5 => 15 | 6 => 3 | 7 => 2 | 8 => 4 | 9 => 5 | 10 => 8 | 11 => 19 | 12 => 64 | _ => 0
def tw_FT (ci k : Nat) : Nat × Int × Int := match ci, k with
  | 9, 0 => (2, 100, 0)
  | 9, 2 => (0, 0, 255)
  | 9, _ => (0, 0, 500)
  | _, _ => (1, 0, 0)
def tw_KD (k : Nat) : Nat × Nat × Nat × Int × Int := match k with
  | 100 => (0, 0, 500, 0, 255)
  | _ => (1, 1, 0, 0, 0)
