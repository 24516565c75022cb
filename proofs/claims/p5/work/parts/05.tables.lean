/-! what the cells of each kind may hold (laid by run6.py out of spec5.py) -/
def tw_N (ci : Nat) : Nat := match ci with
  | 0 => 4 | 1 => 5 | 2 => 13 | 3 => 3 | 4 => 7 | 5 => 15 | 6 => 3 | 7 => 2 | 8 => 4 | 9 => 5 | 10 => 8 | 11 => 19 | 12 => 64 | _ => 0
def tw_FT (ci k : Nat) : Nat × Int × Int := match ci, k with
  | 3, 0 => (0, 0, 40)
  | 3, 1 => (2, 101, 0)
  | 3, 2 => (2, 102, 0)
  | 9, 0 => (2, 100, 0)
  | 9, 1 => (0, 0, 500)
  | 9, 2 => (0, 0, 255)
  | 9, 3 => (0, 0, 500)
  | 9, 4 => (0, 0, 500)
  | _, _ => (1, 0, 0)
def tw_KD (k : Nat) : Nat × Nat × Nat × Int × Int := match k with
  | 100 => (0, 0, 500, 0, 255)
  | 101 => (0, 0, 40, 0, 9)
  | 102 => (1, 1, 40, 0, 0)
  | _ => (1, 1, 0, 0, 0)
