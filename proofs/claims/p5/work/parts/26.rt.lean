/-! rows of nodes: h says who is there, p the parents, q the places among the kids -/
def rt_kid (h p : Nat → Int) (n : Int) (c : Nat) : Prop := c < 150 ∧ h c ≠ 0 ∧ p c = n
def rt_T1 (h p : Nat → Int) : Prop := ∀ c : Nat, c < 150 → h c ≠ 0 → p c = -1 ∨ (0 ≤ p c ∧ p c < 150 ∧ h (p c).toNat ≠ 0)
/-- the way up -/
def rt_up (p : Nat → Int) : Nat → Int → Int
  | 0, x => x
  | k + 1, x => rt_up p k (if x < 0 then x else p x.toNat)
def rt_T2 (h p : Nat → Int) : Prop := ∀ c : Nat, c < 150 → h c ≠ 0 → ∃ k : Nat, rt_up p k (c : Int) < 0
def rt_T3 (h p : Nat → Int) : Prop := ∀ a b : Nat, a < 150 → b < 150 → h a ≠ 0 → h b ≠ 0 → p a = -1 → p b = -1 → a = b
/-- how many steps it is to the top, of at most k -/
def rt_len (p : Nat → Int) : Nat → Int → Nat
  | 0, _ => 0
  | k + 1, x => if x < 0 then 0 else 1 + rt_len p k (p x.toNat)
theorem rt_up_neg {p : Nat → Int} : ∀ {k : Nat} {x : Int}, x < 0 → rt_up p k x = x
  | 0, _, _ => rfl
  | k + 1, x, h => by
    show rt_up p k (if x < 0 then x else p x.toNat) = x
    rw [if_pos h]
    exact rt_up_neg h
theorem rt_up_pos {p : Nat → Int} {k : Nat} {x : Int} (h : 0 ≤ x) : rt_up p (k + 1) x = rt_up p k (p x.toNat) := by
  show rt_up p k (if x < 0 then x else p x.toNat) = _
  rw [if_neg (by omega)]
theorem rt_up_add {p : Nat → Int} : ∀ (i j : Nat) (x : Int), rt_up p (i + j) x = rt_up p j (rt_up p i x)
  | 0, j, x => by rw [Nat.zero_add]; rfl
  | i + 1, j, x => by
    rw [show i + 1 + j = (i + j) + 1 by omega]
    show rt_up p (i + j) _ = rt_up p j (rt_up p i _)
    exact rt_up_add i j _
theorem rt_len_le {p : Nat → Int} : ∀ (k : Nat) (x : Int), rt_len p k x ≤ k
  | 0, _ => Nat.le_refl 0
  | k + 1, x => by
    show (if x < 0 then 0 else 1 + rt_len p k (p x.toNat)) ≤ k + 1
    split
    · omega
    · have := rt_len_le (p := p) k (p x.toNat)
      omega
/-- nodes on the way stay nodes -/
theorem rt_up_in {h p : Nat → Int} (t1 : rt_T1 h p) : ∀ (k : Nat) (x : Int), 0 ≤ x → x < 150 → h x.toNat ≠ 0 → rt_up p k x < 0 ∨ (0 ≤ rt_up p k x ∧ rt_up p k x < 150 ∧ h (rt_up p k x).toNat ≠ 0)
  | 0, x, h0, h1, h2 => Or.inr ⟨h0, h1, h2⟩
  | k + 1, x, h0, h1, h2 => by
    rw [rt_up_pos h0]
    rcases t1 x.toNat (by omega) h2 with e | ⟨a, b, c⟩
    · exact Or.inl (by rw [e, rt_up_neg (by omega)]; omega)
    · exact rt_up_in t1 k _ a b c
/-- a list of different small numbers is short -/
theorem rt_short : ∀ (N : Nat) (l : List Nat), l.Nodup → (∀ x ∈ l, x < N) → l.length ≤ N
  | 0, [], _, _ => Nat.le_refl 0
  | 0, x :: l, _, h => absurd (h x (by simp)) (by omega)
  | N + 1, l, hn, h => by
    have h1 : (l.erase N).length ≤ N := rt_short N (l.erase N) (hn.erase N) (fun x hx => by
      have hx2 : x ∈ l := List.mem_of_mem_erase hx
      have hne : x ≠ N := fun e => by
        rw [e] at hx
        exact (List.Nodup.not_mem_erase hn) hx
      have := h x hx2
      omega)
    have h2 := List.length_erase (a := N) (l := l)
    split at h2 <;> omega
/-- the way up from a node ends within 150 steps, if it ends -/
theorem rt_end {h p : Nat → Int} (t1 : rt_T1 h p) {x : Int} (h0 : 0 ≤ x) (h1 : x < 150) (h2 : h x.toNat ≠ 0) (he : ∃ k : Nat, rt_up p k x < 0) : rt_up p 150 x < 0 := by
  rcases rt_up_in t1 150 x h0 h1 h2 with g | g
  · exact g
  · exfalso
    -- the first 151 are nodes, and different
    have nod : ∀ i : Nat, i ≤ 150 → 0 ≤ rt_up p i x ∧ rt_up p i x < 150 := fun i hi => by
      rcases rt_up_in t1 i x h0 h1 h2 with z | z
      · exfalso
        have := rt_up_add i (150 - i) x (p := p)
        rw [show i + (150 - i) = 150 by omega, rt_up_neg z] at this
        omega
      · exact ⟨z.1, z.2.1⟩
    have dif : ∀ i j : Nat, i < j → j ≤ 150 → rt_up p i x ≠ rt_up p j x := fun i j hij hj e => by
      -- a ring: it never ends
      have ring : ∀ m : Nat, rt_up p (i + m * (j - i)) x = rt_up p i x := fun m => by
        induction m with
        | zero => simp
        | succ m ih =>
          rw [show i + (m + 1) * (j - i) = (i + m * (j - i)) + (j - i) by rw [Nat.succ_mul]; omega, rt_up_add, ih, ← rt_up_add, show i + (j - i) = j by omega]
          exact e.symm
      obtain ⟨k, hk⟩ := he
      have h9 := ring k
      have hge : k ≤ i + k * (j - i) := by
        have := Nat.le_mul_of_pos_right k (show 0 < j - i by omega)
        omega
      have := rt_up_add k (i + k * (j - i) - k) x (p := p)
      rw [show k + (i + k * (j - i) - k) = i + k * (j - i) by omega, rt_up_neg hk, h9] at this
      have := (nod i (by omega)).1
      omega
    have l1 : ((List.range 151).map (fun i => (rt_up p i x).toNat)).Nodup := by
      rw [List.Nodup, List.pairwise_iff_getElem]
      intro i j hi hj hij
      simp only [List.length_map, List.length_range] at hi hj
      simp only [List.getElem_map, List.getElem_range]
      intro e
      have a := (nod i (by omega)).1
      have b := (nod j (by omega)).1
      exact dif i j hij (by omega) (by omega)
    have := rt_short 150 _ l1 (fun y hy => by
      obtain ⟨i, hi, rfl⟩ := List.mem_map.mp hy
      have hi := List.mem_range.mp hi
      have := nod i (by omega)
      omega)
    simp at this
theorem rt_len_more {p : Nat → Int} : ∀ (k : Nat) (x : Int), rt_up p k x < 0 → rt_len p (k + 1) x = rt_len p k x
  | 0, x, h => by
    have h : x < 0 := h
    show (if x < 0 then 0 else _) = 0
    rw [if_pos h]
  | k + 1, x, h => by
    show (if x < 0 then 0 else 1 + rt_len p (k + 1) (p x.toNat)) = (if x < 0 then 0 else 1 + rt_len p k (p x.toNat))
    by_cases hx : x < 0
    · rw [if_pos hx, if_pos hx]
    · rw [if_neg hx, if_neg hx, rt_len_more k (p x.toNat) (by rw [rt_up_pos (by omega)] at h; exact h)]
/-- how deep a node lies -/
def rt_dep (p : Nat → Int) (x : Int) : Nat := rt_len p 151 x
theorem rt_dep_neg {p : Nat → Int} {x : Int} (h : x < 0) : rt_dep p x = 0 := by
  show (if x < 0 then 0 else _) = 0
  rw [if_pos h]
theorem rt_dep_up {h p : Nat → Int} (t1 : rt_T1 h p) (t2 : rt_T2 h p) {x : Int} (h0 : 0 ≤ x) (h1 : x < 150) (h2 : h x.toNat ≠ 0) : rt_dep p x = 1 + rt_dep p (p x.toNat) := by
  have e : rt_dep p x = 1 + rt_len p 150 (p x.toNat) := by
    show (if x < 0 then 0 else 1 + rt_len p 150 (p x.toNat)) = _
    rw [if_neg (by omega)]
  rw [e]
  have hx : (x.toNat : Int) = x := by omega
  have : rt_up p 150 (p x.toNat) < 0 := by
    rcases t1 x.toNat (by omega) h2 with g | ⟨a, b, c⟩
    · rw [g, rt_up_neg (by omega)]
      omega
    · refine rt_end t1 a b c ?_
      have := t2 (p x.toNat).toNat (by omega) c
      rw [show (((p x.toNat).toNat : Nat) : Int) = p x.toNat by omega] at this
      exact this
  exact congrArg (1 + ·) (rt_len_more 150 _ this).symm
theorem rt_dep_le {p : Nat → Int} (x : Int) : rt_dep p x ≤ 151 := rt_len_le 151 x
/-- the places along the way down to a node -/
def rt_key (p q : Nat → Int) : Nat → Int → List Int
  | 0, _ => []
  | k + 1, x => if x < 0 then [] else rt_key p q k (p x.toNat) ++ [q x.toNat]
theorem rt_key_more {p q : Nat → Int} : ∀ (k : Nat) (x : Int), rt_up p k x < 0 → rt_key p q (k + 1) x = rt_key p q k x
  | 0, x, h => by
    have h : x < 0 := h
    show (if x < 0 then [] else _) = []
    rw [if_pos h]
  | k + 1, x, h => by
    show (if x < 0 then [] else rt_key p q (k + 1) (p x.toNat) ++ [q x.toNat]) = (if x < 0 then [] else rt_key p q k (p x.toNat) ++ [q x.toNat])
    by_cases hx : x < 0
    · rw [if_pos hx, if_pos hx]
    · rw [if_neg hx, if_neg hx, rt_key_more k (p x.toNat) (by rw [rt_up_pos (by omega)] at h; exact h)]
def rt_K (p q : Nat → Int) (x : Int) : List Int := rt_key p q 151 x
theorem rt_K_neg {p q : Nat → Int} {x : Int} (h : x < 0) : rt_K p q x = [] := by
  show (if x < 0 then [] else _) = []
  rw [if_pos h]
theorem rt_K_up {h p q : Nat → Int} (t1 : rt_T1 h p) (t2 : rt_T2 h p) {x : Int} (h0 : 0 ≤ x) (h1 : x < 150) (h2 : h x.toNat ≠ 0) : rt_K p q x = rt_K p q (p x.toNat) ++ [q x.toNat] := by
  have e : rt_K p q x = rt_key p q 150 (p x.toNat) ++ [q x.toNat] := by
    show (if x < 0 then [] else rt_key p q 150 (p x.toNat) ++ [q x.toNat]) = _
    rw [if_neg (by omega)]
  rw [e]
  have : rt_up p 150 (p x.toNat) < 0 := by
    rcases t1 x.toNat (by omega) h2 with g | ⟨a, b, c⟩
    · rw [g, rt_up_neg (by omega)]
      omega
    · refine rt_end t1 a b c ?_
      have := t2 (p x.toNat).toNat (by omega) c
      rw [show (((p x.toNat).toNat : Nat) : Int) = p x.toNat by omega] at this
      exact this
  exact congrArg (· ++ [q x.toNat]) (rt_key_more 150 _ this).symm
/-- the order of such ways -/
def rt_lt : List Int → List Int → Prop
  | _, [] => False
  | [], _ :: _ => True
  | a :: s, b :: t => a < b ∨ (a = b ∧ rt_lt s t)
theorem rt_lt_nil (s : List Int) : ¬ rt_lt s [] := by
  cases s <;> exact id
theorem rt_lt_irr : ∀ s : List Int, ¬ rt_lt s s
  | [] => fun h => h
  | a :: s => fun h => by
    rcases h with h | ⟨-, h⟩
    · omega
    · exact rt_lt_irr s h
theorem rt_lt_tr : ∀ {s t u : List Int}, rt_lt s t → rt_lt t u → rt_lt s u
  | s, [], _, h, _ => absurd h (rt_lt_nil s)
  | _, t :: ts, [], _, h => absurd h (rt_lt_nil (t :: ts))
  | [], _ :: _, _ :: _, _, _ => trivial
  | a :: s, b :: t, c :: u, h1, h2 => by
    rcases h1 with h1 | ⟨e1, h1⟩ <;> rcases h2 with h2 | ⟨e2, h2⟩
    · exact Or.inl (by omega)
    · exact Or.inl (by omega)
    · exact Or.inl (by omega)
    · exact Or.inr ⟨by omega, rt_lt_tr h1 h2⟩
theorem rt_lt_app : ∀ (s : List Int) (a : Int) (t : List Int), rt_lt s (s ++ a :: t)
  | [], _, _ => trivial
  | _ :: s, a, t => Or.inr ⟨rfl, rt_lt_app s a t⟩
theorem rt_lt_at : ∀ (l : List Int) (a b : Int) (s t : List Int), a < b → rt_lt (l ++ a :: s) (l ++ b :: t)
  | [], _, _, _, _, h => Or.inl h
  | _ :: l, a, b, s, t, h => Or.inr ⟨rfl, rt_lt_at l a b s t h⟩
/-- u lies on the way up from n: then its way is a beginning of n's -/
theorem rt_K_pre {h p q : Nat → Int} (t1 : rt_T1 h p) (t2 : rt_T2 h p) : ∀ (k : Nat) (x : Int), 0 ≤ x → x < 150 → h x.toNat ≠ 0 → 0 ≤ rt_up p k x → ∃ s : List Int, rt_K p q x = rt_K p q (rt_up p k x) ++ s
  | 0, x, _, _, _, _ => ⟨[], by show rt_K p q x = rt_K p q x ++ []; simp⟩
  | k + 1, x, h0, h1, h2, hk => by
    rw [rt_up_pos h0] at hk ⊢
    rw [rt_K_up t1 t2 h0 h1 h2]
    rcases t1 x.toNat (by omega) h2 with g | ⟨a, b, c⟩
    · rw [g, rt_up_neg (by omega)] at hk
      omega
    · obtain ⟨s, e⟩ := rt_K_pre t1 t2 k _ a b c hk
      exact ⟨s ++ [q x.toNat], by rw [e, List.append_assoc]⟩
/-- a kid lies behind its parent -/
theorem rt_lt_kid {h p q : Nat → Int} (t1 : rt_T1 h p) (t2 : rt_T2 h p) {n : Int} {c : Nat} (hc : rt_kid h p n c) : rt_lt (rt_K p q n) (rt_K p q c) := by
  obtain ⟨a, b, e⟩ := hc
  rw [rt_K_up t1 t2 (x := (c : Int)) (by omega) (by omega) b]
  show rt_lt _ (rt_K p q (p c) ++ [q c])
  rw [e]
  exact rt_lt_app _ _ _
/-- a later kid of the same parent lies behind all that is under the earlier one -/
theorem rt_lt_nxt {h p q : Nat → Int} (t1 : rt_T1 h p) (t2 : rt_T2 h p) {x : Int} (h0 : 0 ≤ x) (h1 : x < 150) (h2 : h x.toNat ≠ 0) {k : Nat} {u : Int} (hu : rt_up p k x = u) (hu0 : 0 ≤ u) {c : Nat} (hc : rt_kid h p (p u.toNat) c) (hq : q u.toNat < q c) : rt_lt (rt_K p q x) (rt_K p q c) := by
  obtain ⟨s, e⟩ := rt_K_pre (q := q) t1 t2 k x h0 h1 h2 (by rw [hu]; exact hu0)
  rw [hu] at e
  have hun : u < 150 ∧ h u.toNat ≠ 0 := by
    rcases rt_up_in t1 k x h0 h1 h2 with g | g
    · omega
    · rw [hu] at g
      exact ⟨g.2.1, g.2.2⟩
  rw [e, rt_K_up t1 t2 hu0 hun.1 hun.2]
  obtain ⟨a, b, ec⟩ := hc
  rw [rt_K_up t1 t2 (x := (c : Int)) (by omega) (by omega) b]
  show rt_lt ((rt_K p q (p u.toNat) ++ [q u.toNat]) ++ s) (rt_K p q (p c) ++ [q c])
  rw [ec, List.append_assoc]
  exact rt_lt_at _ _ _ _ _ hq
/-- how many of the first k there are -/
def rt_cnt (P : Nat → Bool) : Nat → Nat
  | 0 => 0
  | k + 1 => (if P k then 1 else 0) + rt_cnt P k
theorem rt_cnt_le {P Q : Nat → Bool} : ∀ {k : Nat}, (∀ i : Nat, i < k → P i = true → Q i = true) → rt_cnt P k ≤ rt_cnt Q k
  | 0, _ => Nat.le_refl 0
  | k + 1, h => by
    have ih := rt_cnt_le (k := k) (fun i hi => h i (by omega))
    show (if P k then 1 else 0) + rt_cnt P k ≤ (if Q k then 1 else 0) + rt_cnt Q k
    by_cases hp : P k = true
    · rw [if_pos hp, if_pos (h k (by omega) hp)]
      omega
    · rw [if_neg hp]
      omega
theorem rt_cnt_lt {P Q : Nat → Bool} : ∀ {k : Nat}, (∀ i : Nat, i < k → P i = true → Q i = true) → (∃ i : Nat, i < k ∧ P i = false ∧ Q i = true) → rt_cnt P k + 1 ≤ rt_cnt Q k
  | 0, _, h => by
    obtain ⟨i, hi, -, -⟩ := h
    omega
  | k + 1, h, hx => by
    have ih := rt_cnt_le (k := k) (fun i hi => h i (by omega))
    obtain ⟨i, hi, h1, h2⟩ := hx
    show (if P k then 1 else 0) + rt_cnt P k + 1 ≤ (if Q k then 1 else 0) + rt_cnt Q k
    by_cases hik : i = k
    · subst hik
      rw [if_pos h2, if_neg (by rw [h1]; decide)]
      omega
    · have ih2 := rt_cnt_lt (k := k) (fun i hi => h i (by omega)) ⟨i, by omega, h1, h2⟩
      by_cases hp : P k = true
      · rw [if_pos hp, if_pos (h k (by omega) hp)]
        omega
      · rw [if_neg hp]
        omega
theorem rt_cnt_k {P : Nat → Bool} : ∀ k : Nat, rt_cnt P k ≤ k
  | 0 => Nat.le_refl 0
  | k + 1 => by
    have := rt_cnt_k (P := P) k
    show (if P k then 1 else 0) + rt_cnt P k ≤ k + 1
    split <;> omega
/-- whether a way is ahead of another, to be counted by -/
def rt_ltb : List Int → List Int → Bool
  | _, [] => false
  | [], _ :: _ => true
  | a :: s, b :: t => decide (a < b) || (decide (a = b) && rt_ltb s t)
theorem rt_ltb_iff : ∀ (s t : List Int), rt_ltb s t = true ↔ rt_lt s t
  | s, [] => by cases s <;> exact ⟨fun h => (by cases h), fun h => h.elim⟩
  | [], _ :: _ => ⟨fun _ => trivial, fun _ => rfl⟩
  | a :: s, b :: t => by
    have ih := rt_ltb_iff s t
    show (decide (a < b) || (decide (a = b) && rt_ltb s t)) = true ↔ (a < b ∨ (a = b ∧ rt_lt s t))
    simp [ih]
/-- how many nodes lie behind x -/
def rt_mu (h p q : Nat → Int) (x : Int) : Nat := rt_cnt (fun m => decide (h m ≠ 0) && rt_ltb (rt_K p q x) (rt_K p q m)) 150
def rt_size (h : Nat → Int) : Nat := rt_cnt (fun m => decide (h m ≠ 0)) 150
theorem rt_mu_fall {h p q : Nat → Int} {x : Int} {c : Nat} (hc : c < 150) (hh : h c ≠ 0) (hl : rt_lt (rt_K p q x) (rt_K p q c)) : rt_mu h p q c + 1 ≤ rt_mu h p q x := by
  refine rt_cnt_lt (fun i hi hp => ?_) ⟨c, hc, ?_, ?_⟩
  · simp only [Bool.and_eq_true, decide_eq_true_eq, rt_ltb_iff] at hp ⊢
    exact ⟨hp.1, rt_lt_tr hl hp.2⟩
  · have := rt_lt_irr (rt_K p q c)
    rw [← rt_ltb_iff] at this
    simp [this]
  · simp only [Bool.and_eq_true, decide_eq_true_eq, rt_ltb_iff]
    exact ⟨hh, hl⟩
theorem rt_mu_size {h p q : Nat → Int} {x : Int} (h0 : 0 ≤ x) (h1 : x < 150) (hh : h x.toNat ≠ 0) : rt_mu h p q x + 1 ≤ rt_size h := by
  refine rt_cnt_lt (fun i hi hp => ?_) ⟨x.toNat, by omega, ?_, ?_⟩
  · simp only [Bool.and_eq_true] at hp
    exact hp.1
  · have := rt_lt_irr (rt_K p q x)
    rw [← rt_ltb_iff] at this
    have e : ((x.toNat : Nat) : Int) = x := by omega
    simp [this, e]
  · simp [hh]
/-- the best of the first k that are kids of n behind last -/
def rt_kbk (h p q : Nat → Int) (k : Nat) (n last x : Int) : Prop := (x = -1 ∧ ∀ c : Nat, c < k → h c ≠ 0 → p c = n → q c ≤ last) ∨ (0 ≤ x ∧ x < k ∧ h x.toNat ≠ 0 ∧ p x.toNat = n ∧ last < q x.toNat ∧ ∀ c : Nat, c < k → h c ≠ 0 → p c = n → last < q c → q x.toNat ≤ q c)
theorem rt_kbk_zero {h p q : Nat → Int} {k : Nat} {n last x : Int} (hk : k = 0) (hx : x = -1) : rt_kbk h p q k n last x := Or.inl ⟨hx, fun c hc => absurd hc (by omega)⟩
theorem rt_kbk_step {h p q : Nat → Int} {k k1 : Nat} {n last x x1 : Int} (i : rt_kbk h p q k n last x) (hk : k1 = k + 1) (hx : (¬ (h k ≠ 0 ∧ p k = n ∧ last < q k) ∧ x1 = x) ∨ ((h k ≠ 0 ∧ p k = n ∧ last < q k) ∧ ((x1 = k ∧ (x = -1 ∨ q k < q x.toNat)) ∨ (x1 = x ∧ x ≠ -1 ∧ q x.toNat ≤ q k)))) : rt_kbk h p q k1 n last x1 := by
  subst hk
  rcases hx with ⟨a, rfl⟩ | ⟨⟨a, b, d⟩, ⟨rfl, e⟩ | ⟨rfl, e, g⟩⟩
  · rcases i with ⟨i1, i2⟩ | ⟨i1, i2, i3, i4, i5, i6⟩
    · refine Or.inl ⟨i1, fun c hc c1 c2 => ?_⟩
      by_cases hck : c = k
      · subst hck
        have := fun z => a ⟨c1, c2, z⟩
        omega
      · exact i2 c (by omega) c1 c2
    · refine Or.inr ⟨i1, by omega, i3, i4, i5, fun c hc c1 c2 c3 => ?_⟩
      by_cases hck : c = k
      · subst hck
        exact absurd ⟨c1, c2, c3⟩ a
      · exact i6 c (by omega) c1 c2 c3
  · refine Or.inr ⟨by omega, by omega, by rw [show ((k : Int)).toNat = k by omega]; exact a, by rw [show ((k : Int)).toNat = k by omega]; exact b, by rw [show ((k : Int)).toNat = k by omega]; exact d, fun c hc c1 c2 c3 => ?_⟩
    rw [show ((k : Int)).toNat = k by omega]
    by_cases hck : c = k
    · subst hck
      exact Int.le_refl _
    · rcases i with ⟨i1, i2⟩ | ⟨i1, i2, i3, i4, i5, i6⟩
      · have := i2 c (by omega) c1 c2
        omega
      · have := i6 c (by omega) c1 c2 c3
        omega
  · rcases i with ⟨i1, i2⟩ | ⟨i1, i2, i3, i4, i5, i6⟩
    · exact absurd i1 e
    · refine Or.inr ⟨i1, by omega, i3, i4, i5, fun c hc c1 c2 c3 => ?_⟩
      by_cases hck : c = k
      · subst hck
        exact g
      · exact i6 c (by omega) c1 c2 c3
theorem rt_kbk_kid {h p q : Nat → Int} {n last x : Int} (i : rt_kbk h p q 150 n last x) (hx : x ≠ -1) : 0 ≤ x ∧ x < 150 ∧ rt_kid h p n x.toNat ∧ last < q x.toNat := by
  rcases i with ⟨i1, -⟩ | ⟨i1, i2, i3, i4, i5, -⟩
  · exact absurd i1 hx
  · exact ⟨i1, by omega, ⟨by omega, i3, i4⟩, i5⟩
/-- none of the first k is an outermost node -/
def rt_nr (h p : Nat → Int) (k : Nat) : Prop := ∀ c : Nat, c < k → h c ≠ 0 → p c ≠ -1
theorem rt_nr_step {h p : Nat → Int} {k k1 : Nat} (i : rt_nr h p k) (hk : k1 = k + 1) (hx : ¬ (h k ≠ 0 ∧ p k = -1)) : rt_nr h p k1 := by
  subst hk
  intro c hc h1 h2
  by_cases hck : c = k
  · subst hck
    exact hx ⟨h1, h2⟩
  · exact i c (by omega) h1 h2
/-- what a search for the next node keeps -/
def nx_inv (h p q : Nat → Int) (n c u : Int) : Prop := (∃ k : Nat, rt_up p k n = u) ∧ (0 ≤ u ∧ u < 150 ∧ h u.toNat ≠ 0) ∧ (c = -1 ∨ (0 ≤ c ∧ c < 150 ∧ h c.toNat ≠ 0 ∧ rt_lt (rt_K p q n) (rt_K p q c)))
theorem nx_init {h p q : Nat → Int} (t1 : rt_T1 h p) (t2 : rt_T2 h p) {n c : Int} (h0 : 0 ≤ n) (h1 : n < 150) (h2 : h n.toNat ≠ 0) (hc : rt_kbk h p q 150 n (-1) c) : nx_inv h p q n c n := by
  refine ⟨⟨0, rfl⟩, ⟨h0, h1, h2⟩, ?_⟩
  by_cases hx : c = -1
  · exact Or.inl hx
  · obtain ⟨a, b, k, -⟩ := rt_kbk_kid hc hx
    have := rt_lt_kid (q := q) t1 t2 k
    rw [show ((c.toNat : Nat) : Int) = c by omega] at this
    exact Or.inr ⟨a, b, k.2.1, this⟩
theorem nx_step {h p q : Nat → Int} (t1 : rt_T1 h p) (t2 : rt_T2 h p) (t3 : rt_T3 h p) {n u c top u1 : Int} (h0 : 0 ≤ n) (h1 : n < 150) (h2 : h n.toNat ≠ 0) (ht0 : 0 ≤ top) (ht1 : top < 150) (ht2 : h top.toNat ≠ 0) (ht3 : p top.toNat = -1) {c0 : Int} (i : nx_inv h p q n c0 u) (hne : u ≠ top) (hc : rt_kbk h p q 150 (p u.toNat) (q u.toNat) c) (hu : p u.toNat = u1) : nx_inv h p q n c u1 := by
  obtain ⟨⟨k, hk⟩, ⟨a0, a1, a2⟩, -⟩ := i
  have hp : p u.toNat ≠ -1 := fun z => hne (by
    have := t3 u.toNat top.toNat (by omega) (by omega) a2 ht2 z ht3
    omega)
  subst hu
  refine ⟨⟨k + 1, ?_⟩, ?_, ?_⟩
  · rw [rt_up_add, hk, rt_up_pos a0]
    rfl
  · rcases t1 u.toNat (by omega) a2 with z | z
    · exact absurd z hp
    · exact z
  · by_cases hx : c = -1
    · exact Or.inl hx
    · obtain ⟨b0, b1, b2, b3⟩ := rt_kbk_kid hc hx
      have := rt_lt_nxt (q := q) t1 t2 h0 h1 h2 hk a0 b2 b3
      rw [show ((c.toNat : Nat) : Int) = c by omega] at this
      exact Or.inr ⟨b0, b1, b2.2.1, this⟩
/-- whether a node lies under another, found on the way up -/
def iu_inv (h p : Nat → Int) (n u top : Int) : Prop := (u = -1 ∨ (0 ≤ u ∧ u < 150 ∧ h u.toNat ≠ 0)) ∧ ∀ k : Nat, rt_up p k n = top → ∃ j : Nat, rt_up p j u = top
theorem iu_init {h p : Nat → Int} {n top : Int} (h0 : 0 ≤ n) (h1 : n < 150) (h2 : h n.toNat ≠ 0) : iu_inv h p n n top := ⟨Or.inr ⟨h0, h1, h2⟩, fun k hk => ⟨k, hk⟩⟩
theorem iu_step {h p : Nat → Int} (t1 : rt_T1 h p) {n u top u1 : Int} (i : iu_inv h p n u top) (hu : u ≠ -1) (hne : u ≠ top) (e : p u.toNat = u1) : iu_inv h p n u1 top := by
  obtain ⟨a, b⟩ := i
  rcases a with a | ⟨a0, a1, a2⟩
  · exact absurd a hu
  · subst e
    refine ⟨?_, fun k hk => ?_⟩
    · rcases t1 u.toNat (by omega) a2 with z | z
      · exact Or.inl z
      · exact Or.inr z
    · obtain ⟨j, hj⟩ := b k hk
      match j, hj with
      | 0, hj => exact absurd hj hne
      | j + 1, hj =>
        rw [rt_up_pos a0] at hj
        exact ⟨j, hj⟩
theorem iu_no {h p : Nat → Int} {n top : Int} (i : iu_inv h p n (-1) top) (ht : 0 ≤ top) (k : Nat) : rt_up p k n ≠ top := fun e => by
  obtain ⟨j, hj⟩ := i.2 k e
  rw [rt_up_neg (by omega)] at hj
  omega
/-- how many kids of n lie at places from k on -/
def rt_km (h p q : Nat → Int) (n k : Int) : Nat := rt_cnt (fun m => decide (h m ≠ 0) && (decide (p m = n) && decide (k ≤ q m))) 150
theorem rt_km_le {h p q : Nat → Int} {n k : Int} : rt_km h p q n k ≤ 150 := rt_cnt_k 150
theorem rt_km_fall {h p q : Nat → Int} {n k k1 : Int} {c : Nat} (hc : rt_kid h p n c) (h1 : k ≤ q c) (h2 : q c < k1) : rt_km h p q n k1 + 1 ≤ rt_km h p q n k := by
  obtain ⟨a, b, e⟩ := hc
  refine rt_cnt_lt (fun i hi hp => ?_) ⟨c, a, ?_, ?_⟩
  · simp only [Bool.and_eq_true, decide_eq_true_eq] at hp ⊢
    exact ⟨hp.1, hp.2.1, by omega⟩
  · have : ¬ k1 ≤ q c := by omega
    simp [this]
  · simp only [Bool.and_eq_true, decide_eq_true_eq]
    exact ⟨b, e, h1⟩
def rt_kz (h p q : Nat → Int) (n c : Int) : Nat := if c < 0 then 0 else rt_km h p q n (q c.toNat)
theorem rt_kz_fall {h p q : Nat → Int} {n c c1 : Int} (h0 : 0 ≤ c) (hc : rt_kid h p n c.toNat) (i : rt_kbk h p q 150 n (q c.toNat) c1) : rt_kz h p q n c1 + 1 ≤ rt_kz h p q n c := by
  unfold rt_kz
  rw [if_neg (show ¬ c < 0 by omega)]
  by_cases hx : c1 = -1
  · rw [if_pos (by omega)]
    have := rt_km_fall (q := q) (k := q c.toNat) (k1 := q c.toNat + 1) hc (Int.le_refl _) (by omega)
    omega
  · obtain ⟨a, b, d, e⟩ := rt_kbk_kid i hx
    rw [if_neg (by omega)]
    exact rt_km_fall hc (Int.le_refl _) e
theorem rt_kz_le {h p q : Nat → Int} {n c : Int} : rt_kz h p q n c ≤ 150 := by
  unfold rt_kz
  split
  · omega
  · exact rt_km_le
def kd_is (h p : Nat → Int) (n c : Int) : Prop := c = -1 ∨ (0 ≤ c ∧ c < 150 ∧ rt_kid h p n c.toNat)
theorem kd_is_of {h p q : Nat → Int} {n last c : Int} (i : rt_kbk h p q 150 n last c) : kd_is h p n c := by
  by_cases hx : c = -1
  · exact Or.inl hx
  · obtain ⟨a, b, d, -⟩ := rt_kbk_kid i hx
    exact Or.inr ⟨a, b, d⟩
def rt_mz (h p q : Nat → Int) (n : Int) : Nat := if n < 0 then 0 else 1 + rt_mu h p q n
theorem rt_mz_fall {h p q : Nat → Int} {n c : Int} (h0 : 0 ≤ n) (hc : c = -1 ∨ (0 ≤ c ∧ c < 150 ∧ h c.toNat ≠ 0 ∧ rt_lt (rt_K p q n) (rt_K p q c))) : rt_mz h p q c + 1 ≤ rt_mz h p q n := by
  unfold rt_mz
  rw [if_neg (show ¬ n < 0 by omega)]
  rcases hc with e | ⟨a, b, d, e⟩
  · rw [if_pos (by omega)]
    omega
  · rw [if_neg (by omega)]
    have := rt_mu_fall (h := h) (p := p) (q := q) (x := n) (c := c.toNat) (by omega) d (by rw [show ((c.toNat : Nat) : Int) = c by omega]; exact e)
    rw [show ((c.toNat : Nat) : Int) = c by omega] at this
    omega
theorem rt_mz_le {h p q : Nat → Int} {n : Int} : rt_mz h p q n ≤ 151 := by
  unfold rt_mz
  split
  · omega
  · have := rt_cnt_k (P := (fun m => decide (h m ≠ 0) && rt_ltb (rt_K p q n) (rt_K p q m))) 150
    show 1 + rt_cnt _ 150 ≤ 151
    omega
theorem rt_km_set {h p q q1 : Nat → Int} {n k : Int} {c : Nat} (hq : ∀ m : Nat, q1 m = if m = c then k else q m) (hc : rt_kid h p n c) (h1 : k ≤ q c) : rt_km h p q1 n (k + 1) + 1 ≤ rt_km h p q n k := by
  obtain ⟨a, b, e⟩ := hc
  refine rt_cnt_lt (fun i hi hp => ?_) ⟨c, a, ?_, ?_⟩
  · simp only [Bool.and_eq_true, decide_eq_true_eq] at hp ⊢
    have := hq i
    by_cases hic : i = c
    · rw [if_pos hic] at this
      omega
    · rw [if_neg hic] at this
      exact ⟨hp.1, hp.2.1, by omega⟩
  · have := hq c
    rw [if_pos rfl] at this
    have : ¬ k + 1 ≤ q1 c := by omega
    simp [this]
  · simp only [Bool.and_eq_true, decide_eq_true_eq]
    exact ⟨b, e, h1⟩
/-- a way that never meets n is the same where only n's parent is another -/
theorem rt_up_same {p p1 : Nat → Int} {n : Nat} {u : Int} (hp : ∀ c : Nat, p1 c = if c = n then u else p c) : ∀ (k : Nat) (x : Int), (∀ j : Nat, j < k → rt_up p j x ≠ n) → rt_up p1 k x = rt_up p k x
  | 0, _, _ => rfl
  | k + 1, x, h => by
    by_cases hx : x < 0
    · rw [rt_up_neg hx, rt_up_neg hx]
    · rw [rt_up_pos (by omega), rt_up_pos (by omega)]
      have hn : x ≠ n := h 0 (by omega)
      have e : p1 x.toNat = p x.toNat := by rw [hp, if_neg (by omega)]
      rw [e]
      exact rt_up_same hp k _ (fun j hj => by
        have := h (j + 1) (by omega)
        rw [rt_up_pos (by omega)] at this
        exact this)
/-- a node without kids is taken away -/
theorem rt_take {h p h1 : Nat → Int} {n : Nat} (hh : ∀ c : Nat, h1 c = if c = n then 0 else h c) (hk : ∀ c : Nat, c < 150 → ¬ rt_kid h p n c) (t1 : rt_T1 h p) (t2 : rt_T2 h p) (t3 : rt_T3 h p) : rt_T1 h1 p ∧ rt_T2 h1 p ∧ rt_T3 h1 p := by
  have old : ∀ c : Nat, h1 c ≠ 0 → c ≠ n ∧ h c ≠ 0 := fun c hc => by
    have := hh c
    by_cases e : c = n
    · rw [if_pos e] at this
      exact absurd this hc
    · rw [if_neg e] at this
      exact ⟨e, this ▸ hc⟩
  refine ⟨fun c hc hx => ?_, fun c hc hx => t2 c hc (old c hx).2, fun a b ha hb h1 h2 => t3 a b ha hb (old a h1).2 (old b h2).2⟩
  rcases t1 c hc (old c hx).2 with z | ⟨z1, z2, z3⟩
  · exact Or.inl z
  · refine Or.inr ⟨z1, z2, ?_⟩
    rw [hh, if_neg ?_]
    · exact z3
    · intro e
      exact hk c hc ⟨hc, (old c hx).2, by omega⟩
/-- a node comes, or comes back, under another -/
theorem rt_put {h p h1 p1 : Nat → Int} {n : Nat} {u : Int} (hn : n < 150) (hh : ∀ c : Nat, h1 c = if c = n then 1 else h c) (hp : ∀ c : Nat, p1 c = if c = n then u else p c) (hu0 : 0 ≤ u) (hu1 : u < 150) (hu2 : h u.toNat ≠ 0) (hun : u ≠ n) (t1 : ∀ c : Nat, c < 150 → c ≠ n → h c ≠ 0 → p c = -1 ∨ (0 ≤ p c ∧ p c < 150 ∧ (h (p c).toNat ≠ 0 ∨ p c = n))) (t2 : ∀ c : Nat, c < 150 → c ≠ n → h c ≠ 0 → ∃ k : Nat, rt_up p k c < 0) (hup : ∀ k : Nat, rt_up p k u ≠ n) (t3 : ∀ a b : Nat, a < 150 → b < 150 → a ≠ n → b ≠ n → h a ≠ 0 → h b ≠ 0 → p a = -1 → p b = -1 → a = b) : rt_T1 h1 p1 ∧ rt_T2 h1 p1 ∧ rt_T3 h1 p1 := by
  have isn : h1 n ≠ 0 := by rw [hh, if_pos rfl]; decide
  have oth : ∀ c : Nat, c ≠ n → h1 c = h c ∧ p1 c = p c := fun c hc => ⟨by rw [hh, if_neg hc], by rw [hp, if_neg hc]⟩
  have pn : p1 n = u := by rw [hp, if_pos rfl]
  have hu : ∃ k : Nat, rt_up p1 k u < 0 := by
    obtain ⟨k, hk⟩ := t2 u.toNat (by omega) (by omega) hu2
    rw [show ((u.toNat : Nat) : Int) = u by omega] at hk
    exact ⟨k, by rw [rt_up_same hp k u (fun j _ => hup j)]; exact hk⟩
  have hnk : ∃ k : Nat, rt_up p1 k (n : Int) < 0 := by
    obtain ⟨k, hk⟩ := hu
    refine ⟨k + 1, ?_⟩
    rw [rt_up_pos (by omega)]
    show rt_up p1 k (p1 n) < 0
    rw [pn]
    exact hk
  refine ⟨fun c hc hx => ?_, fun c hc hx => ?_, fun a b ha hb xa xb ya yb => ?_⟩
  · by_cases hcn : c = n
    · subst hcn
      rw [pn]
      refine Or.inr ⟨hu0, hu1, ?_⟩
      rw [(oth u.toNat (by omega)).1]
      exact hu2
    · rw [(oth c hcn).1] at hx
      rw [(oth c hcn).2]
      rcases t1 c hc hcn hx with z | ⟨z1, z2, z3⟩
      · exact Or.inl z
      · refine Or.inr ⟨z1, z2, ?_⟩
        by_cases e : p c = n
        · rw [show (p c).toNat = n by omega]
          exact isn
        · rw [(oth (p c).toNat (by omega)).1]
          exact z3.resolve_right e
  · by_cases hcn : c = n
    · subst hcn
      exact hnk
    · rw [(oth c hcn).1] at hx
      obtain ⟨k, hk⟩ := t2 c hc hcn hx
      -- the way meets n, or it doesn't
      by_cases hm : ∃ j : Nat, j < k ∧ rt_up p j (c : Int) = n
      · -- the first time
        have first : ∀ N : Nat, (∃ j : Nat, j < N ∧ rt_up p j (c : Int) = n) → ∃ j : Nat, rt_up p j (c : Int) = n ∧ ∀ i : Nat, i < j → rt_up p i (c : Int) ≠ n := fun N => by
          induction N with
          | zero => rintro ⟨j, hj, -⟩; omega
          | succ N ih =>
            rintro ⟨j, hj, e⟩
            by_cases hx2 : ∃ j : Nat, j < N ∧ rt_up p j (c : Int) = n
            · exact ih hx2
            · exact ⟨j, e, fun i hi e2 => hx2 ⟨i, by omega, e2⟩⟩
        obtain ⟨j, e, hj⟩ := first k hm
        obtain ⟨k2, hk2⟩ := hnk
        refine ⟨j + k2, ?_⟩
        rw [rt_up_add, rt_up_same hp j (c : Int) hj, e]
        exact hk2
      · exact ⟨k, by rw [rt_up_same hp k (c : Int) (fun j hj e => hm ⟨j, hj, e⟩)]; exact hk⟩
  · have na : a ≠ n := fun z => by rw [z, pn] at ya; omega
    have nb : b ≠ n := fun z => by rw [z, pn] at yb; omega
    rw [(oth a na).1] at xa
    rw [(oth b nb).1] at xb
    rw [(oth a na).2] at ya
    rw [(oth b nb).2] at yb
    exact t3 a b ha hb na nb xa xb ya yb
/-- what is wanted before n is laid under u -/
def ly_ok (h p : Nat → Int) (n u : Int) : Prop := (0 ≤ n ∧ n < 150) ∧ (0 ≤ u ∧ u < 150 ∧ h u.toNat ≠ 0 ∧ u ≠ n) ∧ (∀ c : Nat, c < 150 → (c : Int) ≠ n → h c ≠ 0 → p c = -1 ∨ (0 ≤ p c ∧ p c < 150 ∧ (h (p c).toNat ≠ 0 ∨ p c = n))) ∧ (∀ c : Nat, c < 150 → (c : Int) ≠ n → h c ≠ 0 → ∃ k : Nat, rt_up p k c < 0) ∧ (∀ k : Nat, rt_up p k u ≠ n) ∧ ∀ a b : Nat, a < 150 → b < 150 → (a : Int) ≠ n → (b : Int) ≠ n → h a ≠ 0 → h b ≠ 0 → p a = -1 → p b = -1 → a = b
theorem ly_put {h p h1 p1 : Nat → Int} {n u : Int} (l : ly_ok h p n u) (hh : ∀ c : Nat, h1 c = if c = n.toNat then 1 else h c) (hp : ∀ c : Nat, p1 c = if c = n.toNat then u else p c) : rt_T1 h1 p1 ∧ rt_T2 h1 p1 ∧ rt_T3 h1 p1 := by
  obtain ⟨⟨n0, n1⟩, ⟨u0, u1, u2, u3⟩, l3, l4, l5, l6⟩ := l
  have e : ((n.toNat : Nat) : Int) = n := by omega
  refine rt_put (n := n.toNat) (u := u) (by omega) hh hp u0 u1 u2 (by omega) (fun c hc hn => ?_) (fun c hc hn => l4 c hc (by omega)) (fun k => by rw [e]; exact l5 k) (fun a b ha hb na nb => l6 a b ha hb (by omega) (by omega))
  rw [e]
  exact l3 c hc (by omega)
/-- a new number under a node of a tree -/
theorem ly_new {h p : Nat → Int} (t1 : rt_T1 h p) (t2 : rt_T2 h p) (t3 : rt_T3 h p) {n u : Int} (n0 : 0 ≤ n) (n1 : n < 150) (hn : h n.toNat = 0) (u0 : 0 ≤ u) (u1 : u < 150) (u2 : h u.toNat ≠ 0) : ly_ok h p n u := by
  have une : u ≠ n := fun z => by rw [z] at u2; exact u2 hn
  refine ⟨⟨n0, n1⟩, ⟨u0, u1, u2, une⟩, fun c hc _ hx => ?_, fun c hc _ hx => t2 c hc hx, fun k e => ?_, fun a b ha hb _ _ => t3 a b ha hb⟩
  · rcases t1 c hc hx with z | ⟨z1, z2, z3⟩
    · exact Or.inl z
    · exact Or.inr ⟨z1, z2, Or.inl z3⟩
  · rcases rt_up_in t1 k u u0 u1 u2 with z | z
    · omega
    · rw [e] at z
      exact z.2.2 hn
/-- a node that is taken out, to be laid under another that isn't under it -/
theorem ly_move {h p h1 : Nat → Int} (t1 : rt_T1 h p) (t2 : rt_T2 h p) (t3 : rt_T3 h p) {n u : Int} (n0 : 0 ≤ n) (n1 : n < 150) (hn : h n.toNat ≠ 0) (u0 : 0 ≤ u) (u1 : u < 150) (u2 : h u.toNat ≠ 0) (hup : ∀ k : Nat, rt_up p k u ≠ n) (hh : ∀ c : Nat, h1 c = if c = n.toNat then 0 else h c) : ly_ok h1 p n u := by
  have une : u ≠ n := hup 0
  have old : ∀ c : Nat, h1 c ≠ 0 → h c ≠ 0 := fun c hc => by
    have := hh c
    by_cases e : c = n.toNat
    · rw [if_pos e] at this
      exact absurd this hc
    · rw [if_neg e] at this
      exact this ▸ hc
  refine ⟨⟨n0, n1⟩, ⟨u0, u1, by rw [hh, if_neg (by omega)]; exact u2, une⟩, fun c hc _ hx => ?_, fun c hc _ hx => t2 c hc (old c hx), hup, fun a b ha hb _ _ xa xb => t3 a b ha hb (old a xa) (old b xb)⟩
  rcases t1 c hc (old c hx) with z | ⟨z1, z2, z3⟩
  · exact Or.inl z
  · refine Or.inr ⟨z1, z2, ?_⟩
    by_cases e : p c = n
    · exact Or.inr e
    · refine Or.inl ?_
      rw [hh, if_neg (by omega)]
      exact z3
def ly1_ok (h p : Nat → Int) (n u : Int) : Prop := ∃ h0 : Nat → Int, ly_ok h0 p n u ∧ ∀ c : Nat, h c = if c = n.toNat then 1 else h0 c
/-- how many there are, with one more or one less -/
theorem rt_size_put {h h1 : Nat → Int} {n : Nat} {x : Int} (hh : ∀ c : Nat, h1 c = if c = n then x else h c) : rt_size h1 ≤ rt_size h + 1 := by
  have key : ∀ k : Nat, rt_cnt (fun m => decide (h1 m ≠ 0)) k ≤ rt_cnt (fun m => decide (h m ≠ 0)) k + (if n < k then 1 else 0) := fun k => by
    induction k with
    | zero => exact Nat.zero_le _
    | succ k ih =>
      show (if decide (h1 k ≠ 0) then 1 else 0) + _ ≤ (if decide (h k ≠ 0) then 1 else 0) + _ + _
      have := hh k
      by_cases e : k = n
      · subst e
        rw [if_neg (show ¬ k < k by omega)] at ih
        rw [if_pos (show k < k + 1 by omega)]
        split <;> split <;> omega
      · rw [if_neg e] at this
        rw [this]
        by_cases hk : n < k
        · rw [if_pos hk] at ih
          rw [if_pos (show n < k + 1 by omega)]
          omega
        · rw [if_neg hk] at ih
          rw [if_neg (show ¬ n < k + 1 by omega)]
          omega
  have := key 150
  unfold rt_size
  split at this <;> omega
/-- the kids of n are given places anew, from k on -/
def sk_inv (h p q : Nat → Int) (n k c : Int) : Prop := c = -1 ∨ (0 ≤ c ∧ c < 150 ∧ rt_kid h p n c.toNat ∧ k ≤ q c.toNat)
def sk_m (h p q : Nat → Int) (n k c : Int) : Nat := if c < 0 then 0 else rt_km h p q n k
theorem sk_first {h p q : Nat → Int} {n c : Int} (i : rt_kbk h p q 150 n (-1) c) : sk_inv h p q n 0 c := by
  by_cases hx : c = -1
  · exact Or.inl hx
  · obtain ⟨a, b, d, e⟩ := rt_kbk_kid i hx
    exact Or.inr ⟨a, b, d, by omega⟩
theorem sk_next {h p q q1 : Nat → Int} {n k k1 c c1 : Int} (hq : ∀ m : Nat, q1 m = if m = c.toNat then k else q m) (i : sk_inv h p q n k c) (hc : c ≠ -1) (hk : k1 = k + 1) (nx : rt_kbk h p q1 150 (p c.toNat) (q1 c.toNat) c1) : sk_inv h p q1 n k1 c1 ∧ sk_m h p q1 n k1 c1 + 1 ≤ sk_m h p q n k c := by
  subst hk
  obtain ⟨a, b, d, e⟩ := i.resolve_left hc
  have f := rt_km_set hq d e
  have q1c : q1 c.toNat = k := by rw [hq, if_pos rfl]
  rw [d.2.2, q1c] at nx
  unfold sk_m
  rw [if_neg (show ¬ c < 0 by omega)]
  by_cases hx : c1 = -1
  · exact ⟨Or.inl hx, by rw [if_pos (by omega)]; omega⟩
  · obtain ⟨a1, b1, d1, e1⟩ := rt_kbk_kid nx hx
    exact ⟨Or.inr ⟨a1, b1, d1, by omega⟩, by rw [if_neg (by omega)]; exact f⟩
theorem sk_m_le {h p q : Nat → Int} {n k c : Int} : sk_m h p q n k c ≤ 150 := by
  unfold sk_m
  split
  · omega
  · exact rt_km_le
/-- none of the first k is a kid of n -/
def nk_inv (h p : Nat → Int) (n : Int) (k : Nat) : Prop := ∀ c : Nat, c < k → ¬ (h c ≠ 0 ∧ p c = n)
theorem nk_step {h p : Nat → Int} {n : Int} {k k1 : Nat} (i : nk_inv h p n k) (hk : k1 = k + 1) (hx : ¬ (h k ≠ 0 ∧ p k = n)) : nk_inv h p n k1 := by
  subst hk
  intro c hc
  by_cases e : c = k
  · subst e
    exact hx
  · exact i c (by omega)
theorem rt_up_ext {h p p1 : Nat → Int} (hp : ∀ c : Nat, c < 150 → p1 c = p c) (t1 : rt_T1 h p) : ∀ (k : Nat) (x : Int), (x < 0 ∨ (0 ≤ x ∧ x < 150 ∧ h x.toNat ≠ 0)) → rt_up p1 k x = rt_up p k x
  | 0, _, _ => rfl
  | k + 1, x, hx => by
    rcases hx with hx | ⟨a, b, c⟩
    · rw [rt_up_neg hx, rt_up_neg hx]
    · rw [rt_up_pos a, rt_up_pos a, hp x.toNat (by omega)]
      refine rt_up_ext hp t1 k _ ?_
      rcases t1 x.toNat (by omega) c with z | z
      · exact Or.inl (by omega)
      · exact Or.inr z
theorem rt_ext {h p h1 p1 : Nat → Int} (hh : ∀ c : Nat, c < 150 → h1 c = h c) (hp : ∀ c : Nat, c < 150 → p1 c = p c) (t1 : rt_T1 h p) (t2 : rt_T2 h p) (t3 : rt_T3 h p) : rt_T1 h1 p1 ∧ rt_T2 h1 p1 ∧ rt_T3 h1 p1 := by
  refine ⟨fun c hc hx => ?_, fun c hc hx => ?_, fun a b ha hb xa xb ya yb => ?_⟩
  · rw [hh c hc] at hx
    rw [hp c hc]
    rcases t1 c hc hx with z | ⟨z1, z2, z3⟩
    · exact Or.inl z
    · exact Or.inr ⟨z1, z2, by rw [hh _ (by omega)]; exact z3⟩
  · rw [hh c hc] at hx
    obtain ⟨k, hk⟩ := t2 c hc hx
    exact ⟨k, by rw [rt_up_ext hp t1 k c (Or.inr ⟨by omega, by omega, hx⟩)]; exact hk⟩
  · rw [hh a ha] at xa
    rw [hh b hb] at xb
    rw [hp a ha] at ya
    rw [hp b hb] at yb
    exact t3 a b ha hb xa xb ya yb
theorem rt_size_ext {h h1 : Nat → Int} (hh : ∀ c : Nat, c < 150 → h1 c = h c) : rt_size h1 ≤ rt_size h := rt_cnt_le (fun i hi hp => by
  simp only [decide_eq_true_eq] at hp ⊢
  rw [hh i hi] at hp
  exact hp)
/-- the least of a ring -/
def lr_ring (p : Nat → Int) (n : Int) : Prop := (∃ d : Nat, 1 ≤ d ∧ d ≤ 150 ∧ rt_up p d n = n) ∧ ∀ k : Nat, n ≤ rt_up p k n
theorem lr_min {p : Nat → Int} {w : Int} (hw : ∀ k : Nat, 0 ≤ rt_up p k w) : ∀ (B k : Nat), (rt_up p k w).toNat ≤ B → ∃ k1 : Nat, ∀ j : Nat, rt_up p k1 w ≤ rt_up p j w
  | 0, k, hk => ⟨k, fun j => by have := hw k; have := hw j; omega⟩
  | B + 1, k, hk => by
    by_cases e : ∃ j : Nat, rt_up p j w < rt_up p k w
    · obtain ⟨j, hj⟩ := e
      exact lr_min hw B j (by have := hw j; omega)
    · exact ⟨k, fun j => Int.not_lt.mp (fun z => e ⟨j, z⟩)⟩
theorem lr_T2 {h p : Nat → Int} (t1 : rt_T1 h p) (hn : ∀ n : Nat, n < 150 → h n ≠ 0 → ¬ lr_ring p n) : rt_T2 h p := fun c hc hz => Classical.byContradiction (fun hne => by
  have hc0 : h (c : Int).toNat ≠ 0 := by rw [show (c : Int).toNat = c by omega]; exact hz
  have nod : ∀ i : Nat, 0 ≤ rt_up p i c ∧ rt_up p i c < 150 ∧ h (rt_up p i c).toNat ≠ 0 := fun i => by
    rcases rt_up_in t1 i c (by omega) (by omega) hc0 with z | z
    · exact absurd ⟨i, z⟩ hne
    · exact z
  -- two of the first 151 are the same
  have two : ∃ i j : Nat, i < j ∧ j ≤ 150 ∧ rt_up p i c = rt_up p j c := Classical.byContradiction (fun hd => by
    have l1 : ((List.range 151).map (fun i => (rt_up p i c).toNat)).Nodup := by
      rw [List.Nodup, List.pairwise_iff_getElem]
      intro i j hi hj hij
      simp only [List.length_map, List.length_range] at hi hj
      simp only [List.getElem_map, List.getElem_range]
      intro e
      have a := (nod i).1
      have b := (nod j).1
      exact hd ⟨i, j, hij, by omega, by omega⟩
    have := rt_short 150 _ l1 (fun y hy => by
      obtain ⟨i, hi, rfl⟩ := List.mem_map.mp hy
      have := nod i
      omega)
    simp at this)
  obtain ⟨i, j, hij, hj, e⟩ := two
  have ring : rt_up p (j - i) (rt_up p i c) = rt_up p i c := by
    rw [← rt_up_add, show i + (j - i) = j by omega]
    exact e.symm
  have hw : ∀ k : Nat, 0 ≤ rt_up p k (rt_up p i c) := fun k => by rw [← rt_up_add]; exact (nod _).1
  obtain ⟨k, hk⟩ := lr_min hw _ 0 (Nat.le_refl _)
  have hx := nod (i + k)
  rw [rt_up_add] at hx
  refine hn (rt_up p k (rt_up p i c)).toNat (by omega) hx.2.2 ?_
  rw [show (((rt_up p k (rt_up p i c)).toNat : Nat) : Int) = rt_up p k (rt_up p i c) by omega]
  refine ⟨⟨j - i, by omega, by omega, ?_⟩, fun k2 => ?_⟩
  · rw [← rt_up_add k (j - i), Nat.add_comm, rt_up_add, ring]
  · rw [← rt_up_add k k2]
    exact hk _)
def lr_inv (p : Nat → Int) (n u k : Int) : Prop := u = rt_up p (k.toNat + 1) n ∧ ∀ j : Nat, 1 ≤ j → (j : Int) ≤ k → rt_up p j n ≠ n
theorem lr_init {p : Nat → Int} {n u k : Int} (n0 : 0 ≤ n) (hk : k = 0) (hu : p n.toNat = u) : lr_inv p n u k := by
  subst hk hu
  exact ⟨(rt_up_pos (k := 0) n0).symm, fun j h1 h2 => absurd h2 (by omega)⟩
theorem lr_step {p : Nat → Int} {n u k u1 k1 : Int} (i : lr_inv p n u k) (u0 : 0 ≤ u) (k0 : 0 ≤ k) (hne : u ≠ n) (hk : k1 = k + 1) (hu : p u.toNat = u1) : lr_inv p n u1 k1 := by
  subst hk hu
  refine ⟨?_, fun j h1 h2 => ?_⟩
  · rw [show (k + 1).toNat + 1 = (k.toNat + 1) + 1 by omega, rt_up_add, ← i.1]
    exact (rt_up_pos (k := 0) u0).symm
  · by_cases e : (j : Int) ≤ k
    · exact i.2 j h1 e
    · rw [show j = k.toNat + 1 by omega, ← i.1]
      exact hne
theorem lr_done {p : Nat → Int} {n u k : Int} (i : lr_inv p n u k) (n0 : 0 ≤ n) (k0 : 0 ≤ k) (hx : u = -1 ∨ 150 ≤ k ∨ u < n) : ¬ lr_ring p n := fun ⟨⟨d, d1, d2, d3⟩, r⟩ => by
  rcases hx with h | h | h
  · have := r (k.toNat + 1); rw [← i.1] at this; omega
  · exact i.2 d d1 (by omega) d3
  · have := r (k.toNat + 1); rw [← i.1] at this; omega
def lr_all (h p : Nat → Int) (k : Int) : Prop := ∀ c : Nat, (c : Int) < k → h c ≠ 0 → ¬ lr_ring p c
theorem lr_all_step {h p : Nat → Int} {k k1 : Int} (i : lr_all h p k) (k0 : 0 ≤ k) (hk : k1 = k + 1) (hx : h k.toNat ≠ 0 → ¬ lr_ring p k) : lr_all h p k1 := fun c hc hz => by
  by_cases e : (c : Int) = k
  · rw [e]; exact hx (by rw [← e]; exact hz)
  · exact i c (by omega) hz
