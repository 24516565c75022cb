/-! the names that the reference has read so far -/
def al_ok (g : Nat → Int) (a b k : Int) : Prop := ∀ i : Nat, (i : Int) < k → g (a + i).toNat = g (b + i).toNat
theorem al_push {g : Nat → Int} {a b k k1 : Int} (q : al_ok g a b k) (k0 : 0 ≤ k) (hk : k1 = k + 1) (h : g (a + k).toNat = g (b + k).toNat) : al_ok g a b k1 := fun i hi => by
  by_cases e : (i : Int) = k
  · rw [e]; exact h
  · exact q i (by omega)
def kp_ (E : Nat → va_E) (m : Nat) (k : Int) : Int × Int → Prop := fun x => ∃ j : Nat, (j : Int) < k ∧ x = (tw_el E m 6 j, tw_el E m 6 j + tw_el E m 7 j)
/-- the copy of the text is one, and the names lie in it -/
def gt_ok (E : Nat → va_E) (m : Nat) : Prop := ∀ i : Nat, (i : Int) < tw_fi E m 1 → tw_el E m 5 i = tw_el E m 0 i
def gk_ok (E : Nat → va_E) (m : Nat) : Prop := ∀ j : Nat, (j : Int) < tw_fi E m 15 → 0 ≤ tw_el E m 6 j ∧ 0 ≤ tw_el E m 7 j ∧ tw_el E m 6 j + tw_el E m 7 j ≤ tw_fi E m 1
def nn_ok (g f l : Nat → Int) (a n k : Int) : Prop := ∀ j : Nat, (j : Int) < k → ¬ (l j = n ∧ al_ok g (f j) a n)
theorem nn_push {g f l : Nat → Int} {a n k k1 : Int} (q : nn_ok g f l a n k) (k0 : 0 ≤ k) (hk : k1 = k + 1) (h : ¬ (l k.toNat = n ∧ al_ok g (f k.toNat) a n)) : nn_ok g f l a n k1 := fun j hj => by
  by_cases e : j = k.toNat
  · rw [e]; exact h
  · exact q j (by omega)
theorem kn_iff {E : Nat → va_E} {m : Nat} {a n x : Int} (gt : gt_ok E m) (gk : gk_ok E m) (a0 : 0 ≤ a) (an : a + n ≤ tw_fi E m 1) (hx : (x = -1 ∧ nn_ok (tw_el E m 5) (tw_el E m 6) (tw_el E m 7) a n (tw_fi E m 15)) ∨ (x ≠ -1 ∧ ∃ j : Nat, (j : Int) < tw_fi E m 15 ∧ tw_el E m 7 j = n ∧ al_ok (tw_el E m 5) (tw_el E m 6 j) a n)) : x = -1 ↔ ¬ gy_nm (tw_el E m 0) (kp_ E m (tw_fi E m 15)) (a, a + n) := by
  have tr : ∀ j : Nat, (j : Int) < tw_fi E m 15 → tw_el E m 7 j = n → (al_ok (tw_el E m 5) (tw_el E m 6 j) a n ↔ al_ok (tw_el E m 0) (tw_el E m 6 j) a n) := fun j hj hl => by
    have g := gk j hj
    have e1 : ∀ i : Nat, (i : Int) < n → tw_el E m 5 (tw_el E m 6 j + i).toNat = tw_el E m 0 (tw_el E m 6 j + i).toNat := fun i hi => gt _ (by omega)
    have e2 : ∀ i : Nat, (i : Int) < n → tw_el E m 5 (a + i).toNat = tw_el E m 0 (a + i).toNat := fun i hi => gt _ (by omega)
    exact ⟨fun z i hi => by rw [← e1 i hi, ← e2 i hi]; exact z i hi, fun z i hi => by rw [e1 i hi, e2 i hi]; exact z i hi⟩
  rcases hx with ⟨h1, h2⟩ | ⟨h1, j, hj, hl, ha⟩
  · refine ⟨fun _ => ?_, fun _ => h1⟩
    rintro ⟨y, ⟨j, hj, rfl⟩, h3, h4⟩
    have e : tw_el E m 7 j = n := by have : tw_el E m 6 j + tw_el E m 7 j - tw_el E m 6 j = a + n - a := h3; omega
    refine h2 j hj ⟨e, (tr j hj e).mpr (fun i hi => ?_)⟩
    exact h4 i (by show (i : Int) < a + n - a; omega)
  · refine ⟨fun z => absurd z h1, fun z => absurd ?_ z⟩
    refine ⟨_, ⟨j, hj, rfl⟩, by show tw_el E m 6 j + tw_el E m 7 j - tw_el E m 6 j = a + n - a; omega, fun i hi => ?_⟩
    have hi : (i : Int) < a + n - a := hi
    exact (tr j hj hl).mp ha i (by omega)
section KNF
variable {D : va_G} {A : Nat → Prop} {H : Heap} {cs : Nat → ClassId} {kp : Nat → Nat} {L : List Nat} {E E1 : Nat → va_E} {ms : List (Nat × Nat)} {ks : List Nat} {m : Nat}
theorem gt_ok_fr (TH : tw_H D cs kp L E1 A H) (h : tw_fr kp L ms ks E E1) (hm : m ∈ L) (hk : kp m = 12) (h1 : ∀ x ∈ [(12, 0), (12, 1), (12, 5)], x ∉ ms) (h2 : ∀ x ∈ [300, 301], x ∉ ks) (q : gt_ok E m) : gt_ok E1 m := by
  unfold gt_ok
  rw [tw_fi_fr h hm hk (h1 (12, 1) (by decide)), el_fr TH h hm hk (k := 0) (by decide) rfl (by decide) (h1 _ (by decide)) (h2 _ (by decide)), el_fr TH h hm hk (k := 5) (by decide) rfl (by decide) (h1 _ (by decide)) (h2 _ (by decide))]
  exact q
theorem gk_ok_fr (TH : tw_H D cs kp L E1 A H) (h : tw_fr kp L ms ks E E1) (hm : m ∈ L) (hk : kp m = 12) (h1 : ∀ x ∈ [(12, 1), (12, 6), (12, 7), (12, 15)], x ∉ ms) (h2 : ∀ x ∈ [302, 303], x ∉ ks) (q : gk_ok E m) : gk_ok E1 m := by
  unfold gk_ok
  rw [tw_fi_fr h hm hk (h1 (12, 1) (by decide)), tw_fi_fr h hm hk (h1 (12, 15) (by decide)), el_fr TH h hm hk (k := 6) (by decide) rfl (by decide) (h1 _ (by decide)) (h2 _ (by decide)), el_fr TH h hm hk (k := 7) (by decide) rfl (by decide) (h1 _ (by decide)) (h2 _ (by decide))]
  exact q
end KNF
/-! the items: rows of two grids, apart -/
def rx (E : Nat → va_E) (m f : Nat) (j i : Nat) : Int := (tw_iv E (tw_rf E (tw_fa E m f) j) i).toInt
def rg_ok (E : Nat → va_E) (m : Nat) : Prop := ∀ f ∈ [10, 11], ∀ i j : Nat, i < 10 → j < 10 → tw_rf E (tw_fa E m f) i = tw_rf E (tw_fa E m f) j → i = j
def ip_ (E : Nat → va_E) (m : Nat) (k : Int) : Int × Int → Prop := fun x => ∃ j i : Nat, (j : Int) < k ∧ (i : Int) < tw_el E m 9 j ∧ x = (rx E m 10 j i, rx E m 10 j i + rx E m 11 j i)
/-- a name more -/
theorem kp_push {E E1 : Nat → va_E} {m : Nat} {k s l : Int} (k0 : 0 ≤ k) (h6 : ∀ j : Nat, tw_el E1 m 6 j = if j = k.toNat then s else tw_el E m 6 j) (h7 : ∀ j : Nat, tw_el E1 m 7 j = if j = k.toNat then l else tw_el E m 7 j) : kp_ E1 m (k + 1) = gy_ins (kp_ E m k) (s, s + l) := by
  funext x
  apply propext
  constructor
  · rintro ⟨j, hj, rfl⟩
    rw [h6, h7]
    by_cases e : j = k.toNat
    · rw [if_pos e, if_pos e]; exact Or.inr rfl
    · rw [if_neg e, if_neg e]; exact Or.inl ⟨j, by omega, rfl⟩
  · rintro (⟨j, hj, rfl⟩ | rfl)
    · exact ⟨j, by omega, by rw [h6, h7, if_neg (by omega), if_neg (by omega)]⟩
    · exact ⟨k.toNat, by omega, by rw [h6, h7, if_pos rfl, if_pos rfl]⟩
theorem ip_new {E E1 : Nat → va_E} {m : Nat} {k : Int} (k0 : 0 ≤ k) (h9 : ∀ j : Nat, tw_el E1 m 9 j = if j = k.toNat then 0 else tw_el E m 9 j) (h10 : rx E1 m 10 = rx E m 10) (h11 : rx E1 m 11 = rx E m 11) : ip_ E1 m (k + 1) = ip_ E m k := by
  funext x
  apply propext
  unfold ip_
  rw [h10, h11]
  constructor
  · rintro ⟨j, i, hj, hi, e⟩
    rw [h9] at hi
    by_cases ej : j = k.toNat
    · rw [if_pos ej] at hi; omega
    · rw [if_neg ej] at hi; exact ⟨j, i, by omega, hi, e⟩
  · rintro ⟨j, i, hj, hi, e⟩
    exact ⟨j, i, by omega, by rw [h9, if_neg (by omega)]; exact hi, e⟩
/-- an item more, of the last kind -/
theorem ip_push {E E1 : Nat → va_E} {m : Nat} {k s l c : Int} (k0 : 0 ≤ k) (hc : tw_el E m 9 k.toNat = c) (c0 : 0 ≤ c) (h9 : ∀ j : Nat, tw_el E1 m 9 j = if j = k.toNat then c + 1 else tw_el E m 9 j) (h10 : ∀ j i : Nat, (j : Int) < k + 1 → rx E1 m 10 j i = if j = k.toNat ∧ i = c.toNat then s else rx E m 10 j i) (h11 : ∀ j i : Nat, (j : Int) < k + 1 → rx E1 m 11 j i = if j = k.toNat ∧ i = c.toNat then l else rx E m 11 j i) : ip_ E1 m (k + 1) = gy_ins (ip_ E m (k + 1)) (s, s + l) := by
  funext x
  apply propext
  constructor
  · rintro ⟨j, i, hj, hi, rfl⟩
    rw [h9] at hi
    rw [h10 j i hj, h11 j i hj]
    by_cases e : j = k.toNat ∧ i = c.toNat
    · rw [if_pos e, if_pos e]; exact Or.inr rfl
    · rw [if_neg e, if_neg e]
      refine Or.inl ⟨j, i, hj, ?_, rfl⟩
      by_cases ej : j = k.toNat
      · rw [if_pos ej] at hi
        rw [ej, hc]
        have : i ≠ c.toNat := fun z => e ⟨ej, z⟩
        omega
      · rw [if_neg ej] at hi; exact hi
  · rintro (⟨j, i, hj, hi, rfl⟩ | rfl)
    · refine ⟨j, i, hj, ?_, ?_⟩
      · rw [h9]
        by_cases ej : j = k.toNat
        · rw [if_pos ej]; rw [ej, hc] at hi; omega
        · rw [if_neg ej]; exact hi
      · have e : ¬ (j = k.toNat ∧ i = c.toNat) := fun z => by rw [z.1, hc] at hi; omega
        rw [h10 j i hj, h11 j i hj, if_neg e, if_neg e]
    · exact ⟨k.toNat, c.toNat, by omega, by rw [h9, if_pos rfl]; omega, by rw [h10 _ _ (by omega), h11 _ _ (by omega), if_pos ⟨rfl, rfl⟩, if_pos ⟨rfl, rfl⟩]⟩
