/-! matching: what the trial of all pairs keeps -/
def pt_ok (E : Nat → va_E) (m : Nat) : Prop := tw_el E m 46 0 = 0 ∧ ∀ j : Nat, 1 ≤ j → (j : Int) < tw_fi E m 50 → tw_el E m 46 j ≠ 0
def bt_ok (E : Nat → va_E) (m : Nat) : Prop := tw_el E m 48 0 = 0 ∧ ∀ j : Nat, 1 ≤ j → (j : Int) < tw_fi E m 50 → tw_el E m 48 j ≠ 0
def bc_ok (E : Nat → va_E) (m : Nat) : Prop := tw_fi E m 51 ≠ -1 → bt_ok E m
def cb_ok (E : Nat → va_E) (m : Nat) (k : Int) : Prop := ∀ j : Nat, (j : Int) < k → tw_el E m 48 j = tw_el E m 46 j
def n46_ok (E : Nat → va_E) (m : Nat) (k : Int) : Prop := ∀ j : Nat, (j : Int) < k → tw_el E m 46 j = -1
def n47_ok (E : Nat → va_E) (m : Nat) (k : Int) : Prop := ∀ j : Nat, (j : Int) < k → tw_el E m 47 j = -1
def pk_ok (E : Nat → va_E) (m : Nat) (k : Int) : Prop := (∀ b : Nat, (b : Int) < tw_fi E m 28 → tw_el E m 47 b = -1 ∨ (0 ≤ tw_el E m 47 b ∧ tw_el E m 47 b < k ∧ tw_el E m 48 (tw_el E m 47 b).toNat = b)) ∧ (∀ j : Nat, (j : Int) < k → tw_el E m 46 j = tw_el E m 48 j) ∧ (1 ≤ k → tw_el E m 47 0 = 0)
def pka_ok (E : Nat → va_E) (m : Nat) (k : Int) : Prop := (∀ b : Nat, (b : Int) < tw_fi E m 28 → tw_el E m 47 b = -1 ∨ (0 ≤ tw_el E m 47 b ∧ tw_el E m 47 b < k ∧ tw_el E m 48 (tw_el E m 47 b).toNat = b)) ∧ (∀ j : Nat, (j : Int) < k + 1 → tw_el E m 46 j = tw_el E m 48 j) ∧ (1 ≤ k → tw_el E m 47 0 = 0)
theorem cb_ok_cast {E : Nat → va_E} {m : Nat} {k k1 : Int} (h : k = k1) (q : cb_ok E m k) : cb_ok E m k1 := h ▸ q
theorem n46_ok_cast {E : Nat → va_E} {m : Nat} {k k1 : Int} (h : k = k1) (q : n46_ok E m k) : n46_ok E m k1 := h ▸ q
theorem n47_ok_cast {E : Nat → va_E} {m : Nat} {k k1 : Int} (h : k = k1) (q : n47_ok E m k) : n47_ok E m k1 := h ▸ q
theorem pk_ok_cast {E : Nat → va_E} {m : Nat} {k k1 : Int} (h : k = k1) (q : pk_ok E m k) : pk_ok E m k1 := h ▸ q
section MTF
variable {D : va_G} {A : Nat → Prop} {H : Heap} {cs : Nat → ClassId} {kp : Nat → Nat} {L : List Nat} {E E1 : Nat → va_E} {ms : List (Nat × Nat)} {ks : List Nat} {m : Nat} {k : Int}
theorem pt_ok_fr (TH : tw_H D cs kp L E1 A H) (h : tw_fr kp L ms ks E E1) (hm : m ∈ L) (hk : kp m = 12) (h1 : ∀ x ∈ [(12, 46), (12, 50)], x ∉ ms) (h2 : ∀ x ∈ [355], x ∉ ks) (q : pt_ok E m) : pt_ok E1 m := by
  unfold pt_ok
  rw [tw_fi_fr h hm hk (h1 (12, 50) (by decide)), el_fr TH h hm hk (k := 46) (by decide) rfl (by decide) (h1 _ (by decide)) (h2 _ (by decide))]
  exact q
theorem bt_ok_fr (TH : tw_H D cs kp L E1 A H) (h : tw_fr kp L ms ks E E1) (hm : m ∈ L) (hk : kp m = 12) (h1 : ∀ x ∈ [(12, 48), (12, 50)], x ∉ ms) (h2 : ∀ x ∈ [357], x ∉ ks) (q : bt_ok E m) : bt_ok E1 m := by
  unfold bt_ok
  rw [tw_fi_fr h hm hk (h1 (12, 50) (by decide)), el_fr TH h hm hk (k := 48) (by decide) rfl (by decide) (h1 _ (by decide)) (h2 _ (by decide))]
  exact q
theorem bc_ok_fr (TH : tw_H D cs kp L E1 A H) (h : tw_fr kp L ms ks E E1) (hm : m ∈ L) (hk : kp m = 12) (h1 : ∀ x ∈ [(12, 48), (12, 50), (12, 51)], x ∉ ms) (h2 : ∀ x ∈ [357], x ∉ ks) (q : bc_ok E m) : bc_ok E1 m := by
  unfold bc_ok bt_ok
  rw [tw_fi_fr h hm hk (h1 (12, 50) (by decide)), tw_fi_fr h hm hk (h1 (12, 51) (by decide)), el_fr TH h hm hk (k := 48) (by decide) rfl (by decide) (h1 _ (by decide)) (h2 _ (by decide))]
  exact q
theorem cb_ok_fr (TH : tw_H D cs kp L E1 A H) (h : tw_fr kp L ms ks E E1) (hm : m ∈ L) (hk : kp m = 12) (h1 : ∀ x ∈ [(12, 46), (12, 48)], x ∉ ms) (h2 : ∀ x ∈ [355, 357], x ∉ ks) (q : cb_ok E m k) : cb_ok E1 m k := by
  unfold cb_ok
  rw [el_fr TH h hm hk (k := 46) (by decide) rfl (by decide) (h1 _ (by decide)) (h2 _ (by decide)), el_fr TH h hm hk (k := 48) (by decide) rfl (by decide) (h1 _ (by decide)) (h2 _ (by decide))]
  exact q
theorem n46_ok_fr (TH : tw_H D cs kp L E1 A H) (h : tw_fr kp L ms ks E E1) (hm : m ∈ L) (hk : kp m = 12) (h1 : ∀ x ∈ [(12, 46)], x ∉ ms) (h2 : ∀ x ∈ [355], x ∉ ks) (q : n46_ok E m k) : n46_ok E1 m k := by
  unfold n46_ok
  rw [el_fr TH h hm hk (k := 46) (by decide) rfl (by decide) (h1 _ (by decide)) (h2 _ (by decide))]
  exact q
theorem n47_ok_fr (TH : tw_H D cs kp L E1 A H) (h : tw_fr kp L ms ks E E1) (hm : m ∈ L) (hk : kp m = 12) (h1 : ∀ x ∈ [(12, 47)], x ∉ ms) (h2 : ∀ x ∈ [356], x ∉ ks) (q : n47_ok E m k) : n47_ok E1 m k := by
  unfold n47_ok
  rw [el_fr TH h hm hk (k := 47) (by decide) rfl (by decide) (h1 _ (by decide)) (h2 _ (by decide))]
  exact q
theorem pk_ok_fr (TH : tw_H D cs kp L E1 A H) (h : tw_fr kp L ms ks E E1) (hm : m ∈ L) (hk : kp m = 12) (h1 : ∀ x ∈ [(12, 28), (12, 46), (12, 47), (12, 48)], x ∉ ms) (h2 : ∀ x ∈ [355, 356, 357], x ∉ ks) (q : pk_ok E m k) : pk_ok E1 m k := by
  unfold pk_ok
  rw [tw_fi_fr h hm hk (h1 (12, 28) (by decide)), el_fr TH h hm hk (k := 46) (by decide) rfl (by decide) (h1 _ (by decide)) (h2 _ (by decide)), el_fr TH h hm hk (k := 47) (by decide) rfl (by decide) (h1 _ (by decide)) (h2 _ (by decide)), el_fr TH h hm hk (k := 48) (by decide) rfl (by decide) (h1 _ (by decide)) (h2 _ (by decide))]
  exact q
theorem pka_ok_fr (TH : tw_H D cs kp L E1 A H) (h : tw_fr kp L ms ks E E1) (hm : m ∈ L) (hk : kp m = 12) (h1 : ∀ x ∈ [(12, 28), (12, 46), (12, 47), (12, 48)], x ∉ ms) (h2 : ∀ x ∈ [355, 356, 357], x ∉ ks) (q : pka_ok E m k) : pka_ok E1 m k := by
  unfold pka_ok
  rw [tw_fi_fr h hm hk (h1 (12, 28) (by decide)), el_fr TH h hm hk (k := 46) (by decide) rfl (by decide) (h1 _ (by decide)) (h2 _ (by decide)), el_fr TH h hm hk (k := 47) (by decide) rfl (by decide) (h1 _ (by decide)) (h2 _ (by decide)), el_fr TH h hm hk (k := 48) (by decide) rfl (by decide) (h1 _ (by decide)) (h2 _ (by decide))]
  exact q
end MTF
theorem pt_set {E E1 : Nat → va_E} {m : Nat} {a b : Int} (q : pt_ok E m) (a0 : 1 ≤ a) (b0 : b ≠ 0) (h46 : ∀ j : Nat, tw_el E1 m 46 j = if j = a.toNat then b else tw_el E m 46 j) (h50 : tw_fi E1 m 50 = tw_fi E m 50) : pt_ok E1 m := by
  refine ⟨by rw [h46, if_neg (by omega)]; exact q.1, fun j j0 j1 => ?_⟩
  rw [h46]
  split
  · exact b0
  · exact q.2 j j0 (by rw [← h50]; exact j1)
theorem cb_push {E E1 : Nat → va_E} {m : Nat} {k x k1 : Int} (q : cb_ok E m k) (k0 : 0 ≤ k) (hk : k1 = k + 1) (hx : tw_el E m 46 k.toNat = x) (h46 : ∀ j : Nat, tw_el E1 m 46 j = tw_el E m 46 j) (h48 : ∀ j : Nat, tw_el E1 m 48 j = if j = k.toNat then x else tw_el E m 48 j) : cb_ok E1 m k1 := fun j hj => by
  rw [h46, h48]
  by_cases e : j = k.toNat
  · rw [if_pos e, e, hx]
  · rw [if_neg e]
    exact q j (by omega)
theorem bt_of {E : Nat → va_E} {m : Nat} {k : Int} (q : cb_ok E m k) (p : pt_ok E m) (hk : tw_fi E m 50 = k) (k0 : 1 ≤ k) : bt_ok E m := ⟨(q 0 (by omega)).trans p.1, fun j j0 j1 => by rw [q j (by omega)]; exact p.2 j j0 j1⟩
theorem n46_push {E E1 : Nat → va_E} {m : Nat} {k k1 : Int} (q : n46_ok E m k) (hk : k1 = k + 1) (h : ∀ j : Nat, tw_el E1 m 46 j = if j = k.toNat then -1 else tw_el E m 46 j) : n46_ok E1 m k1 := fun j hj => by
  rw [h]
  split
  · rfl
  · exact q j (by omega)
theorem n47_push {E E1 : Nat → va_E} {m : Nat} {k k1 : Int} (q : n47_ok E m k) (hk : k1 = k + 1) (h : ∀ j : Nat, tw_el E1 m 47 j = if j = k.toNat then -1 else tw_el E m 47 j) : n47_ok E1 m k1 := fun j hj => by
  rw [h]
  split
  · rfl
  · exact q j (by omega)
/-- the roots are a pair, nothing else is -/
theorem pp_start {E E1 : Nat → va_E} {m : Nat} (qa : n46_ok E m (tw_fi E m 50)) (qb : n47_ok E m (tw_fi E m 28)) (h46 : ∀ j : Nat, tw_el E1 m 46 j = if j = 0 then 0 else tw_el E m 46 j) (h47 : ∀ j : Nat, tw_el E1 m 47 j = if j = 0 then 0 else tw_el E m 47 j) (h28 : tw_fi E1 m 28 = tw_fi E m 28) (h50 : tw_fi E1 m 50 = tw_fi E m 50) (hs : 1 ≤ tw_fi E m 50) : pi_ok E1 m ∧ pt_ok E1 m := by
  refine ⟨⟨by rw [h47, if_pos rfl], fun b hb => ?_⟩, by rw [h46, if_pos rfl], fun j j0 j1 => ?_⟩
  · rw [h28] at hb
    rw [h47, h50]
    by_cases e : b = 0
    · rw [if_pos e, e]
      exact Or.inr ⟨Int.le_refl 0, by omega, by rw [show (0 : Int).toNat = 0 from rfl, h46, if_pos rfl]; rfl⟩
    · rw [if_neg e]
      exact Or.inl (qb b hb)
  · rw [h46, if_neg (by omega), qa j (by omega)]
    omega
theorem pk_zero {E : Nat → va_E} {m : Nat} {k : Int} (q : n47_ok E m (tw_fi E m 28)) (hk : k = 0) : pk_ok E m k := ⟨fun b hb => Or.inl (q b hb), fun j hj => absurd hj (by omega), fun z => absurd z (by omega)⟩
theorem pk_a {E E1 : Nat → va_E} {m : Nat} {k x : Int} (q : pk_ok E m k) (k0 : 0 ≤ k) (hx : tw_el E m 48 k.toNat = x) (h46 : ∀ j : Nat, tw_el E1 m 46 j = if j = k.toNat then x else tw_el E m 46 j) (h47 : ∀ j : Nat, tw_el E1 m 47 j = tw_el E m 47 j) (h48 : ∀ j : Nat, tw_el E1 m 48 j = tw_el E m 48 j) (h28 : tw_fi E1 m 28 = tw_fi E m 28) : pka_ok E1 m k := by
  have e47 : tw_el E1 m 47 = tw_el E m 47 := funext h47
  have e48 : tw_el E1 m 48 = tw_el E m 48 := funext h48
  unfold pka_ok
  rw [e47, e48, h28]
  refine ⟨q.1, fun j hj => ?_, q.2.2⟩
  rw [h46]
  by_cases e : j = k.toNat
  · rw [if_pos e, e, hx]
  · rw [if_neg e]
    exact q.2.1 j (by omega)
theorem pk_b {E E1 : Nat → va_E} {m : Nat} {k x k1 : Int} (q : pka_ok E m k) (bt : bt_ok E1 m) (h50 : tw_fi E1 m 50 = tw_fi E m 50) (hs : k < tw_fi E m 50) (k0 : 0 ≤ k) (hk : k1 = k + 1) (x0 : 0 ≤ x) (hx : tw_el E m 48 k.toNat = x) (h46 : ∀ j : Nat, tw_el E1 m 46 j = tw_el E m 46 j) (h47 : ∀ j : Nat, tw_el E1 m 47 j = if j = x.toNat then k else tw_el E m 47 j) (h48 : ∀ j : Nat, tw_el E1 m 48 j = tw_el E m 48 j) (h28 : tw_fi E1 m 28 = tw_fi E m 28) : pk_ok E1 m k1 := by
  have e46 : tw_el E1 m 46 = tw_el E m 46 := funext h46
  have e48 : tw_el E1 m 48 = tw_el E m 48 := funext h48
  have bt : bt_ok E m := by
    unfold bt_ok at bt ⊢
    rw [e48, h50] at bt
    exact bt
  subst hk
  unfold pk_ok
  rw [e46, e48, h28]
  refine ⟨fun b hb => ?_, q.2.1, fun _ => ?_⟩
  · rw [h47]
    by_cases e : b = x.toNat
    · rw [if_pos e]
      exact Or.inr ⟨k0, by omega, by rw [hx]; omega⟩
    · rw [if_neg e]
      rcases q.1 b hb with z | ⟨z0, z1, z2⟩
      · exact Or.inl z
      · exact Or.inr ⟨z0, by omega, z2⟩
  · rw [h47]
    by_cases e : k = 0
    · have hz : tw_el E m 48 0 = 0 := bt.1
      rw [show k.toNat = 0 by omega, hz] at hx
      rw [if_pos (by omega)]
      exact e
    · have hz := bt.2 k.toNat (by omega) (by omega)
      rw [hx] at hz
      rw [if_neg (by omega)]
      exact q.2.2 (by omega)
theorem pk_c {E : Nat → va_E} {m : Nat} {k k1 : Int} (q : pka_ok E m k) (bt : bt_ok E m) (k0 : 0 ≤ k) (hk : k1 = k + 1) (hx : tw_el E m 48 k.toNat = -1) : pk_ok E m k1 := by
  subst hk
  refine ⟨fun b hb => ?_, q.2.1, fun _ => q.2.2 ?_⟩
  · rcases q.1 b hb with z | ⟨z0, z1, z2⟩
    · exact Or.inl z
    · exact Or.inr ⟨z0, by omega, z2⟩
  · by_cases e : k = 0
    · rw [show k.toNat = 0 by omega, bt.1] at hx
      omega
    · omega
theorem pk_done {E : Nat → va_E} {m : Nat} {k : Int} (q : pk_ok E m k) (hk : tw_fi E m 50 = k) (k0 : 1 ≤ k) : pi_ok E m := by
  refine ⟨q.2.2 k0, fun b hb => ?_⟩
  rcases q.1 b hb with z | ⟨z0, z1, z2⟩
  · exact Or.inl z
  · exact Or.inr ⟨z0, by omega, by rw [q.2.1 _ (by omega)]; exact z2⟩
theorem ls_pos {E : Nat → va_E} {m : Nat} {i : Int} (q : ls_ok E m i) : 1 ≤ tw_fi E m 50 := by
  obtain ⟨top, k, h50, -⟩ := q
  omega
theorem ls_ok_cast {E : Nat → va_E} {m : Nat} {i j : Int} (h : i = j) (q : ls_ok E m i) : ls_ok E m j := h ▸ q
