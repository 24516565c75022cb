/-! what worlds hold, as functions; predicates that are kept along frames -/
def tw_fi (E : Nat → va_E) (a k : Nat) : Int := match tw_fv E a k with
  | .int x => x.toInt
  | _ => 0
def tw_fa (E : Nat → va_E) (a k : Nat) : Nat := match tw_fv E a k with
  | .ref b => b
  | _ => 0
def tw_el (E : Nat → va_E) (a k j : Nat) : Int := (tw_iv E (tw_fa E a k) j).toInt
theorem tw_fi_of {E : Nat → va_E} {a k : Nat} {x : Int32} (h : tw_fv E a k = .int x) : tw_fi E a k = x.toInt := by unfold tw_fi; rw [h]
theorem tw_fa_of {E : Nat → va_E} {a k b : Nat} (h : tw_fv E a k = .ref b) : tw_fa E a k = b := by unfold tw_fa; rw [h]
theorem tw_el_of {E : Nat → va_E} {a k b : Nat} (h : tw_fv E a k = .ref b) (j : Nat) : tw_el E a k j = (tw_iv E b j).toInt := by unfold tw_el; rw [tw_fa_of h]
section TWG
variable {D : va_G} {A : Nat → Prop} {H : Heap} {cs : Nat → ClassId} {kp : Nat → Nat} {L : List Nat} {E E1 : Nat → va_E} {a ci k : Nat} {ms : List (Nat × Nat)} {ks : List Nat}
theorem tw_ra (TH : tw_H D cs kp L E A H) (ha : a ∈ L) (hk : kp a = ci) (hlt : ci < 100) (hN : k < tw_N ci) {kd : Int} (hf : tw_FT ci k = (2, kd, 0)) : ∃ b : Nat, tw_fv E a k = .ref b ∧ b ∈ L ∧ kp b = kd.toNat := by
  obtain ⟨fs, he, hl, ht⟩ := tw_obj TH.2.2 ha hk hlt
  have hlt2 : k < fs.length := by rw [hl]; exact hN
  have hv : fs[k]? = some (fs.getD k .null) := by
    rw [List.getD_eq_getElem?_getD, List.getElem?_eq_getElem hlt2]
    rfl
  have hfv : tw_fv E a k = fs.getD k .null := by unfold tw_fv; rw [he]
  have h := ht k _ hv
  rw [hf] at h
  obtain ⟨b, e1, e2, e3⟩ := h
  exact ⟨b, by rw [hfv]; exact e1, e2, e3⟩
theorem tw_fi_fr (h : tw_fr kp L ms ks E E1) (ha : a ∈ L) (hk : kp a = ci) (h1 : (ci, k) ∉ ms) : tw_fi E1 a k = tw_fi E a k := by
  unfold tw_fi
  rw [h.1 a k ha (by rw [hk]; exact h1)]
theorem tw_fa_fr (h : tw_fr kp L ms ks E E1) (ha : a ∈ L) (hk : kp a = ci) (h1 : (ci, k) ∉ ms) : tw_fa E1 a k = tw_fa E a k := by
  unfold tw_fa
  rw [h.1 a k ha (by rw [hk]; exact h1)]
theorem tw_el_fr (TH : tw_H D cs kp L E1 A H) (h : tw_fr kp L ms ks E E1) (ha : a ∈ L) (hk : kp a = ci) (hlt : ci < 100) (hN : k < tw_N ci) {kd : Int} (hf : tw_FT ci k = (2, kd, 0)) (hge : 100 ≤ kd) (h1 : (ci, k) ∉ ms) (h2 : kd.toNat ∉ ks) (j : Nat) : tw_el E1 a k j = tw_el E a k j := by
  obtain ⟨b, e1, e2, e3⟩ := tw_ra TH ha hk hlt hN hf
  have e4 : tw_fv E a k = .ref b := (h.1 a k ha (by rw [hk]; exact h1)).symm.trans e1
  rw [tw_el_of e1, tw_el_of e4]
  have e5 : E1 b = E b := h.2 b e2 (by rw [e3]; omega) (by rw [e3]; exact h2)
  unfold tw_iv
  rw [e5]
/-- an array's store, as elements of a field see it -/
theorem tw_el_st {t f b : Nat} {i x : Int32} (hf : tw_fv E t f = .ref b) (p2 : ∀ b j : Nat, tw_fv E1 b j = tw_fv E b j) (p3 : ∀ b : Nat, b ≠ a → E1 b = E b) (p4 : ∀ j : Nat, tw_iv E1 a j = if j = i.toNatClampNeg then x else tw_iv E a j) (j : Nat) : tw_el E1 t f j = if b = a ∧ j = i.toNatClampNeg then x.toInt else tw_el E t f j := by
  have hf1 : tw_fv E1 t f = .ref b := (p2 t f).trans hf
  rw [tw_el_of hf1, tw_el_of hf]
  by_cases hb : b = a
  · subst hb
    rw [p4 j]
    by_cases hj : j = i.toNatClampNeg
    · rw [if_pos hj, if_pos ⟨rfl, hj⟩]
    · rw [if_neg hj, if_neg (fun q => hj q.2)]
  · rw [if_neg (fun q => hb q.1)]
    unfold tw_iv
    rw [p3 b hb]
/-- a grammar's rules: names and items lie in order -/
def gm_ok (E : Nat → va_E) (g : Nat) : Prop := ∀ k : Nat, (k : Int) < tw_fi E g 1 → tw_el E g 2 k ≤ tw_el E g 3 k ∧ tw_el E g 5 k ≤ tw_el E g 6 k
theorem gm_ok_fr {g : Nat} (TH : tw_H D cs kp L E1 A H) (h : tw_fr kp L ms ks E E1) (hm : g ∈ L) (hk : kp g = 2) (h1 : ∀ x ∈ [(2, 1), (2, 2), (2, 3), (2, 5), (2, 6)], x ∉ ms) (h2 : ∀ x ∈ [130, 136, 137, 138], x ∉ ks) (q : gm_ok E g) : gm_ok E1 g := by
  intro k hk2
  rw [tw_fi_fr h hm hk (h1 _ (by decide))] at hk2
  rw [tw_el_fr TH h hm hk (k := 2) (by decide) (by decide) (kd := 130) rfl (by decide) (h1 _ (by decide)) (h2 _ (by decide)), tw_el_fr TH h hm hk (k := 3) (by decide) (by decide) (kd := 137) rfl (by decide) (h1 _ (by decide)) (h2 _ (by decide)), tw_el_fr TH h hm hk (k := 5) (by decide) (by decide) (kd := 136) rfl (by decide) (h1 _ (by decide)) (h2 _ (by decide)), tw_el_fr TH h hm hk (k := 6) (by decide) (by decide) (kd := 138) rfl (by decide) (h1 _ (by decide)) (h2 _ (by decide))]
  exact q k hk2
/-- a store beyond the rules -/
theorem gm_ok_st {g : Nat} {i x : Int32} (TH : tw_H D cs kp L E1 A H) (hm : g ∈ L) (hk : kp g = 2) (p2 : ∀ b j : Nat, tw_fv E1 b j = tw_fv E b j) (p3 : ∀ b : Nat, b ≠ a → E1 b = E b) (p4 : ∀ j : Nat, tw_iv E1 a j = if j = i.toNatClampNeg then x else tw_iv E a j) (h0 : 0 ≤ i.toInt) (hi : tw_fi E g 1 ≤ i.toInt) (q : gm_ok E g) : gm_ok E1 g := by
  obtain ⟨b2, e2, -, -⟩ := tw_ra TH hm hk (k := 2) (by decide) (by decide) rfl
  obtain ⟨b3, e3, -, -⟩ := tw_ra TH hm hk (k := 3) (by decide) (by decide) rfl
  obtain ⟨b5, e5, -, -⟩ := tw_ra TH hm hk (k := 5) (by decide) (by decide) rfl
  obtain ⟨b6, e6, -, -⟩ := tw_ra TH hm hk (k := 6) (by decide) (by decide) rfl
  rw [p2] at e2 e3 e5 e6
  have hn : (i.toNatClampNeg : Int) = i.toInt := by show ((i.toInt.toNat : Nat) : Int) = i.toInt; omega
  intro k hk2
  have hf : tw_fi E1 g 1 = tw_fi E g 1 := by unfold tw_fi; rw [p2]
  rw [hf] at hk2
  have hne : ¬ k = i.toNatClampNeg := fun z => by omega
  have r := fun (f b : Nat) (hf : tw_fv E g f = .ref b) => (tw_el_st hf p2 p3 p4 k).trans (if_neg (fun z => hne z.2))
  rw [r 2 b2 e2, r 3 b3 e3, r 5 b5 e5, r 6 b6 e6]
  exact q k hk2
/-- two grammars lie apart -/
def sp_ok (E : Nat → va_E) (g h : Nat) : Prop := g ≠ h ∧ ∀ j ∈ [2, 3, 5, 6], tw_fa E g j ≠ tw_fa E h j
theorem sp_ok.sym {g h : Nat} (q : sp_ok E g h) : sp_ok E h g := ⟨Ne.symm q.1, fun j hj => Ne.symm (q.2 j hj)⟩
theorem sp_ok_fr {g h : Nat} (_ : tw_H D cs kp L E1 A H) (fr : tw_fr kp L ms ks E E1) (hm : g ∈ L) (hk : kp g = 2) (hm2 : h ∈ L) (hk2 : kp h = 2) (h1 : ∀ x ∈ [(2, 2), (2, 3), (2, 5), (2, 6)], x ∉ ms) (_ : ∀ x ∈ ([] : List Nat), x ∉ ks) (q : sp_ok E g h) : sp_ok E1 g h := by
  refine ⟨q.1, fun j hj => ?_⟩
  have hj2 : (2, j) ∉ ms := h1 _ (by simp at hj ⊢; omega)
  rw [tw_fa_fr fr hm hk hj2, tw_fa_fr fr hm2 hk2 hj2]
  exact q.2 j hj
/-- a store into an array of the one leaves the other's rules -/
theorem gm_ok_oth {g h f : Nat} (TH : tw_H D cs kp L E1 A H) (hm : h ∈ L) (hk : kp h = 2) (hka : kp a = (tw_FT 2 f).2.1.toNat) (hf : f ∈ [2, 3, 5, 6]) (ha : tw_fv E g f = .ref a) (p2 : ∀ b j : Nat, tw_fv E1 b j = tw_fv E b j) (p3 : ∀ b : Nat, b ≠ a → E1 b = E b) (sp : sp_ok E g h) (q : gm_ok E h) : gm_ok E1 h := by
  obtain ⟨b2, e2, -, k2⟩ := tw_ra TH hm hk (k := 2) (by decide) (by decide) rfl
  obtain ⟨b3, e3, -, k3⟩ := tw_ra TH hm hk (k := 3) (by decide) (by decide) rfl
  obtain ⟨b5, e5, -, k5⟩ := tw_ra TH hm hk (k := 5) (by decide) (by decide) rfl
  obtain ⟨b6, e6, -, k6⟩ := tw_ra TH hm hk (k := 6) (by decide) (by decide) rfl
  rw [p2] at e2 e3 e5 e6
  have hs := sp.2 f hf
  rw [tw_fa_of ha] at hs
  have n2 : b2 ≠ a := fun z => by
    subst z
    rw [k2] at hka
    rw [show f = 2 from by simp at hf; rcases hf with h | h | h | h <;> subst h <;> simp_all [tw_FT], tw_fa_of e2] at hs
    exact hs rfl
  have n3 : b3 ≠ a := fun z => by
    subst z
    rw [k3] at hka
    rw [show f = 3 from by simp at hf; rcases hf with h | h | h | h <;> subst h <;> simp_all [tw_FT], tw_fa_of e3] at hs
    exact hs rfl
  have n5 : b5 ≠ a := fun z => by
    subst z
    rw [k5] at hka
    rw [show f = 5 from by simp at hf; rcases hf with h | h | h | h <;> subst h <;> simp_all [tw_FT], tw_fa_of e5] at hs
    exact hs rfl
  have n6 : b6 ≠ a := fun z => by
    subst z
    rw [k6] at hka
    rw [show f = 6 from by simp at hf; rcases hf with h | h | h | h <;> subst h <;> simp_all [tw_FT], tw_fa_of e6] at hs
    exact hs rfl
  intro k hk2
  have hfi : tw_fi E1 h 1 = tw_fi E h 1 := by unfold tw_fi; rw [p2]
  rw [hfi] at hk2
  have r := fun (f b : Nat) (hf : tw_fv E h f = .ref b) (hne : b ≠ a) => show tw_el E1 h f k = tw_el E h f k by
    rw [tw_el_of ((p2 h f).trans hf), tw_el_of hf]
    unfold tw_iv
    rw [p3 b hne]
  rw [r 2 b2 e2 n2, r 3 b3 e3 n3, r 5 b5 e5 n5, r 6 b6 e6 n6]
  exact q k hk2
/-- an element that is known -/
def el_is (E : Nat → va_E) (g f : Nat) (i v : Int) : Prop := tw_el E g f i.toNat = v
theorem el_is_cast {g f : Nat} {i j v w : Int} (h : i = j ∧ v = w) (q : el_is E g f i v) : el_is E g f j w := by
  obtain ⟨rfl, rfl⟩ := h
  exact q
theorem el_is_fr {g f : Nat} {kd i v : Int} (TH : tw_H D cs kp L E1 A H) (h : tw_fr kp L ms ks E E1) (hm : g ∈ L) (hk : kp g = 2) (hN : f < tw_N 2) (hf : tw_FT 2 f = (2, kd, 0)) (hge : 100 ≤ kd) (h1 : (2, f) ∉ ms) (h2 : kd.toNat ∉ ks) (q : el_is E g f i v) : el_is E1 g f i v := by
  unfold el_is at q ⊢
  rw [tw_el_fr TH h hm hk (by decide) hN hf hge h1 h2]
  exact q
theorem e2_ok_fr {g : Nat} {i v : Int} (TH : tw_H D cs kp L E1 A H) (h : tw_fr kp L ms ks E E1) (hm : g ∈ L) (hk : kp g = 2) (h1 : (2, 2) ∉ ms) (h2 : 130 ∉ ks) (q : el_is E g 2 i v) : el_is E1 g 2 i v := el_is_fr (kd := 130) TH h hm hk (by decide) rfl (by decide) h1 h2 q
theorem e3_ok_fr {g : Nat} {i v : Int} (TH : tw_H D cs kp L E1 A H) (h : tw_fr kp L ms ks E E1) (hm : g ∈ L) (hk : kp g = 2) (h1 : (2, 3) ∉ ms) (h2 : 137 ∉ ks) (q : el_is E g 3 i v) : el_is E1 g 3 i v := el_is_fr (kd := 137) TH h hm hk (by decide) rfl (by decide) h1 h2 q
theorem e5_ok_fr {g : Nat} {i v : Int} (TH : tw_H D cs kp L E1 A H) (h : tw_fr kp L ms ks E E1) (hm : g ∈ L) (hk : kp g = 2) (h1 : (2, 5) ∉ ms) (h2 : 136 ∉ ks) (q : el_is E g 5 i v) : el_is E1 g 5 i v := el_is_fr (kd := 136) TH h hm hk (by decide) rfl (by decide) h1 h2 q
theorem e6_ok_fr {g : Nat} {i v : Int} (TH : tw_H D cs kp L E1 A H) (h : tw_fr kp L ms ks E E1) (hm : g ∈ L) (hk : kp g = 2) (h1 : (2, 6) ∉ ms) (h2 : 138 ∉ ks) (q : el_is E g 6 i v) : el_is E1 g 6 i v := el_is_fr (kd := 138) TH h hm hk (by decide) rfl (by decide) h1 h2 q
theorem el_is_st {g f : Nat} {i x : Int32} (ha : tw_fv E g f = .ref a) (p2 : ∀ b j : Nat, tw_fv E1 b j = tw_fv E b j) (p3 : ∀ b : Nat, b ≠ a → E1 b = E b) (p4 : ∀ j : Nat, tw_iv E1 a j = if j = i.toNatClampNeg then x else tw_iv E a j) : el_is E1 g f i.toInt x.toInt := by
  unfold el_is
  rw [tw_el_st ha p2 p3 p4, if_pos ⟨rfl, rfl⟩]
/-- one rule more -/
theorem gm_ok_inc {g : Nat} {K s t u v : Int} {z : Int32} (p1 : tw_fv E1 g 1 = .int z) (p2 : ∀ b j : Nat, b ≠ g ∨ j ≠ 1 → tw_fv E1 b j = tw_fv E b j) (p3 : ∀ b : Nat, b ≠ g → E1 b = E b) (TH : tw_H D cs kp L E1 A H) (hm : g ∈ L) (hk : kp g = 2) (hK : tw_fi E g 1 = K) (h0 : 0 ≤ K) (hz : z.toInt = K + 1) (q2 : el_is E g 2 K s) (q3 : el_is E g 3 K t) (hst : s ≤ t) (q5 : el_is E g 5 K u) (q6 : el_is E g 6 K v) (huv : u ≤ v) (q : gm_ok E g) : gm_ok E1 g := by
  have r := fun (f : Nat) (kd : Int) (hN : f < tw_N 2) (hf : tw_FT 2 f = (2, kd, 0)) (hf1 : f ≠ 1) (hge : 100 ≤ kd) (k : Nat) => show tw_el E1 g f k = tw_el E g f k by
    obtain ⟨b, e, -, kb⟩ := tw_ra TH hm hk (k := f) (by decide) hN hf
    have e' := e
    rw [p2 g f (Or.inr hf1)] at e'
    rw [tw_el_of e, tw_el_of e']
    unfold tw_iv
    rw [p3 b (fun z => by rw [z, hk] at kb; omega)]
  intro k hk2
  rw [tw_fi_of p1, hz] at hk2
  rw [r 2 130 (by decide) rfl (by decide) (by decide) k, r 3 137 (by decide) rfl (by decide) (by decide) k, r 5 136 (by decide) rfl (by decide) (by decide) k, r 6 138 (by decide) rfl (by decide) (by decide) k]
  by_cases hkK : (k : Int) < K
  · exact q k (by rw [hK]; exact hkK)
  · have ek : k = K.toNat := by omega
    subst ek
    unfold el_is at q2 q3 q5 q6
    rw [q2, q3, q5, q6]
    exact ⟨hst, huv⟩
theorem gm_ok_zero {g : Nat} {z : Int32} (p1 : tw_fv E g 1 = .int z) (hz : z.toInt ≤ 0) : gm_ok E g := fun k hk => by
  rw [tw_fi_of p1] at hk
  omega
/-- a count of another grammar -/
theorem gm_ok_cnt {g h : Nat} (p2 : ∀ b j : Nat, b ≠ g ∨ j ≠ 1 → tw_fv E1 b j = tw_fv E b j) (p3 : ∀ b : Nat, b ≠ g → E1 b = E b) (TH : tw_H D cs kp L E1 A H) (hk0 : kp g = 2) (hm : h ∈ L) (hk : kp h = 2) (hne : g ≠ h) (q : gm_ok E h) : gm_ok E1 h := by
  have r := fun (f : Nat) (kd : Int) (hN : f < tw_N 2) (hf : tw_FT 2 f = (2, kd, 0)) (hge : 100 ≤ kd) (k : Nat) => show tw_el E1 h f k = tw_el E h f k by
    obtain ⟨b, e, -, kb⟩ := tw_ra TH hm hk (k := f) (by decide) hN hf
    have e' := e
    rw [p2 h f (Or.inl (Ne.symm hne))] at e'
    rw [tw_el_of e, tw_el_of e']
    unfold tw_iv
    rw [p3 b (fun z => by rw [z, hk0] at kb; omega)]
  intro k hk2
  have hfi : tw_fi E1 h 1 = tw_fi E h 1 := by unfold tw_fi; rw [p2 h 1 (Or.inl (Ne.symm hne))]
  rw [hfi] at hk2
  rw [r 2 130 (by decide) rfl (by decide) k, r 3 137 (by decide) rfl (by decide) k, r 5 136 (by decide) rfl (by decide) k, r 6 138 (by decide) rfl (by decide) k]
  exact q k hk2
/-- the rules of the object -/
def gz_ok (E : Nat → va_E) (t : Nat) : Prop := gm_ok E (tw_fa E t 1)
theorem gz_ok_fr {t : Nat} (TH : tw_H D cs kp L E1 A H) (h : tw_fr kp L ms ks E E1) (hm : t ∈ L) (hk : kp t = 11) (h1 : ∀ x ∈ [(11, 1), (2, 1), (2, 2), (2, 3), (2, 5), (2, 6)], x ∉ ms) (h2 : ∀ x ∈ [130, 136, 137, 138], x ∉ ks) (q : gz_ok E t) : gz_ok E1 t := by
  unfold gz_ok at q ⊢
  obtain ⟨b, e1, e2, e3⟩ := tw_ra TH hm hk (k := 1) (by decide) (by decide) rfl
  have e4 := tw_fa_fr h hm hk (k := 1) (h1 _ (by decide))
  rw [← e4] at q
  rw [tw_fa_of e1] at q ⊢
  exact gm_ok_fr TH h e2 e3 (fun x hx => h1 x (List.mem_cons_of_mem _ hx)) h2 q
/-- of the first n nodes of a tree: they lie no deeper than their places say, behind their parents -/
def dp_ok (E : Nat → va_E) (t : Nat) (n : Int) : Prop := ∀ j : Nat, (j : Int) < n → tw_el E t 4 j ≤ j + 1 ∧ tw_el E t 3 j < j
theorem dp_ok_cast {t : Nat} {n m : Int} (h : n = m) (q : dp_ok E t n) : dp_ok E t m := h ▸ q
theorem dp_ok_zero {t : Nat} {n : Int} (h : n ≤ 0) : dp_ok E t n := fun j hj => absurd hj (by omega)
theorem dp_ok_fr {t : Nat} {n : Int} (TH : tw_H D cs kp L E1 A H) (h : tw_fr kp L ms ks E E1) (hm : t ∈ L) (hk : kp t = 10) (h1 : ∀ x ∈ [(10, 3), (10, 4)], x ∉ ms) (h2 : ∀ x ∈ [112, 113], x ∉ ks) (q : dp_ok E t n) : dp_ok E1 t n := by
  intro j hj
  rw [tw_el_fr TH h hm hk (k := 4) (by decide) (by decide) (kd := 113) rfl (by decide) (h1 _ (by decide)) (h2 _ (by decide)), tw_el_fr TH h hm hk (k := 3) (by decide) (by decide) (kd := 112) rfl (by decide) (h1 _ (by decide)) (h2 _ (by decide))]
  exact q j hj
theorem dp_ok_dst {t : Nat} {n : Int} {i x : Int32} (TH : tw_H D cs kp L E1 A H) (hm : t ∈ L) (hk : kp t = 10) (hka : kp a = 113) (p2 : ∀ b j : Nat, tw_fv E1 b j = tw_fv E b j) (p3 : ∀ b : Nat, b ≠ a → E1 b = E b) (p4 : ∀ j : Nat, tw_iv E1 a j = if j = i.toNatClampNeg then x else tw_iv E a j) (hx : x.toInt ≤ 1) (q : dp_ok E t n) : dp_ok E1 t n := by
  obtain ⟨b3, e3, -, k3⟩ := tw_ra TH hm hk (k := 3) (by decide) (by decide) rfl
  obtain ⟨b4, e4, -, k4⟩ := tw_ra TH hm hk (k := 4) (by decide) (by decide) rfl
  rw [p2] at e3 e4
  intro j hj
  obtain ⟨q1, q2⟩ := q j hj
  rw [tw_el_st e3 p2 p3 p4, tw_el_st e4 p2 p3 p4]
  have hne : ¬ (b3 = a ∧ j = i.toNatClampNeg) := by
    intro z
    rw [z.1, hka] at k3
    exact absurd k3 (by decide)
  rw [if_neg hne]
  refine ⟨?_, q2⟩
  split
  · omega
  · exact q1
def tp_is (E : Nat → va_E) (t : Nat) (i v : Int) : Prop := tw_el E t 3 i.toNat = v
theorem tp_is_fr {t : Nat} {i v : Int} (TH : tw_H D cs kp L E1 A H) (h : tw_fr kp L ms ks E E1) (hm : t ∈ L) (hk : kp t = 10) (h1 : ∀ x ∈ [(10, 3)], x ∉ ms) (h2 : ∀ x ∈ [112], x ∉ ks) (q : tp_is E t i v) : tp_is E1 t i v := by
  unfold tp_is at q ⊢
  rw [tw_el_fr TH h hm hk (by decide) (by decide) (kd := 112) rfl (by decide) (h1 _ (by decide)) (h2 _ (by decide))]
  exact q
theorem ia_tn {i : Int32} (h : 0 ≤ i.toInt) : (i.toNatClampNeg : Int) = i.toInt := by
  show ((i.toInt.toNat : Nat) : Int) = i.toInt
  omega
theorem dp_ok_tst {t : Nat} {n : Int} {i x : Int32} (hm : t ∈ L) (hk : kp t = 10) (hka : kp a = 112) (ht : tw_fv E t 3 = .ref a) (TH : tw_H D cs kp L E1 A H) (p2 : ∀ b j : Nat, tw_fv E1 b j = tw_fv E b j) (p3 : ∀ b : Nat, b ≠ a → E1 b = E b) (p4 : ∀ j : Nat, tw_iv E1 a j = if j = i.toNatClampNeg then x else tw_iv E a j) (h0 : 0 ≤ i.toInt) (hi : n ≤ i.toInt) (q : dp_ok E t n) : dp_ok E1 t n ∧ tp_is E1 t i.toInt x.toInt := by
  obtain ⟨b4, e4, -, k4⟩ := tw_ra TH hm hk (k := 4) (by decide) (by decide) rfl
  rw [p2] at e4
  have hn := ia_tn h0
  constructor
  · intro j hj
    obtain ⟨q1, q2⟩ := q j hj
    rw [tw_el_st ht p2 p3 p4, tw_el_st e4 p2 p3 p4]
    rw [if_neg (fun z => by omega), if_neg (fun z => by omega)]
    exact ⟨q1, q2⟩
  · unfold tp_is
    rw [tw_el_st ht p2 p3 p4, if_pos ⟨rfl, by show i.toInt.toNat = i.toNatClampNeg; omega⟩]
theorem dp_ok_push {t : Nat} {n v : Int} {i x : Int32} (hm : t ∈ L) (hk : kp t = 10) (hka : kp a = 113) (ht : tw_fv E t 4 = .ref a) (TH : tw_H D cs kp L E1 A H) (p2 : ∀ b j : Nat, tw_fv E1 b j = tw_fv E b j) (p3 : ∀ b : Nat, b ≠ a → E1 b = E b) (p4 : ∀ j : Nat, tw_iv E1 a j = if j = i.toNatClampNeg then x else tw_iv E a j) (h0 : 0 ≤ i.toInt) (hi : i.toInt = n) (hx : x.toInt ≤ n + 1) (hv : v < n) (tp : tp_is E t i.toInt v) (q : dp_ok E t n) : dp_ok E1 t (n + 1) := by
  obtain ⟨b3, e3, -, k3⟩ := tw_ra TH hm hk (k := 3) (by decide) (by decide) rfl
  rw [p2] at e3
  have hn := ia_tn h0
  have hne : b3 ≠ a := fun z => by
    rw [z, hka] at k3
    exact absurd k3 (by decide)
  intro j hj
  have r3 := tw_el_st e3 p2 p3 p4 j
  rw [if_neg (fun z => hne z.1)] at r3
  have r4 := tw_el_st ht p2 p3 p4 j
  rw [r3, r4]
  by_cases hjn : (j : Int) < n
  · obtain ⟨q1, q2⟩ := q j hjn
    rw [if_neg (fun z => by omega)]
    exact ⟨q1, q2⟩
  · have ej : j = i.toInt.toNat := by omega
    unfold tp_is at tp
    rw [← ej] at tp
    rw [if_pos ⟨rfl, by omega⟩]
    omega
/-- how many nodes a tree from a node on has -/
def xt_is (E : Nat → va_E) (t : Nat) (i n : Int) : Prop := 1 ≤ n ∧ (∀ k : Nat, i < k → (k : Int) < i + n → (k : Int) < tw_fi E t 0 ∧ tw_el E t 4 i.toNat < tw_el E t 4 k) ∧ ¬ (i + n < tw_fi E t 0 ∧ tw_el E t 4 i.toNat < tw_el E t 4 (i + n).toNat)
theorem xt_is_one {t : Nat} {i n m : Int} (hi : 0 ≤ i) (h1 : xt_is E t i n) (h2 : xt_is E t i m) : n = m := by
  rcases Int.lt_trichotomy n m with h | h | h
  · have z := h2.2.1 (i + n).toNat (by have := h1.1; omega) (by have := h1.1; omega)
    refine absurd ⟨?_, z.2⟩ h1.2.2
    have := z.1
    have := h1.1
    omega
  · exact h
  · have z := h1.2.1 (i + m).toNat (by have := h2.1; omega) (by have := h2.1; omega)
    refine absurd ⟨?_, z.2⟩ h2.2.2
    have := z.1
    have := h2.1
    omega
/-- parents lie ahead, by their places -/
def up_ok (E : Nat → va_E) (t : Nat) (n : Int) : Prop := ∀ j : Nat, (j : Int) < n → tw_el E t 2 j < j
theorem up_ok_cast {t : Nat} {n m : Int} (h : n = m) (q : up_ok E t n) : up_ok E t m := h ▸ q
theorem up_ok_zero {t : Nat} {n : Int} (h : n ≤ 0) : up_ok E t n := fun j hj => absurd hj (by omega)
theorem up_ok_fr {t : Nat} {n : Int} (TH : tw_H D cs kp L E1 A H) (h : tw_fr kp L ms ks E E1) (hm : t ∈ L) (hk : kp t = 10) (h1 : ∀ x ∈ [(10, 2)], x ∉ ms) (h2 : ∀ x ∈ [111], x ∉ ks) (q : up_ok E t n) : up_ok E1 t n := by
  intro j hj
  rw [tw_el_fr TH h hm hk (k := 2) (by decide) (by decide) (kd := 111) rfl (by decide) (h1 _ (by decide)) (h2 _ (by decide))]
  exact q j hj
theorem up_ok_push {t : Nat} {n : Int} {i x : Int32} (ht : tw_fv E t 2 = .ref a) (p2 : ∀ b j : Nat, tw_fv E1 b j = tw_fv E b j) (p3 : ∀ b : Nat, b ≠ a → E1 b = E b) (p4 : ∀ j : Nat, tw_iv E1 a j = if j = i.toNatClampNeg then x else tw_iv E a j) (h0 : 0 ≤ i.toInt) (hi : i.toInt = n) (hx : x.toInt < n) (q : up_ok E t n) : up_ok E1 t (n + 1) := by
  have hn : (i.toNatClampNeg : Int) = i.toInt := by show ((i.toInt.toNat : Nat) : Int) = i.toInt; omega
  intro j hj
  rw [tw_el_st ht p2 p3 p4 j]
  split
  · omega
  · rename_i hne
    exact q j (by
      have : ¬ j = i.toNatClampNeg := fun z => hne ⟨rfl, z⟩
      omega)
/-- both grammars of the object lie apart -/
def ss_ok (E : Nat → va_E) (t : Nat) : Prop := sp_ok E (tw_fa E t 2) (tw_fa E t 1)
theorem ss_ok_fr {t : Nat} (TH : tw_H D cs kp L E1 A H) (h : tw_fr kp L ms ks E E1) (hm : t ∈ L) (hk : kp t = 11) (h1 : ∀ x ∈ [(11, 1), (11, 2), (2, 2), (2, 3), (2, 5), (2, 6)], x ∉ ms) (h2 : ∀ x ∈ ([] : List Nat), x ∉ ks) (q : ss_ok E t) : ss_ok E1 t := by
  unfold ss_ok at q ⊢
  obtain ⟨b1, e1, m1, k1⟩ := tw_ra TH hm hk (k := 1) (by decide) (by decide) rfl
  obtain ⟨b2, e2, m2, k2⟩ := tw_ra TH hm hk (k := 2) (by decide) (by decide) rfl
  rw [← tw_fa_fr h hm hk (k := 1) (h1 _ (by decide)), ← tw_fa_fr h hm hk (k := 2) (h1 _ (by decide)), tw_fa_of e1, tw_fa_of e2] at q
  rw [tw_fa_of e1, tw_fa_of e2]
  exact sp_ok_fr TH h m2 k2 m1 k1 (fun x hx => h1 x (List.mem_cons_of_mem _ (List.mem_cons_of_mem _ hx))) h2 q
end TWG
theorem tp_is_cast {E : Nat → va_E} {t : Nat} {i j v : Int} (h : i = j) (q : tp_is E t i v) : tp_is E t j v := h ▸ q
theorem tp_is_st {E E1 : Nat → va_E} {t a : Nat} {i x : Int32} (ht : tw_fv E t 3 = .ref a) (p2 : ∀ b j : Nat, tw_fv E1 b j = tw_fv E b j) (p3 : ∀ b : Nat, b ≠ a → E1 b = E b) (p4 : ∀ j : Nat, tw_iv E1 a j = if j = i.toNatClampNeg then x else tw_iv E a j) : tp_is E1 t i.toInt x.toInt := by
  unfold tp_is
  rw [tw_el_st ht p2 p3 p4, if_pos ⟨rfl, rfl⟩]
theorem gz_ok_of {E : Nat → va_E} {t g : Nat} (h : tw_fv E t 1 = .ref g) (q : gm_ok E g) : gz_ok E t := by
  unfold gz_ok
  rw [tw_fa_of h]
  exact q
theorem ss_ok_of {E : Nat → va_E} {t g h : Nat} (h2 : tw_fv E t 2 = .ref g) (h1 : tw_fv E t 1 = .ref h) (q : sp_ok E g h) : ss_ok E t := by
  unfold ss_ok
  rw [tw_fa_of h2, tw_fa_of h1]
  exact q
