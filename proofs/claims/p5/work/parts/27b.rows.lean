/-! rows of the reference: who is there, parents, places -/
def rw_h (E : Nat → va_E) (m : Nat) (i : Int) : Nat → Int := fun n => (tw_iv E (tw_rf E (tw_fa E m 16) i.toNat) n).toInt
def rw_p (E : Nat → va_E) (m : Nat) (i : Int) : Nat → Int := fun n => (tw_iv E (tw_rf E (tw_fa E m 18) i.toNat) n).toInt
def rw_q (E : Nat → va_E) (m : Nat) (i : Int) : Nat → Int := fun n => (tw_iv E (tw_rf E (tw_fa E m 19) i.toNat) n).toInt
theorem rw_h_of {E : Nat → va_E} {m o xr : Nat} {i c x : Int32} (h : tw_fv E m 16 = .ref o) (er : tw_rf E o i.toNatClampNeg = xr) (ev : tw_iv E xr c.toNatClampNeg = x) : rw_h E m i.toInt c.toInt.toNat = x.toInt := by
  show (tw_iv E (tw_rf E (tw_fa E m 16) i.toNatClampNeg) c.toNatClampNeg).toInt = _
  rw [tw_fa_of h, er, ev]
theorem rw_p_of {E : Nat → va_E} {m o xr : Nat} {i c x : Int32} (h : tw_fv E m 18 = .ref o) (er : tw_rf E o i.toNatClampNeg = xr) (ev : tw_iv E xr c.toNatClampNeg = x) : rw_p E m i.toInt c.toInt.toNat = x.toInt := by
  show (tw_iv E (tw_rf E (tw_fa E m 18) i.toNatClampNeg) c.toNatClampNeg).toInt = _
  rw [tw_fa_of h, er, ev]
theorem rw_q_of {E : Nat → va_E} {m o xr : Nat} {i c x : Int32} (h : tw_fv E m 19 = .ref o) (er : tw_rf E o i.toNatClampNeg = xr) (ev : tw_iv E xr c.toNatClampNeg = x) : rw_q E m i.toInt c.toInt.toNat = x.toInt := by
  show (tw_iv E (tw_rf E (tw_fa E m 19) i.toNatClampNeg) c.toNatClampNeg).toInt = _
  rw [tw_fa_of h, er, ev]
/-- a row is a tree: parents are there, the way up ends, there is one outermost node -/
def rw_ok (E : Nat → va_E) (m : Nat) (i : Int) : Prop := rt_T1 (rw_h E m i) (rw_p E m i) ∧ rt_T2 (rw_h E m i) (rw_p E m i) ∧ rt_T3 (rw_h E m i) (rw_p E m i)
theorem rw_ok_cast {E : Nat → va_E} {m : Nat} {i j : Int} (h : i = j) (q : rw_ok E m i) : rw_ok E m j := h ▸ q
/-- a node of a row -/
def nd_is (E : Nat → va_E) (m : Nat) (i n : Int) : Prop := 0 ≤ n ∧ n < 150 ∧ rw_h E m i n.toNat ≠ 0
theorem ht_h {E : Nat → va_E} {m n : Nat} (q : ht_ok E m) (h1 : 24 ≤ n) (h2 : n < 150) : rw_h E m 15 n = 0 := by
  have := q n h1 h2
  show (tw_iv E (tw_rf E (tw_fa E m 16) 15) n).toInt = 0
  rw [this]
  decide
theorem ht_le {E : Nat → va_E} {m : Nat} {i c : Int} (q : ht_ok E m) (h0 : 0 ≤ c) (h1 : c < 150) (h2 : rw_h E m i c.toNat ≠ 0) (hi : i = 15) : c ≤ 23 := by
  rcases Int.lt_or_le 23 c with h | h
  · subst hi
    exact absurd (ht_h q (n := c.toNat) (by omega) (by omega)) h2
  · exact h
/-- parents are there -/
def t1_ok (E : Nat → va_E) (m : Nat) (i : Int) : Prop := rt_T1 (rw_h E m i) (rw_p E m i)
theorem t1_ok_cast {E : Nat → va_E} {m : Nat} {i j : Int} (h : i = j) (q : t1_ok E m i) : t1_ok E m j := h ▸ q
theorem t1_le {E : Nat → va_E} {m : Nat} {i n x : Int} (t : t1_ok E m i) (q : ht_ok E m) (h0 : 0 ≤ n) (h1 : n < 150) (h2 : rw_h E m i n.toNat ≠ 0) (e : rw_p E m i n.toNat = x) (hx : x ≠ -1) (hi : i = 15) : x ≤ 23 := by
  rcases t n.toNat (by omega) h2 with z | ⟨a, b, c⟩
  · exact absurd (e.symm.trans z) hx
  · rw [e] at a b c
    exact ht_le q a b c hi
section RWF
variable {D : va_G} {A : Nat → Prop} {H : Heap} {cs : Nat → ClassId} {kp : Nat → Nat} {L : List Nat} {E E1 : Nat → va_E} {ms : List (Nat × Nat)} {ks : List Nat} {m : Nat}
theorem rw_h_fr (TH : tw_H D cs kp L E1 A H) (h : tw_fr kp L ms ks E E1) (hm : m ∈ L) (hk : kp m = 12) (h1 : (12, 16) ∉ ms) (h2 : 316 ∉ ks) (h3 : 326 ∉ ks) {i : Int} (hi : i.toNat < 16) : rw_h E1 m i = rw_h E m i := by
  have r := tw_rf_fr TH h hm hk (k := 16) (by decide) (by decide) (kd := 316) rfl (by decide) h1 h2 i.toNat
  obtain ⟨w1, w2⟩ := tw_rw TH hm hk (k := 16) (i := i.toNat) (by decide) (by decide) (kd := 316) rfl (by decide) (t0 := 5) (n := 16) (rk := 326) (hi := 0) rfl hi
  have e5 := h.2 _ w1 (by rw [w2]; decide) (by rw [w2]; exact h3)
  funext n
  show (tw_iv E1 (tw_rf E1 (tw_fa E1 m 16) i.toNat) n).toInt = (tw_iv E (tw_rf E (tw_fa E m 16) i.toNat) n).toInt
  rw [← r]
  unfold tw_iv
  rw [e5]
theorem rw_p_fr (TH : tw_H D cs kp L E1 A H) (h : tw_fr kp L ms ks E E1) (hm : m ∈ L) (hk : kp m = 12) (h1 : (12, 18) ∉ ms) (h2 : 318 ∉ ks) (h3 : 328 ∉ ks) {i : Int} (hi : i.toNat < 16) : rw_p E1 m i = rw_p E m i := by
  have r := tw_rf_fr TH h hm hk (k := 18) (by decide) (by decide) (kd := 318) rfl (by decide) h1 h2 i.toNat
  obtain ⟨w1, w2⟩ := tw_rw TH hm hk (k := 18) (i := i.toNat) (by decide) (by decide) (kd := 318) rfl (by decide) (t0 := 4) (n := 16) (rk := 328) (hi := 0) rfl hi
  have e5 := h.2 _ w1 (by rw [w2]; decide) (by rw [w2]; exact h3)
  funext n
  show (tw_iv E1 (tw_rf E1 (tw_fa E1 m 18) i.toNat) n).toInt = (tw_iv E (tw_rf E (tw_fa E m 18) i.toNat) n).toInt
  rw [← r]
  unfold tw_iv
  rw [e5]
theorem rw_q_fr (TH : tw_H D cs kp L E1 A H) (h : tw_fr kp L ms ks E E1) (hm : m ∈ L) (hk : kp m = 12) (h1 : (12, 19) ∉ ms) (h2 : 319 ∉ ks) (h3 : 329 ∉ ks) {i : Int} (hi : i.toNat < 16) : rw_q E1 m i = rw_q E m i := by
  have r := tw_rf_fr TH h hm hk (k := 19) (by decide) (by decide) (kd := 319) rfl (by decide) h1 h2 i.toNat
  obtain ⟨w1, w2⟩ := tw_rw TH hm hk (k := 19) (i := i.toNat) (by decide) (by decide) (kd := 319) rfl (by decide) (t0 := 4) (n := 16) (rk := 329) (hi := 0) rfl hi
  have e5 := h.2 _ w1 (by rw [w2]; decide) (by rw [w2]; exact h3)
  funext n
  show (tw_iv E1 (tw_rf E1 (tw_fa E1 m 19) i.toNat) n).toInt = (tw_iv E (tw_rf E (tw_fa E m 19) i.toNat) n).toInt
  rw [← r]
  unfold tw_iv
  rw [e5]
theorem t1_ok_fr {i : Int} (TH : tw_H D cs kp L E1 A H) (h : tw_fr kp L ms ks E E1) (hm : m ∈ L) (hk : kp m = 12) (h1 : ∀ x ∈ [(12, 16), (12, 18)], x ∉ ms) (h2 : ∀ x ∈ [316, 318, 326, 328], x ∉ ks) (hi : i.toNat < 16) (q : t1_ok E m i) : t1_ok E1 m i := by
  unfold t1_ok at q ⊢
  rw [rw_h_fr TH h hm hk (h1 _ (by decide)) (h2 _ (by decide)) (h2 _ (by decide)) hi, rw_p_fr TH h hm hk (h1 _ (by decide)) (h2 _ (by decide)) (h2 _ (by decide)) hi]
  exact q
theorem rw_ok_fr {i : Int} (TH : tw_H D cs kp L E1 A H) (h : tw_fr kp L ms ks E E1) (hm : m ∈ L) (hk : kp m = 12) (h1 : ∀ x ∈ [(12, 16), (12, 18)], x ∉ ms) (h2 : ∀ x ∈ [316, 318, 326, 328], x ∉ ks) (hi : i.toNat < 16) (q : rw_ok E m i) : rw_ok E1 m i := by
  unfold rw_ok at q ⊢
  rw [rw_h_fr TH h hm hk (h1 _ (by decide)) (h2 _ (by decide)) (h2 _ (by decide)) hi, rw_p_fr TH h hm hk (h1 _ (by decide)) (h2 _ (by decide)) (h2 _ (by decide)) hi]
  exact q
end RWF
/-! stores into rows -/
section RWS
variable {kp : Nat → Nat} {E E1 : Nat → va_E} {m o a : Nat} {i c x : Int32}
theorem tw_rf_keep {b : Nat} (hne : b ≠ a) (p3 : ∀ b : Nat, b ≠ a → E1 b = E b) (k : Nat) : tw_rf E1 b k = tw_rf E b k := by
  unfold tw_rf
  rw [p3 b hne]
theorem rw_h_st (ho : tw_fv E m 16 = .ref o) (er : tw_rf E o i.toNatClampNeg = a) (hko : kp o = 316) (hka : kp a = 326) (p2 : ∀ b j : Nat, tw_fv E1 b j = tw_fv E b j) (p3 : ∀ b : Nat, b ≠ a → E1 b = E b) (p4 : ∀ j : Nat, tw_iv E1 a j = if j = c.toNatClampNeg then x else tw_iv E a j) (n : Nat) : rw_h E1 m i.toInt n = if n = c.toInt.toNat then x.toInt else rw_h E m i.toInt n := by
  have hne : o ≠ a := fun z => by rw [z, hka] at hko; exact absurd hko (by decide)
  show (tw_iv E1 (tw_rf E1 (tw_fa E1 m 16) i.toNatClampNeg) n).toInt = if n = c.toNatClampNeg then x.toInt else (tw_iv E (tw_rf E (tw_fa E m 16) i.toNatClampNeg) n).toInt
  rw [tw_fa_of ((p2 m 16).trans ho), tw_fa_of ho, tw_rf_keep hne p3, er, p4]
  split <;> rfl
theorem rw_p_st (ho : tw_fv E m 18 = .ref o) (er : tw_rf E o i.toNatClampNeg = a) (hko : kp o = 318) (hka : kp a = 328) (p2 : ∀ b j : Nat, tw_fv E1 b j = tw_fv E b j) (p3 : ∀ b : Nat, b ≠ a → E1 b = E b) (p4 : ∀ j : Nat, tw_iv E1 a j = if j = c.toNatClampNeg then x else tw_iv E a j) (n : Nat) : rw_p E1 m i.toInt n = if n = c.toInt.toNat then x.toInt else rw_p E m i.toInt n := by
  have hne : o ≠ a := fun z => by rw [z, hka] at hko; exact absurd hko (by decide)
  show (tw_iv E1 (tw_rf E1 (tw_fa E1 m 18) i.toNatClampNeg) n).toInt = if n = c.toNatClampNeg then x.toInt else (tw_iv E (tw_rf E (tw_fa E m 18) i.toNatClampNeg) n).toInt
  rw [tw_fa_of ((p2 m 18).trans ho), tw_fa_of ho, tw_rf_keep hne p3, er, p4]
  split <;> rfl
theorem rw_q_st (ho : tw_fv E m 19 = .ref o) (er : tw_rf E o i.toNatClampNeg = a) (hko : kp o = 319) (hka : kp a = 329) (p2 : ∀ b j : Nat, tw_fv E1 b j = tw_fv E b j) (p3 : ∀ b : Nat, b ≠ a → E1 b = E b) (p4 : ∀ j : Nat, tw_iv E1 a j = if j = c.toNatClampNeg then x else tw_iv E a j) (n : Nat) : rw_q E1 m i.toInt n = if n = c.toInt.toNat then x.toInt else rw_q E m i.toInt n := by
  have hne : o ≠ a := fun z => by rw [z, hka] at hko; exact absurd hko (by decide)
  show (tw_iv E1 (tw_rf E1 (tw_fa E1 m 19) i.toNatClampNeg) n).toInt = if n = c.toNatClampNeg then x.toInt else (tw_iv E (tw_rf E (tw_fa E m 19) i.toNatClampNeg) n).toInt
  rw [tw_fa_of ((p2 m 19).trans ho), tw_fa_of ho, tw_rf_keep hne p3, er, p4]
  split <;> rfl
/-- rows lie apart -/
def rd_ok (E : Nat → va_E) (m : Nat) : Prop := ∀ f ∈ [16, 18], ∀ i j : Nat, i < 16 → j < 16 → tw_rf E (tw_fa E m f) i = tw_rf E (tw_fa E m f) j → i = j
theorem rw_h_oth {j : Int} (rd : rd_ok E m) (ho : tw_fv E m 16 = .ref o) (er : tw_rf E o i.toNatClampNeg = a) (hko : kp o = 316) (hka : kp a = 326) (p2 : ∀ b j : Nat, tw_fv E1 b j = tw_fv E b j) (p3 : ∀ b : Nat, b ≠ a → E1 b = E b) (hi : i.toNatClampNeg < 16) (hj : j.toNat < 16) (hij : j.toNat ≠ i.toNatClampNeg) : rw_h E1 m j = rw_h E m j := by
  have hne : o ≠ a := fun z => by rw [z, hka] at hko; exact absurd hko (by decide)
  funext n
  show (tw_iv E1 (tw_rf E1 (tw_fa E1 m 16) j.toNat) n).toInt = (tw_iv E (tw_rf E (tw_fa E m 16) j.toNat) n).toInt
  have hr := fun z => hij (rd 16 (by decide) j.toNat i.toNatClampNeg hj hi z)
  rw [tw_fa_of ho] at hr
  rw [tw_fa_of ((p2 m 16).trans ho), tw_fa_of ho, tw_rf_keep hne p3]
  unfold tw_iv
  rw [p3 _ (fun z => hr (z.trans er.symm))]
theorem rw_p_oth {j : Int} (rd : rd_ok E m) (ho : tw_fv E m 18 = .ref o) (er : tw_rf E o i.toNatClampNeg = a) (hko : kp o = 318) (hka : kp a = 328) (p2 : ∀ b j : Nat, tw_fv E1 b j = tw_fv E b j) (p3 : ∀ b : Nat, b ≠ a → E1 b = E b) (hi : i.toNatClampNeg < 16) (hj : j.toNat < 16) (hij : j.toNat ≠ i.toNatClampNeg) : rw_p E1 m j = rw_p E m j := by
  have hne : o ≠ a := fun z => by rw [z, hka] at hko; exact absurd hko (by decide)
  funext n
  show (tw_iv E1 (tw_rf E1 (tw_fa E1 m 18) j.toNat) n).toInt = (tw_iv E (tw_rf E (tw_fa E m 18) j.toNat) n).toInt
  have hr := fun z => hij (rd 18 (by decide) j.toNat i.toNatClampNeg hj hi z)
  rw [tw_fa_of ho] at hr
  rw [tw_fa_of ((p2 m 18).trans ho), tw_fa_of ho, tw_rf_keep hne p3]
  unfold tw_iv
  rw [p3 _ (fun z => hr (z.trans er.symm))]
end RWS
/-- a row that is an edition's: a tree that is not empty, not too large, of numbers that were given -/
def row_ok (E : Nat → va_E) (m : Nat) (i : Int) : Prop := rw_ok E m i ∧ (∃ r : Int, 0 ≤ r ∧ r < 150 ∧ rw_h E m i r.toNat ≠ 0 ∧ rw_p E m i r.toNat = -1) ∧ rt_size (rw_h E m i) ≤ 40 ∧ ∀ c : Nat, c < 150 → rw_h E m i c ≠ 0 → (c : Int) < tw_fi E m 26
theorem row_ok_cast {E : Nat → va_E} {m : Nat} {i j : Int} (h : i = j) (q : row_ok E m i) : row_ok E m j := h ▸ q
theorem row_ok_same {E E1 : Nat → va_E} {m : Nat} {i : Int} (eh : rw_h E1 m i = rw_h E m i) (ep : rw_p E1 m i = rw_p E m i) (en : tw_fi E m 26 ≤ tw_fi E1 m 26) (q : row_ok E m i) : row_ok E1 m i := by
  unfold row_ok rw_ok at q ⊢
  rw [eh, ep]
  exact ⟨q.1, q.2.1, q.2.2.1, fun c hc hx => Int.lt_of_lt_of_le (q.2.2.2 c hc hx) en⟩
/-- all editions -/
def eo_ok (E : Nat → va_E) (m : Nat) : Prop := ∀ i : Int, 0 ≤ i → i < tw_fi E m 27 → row_ok E m i
section RWG
variable {D : va_G} {A : Nat → Prop} {H : Heap} {cs : Nat → ClassId} {kp : Nat → Nat} {L : List Nat} {E E1 : Nat → va_E} {ms : List (Nat × Nat)} {ks : List Nat} {m : Nat}
theorem rd_ok_fr (TH : tw_H D cs kp L E1 A H) (h : tw_fr kp L ms ks E E1) (hm : m ∈ L) (hk : kp m = 12) (h1 : ∀ x ∈ [(12, 16), (12, 18)], x ∉ ms) (h2 : ∀ x ∈ [316, 318], x ∉ ks) (q : rd_ok E m) : rd_ok E1 m := by
  intro f hf i j hi hj e
  have hf2 : f = 16 ∨ f = 18 := by simpa using hf
  rcases hf2 with rfl | rfl
  · rw [tw_rf_fr TH h hm hk (k := 16) (by decide) (by decide) (kd := 316) rfl (by decide) (h1 _ (by decide)) (h2 _ (by decide)), tw_rf_fr TH h hm hk (k := 16) (by decide) (by decide) (kd := 316) rfl (by decide) (h1 _ (by decide)) (h2 _ (by decide))] at e
    exact q 16 (by decide) i j hi hj e
  · rw [tw_rf_fr TH h hm hk (k := 18) (by decide) (by decide) (kd := 318) rfl (by decide) (h1 _ (by decide)) (h2 _ (by decide)), tw_rf_fr TH h hm hk (k := 18) (by decide) (by decide) (kd := 318) rfl (by decide) (h1 _ (by decide)) (h2 _ (by decide))] at e
    exact q 18 (by decide) i j hi hj e
theorem row_ok_fr {i : Int} (TH : tw_H D cs kp L E1 A H) (h : tw_fr kp L ms ks E E1) (hm : m ∈ L) (hk : kp m = 12) (h1 : ∀ x ∈ [(12, 16), (12, 18), (12, 26)], x ∉ ms) (h2 : ∀ x ∈ [316, 318, 326, 328], x ∉ ks) (hi : i.toNat < 16) (q : row_ok E m i) : row_ok E1 m i :=
  row_ok_same (rw_h_fr TH h hm hk (h1 _ (by decide)) (h2 _ (by decide)) (h2 _ (by decide)) hi) (rw_p_fr TH h hm hk (h1 _ (by decide)) (h2 _ (by decide)) (h2 _ (by decide)) hi) (Int.le_of_eq (tw_fi_fr h hm hk (h1 _ (by decide))).symm) q
theorem tw_fi_ed (TH : tw_H D cs kp L E A H) (hm : m ∈ L) (hk : kp m = 12) : tw_fi E m 27 ≤ 12 := by
  obtain ⟨x, e, -, h⟩ := tw_rd TH hm hk (by decide) (by decide) (k := 27) rfl
  rw [tw_fi_of e]
  exact h
theorem eo_ok_fr (TH : tw_H D cs kp L E1 A H) (h : tw_fr kp L ms ks E E1) (hm : m ∈ L) (hk : kp m = 12) (h1 : ∀ x ∈ [(12, 16), (12, 18), (12, 26), (12, 27)], x ∉ ms) (h2 : ∀ x ∈ [316, 318, 326, 328], x ∉ ks) (q : eo_ok E m) : eo_ok E1 m := by
  intro i h0 h3
  have hb := tw_fi_ed TH hm hk
  rw [tw_fi_fr h hm hk (h1 _ (by decide))] at h3 hb
  exact row_ok_fr TH h hm hk (fun x hx => h1 x ((by decide : ∀ y ∈ ([(12, 16), (12, 18), (12, 26)] : List (Nat × Nat)), y ∈ ([(12, 16), (12, 18), (12, 26), (12, 27)] : List (Nat × Nat))) x hx)) h2 (by omega) (q i h0 h3)
/-- a store into a row that is no edition's -/
theorem eo_ok_h {o a : Nat} {i : Int32} (TH : tw_H D cs kp L E1 A H) (hm : m ∈ L) (hk : kp m = 12) (rd : rd_ok E m) (ho : tw_fv E m 16 = .ref o) (er : tw_rf E o i.toNatClampNeg = a) (hko : kp o = 316) (hka : kp a = 326) (p2 : ∀ b j : Nat, tw_fv E1 b j = tw_fv E b j) (p3 : ∀ b : Nat, b ≠ a → E1 b = E b) (hi0 : 0 ≤ i.toInt) (hi : i.toInt < 16) (he : tw_fi E1 m 27 ≤ i.toInt) (q : eo_ok E m) : eo_ok E1 m := by
  intro j h0 h3
  have hb := tw_fi_ed TH hm hk
  have hfi : ∀ k : Nat, tw_fi E1 m k = tw_fi E m k := fun k => by unfold tw_fi; rw [p2]
  rw [hfi] at h3 hb he
  have hn := ia_tn hi0
  refine row_ok_same (rw_h_oth rd ho er hko hka p2 p3 (by omega) (by omega) (by omega)) ?_ (Int.le_of_eq (hfi 26).symm) (q j h0 h3)
  obtain ⟨b, e1, -, e3⟩ := tw_ra TH hm hk (k := 18) (by decide) (by decide) rfl
  obtain ⟨w1, w2⟩ := tw_rw TH hm hk (k := 18) (i := j.toNat) (by decide) (by decide) (kd := 318) rfl (by decide) (t0 := 4) (n := 16) (rk := 328) (hi := 0) rfl (by omega)
  funext n
  show (tw_iv E1 (tw_rf E1 (tw_fa E1 m 18) j.toNat) n).toInt = (tw_iv E (tw_rf E (tw_fa E m 18) j.toNat) n).toInt
  have hr : tw_rf E1 (tw_fa E1 m 18) j.toNat ≠ a := fun z => by rw [z, hka] at w2; exact absurd w2 (by decide)
  have e1' : tw_fv E m 18 = .ref b := (p2 m 18).symm.trans e1
  have hb2 : b ≠ a := fun z => by rw [z, hka] at e3; exact absurd e3 (by decide)
  rw [tw_fa_of e1] at hr ⊢
  rw [tw_fa_of e1', ← tw_rf_keep hb2 p3]
  unfold tw_iv
  rw [p3 _ hr]
theorem eo_ok_p {o a : Nat} {i : Int32} (TH : tw_H D cs kp L E1 A H) (hm : m ∈ L) (hk : kp m = 12) (rd : rd_ok E m) (ho : tw_fv E m 18 = .ref o) (er : tw_rf E o i.toNatClampNeg = a) (hko : kp o = 318) (hka : kp a = 328) (p2 : ∀ b j : Nat, tw_fv E1 b j = tw_fv E b j) (p3 : ∀ b : Nat, b ≠ a → E1 b = E b) (hi0 : 0 ≤ i.toInt) (hi : i.toInt < 16) (he : tw_fi E1 m 27 ≤ i.toInt) (q : eo_ok E m) : eo_ok E1 m := by
  intro j h0 h3
  have hb := tw_fi_ed TH hm hk
  have hfi : ∀ k : Nat, tw_fi E1 m k = tw_fi E m k := fun k => by unfold tw_fi; rw [p2]
  rw [hfi] at h3 hb he
  have hn := ia_tn hi0
  refine row_ok_same ?_ (rw_p_oth rd ho er hko hka p2 p3 (by omega) (by omega) (by omega)) (Int.le_of_eq (hfi 26).symm) (q j h0 h3)
  obtain ⟨b, e1, -, e3⟩ := tw_ra TH hm hk (k := 16) (by decide) (by decide) rfl
  obtain ⟨w1, w2⟩ := tw_rw TH hm hk (k := 16) (i := j.toNat) (by decide) (by decide) (kd := 316) rfl (by decide) (t0 := 5) (n := 16) (rk := 326) (hi := 0) rfl (by omega)
  funext n
  show (tw_iv E1 (tw_rf E1 (tw_fa E1 m 16) j.toNat) n).toInt = (tw_iv E (tw_rf E (tw_fa E m 16) j.toNat) n).toInt
  have hr : tw_rf E1 (tw_fa E1 m 16) j.toNat ≠ a := fun z => by rw [z, hka] at w2; exact absurd w2 (by decide)
  have e1' : tw_fv E m 16 = .ref b := (p2 m 16).symm.trans e1
  have hb2 : b ≠ a := fun z => by rw [z, hka] at e3; exact absurd e3 (by decide)
  rw [tw_fa_of e1] at hr ⊢
  rw [tw_fa_of e1', ← tw_rf_keep hb2 p3]
  unfold tw_iv
  rw [p3 _ hr]
/-- row 15 and a store into another row -/
theorem ht_ok_h {o a : Nat} {i : Int32} (rd : rd_ok E m) (ho : tw_fv E m 16 = .ref o) (er : tw_rf E o i.toNatClampNeg = a) (hko : kp o = 316) (hka : kp a = 326) (p2 : ∀ b j : Nat, tw_fv E1 b j = tw_fv E b j) (p3 : ∀ b : Nat, b ≠ a → E1 b = E b) (hi0 : 0 ≤ i.toInt) (hi : i.toInt < 15) (q : ht_ok E m) : ht_ok E1 m := by
  have hn := ia_tn hi0
  have hne : o ≠ a := fun z => by rw [z, hka] at hko; exact absurd hko (by decide)
  have hr := fun z => (show (15 : Nat) ≠ i.toNatClampNeg by omega) (rd 16 (by decide) 15 i.toNatClampNeg (by decide) (by omega) z)
  rw [tw_fa_of ho] at hr
  intro n a1 b1
  have := q n a1 b1
  rw [tw_fa_of ho] at this
  rw [tw_fa_of ((p2 m 16).trans ho), tw_rf_keep hne p3]
  unfold tw_iv at this ⊢
  rw [p3 _ (fun z => hr (z.trans er.symm))]
  exact this
end RWG
/-- the draft's row, before n is laid under u; and when n is there again, but not yet under u -/
def lyw_ok (E : Nat → va_E) (m : Nat) (n u : Int) : Prop := ly_ok (rw_h E m 12) (rw_p E m 12) n u
def lyx_ok (E : Nat → va_E) (m : Nat) (n u : Int) : Prop := ly1_ok (rw_h E m 12) (rw_p E m 12) n u
theorem lyw_ok_cast {E : Nat → va_E} {m : Nat} {n u n1 u1 : Int} (h : n = n1 ∧ u = u1) (q : lyw_ok E m n u) : lyw_ok E m n1 u1 := by
  obtain ⟨rfl, rfl⟩ := h
  exact q
section RWH
variable {D : va_G} {A : Nat → Prop} {H : Heap} {cs : Nat → ClassId} {kp : Nat → Nat} {L : List Nat} {E E1 : Nat → va_E} {ms : List (Nat × Nat)} {ks : List Nat} {m : Nat}
theorem lyw_ok_fr {n u : Int} (TH : tw_H D cs kp L E1 A H) (h : tw_fr kp L ms ks E E1) (hm : m ∈ L) (hk : kp m = 12) (h1 : ∀ x ∈ [(12, 16), (12, 18)], x ∉ ms) (h2 : ∀ x ∈ [316, 318, 326, 328], x ∉ ks) (q : lyw_ok E m n u) : lyw_ok E1 m n u := by
  unfold lyw_ok at q ⊢
  rw [rw_h_fr TH h hm hk (h1 _ (by decide)) (h2 _ (by decide)) (h2 _ (by decide)) (i := 12) (by decide), rw_p_fr TH h hm hk (h1 _ (by decide)) (h2 _ (by decide)) (h2 _ (by decide)) (i := 12) (by decide)]
  exact q
theorem lyx_ok_fr {n u : Int} (TH : tw_H D cs kp L E1 A H) (h : tw_fr kp L ms ks E E1) (hm : m ∈ L) (hk : kp m = 12) (h1 : ∀ x ∈ [(12, 16), (12, 18)], x ∉ ms) (h2 : ∀ x ∈ [316, 318, 326, 328], x ∉ ks) (q : lyx_ok E m n u) : lyx_ok E1 m n u := by
  unfold lyx_ok at q ⊢
  rw [rw_h_fr TH h hm hk (h1 _ (by decide)) (h2 _ (by decide)) (h2 _ (by decide)) (i := 12) (by decide), rw_p_fr TH h hm hk (h1 _ (by decide)) (h2 _ (by decide)) (h2 _ (by decide)) (i := 12) (by decide)]
  exact q
/-- n is there -/
theorem lyx_of {n u : Int} (q : lyw_ok E m n u) (hh : ∀ c : Nat, rw_h E1 m 12 c = if c = n.toNat then 1 else rw_h E m 12 c) (ep : rw_p E1 m 12 = rw_p E m 12) : lyx_ok E1 m n u := by
  unfold lyx_ok
  rw [ep]
  exact ⟨rw_h E m 12, q, hh⟩
/-- n is under u -/
theorem rw_of_lyx {n u : Int} (q : lyx_ok E m n u) (eh : rw_h E1 m 12 = rw_h E m 12) (hp : ∀ c : Nat, rw_p E1 m 12 c = if c = n.toNat then u else rw_p E m 12 c) : rw_ok E1 m 12 := by
  obtain ⟨h0, l, hh⟩ := q
  unfold rw_ok
  rw [eh]
  exact ly_put l hh hp
/-- a store into one row of has leaves the parents, and the other way round -/
theorem rw_p_hst {a : Nat} {i : Int} (TH : tw_H D cs kp L E1 A H) (hm : m ∈ L) (hk : kp m = 12) (hka : kp a = 326) (p2 : ∀ b j : Nat, tw_fv E1 b j = tw_fv E b j) (p3 : ∀ b : Nat, b ≠ a → E1 b = E b) (hi : i.toNat < 16) : rw_p E1 m i = rw_p E m i :=
  rw_p_fr TH (tw_fr.ast (ms := []) (ks := [326]) (k := 326) tw_fr.rf (fun _ => hka) p2 p3 (by decide)) hm hk (by decide) (by decide) (by decide) hi
theorem rw_h_pst {a : Nat} {i : Int} (TH : tw_H D cs kp L E1 A H) (hm : m ∈ L) (hk : kp m = 12) (hka : kp a = 328) (p2 : ∀ b j : Nat, tw_fv E1 b j = tw_fv E b j) (p3 : ∀ b : Nat, b ≠ a → E1 b = E b) (hi : i.toNat < 16) : rw_h E1 m i = rw_h E m i :=
  rw_h_fr TH (tw_fr.ast (ms := []) (ks := [328]) (k := 328) tw_fr.rf (fun _ => hka) p2 p3 (by decide)) hm hk (by decide) (by decide) (by decide) hi
end RWH
/-- the draft, if there is one -/
def dr_ok (E : Nat → va_E) (m : Nat) : Prop := tw_fi E m 29 = 1 → row_ok E m 12
section RWI
variable {D : va_G} {A : Nat → Prop} {H : Heap} {cs : Nat → ClassId} {kp : Nat → Nat} {L : List Nat} {E E1 : Nat → va_E} {ms : List (Nat × Nat)} {ks : List Nat} {m : Nat}
theorem dr_ok_fr (TH : tw_H D cs kp L E1 A H) (h : tw_fr kp L ms ks E E1) (hm : m ∈ L) (hk : kp m = 12) (h1 : ∀ x ∈ [(12, 16), (12, 18), (12, 26), (12, 29)], x ∉ ms) (h2 : ∀ x ∈ [316, 318, 326, 328], x ∉ ks) (q : dr_ok E m) : dr_ok E1 m := fun hd => by
  rw [tw_fi_fr h hm hk (h1 _ (by decide))] at hd
  exact row_ok_fr TH h hm hk (fun x hx => h1 x ((by decide : ∀ y ∈ ([(12, 16), (12, 18), (12, 26)] : List (Nat × Nat)), y ∈ ([(12, 16), (12, 18), (12, 26), (12, 29)] : List (Nat × Nat))) x hx)) h2 (by decide) (q hd)
theorem rt_size_le {h h1 : Nat → Int} (hh : ∀ c : Nat, h1 c ≠ 0 → h c ≠ 0) : rt_size h1 ≤ rt_size h := rt_cnt_le (fun i _ hp => by
  simp only [decide_eq_true_eq] at hp ⊢
  exact hh i hp)
theorem row_take {n : Int} (n0 : 0 ≤ n) (q : row_ok E m 12) (hh : ∀ c : Nat, rw_h E1 m 12 c = if c = n.toNat then 0 else rw_h E m 12 c) (ep : rw_p E1 m 12 = rw_p E m 12) (en : tw_fi E1 m 26 = tw_fi E m 26) (nk : nk_inv (rw_h E m 12) (rw_p E m 12) n 150) (hp : rw_p E m 12 n.toNat ≠ -1) : row_ok E1 m 12 := by
  have old : ∀ c : Nat, rw_h E1 m 12 c ≠ 0 → rw_h E m 12 c ≠ 0 := fun c hc => by
    have := hh c
    split at this
    · exact absurd this hc
    · exact this ▸ hc
  obtain ⟨⟨t1, t2, t3⟩, ⟨r, r0, r1, r2, r3⟩, q3, q4⟩ := q
  refine ⟨?_, ⟨r, r0, r1, ?_, by rw [ep]; exact r3⟩, Nat.le_trans (rt_size_le old) q3, fun c hc hx => by rw [en]; exact q4 c hc (old c hx)⟩
  · unfold rw_ok
    rw [ep]
    exact rt_take hh (fun c hc hk => nk c hc ⟨hk.2.1, by rw [hk.2.2]; omega⟩) t1 t2 t3
  · rw [hh, if_neg (fun z => hp (by rw [← z]; exact r3))]
    exact r2
end RWI
/-- the draft's row as functions -/
def h12_ok (E : Nat → va_E) (m : Nat) (f : Nat → Int) : Prop := rw_h E m 12 = f
def p12_ok (E : Nat → va_E) (m : Nat) (f : Nat → Int) : Prop := rw_p E m 12 = f
section RWJ
variable {D : va_G} {A : Nat → Prop} {H : Heap} {cs : Nat → ClassId} {kp : Nat → Nat} {L : List Nat} {E E1 : Nat → va_E} {ms : List (Nat × Nat)} {ks : List Nat} {m : Nat}
theorem h12_ok_fr {f : Nat → Int} (TH : tw_H D cs kp L E1 A H) (h : tw_fr kp L ms ks E E1) (hm : m ∈ L) (hk : kp m = 12) (h1 : ∀ x ∈ [(12, 16)], x ∉ ms) (h2 : ∀ x ∈ [316, 326], x ∉ ks) (q : h12_ok E m f) : h12_ok E1 m f := (rw_h_fr TH h hm hk (h1 _ (by decide)) (h2 _ (by decide)) (h2 _ (by decide)) (i := 12) (by decide)).trans q
theorem p12_ok_fr {f : Nat → Int} (TH : tw_H D cs kp L E1 A H) (h : tw_fr kp L ms ks E E1) (hm : m ∈ L) (hk : kp m = 12) (h1 : ∀ x ∈ [(12, 18)], x ∉ ms) (h2 : ∀ x ∈ [318, 328], x ∉ ks) (q : p12_ok E m f) : p12_ok E1 m f := (rw_p_fr TH h hm hk (h1 _ (by decide)) (h2 _ (by decide)) (h2 _ (by decide)) (i := 12) (by decide)).trans q
theorem h12_st {f : Nat → Int} {n : Nat} {x : Int} (q : h12_ok E m f) (hh : ∀ c : Nat, rw_h E1 m 12 c = if c = n then x else rw_h E m 12 c) : h12_ok E1 m (fun c => if c = n then x else f c) := by
  funext c
  rw [hh c, show rw_h E m 12 = f from q]
theorem p12_st {f : Nat → Int} {n : Nat} {x : Int} (q : p12_ok E m f) (hh : ∀ c : Nat, rw_p E1 m 12 c = if c = n then x else rw_p E m 12 c) : p12_ok E1 m (fun c => if c = n then x else f c) := by
  funext c
  rw [hh c, show rw_p E m 12 = f from q]
/-- numbers have been given -/
theorem eo_ok_more (TH : tw_H D cs kp L E1 A H) (h : tw_fr kp L ms ks E E1) (hm : m ∈ L) (hk : kp m = 12) (h1 : ∀ x ∈ [(12, 16), (12, 18), (12, 27)], x ∉ ms) (h2 : ∀ x ∈ [316, 318, 326, 328], x ∉ ks) (en : tw_fi E m 26 ≤ tw_fi E1 m 26) (q : eo_ok E m) : eo_ok E1 m := by
  intro i h0 h3
  have hb := tw_fi_ed TH hm hk
  rw [tw_fi_fr h hm hk (h1 _ (by decide))] at h3 hb
  exact row_ok_same (rw_h_fr TH h hm hk (h1 _ (by decide)) (h2 _ (by decide)) (h2 _ (by decide)) (by omega)) (rw_p_fr TH h hm hk (h1 _ (by decide)) (h2 _ (by decide)) (h2 _ (by decide)) (by omega)) en (q i h0 h3)
theorem dr_ok_more (TH : tw_H D cs kp L E1 A H) (h : tw_fr kp L ms ks E E1) (hm : m ∈ L) (hk : kp m = 12) (h1 : ∀ x ∈ [(12, 16), (12, 18), (12, 29)], x ∉ ms) (h2 : ∀ x ∈ [316, 318, 326, 328], x ∉ ks) (en : tw_fi E m 26 ≤ tw_fi E1 m 26) (q : dr_ok E m) : dr_ok E1 m := fun hd => by
  rw [tw_fi_fr h hm hk (h1 _ (by decide))] at hd
  exact row_ok_same (rw_h_fr TH h hm hk (h1 _ (by decide)) (h2 _ (by decide)) (h2 _ (by decide)) (by decide)) (rw_p_fr TH h hm hk (h1 _ (by decide)) (h2 _ (by decide)) (h2 _ (by decide)) (by decide)) en (q hd)
/-- a node has come under another, or was moved there -/
theorem row_put {h p : Nat → Int} {n u N : Int} (n0 : 0 ≤ n) (n1 : n < 150) (u0 : 0 ≤ u) (hroot : ∃ r : Int, 0 ≤ r ∧ r < 150 ∧ r ≠ n ∧ h r.toNat ≠ 0 ∧ p r.toNat = -1) (hsz : rt_size h ≤ 39 ∨ (h n.toNat ≠ 0 ∧ rt_size h ≤ 40)) (hN : ∀ c : Nat, c < 150 → h c ≠ 0 → (c : Int) < N) (hn : n < N) (eN : tw_fi E m 26 = N) (hh : ∀ c : Nat, rw_h E m 12 c = if c = n.toNat then 1 else h c) (hp : ∀ c : Nat, rw_p E m 12 c = if c = n.toNat then u else p c) (rw0 : rw_ok E m 12) : row_ok E m 12 := by
  obtain ⟨r, r0, r1, r2, r3, r4⟩ := hroot
  refine ⟨rw0, ⟨r, r0, r1, ?_, ?_⟩, ?_, fun c hc hx => ?_⟩
  · rw [hh, if_neg (by omega)]
    exact r3
  · rw [hp, if_neg (by omega)]
    exact r4
  · rcases hsz with z | ⟨z1, z2⟩
    · have := rt_size_put hh
      omega
    · refine Nat.le_trans (rt_size_le (fun c hc => ?_)) z2
      by_cases e : c = n.toNat
      · rw [e]
        exact z1
      · rw [hh, if_neg e] at hc
        exact hc
  · rw [eN]
    by_cases e : c = n.toNat
    · omega
    · rw [hh, if_neg e] at hx
      exact hN c hc hx
end RWJ
theorem rt_cnt_step {P : Nat → Bool} {k k1 : Nat} {x y : Int} (hk : k1 = k + 1) (hx : x = (rt_cnt P k : Int)) (hy : y = x + (if P k then 1 else 0)) : y = (rt_cnt P k1 : Int) := by
  subst hk
  show y = (((if P k then 1 else 0) + rt_cnt P k : Nat) : Int)
  split at hy <;> rename_i h <;> simp [h] <;> omega
theorem rt_cnt_h {h : Nat → Int} {k k1 : Nat} {x y : Int} (hk : k1 = k + 1) (hx : x = (rt_cnt (fun m => decide (h m ≠ 0)) k : Int)) (hy : (h k ≠ 0 ∧ y = x + 1) ∨ (h k = 0 ∧ y = x)) : y = (rt_cnt (fun m => decide (h m ≠ 0)) k1 : Int) := by
  refine rt_cnt_step hk hx ?_
  rcases hy with ⟨a, b⟩ | ⟨a, b⟩
  · simp [a, b]
  · simp [a, b]
/-- rows but one are as they were -/
def ot_ok (E : Nat → va_E) (m : Nat) (r : Int) (E0 : Nat → va_E) : Prop := ∀ j : Int, 0 ≤ j → j < 16 → j ≠ r → rw_h E m j = rw_h E0 m j ∧ rw_p E m j = rw_p E0 m j
theorem ot_ok_rf {E : Nat → va_E} {m : Nat} {r : Int} : ot_ok E m r E := fun _ _ _ _ => ⟨rfl, rfl⟩
/-- the first k of a row are another's -/
def cph_ok (E : Nat → va_E) (m : Nat) (r f : Int) (E0 : Nat → va_E) (k : Int) : Prop := ∀ c : Nat, (c : Int) < k → rw_h E m r c = rw_h E0 m f c
def cpp_ok (E : Nat → va_E) (m : Nat) (r f : Int) (E0 : Nat → va_E) (k : Int) : Prop := ∀ c : Nat, (c : Int) < k → rw_p E m r c = rw_p E0 m f c
theorem cph_ok_cast {E E0 : Nat → va_E} {m : Nat} {r f k k1 : Int} (h : k = k1) (q : cph_ok E m r f E0 k) : cph_ok E m r f E0 k1 := h ▸ q
theorem cpp_ok_cast {E E0 : Nat → va_E} {m : Nat} {r f k k1 : Int} (h : k = k1) (q : cpp_ok E m r f E0 k) : cpp_ok E m r f E0 k1 := h ▸ q
theorem cph_ok_zero {E E0 : Nat → va_E} {m : Nat} {r f k : Int} (h : k ≤ 0) : cph_ok E m r f E0 k := fun c hc => absurd hc (by omega)
theorem cpp_ok_zero {E E0 : Nat → va_E} {m : Nat} {r f k : Int} (h : k ≤ 0) : cpp_ok E m r f E0 k := fun c hc => absurd hc (by omega)
section RWK
variable {D : va_G} {A : Nat → Prop} {H : Heap} {cs : Nat → ClassId} {kp : Nat → Nat} {L : List Nat} {E E1 E0 : Nat → va_E} {ms : List (Nat × Nat)} {ks : List Nat} {m : Nat}
theorem ot_ok_fr {r : Int} (TH : tw_H D cs kp L E1 A H) (h : tw_fr kp L ms ks E E1) (hm : m ∈ L) (hk : kp m = 12) (h1 : ∀ x ∈ [(12, 16), (12, 18)], x ∉ ms) (h2 : ∀ x ∈ [316, 318, 326, 328], x ∉ ks) (q : ot_ok E m r E0) : ot_ok E1 m r E0 := fun j h0 h3 h4 => by
  rw [rw_h_fr TH h hm hk (h1 _ (by decide)) (h2 _ (by decide)) (h2 _ (by decide)) (by omega), rw_p_fr TH h hm hk (h1 _ (by decide)) (h2 _ (by decide)) (h2 _ (by decide)) (by omega)]
  exact q j h0 h3 h4
theorem cph_ok_fr {r f k : Int} (TH : tw_H D cs kp L E1 A H) (h : tw_fr kp L ms ks E E1) (hm : m ∈ L) (hk : kp m = 12) (h1 : ∀ x ∈ [(12, 16)], x ∉ ms) (h2 : ∀ x ∈ [316, 326], x ∉ ks) (hr : r.toNat < 16) (q : cph_ok E m r f E0 k) : cph_ok E1 m r f E0 k := fun c hc => by
  rw [rw_h_fr TH h hm hk (h1 _ (by decide)) (h2 _ (by decide)) (h2 _ (by decide)) hr]
  exact q c hc
theorem cpp_ok_fr {r f k : Int} (TH : tw_H D cs kp L E1 A H) (h : tw_fr kp L ms ks E E1) (hm : m ∈ L) (hk : kp m = 12) (h1 : ∀ x ∈ [(12, 18)], x ∉ ms) (h2 : ∀ x ∈ [318, 328], x ∉ ks) (hr : r.toNat < 16) (q : cpp_ok E m r f E0 k) : cpp_ok E1 m r f E0 k := fun c hc => by
  rw [rw_p_fr TH h hm hk (h1 _ (by decide)) (h2 _ (by decide)) (h2 _ (by decide)) hr]
  exact q c hc
theorem ot_ok_h {o a : Nat} {i : Int32} (TH : tw_H D cs kp L E1 A H) (hm : m ∈ L) (hk : kp m = 12) (rd : rd_ok E m) (ho : tw_fv E m 16 = .ref o) (er : tw_rf E o i.toNatClampNeg = a) (hko : kp o = 316) (hka : kp a = 326) (p2 : ∀ b j : Nat, tw_fv E1 b j = tw_fv E b j) (p3 : ∀ b : Nat, b ≠ a → E1 b = E b) (hi0 : 0 ≤ i.toInt) (hi : i.toInt < 16) (q : ot_ok E m i.toInt E0) : ot_ok E1 m i.toInt E0 := fun j h0 h3 h4 => by
  have hn := ia_tn hi0
  rw [rw_h_oth rd ho er hko hka p2 p3 (by omega) (by omega) (by omega), rw_p_hst TH hm hk hka p2 p3 (by omega)]
  exact q j h0 h3 h4
theorem ot_ok_p {o a : Nat} {i : Int32} (TH : tw_H D cs kp L E1 A H) (hm : m ∈ L) (hk : kp m = 12) (rd : rd_ok E m) (ho : tw_fv E m 18 = .ref o) (er : tw_rf E o i.toNatClampNeg = a) (hko : kp o = 318) (hka : kp a = 328) (p2 : ∀ b j : Nat, tw_fv E1 b j = tw_fv E b j) (p3 : ∀ b : Nat, b ≠ a → E1 b = E b) (hi0 : 0 ≤ i.toInt) (hi : i.toInt < 16) (q : ot_ok E m i.toInt E0) : ot_ok E1 m i.toInt E0 := fun j h0 h3 h4 => by
  have hn := ia_tn hi0
  rw [rw_h_pst TH hm hk hka p2 p3 (by omega), rw_p_oth rd ho er hko hka p2 p3 (by omega) (by omega) (by omega)]
  exact q j h0 h3 h4
theorem cph_push {r f k x : Int} (hh : ∀ n : Nat, rw_h E1 m r n = if n = k.toNat then x else rw_h E m r n) (k0 : 0 ≤ k) (hx : rw_h E m f k.toNat = x) (ot : rw_h E m f = rw_h E0 m f) (q : cph_ok E m r f E0 k) : cph_ok E1 m r f E0 (k + 1) := fun c hc => by
  rw [hh c]
  split
  · rename_i e
    rw [e, ← hx, ot]
  · exact q c (by omega)
theorem cpp_push {r f k x : Int} (hh : ∀ n : Nat, rw_p E1 m r n = if n = k.toNat then x else rw_p E m r n) (k0 : 0 ≤ k) (hx : rw_p E m f k.toNat = x) (ot : rw_p E m f = rw_p E0 m f) (q : cpp_ok E m r f E0 k) : cpp_ok E1 m r f E0 (k + 1) := fun c hc => by
  rw [hh c]
  split
  · rename_i e
    rw [e, ← hx, ot]
  · exact q c (by omega)
theorem row_copy {r f : Int} (q : row_ok E m f) (hc : ∀ c : Nat, c < 150 → rw_h E1 m r c = rw_h E m f c ∧ rw_p E1 m r c = rw_p E m f c) (en : tw_fi E m 26 ≤ tw_fi E1 m 26) : row_ok E1 m r := by
  obtain ⟨⟨t1, t2, t3⟩, ⟨x, x0, x1, x2, x3⟩, q3, q4⟩ := q
  refine ⟨rt_ext (fun c h => (hc c h).1) (fun c h => (hc c h).2) t1 t2 t3, ⟨x, x0, x1, ?_, ?_⟩, Nat.le_trans (rt_size_ext (fun c h => (hc c h).1)) q3, fun c h hx => ?_⟩
  · rw [(hc _ (by omega)).1]
    exact x2
  · rw [(hc _ (by omega)).2]
    exact x3
  · rw [(hc c h).1] at hx
    exact Int.lt_of_lt_of_le (q4 c h hx) en
theorem eo_ok_ot {r : Int} (TH : tw_H D cs kp L E1 A H) (h : tw_fr kp L ms ks E E1) (hm : m ∈ L) (hk : kp m = 12) (h1 : ∀ x ∈ [(12, 26), (12, 27)], x ∉ ms) (ot : ot_ok E1 m r E) (hr : tw_fi E m 27 ≤ r) (q : eo_ok E m) : eo_ok E1 m := by
  intro i h0 h3
  have hb := tw_fi_ed TH hm hk
  rw [tw_fi_fr h hm hk (h1 _ (by decide))] at h3 hb
  obtain ⟨e1, e2⟩ := ot i h0 (by omega) (by omega)
  exact row_ok_same e1 e2 (Int.le_of_eq (tw_fi_fr h hm hk (h1 _ (by decide))).symm) (q i h0 h3)
theorem dr_ok_ot {r : Int} (h : tw_fr kp L ms ks E E1) (hm : m ∈ L) (hk : kp m = 12) (h1 : ∀ x ∈ [(12, 26), (12, 29)], x ∉ ms) (ot : ot_ok E1 m r E) (hr : r ≠ 12) (q : dr_ok E m) : dr_ok E1 m := fun hd => by
  rw [tw_fi_fr h hm hk (h1 _ (by decide))] at hd
  obtain ⟨e1, e2⟩ := ot 12 (by omega) (by omega) (by omega)
  exact row_ok_same e1 e2 (Int.le_of_eq (tw_fi_fr h hm hk (h1 _ (by decide))).symm) (q hd)
theorem ht_of_h (hh : ∀ n : Nat, 24 ≤ n → n < 150 → rw_h E m 15 n = 0) : ht_ok E m := fun n a b => by
  have := hh n a b
  have z : (tw_iv E (tw_rf E (tw_fa E m 16) 15) n).toInt = 0 := this
  exact (fa_eq _ _).mpr (by rw [z]; decide)
theorem ht_ok_ot {r : Int} (ot : ot_ok E1 m r E) (hr : r ≠ 15) (q : ht_ok E m) : ht_ok E1 m := ht_of_h (fun n a b => by
  rw [(ot 15 (by omega) (by omega) (by omega)).1]
  exact ht_h q a b)
end RWK
/-- one edition more -/
theorem eo_ok_inc {D : va_G} {A : Nat → Prop} {H : Heap} {cs : Nat → ClassId} {kp : Nat → Nat} {L : List Nat} {E E1 : Nat → va_E} {ms : List (Nat × Nat)} {ks : List Nat} {m : Nat} {r : Int} (TH : tw_H D cs kp L E1 A H) (h : tw_fr kp L ms ks E E1) (hm : m ∈ L) (hk : kp m = 12) (h1 : ∀ x ∈ [(12, 16), (12, 18), (12, 26)], x ∉ ms) (h2 : ∀ x ∈ [316, 318, 326, 328], x ∉ ks) (hr : tw_fi E m 27 = r) (hi : tw_fi E1 m 27 = r + 1) (qr : row_ok E m r) (q : eo_ok E m) : eo_ok E1 m := by
  intro i h0 h3
  have hb := tw_fi_ed TH hm hk
  rw [hi] at h3 hb
  refine row_ok_fr TH h hm hk h1 h2 (by omega) ?_
  by_cases e : i = r
  · rw [e]
    exact qr
  · exact q i h0 (by rw [hr]; omega)
