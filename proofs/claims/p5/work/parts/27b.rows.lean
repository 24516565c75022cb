/-! rows of the reference: who is there, parents, places -/
def rw_h (E : Nat → va_E) (m : Nat) (i : Int) : Nat → Int := fun n => (tw_iv E (tw_rf E (tw_fa E m 16) i.toNat) n).toInt
def rw_p (E : Nat → va_E) (m : Nat) (i : Int) : Nat → Int := fun n => (tw_iv E (tw_rf E (tw_fa E m 18) i.toNat) n).toInt
def rw_q (E : Nat → va_E) (m : Nat) (i : Int) : Nat → Int := fun n => (tw_iv E (tw_rf E (tw_fa E m 19) i.toNat) n).toInt
theorem rw_h_of {E : Nat → va_E} {m o xr : Nat} {i c x : Int32} (h : tw_fv E m 16 = .ref o) (er : tw_rf E o i.toNatClampNeg = xr) (ev : tw_iv E xr c.toNatClampNeg = x) : rw_h E m i.toInt c.toInt.toNat = x.toInt := by
  show (tw_iv E (tw_rf E (tw_fa E m 16) i.toNatClampNeg) c.toNatClampNeg).toInt = _
  rw [tw_fa_of h, er, ev]
theorem rw_p_of {E : Nat → va_E} {m o xr : Nat} {i c x : Int32} (h : tw_fv E m 18 = .ref o) (er : tw_rf E o i.toNatClampNeg = xr) (ev : tw_iv E xr c.toNatClampNeg = x) : rw_p E m i.toInt c.toInt.toNat = x.toInt := by
  show (tw_iv E (tw_rf E (tw_fa E m 18) i.toNatClampNeg) c.toNatClampNeg).toInt = _
  rw [tw_fa_of h, er, ev]
theorem rw_q_of {E : Nat → va_E} {m o xr : Nat} {i c x : Int32} (h : tw_fv E m 19 = .ref o) (er : tw_rf E o i.toNatClampNeg = xr) (ev : tw_iv E xr c.toNatClampNeg = x) : rw_q E m i.toInt c.toInt.toNat = x.toInt := by
  show (tw_iv E (tw_rf E (tw_fa E m 19) i.toNatClampNeg) c.toNatClampNeg).toInt = _
  rw [tw_fa_of h, er, ev]
/-- a row is a tree: parents are there, the way up ends, there is one outermost node -/
def rw_ok (E : Nat → va_E) (m : Nat) (i : Int) : Prop := rt_T1 (rw_h E m i) (rw_p E m i) ∧ rt_T2 (rw_h E m i) (rw_p E m i) ∧ rt_T3 (rw_h E m i) (rw_p E m i)
theorem rw_ok_cast {E : Nat → va_E} {m : Nat} {i j : Int} (h : i = j) (q : rw_ok E m i) : rw_ok E m j := h ▸ q
/-- a node of a row -/
def nd_is (E : Nat → va_E) (m : Nat) (i n : Int) : Prop := 0 ≤ n ∧ n < 150 ∧ rw_h E m i n.toNat ≠ 0
theorem ht_h {E : Nat → va_E} {m n : Nat} (q : ht_ok E m) (h1 : 24 ≤ n) (h2 : n < 150) : rw_h E m 15 n = 0 := by
  have := q n h1 h2
  show (tw_iv E (tw_rf E (tw_fa E m 16) 15) n).toInt = 0
  rw [this]
  decide
theorem ht_le {E : Nat → va_E} {m : Nat} {i c : Int} (q : ht_ok E m) (h0 : 0 ≤ c) (h1 : c < 150) (h2 : rw_h E m i c.toNat ≠ 0) (hi : i = 15) : c ≤ 23 := by
  rcases Int.lt_or_le 23 c with h | h
  · subst hi
    exact absurd (ht_h q (n := c.toNat) (by omega) (by omega)) h2
  · exact h
/-- parents are there -/
def t1_ok (E : Nat → va_E) (m : Nat) (i : Int) : Prop := rt_T1 (rw_h E m i) (rw_p E m i)
theorem t1_ok_cast {E : Nat → va_E} {m : Nat} {i j : Int} (h : i = j) (q : t1_ok E m i) : t1_ok E m j := h ▸ q
theorem t1_le {E : Nat → va_E} {m : Nat} {i n x : Int} (t : t1_ok E m i) (q : ht_ok E m) (h0 : 0 ≤ n) (h1 : n < 150) (h2 : rw_h E m i n.toNat ≠ 0) (e : rw_p E m i n.toNat = x) (hx : x ≠ -1) (hi : i = 15) : x ≤ 23 := by
  rcases t n.toNat (by omega) h2 with z | ⟨a, b, c⟩
  · exact absurd (e.symm.trans z) hx
  · rw [e] at a b c
    exact ht_le q a b c hi
section RWF
variable {D : va_G} {A : Nat → Prop} {H : Heap} {cs : Nat → ClassId} {kp : Nat → Nat} {L : List Nat} {E E1 : Nat → va_E} {ms : List (Nat × Nat)} {ks : List Nat} {m : Nat}
theorem rw_h_fr (TH : tw_H D cs kp L E1 A H) (h : tw_fr kp L ms ks E E1) (hm : m ∈ L) (hk : kp m = 12) (h1 : (12, 16) ∉ ms) (h2 : 316 ∉ ks) (h3 : 326 ∉ ks) {i : Int} (hi : i.toNat < 16) : rw_h E1 m i = rw_h E m i := by
  have r := tw_rf_fr TH h hm hk (k := 16) (by decide) (by decide) (kd := 316) rfl (by decide) h1 h2 i.toNat
  obtain ⟨w1, w2⟩ := tw_rw TH hm hk (k := 16) (i := i.toNat) (by decide) (by decide) (kd := 316) rfl (by decide) (t0 := 5) (n := 16) (rk := 326) (hi := 0) rfl hi
  have e5 := h.2 _ w1 (by rw [w2]; decide) (by rw [w2]; exact h3)
  funext n
  show (tw_iv E1 (tw_rf E1 (tw_fa E1 m 16) i.toNat) n).toInt = (tw_iv E (tw_rf E (tw_fa E m 16) i.toNat) n).toInt
  rw [← r]
  unfold tw_iv
  rw [e5]
theorem rw_p_fr (TH : tw_H D cs kp L E1 A H) (h : tw_fr kp L ms ks E E1) (hm : m ∈ L) (hk : kp m = 12) (h1 : (12, 18) ∉ ms) (h2 : 318 ∉ ks) (h3 : 328 ∉ ks) {i : Int} (hi : i.toNat < 16) : rw_p E1 m i = rw_p E m i := by
  have r := tw_rf_fr TH h hm hk (k := 18) (by decide) (by decide) (kd := 318) rfl (by decide) h1 h2 i.toNat
  obtain ⟨w1, w2⟩ := tw_rw TH hm hk (k := 18) (i := i.toNat) (by decide) (by decide) (kd := 318) rfl (by decide) (t0 := 4) (n := 16) (rk := 328) (hi := 0) rfl hi
  have e5 := h.2 _ w1 (by rw [w2]; decide) (by rw [w2]; exact h3)
  funext n
  show (tw_iv E1 (tw_rf E1 (tw_fa E1 m 18) i.toNat) n).toInt = (tw_iv E (tw_rf E (tw_fa E m 18) i.toNat) n).toInt
  rw [← r]
  unfold tw_iv
  rw [e5]
theorem rw_q_fr (TH : tw_H D cs kp L E1 A H) (h : tw_fr kp L ms ks E E1) (hm : m ∈ L) (hk : kp m = 12) (h1 : (12, 19) ∉ ms) (h2 : 319 ∉ ks) (h3 : 329 ∉ ks) {i : Int} (hi : i.toNat < 16) : rw_q E1 m i = rw_q E m i := by
  have r := tw_rf_fr TH h hm hk (k := 19) (by decide) (by decide) (kd := 319) rfl (by decide) h1 h2 i.toNat
  obtain ⟨w1, w2⟩ := tw_rw TH hm hk (k := 19) (i := i.toNat) (by decide) (by decide) (kd := 319) rfl (by decide) (t0 := 4) (n := 16) (rk := 329) (hi := 0) rfl hi
  have e5 := h.2 _ w1 (by rw [w2]; decide) (by rw [w2]; exact h3)
  funext n
  show (tw_iv E1 (tw_rf E1 (tw_fa E1 m 19) i.toNat) n).toInt = (tw_iv E (tw_rf E (tw_fa E m 19) i.toNat) n).toInt
  rw [← r]
  unfold tw_iv
  rw [e5]
theorem t1_ok_fr {i : Int} (TH : tw_H D cs kp L E1 A H) (h : tw_fr kp L ms ks E E1) (hm : m ∈ L) (hk : kp m = 12) (h1 : ∀ x ∈ [(12, 16), (12, 18)], x ∉ ms) (h2 : ∀ x ∈ [316, 318, 326, 328], x ∉ ks) (hi : i.toNat < 16) (q : t1_ok E m i) : t1_ok E1 m i := by
  unfold t1_ok at q ⊢
  rw [rw_h_fr TH h hm hk (h1 _ (by decide)) (h2 _ (by decide)) (h2 _ (by decide)) hi, rw_p_fr TH h hm hk (h1 _ (by decide)) (h2 _ (by decide)) (h2 _ (by decide)) hi]
  exact q
theorem rw_ok_fr {i : Int} (TH : tw_H D cs kp L E1 A H) (h : tw_fr kp L ms ks E E1) (hm : m ∈ L) (hk : kp m = 12) (h1 : ∀ x ∈ [(12, 16), (12, 18)], x ∉ ms) (h2 : ∀ x ∈ [316, 318, 326, 328], x ∉ ks) (hi : i.toNat < 16) (q : rw_ok E m i) : rw_ok E1 m i := by
  unfold rw_ok at q ⊢
  rw [rw_h_fr TH h hm hk (h1 _ (by decide)) (h2 _ (by decide)) (h2 _ (by decide)) hi, rw_p_fr TH h hm hk (h1 _ (by decide)) (h2 _ (by decide)) (h2 _ (by decide)) hi]
  exact q
end RWF
/-! stores into rows -/
section RWS
variable {kp : Nat → Nat} {E E1 : Nat → va_E} {m o a : Nat} {i c x : Int32}
theorem tw_rf_keep {b : Nat} (hne : b ≠ a) (p3 : ∀ b : Nat, b ≠ a → E1 b = E b) (k : Nat) : tw_rf E1 b k = tw_rf E b k := by
  unfold tw_rf
  rw [p3 b hne]
theorem rw_h_st (ho : tw_fv E m 16 = .ref o) (er : tw_rf E o i.toNatClampNeg = a) (hko : kp o = 316) (hka : kp a = 326) (p2 : ∀ b j : Nat, tw_fv E1 b j = tw_fv E b j) (p3 : ∀ b : Nat, b ≠ a → E1 b = E b) (p4 : ∀ j : Nat, tw_iv E1 a j = if j = c.toNatClampNeg then x else tw_iv E a j) (n : Nat) : rw_h E1 m i.toInt n = if n = c.toInt.toNat then x.toInt else rw_h E m i.toInt n := by
  have hne : o ≠ a := fun z => by rw [z, hka] at hko; exact absurd hko (by decide)
  show (tw_iv E1 (tw_rf E1 (tw_fa E1 m 16) i.toNatClampNeg) n).toInt = if n = c.toNatClampNeg then x.toInt else (tw_iv E (tw_rf E (tw_fa E m 16) i.toNatClampNeg) n).toInt
  rw [tw_fa_of ((p2 m 16).trans ho), tw_fa_of ho, tw_rf_keep hne p3, er, p4]
  split <;> rfl
theorem rw_p_st (ho : tw_fv E m 18 = .ref o) (er : tw_rf E o i.toNatClampNeg = a) (hko : kp o = 318) (hka : kp a = 328) (p2 : ∀ b j : Nat, tw_fv E1 b j = tw_fv E b j) (p3 : ∀ b : Nat, b ≠ a → E1 b = E b) (p4 : ∀ j : Nat, tw_iv E1 a j = if j = c.toNatClampNeg then x else tw_iv E a j) (n : Nat) : rw_p E1 m i.toInt n = if n = c.toInt.toNat then x.toInt else rw_p E m i.toInt n := by
  have hne : o ≠ a := fun z => by rw [z, hka] at hko; exact absurd hko (by decide)
  show (tw_iv E1 (tw_rf E1 (tw_fa E1 m 18) i.toNatClampNeg) n).toInt = if n = c.toNatClampNeg then x.toInt else (tw_iv E (tw_rf E (tw_fa E m 18) i.toNatClampNeg) n).toInt
  rw [tw_fa_of ((p2 m 18).trans ho), tw_fa_of ho, tw_rf_keep hne p3, er, p4]
  split <;> rfl
theorem rw_q_st (ho : tw_fv E m 19 = .ref o) (er : tw_rf E o i.toNatClampNeg = a) (hko : kp o = 319) (hka : kp a = 329) (p2 : ∀ b j : Nat, tw_fv E1 b j = tw_fv E b j) (p3 : ∀ b : Nat, b ≠ a → E1 b = E b) (p4 : ∀ j : Nat, tw_iv E1 a j = if j = c.toNatClampNeg then x else tw_iv E a j) (n : Nat) : rw_q E1 m i.toInt n = if n = c.toInt.toNat then x.toInt else rw_q E m i.toInt n := by
  have hne : o ≠ a := fun z => by rw [z, hka] at hko; exact absurd hko (by decide)
  show (tw_iv E1 (tw_rf E1 (tw_fa E1 m 19) i.toNatClampNeg) n).toInt = if n = c.toNatClampNeg then x.toInt else (tw_iv E (tw_rf E (tw_fa E m 19) i.toNatClampNeg) n).toInt
  rw [tw_fa_of ((p2 m 19).trans ho), tw_fa_of ho, tw_rf_keep hne p3, er, p4]
  split <;> rfl
/-- rows lie apart -/
def rd_ok (E : Nat → va_E) (m : Nat) : Prop := ∀ f ∈ [16, 18], ∀ i j : Nat, i < 16 → j < 16 → tw_rf E (tw_fa E m f) i = tw_rf E (tw_fa E m f) j → i = j
theorem rw_h_oth {j : Int} (rd : rd_ok E m) (ho : tw_fv E m 16 = .ref o) (er : tw_rf E o i.toNatClampNeg = a) (hko : kp o = 316) (hka : kp a = 326) (p2 : ∀ b j : Nat, tw_fv E1 b j = tw_fv E b j) (p3 : ∀ b : Nat, b ≠ a → E1 b = E b) (hi : i.toNatClampNeg < 16) (hj : j.toNat < 16) (hij : j.toNat ≠ i.toNatClampNeg) : rw_h E1 m j = rw_h E m j := by
  have hne : o ≠ a := fun z => by rw [z, hka] at hko; exact absurd hko (by decide)
  funext n
  show (tw_iv E1 (tw_rf E1 (tw_fa E1 m 16) j.toNat) n).toInt = (tw_iv E (tw_rf E (tw_fa E m 16) j.toNat) n).toInt
  have hr := fun z => hij (rd 16 (by decide) j.toNat i.toNatClampNeg hj hi z)
  rw [tw_fa_of ho] at hr
  rw [tw_fa_of ((p2 m 16).trans ho), tw_fa_of ho, tw_rf_keep hne p3]
  unfold tw_iv
  rw [p3 _ (fun z => hr (z.trans er.symm))]
theorem rw_p_oth {j : Int} (rd : rd_ok E m) (ho : tw_fv E m 18 = .ref o) (er : tw_rf E o i.toNatClampNeg = a) (hko : kp o = 318) (hka : kp a = 328) (p2 : ∀ b j : Nat, tw_fv E1 b j = tw_fv E b j) (p3 : ∀ b : Nat, b ≠ a → E1 b = E b) (hi : i.toNatClampNeg < 16) (hj : j.toNat < 16) (hij : j.toNat ≠ i.toNatClampNeg) : rw_p E1 m j = rw_p E m j := by
  have hne : o ≠ a := fun z => by rw [z, hka] at hko; exact absurd hko (by decide)
  funext n
  show (tw_iv E1 (tw_rf E1 (tw_fa E1 m 18) j.toNat) n).toInt = (tw_iv E (tw_rf E (tw_fa E m 18) j.toNat) n).toInt
  have hr := fun z => hij (rd 18 (by decide) j.toNat i.toNatClampNeg hj hi z)
  rw [tw_fa_of ho] at hr
  rw [tw_fa_of ((p2 m 18).trans ho), tw_fa_of ho, tw_rf_keep hne p3]
  unfold tw_iv
  rw [p3 _ (fun z => hr (z.trans er.symm))]
end RWS
/-- a row that is an edition's: a tree that is not empty, not too large, of numbers that were given -/
def row_ok (E : Nat → va_E) (m : Nat) (i : Int) : Prop := rw_ok E m i ∧ (∃ r : Int, 0 ≤ r ∧ r < 150 ∧ rw_h E m i r.toNat ≠ 0 ∧ rw_p E m i r.toNat = -1) ∧ rt_size (rw_h E m i) ≤ 40 ∧ ∀ c : Nat, c < 150 → rw_h E m i c ≠ 0 → (c : Int) < tw_fi E m 26
theorem row_ok_cast {E : Nat → va_E} {m : Nat} {i j : Int} (h : i = j) (q : row_ok E m i) : row_ok E m j := h ▸ q
theorem row_ok_same {E E1 : Nat → va_E} {m : Nat} {i : Int} (eh : rw_h E1 m i = rw_h E m i) (ep : rw_p E1 m i = rw_p E m i) (en : tw_fi E m 26 ≤ tw_fi E1 m 26) (q : row_ok E m i) : row_ok E1 m i := by
  unfold row_ok rw_ok at q ⊢
  rw [eh, ep]
  exact ⟨q.1, q.2.1, q.2.2.1, fun c hc hx => Int.lt_of_lt_of_le (q.2.2.2 c hc hx) en⟩
/-- all editions -/
def eo_ok (E : Nat → va_E) (m : Nat) : Prop := ∀ i : Int, 0 ≤ i → i < tw_fi E m 27 → row_ok E m i
section RWG
variable {D : va_G} {A : Nat → Prop} {H : Heap} {cs : Nat → ClassId} {kp : Nat → Nat} {L : List Nat} {E E1 : Nat → va_E} {ms : List (Nat × Nat)} {ks : List Nat} {m : Nat}
theorem rd_ok_fr (TH : tw_H D cs kp L E1 A H) (h : tw_fr kp L ms ks E E1) (hm : m ∈ L) (hk : kp m = 12) (h1 : ∀ x ∈ [(12, 16), (12, 18)], x ∉ ms) (h2 : ∀ x ∈ [316, 318], x ∉ ks) (q : rd_ok E m) : rd_ok E1 m := by
  intro f hf i j hi hj e
  have hf2 : f = 16 ∨ f = 18 := by simpa using hf
  rcases hf2 with rfl | rfl
  · rw [tw_rf_fr TH h hm hk (k := 16) (by decide) (by decide) (kd := 316) rfl (by decide) (h1 _ (by decide)) (h2 _ (by decide)), tw_rf_fr TH h hm hk (k := 16) (by decide) (by decide) (kd := 316) rfl (by decide) (h1 _ (by decide)) (h2 _ (by decide))] at e
    exact q 16 (by decide) i j hi hj e
  · rw [tw_rf_fr TH h hm hk (k := 18) (by decide) (by decide) (kd := 318) rfl (by decide) (h1 _ (by decide)) (h2 _ (by decide)), tw_rf_fr TH h hm hk (k := 18) (by decide) (by decide) (kd := 318) rfl (by decide) (h1 _ (by decide)) (h2 _ (by decide))] at e
    exact q 18 (by decide) i j hi hj e
theorem row_ok_fr {i : Int} (TH : tw_H D cs kp L E1 A H) (h : tw_fr kp L ms ks E E1) (hm : m ∈ L) (hk : kp m = 12) (h1 : ∀ x ∈ [(12, 16), (12, 18), (12, 26)], x ∉ ms) (h2 : ∀ x ∈ [316, 318, 326, 328], x ∉ ks) (hi : i.toNat < 16) (q : row_ok E m i) : row_ok E1 m i :=
  row_ok_same (rw_h_fr TH h hm hk (h1 _ (by decide)) (h2 _ (by decide)) (h2 _ (by decide)) hi) (rw_p_fr TH h hm hk (h1 _ (by decide)) (h2 _ (by decide)) (h2 _ (by decide)) hi) (Int.le_of_eq (tw_fi_fr h hm hk (h1 _ (by decide))).symm) q
theorem tw_fi_ed (TH : tw_H D cs kp L E A H) (hm : m ∈ L) (hk : kp m = 12) : tw_fi E m 27 ≤ 12 := by
  obtain ⟨x, e, -, h⟩ := tw_rd TH hm hk (by decide) (by decide) (k := 27) rfl
  rw [tw_fi_of e]
  exact h
theorem eo_ok_fr (TH : tw_H D cs kp L E1 A H) (h : tw_fr kp L ms ks E E1) (hm : m ∈ L) (hk : kp m = 12) (h1 : ∀ x ∈ [(12, 16), (12, 18), (12, 26), (12, 27)], x ∉ ms) (h2 : ∀ x ∈ [316, 318, 326, 328], x ∉ ks) (q : eo_ok E m) : eo_ok E1 m := by
  intro i h0 h3
  have hb := tw_fi_ed TH hm hk
  rw [tw_fi_fr h hm hk (h1 _ (by decide))] at h3 hb
  exact row_ok_fr TH h hm hk (fun x hx => h1 x ((by decide : ∀ y ∈ ([(12, 16), (12, 18), (12, 26)] : List (Nat × Nat)), y ∈ ([(12, 16), (12, 18), (12, 26), (12, 27)] : List (Nat × Nat))) x hx)) h2 (by omega) (q i h0 h3)
/-- a store into a row that is no edition's -/
theorem eo_ok_h {o a : Nat} {i : Int32} (TH : tw_H D cs kp L E1 A H) (hm : m ∈ L) (hk : kp m = 12) (rd : rd_ok E m) (ho : tw_fv E m 16 = .ref o) (er : tw_rf E o i.toNatClampNeg = a) (hko : kp o = 316) (hka : kp a = 326) (p2 : ∀ b j : Nat, tw_fv E1 b j = tw_fv E b j) (p3 : ∀ b : Nat, b ≠ a → E1 b = E b) (hi0 : 0 ≤ i.toInt) (hi : i.toInt < 16) (he : tw_fi E1 m 27 ≤ i.toInt) (q : eo_ok E m) : eo_ok E1 m := by
  intro j h0 h3
  have hb := tw_fi_ed TH hm hk
  have hfi : ∀ k : Nat, tw_fi E1 m k = tw_fi E m k := fun k => by unfold tw_fi; rw [p2]
  rw [hfi] at h3 hb he
  have hn := ia_tn hi0
  refine row_ok_same (rw_h_oth rd ho er hko hka p2 p3 (by omega) (by omega) (by omega)) ?_ (Int.le_of_eq (hfi 26).symm) (q j h0 h3)
  obtain ⟨b, e1, -, e3⟩ := tw_ra TH hm hk (k := 18) (by decide) (by decide) rfl
  obtain ⟨w1, w2⟩ := tw_rw TH hm hk (k := 18) (i := j.toNat) (by decide) (by decide) (kd := 318) rfl (by decide) (t0 := 4) (n := 16) (rk := 328) (hi := 0) rfl (by omega)
  funext n
  show (tw_iv E1 (tw_rf E1 (tw_fa E1 m 18) j.toNat) n).toInt = (tw_iv E (tw_rf E (tw_fa E m 18) j.toNat) n).toInt
  have hr : tw_rf E1 (tw_fa E1 m 18) j.toNat ≠ a := fun z => by rw [z, hka] at w2; exact absurd w2 (by decide)
  have e1' : tw_fv E m 18 = .ref b := (p2 m 18).symm.trans e1
  have hb2 : b ≠ a := fun z => by rw [z, hka] at e3; exact absurd e3 (by decide)
  rw [tw_fa_of e1] at hr ⊢
  rw [tw_fa_of e1', ← tw_rf_keep hb2 p3]
  unfold tw_iv
  rw [p3 _ hr]
theorem eo_ok_p {o a : Nat} {i : Int32} (TH : tw_H D cs kp L E1 A H) (hm : m ∈ L) (hk : kp m = 12) (rd : rd_ok E m) (ho : tw_fv E m 18 = .ref o) (er : tw_rf E o i.toNatClampNeg = a) (hko : kp o = 318) (hka : kp a = 328) (p2 : ∀ b j : Nat, tw_fv E1 b j = tw_fv E b j) (p3 : ∀ b : Nat, b ≠ a → E1 b = E b) (hi0 : 0 ≤ i.toInt) (hi : i.toInt < 16) (he : tw_fi E1 m 27 ≤ i.toInt) (q : eo_ok E m) : eo_ok E1 m := by
  intro j h0 h3
  have hb := tw_fi_ed TH hm hk
  have hfi : ∀ k : Nat, tw_fi E1 m k = tw_fi E m k := fun k => by unfold tw_fi; rw [p2]
  rw [hfi] at h3 hb he
  have hn := ia_tn hi0
  refine row_ok_same ?_ (rw_p_oth rd ho er hko hka p2 p3 (by omega) (by omega) (by omega)) (Int.le_of_eq (hfi 26).symm) (q j h0 h3)
  obtain ⟨b, e1, -, e3⟩ := tw_ra TH hm hk (k := 16) (by decide) (by decide) rfl
  obtain ⟨w1, w2⟩ := tw_rw TH hm hk (k := 16) (i := j.toNat) (by decide) (by decide) (kd := 316) rfl (by decide) (t0 := 5) (n := 16) (rk := 326) (hi := 0) rfl (by omega)
  funext n
  show (tw_iv E1 (tw_rf E1 (tw_fa E1 m 16) j.toNat) n).toInt = (tw_iv E (tw_rf E (tw_fa E m 16) j.toNat) n).toInt
  have hr : tw_rf E1 (tw_fa E1 m 16) j.toNat ≠ a := fun z => by rw [z, hka] at w2; exact absurd w2 (by decide)
  have e1' : tw_fv E m 16 = .ref b := (p2 m 16).symm.trans e1
  have hb2 : b ≠ a := fun z => by rw [z, hka] at e3; exact absurd e3 (by decide)
  rw [tw_fa_of e1] at hr ⊢
  rw [tw_fa_of e1', ← tw_rf_keep hb2 p3]
  unfold tw_iv
  rw [p3 _ hr]
/-- row 15 and a store into another row -/
theorem ht_ok_h {o a : Nat} {i : Int32} (rd : rd_ok E m) (ho : tw_fv E m 16 = .ref o) (er : tw_rf E o i.toNatClampNeg = a) (hko : kp o = 316) (hka : kp a = 326) (p2 : ∀ b j : Nat, tw_fv E1 b j = tw_fv E b j) (p3 : ∀ b : Nat, b ≠ a → E1 b = E b) (hi0 : 0 ≤ i.toInt) (hi : i.toInt < 15) (q : ht_ok E m) : ht_ok E1 m := by
  have hn := ia_tn hi0
  have hne : o ≠ a := fun z => by rw [z, hka] at hko; exact absurd hko (by decide)
  have hr := fun z => (show (15 : Nat) ≠ i.toNatClampNeg by omega) (rd 16 (by decide) 15 i.toNatClampNeg (by decide) (by omega) z)
  rw [tw_fa_of ho] at hr
  intro n a1 b1
  have := q n a1 b1
  rw [tw_fa_of ho] at this
  rw [tw_fa_of ((p2 m 16).trans ho), tw_rf_keep hne p3]
  unfold tw_iv at this ⊢
  rw [p3 _ (fun z => hr (z.trans er.symm))]
  exact this
end RWG
/-- the draft's row, before n is laid under u; and when n is there again, but not yet under u -/
def lyw_ok (E : Nat → va_E) (m : Nat) (n u : Int) : Prop := ly_ok (rw_h E m 12) (rw_p E m 12) n u
def lyx_ok (E : Nat → va_E) (m : Nat) (n u : Int) : Prop := ly1_ok (rw_h E m 12) (rw_p E m 12) n u
theorem lyw_ok_cast {E : Nat → va_E} {m : Nat} {n u n1 u1 : Int} (h : n = n1 ∧ u = u1) (q : lyw_ok E m n u) : lyw_ok E m n1 u1 := by
  obtain ⟨rfl, rfl⟩ := h
  exact q
section RWH
variable {D : va_G} {A : Nat → Prop} {H : Heap} {cs : Nat → ClassId} {kp : Nat → Nat} {L : List Nat} {E E1 : Nat → va_E} {ms : List (Nat × Nat)} {ks : List Nat} {m : Nat}
theorem lyw_ok_fr {n u : Int} (TH : tw_H D cs kp L E1 A H) (h : tw_fr kp L ms ks E E1) (hm : m ∈ L) (hk : kp m = 12) (h1 : ∀ x ∈ [(12, 16), (12, 18)], x ∉ ms) (h2 : ∀ x ∈ [316, 318, 326, 328], x ∉ ks) (q : lyw_ok E m n u) : lyw_ok E1 m n u := by
  unfold lyw_ok at q ⊢
  rw [rw_h_fr TH h hm hk (h1 _ (by decide)) (h2 _ (by decide)) (h2 _ (by decide)) (i := 12) (by decide), rw_p_fr TH h hm hk (h1 _ (by decide)) (h2 _ (by decide)) (h2 _ (by decide)) (i := 12) (by decide)]
  exact q
theorem lyx_ok_fr {n u : Int} (TH : tw_H D cs kp L E1 A H) (h : tw_fr kp L ms ks E E1) (hm : m ∈ L) (hk : kp m = 12) (h1 : ∀ x ∈ [(12, 16), (12, 18)], x ∉ ms) (h2 : ∀ x ∈ [316, 318, 326, 328], x ∉ ks) (q : lyx_ok E m n u) : lyx_ok E1 m n u := by
  unfold lyx_ok at q ⊢
  rw [rw_h_fr TH h hm hk (h1 _ (by decide)) (h2 _ (by decide)) (h2 _ (by decide)) (i := 12) (by decide), rw_p_fr TH h hm hk (h1 _ (by decide)) (h2 _ (by decide)) (h2 _ (by decide)) (i := 12) (by decide)]
  exact q
/-- n is there -/
theorem lyx_of {n u : Int} (q : lyw_ok E m n u) (hh : ∀ c : Nat, rw_h E1 m 12 c = if c = n.toNat then 1 else rw_h E m 12 c) (ep : rw_p E1 m 12 = rw_p E m 12) : lyx_ok E1 m n u := by
  unfold lyx_ok
  rw [ep]
  exact ⟨rw_h E m 12, q, hh⟩
/-- n is under u -/
theorem rw_of_lyx {n u : Int} (q : lyx_ok E m n u) (eh : rw_h E1 m 12 = rw_h E m 12) (hp : ∀ c : Nat, rw_p E1 m 12 c = if c = n.toNat then u else rw_p E m 12 c) : rw_ok E1 m 12 := by
  obtain ⟨h0, l, hh⟩ := q
  unfold rw_ok
  rw [eh]
  exact ly_put l hh hp
/-- a store into one row of has leaves the parents, and the other way round -/
theorem rw_p_hst {a : Nat} {i : Int} (TH : tw_H D cs kp L E1 A H) (hm : m ∈ L) (hk : kp m = 12) (hka : kp a = 326) (p2 : ∀ b j : Nat, tw_fv E1 b j = tw_fv E b j) (p3 : ∀ b : Nat, b ≠ a → E1 b = E b) (hi : i.toNat < 16) : rw_p E1 m i = rw_p E m i :=
  rw_p_fr TH (tw_fr.ast (ms := []) (ks := [326]) (k := 326) tw_fr.rf (fun _ => hka) p2 p3 (by decide)) hm hk (by decide) (by decide) (by decide) hi
theorem rw_h_pst {a : Nat} {i : Int} (TH : tw_H D cs kp L E1 A H) (hm : m ∈ L) (hk : kp m = 12) (hka : kp a = 328) (p2 : ∀ b j : Nat, tw_fv E1 b j = tw_fv E b j) (p3 : ∀ b : Nat, b ≠ a → E1 b = E b) (hi : i.toNat < 16) : rw_h E1 m i = rw_h E m i :=
  rw_h_fr TH (tw_fr.ast (ms := []) (ks := [328]) (k := 328) tw_fr.rf (fun _ => hka) p2 p3 (by decide)) hm hk (by decide) (by decide) (by decide) hi
end RWH
/-- the draft, if there is one -/
def dr_ok (E : Nat → va_E) (m : Nat) : Prop := tw_fi E m 29 = 1 → row_ok E m 12
section RWI
variable {D : va_G} {A : Nat → Prop} {H : Heap} {cs : Nat → ClassId} {kp : Nat → Nat} {L : List Nat} {E E1 : Nat → va_E} {ms : List (Nat × Nat)} {ks : List Nat} {m : Nat}
theorem dr_ok_fr (TH : tw_H D cs kp L E1 A H) (h : tw_fr kp L ms ks E E1) (hm : m ∈ L) (hk : kp m = 12) (h1 : ∀ x ∈ [(12, 16), (12, 18), (12, 26), (12, 29)], x ∉ ms) (h2 : ∀ x ∈ [316, 318, 326, 328], x ∉ ks) (q : dr_ok E m) : dr_ok E1 m := fun hd => by
  rw [tw_fi_fr h hm hk (h1 _ (by decide))] at hd
  exact row_ok_fr TH h hm hk (fun x hx => h1 x ((by decide : ∀ y ∈ ([(12, 16), (12, 18), (12, 26)] : List (Nat × Nat)), y ∈ ([(12, 16), (12, 18), (12, 26), (12, 29)] : List (Nat × Nat))) x hx)) h2 (by decide) (q hd)
theorem rt_size_le {h h1 : Nat → Int} (hh : ∀ c : Nat, h1 c ≠ 0 → h c ≠ 0) : rt_size h1 ≤ rt_size h := rt_cnt_le (fun i _ hp => by
  simp only [decide_eq_true_eq] at hp ⊢
  exact hh i hp)
theorem row_take {n : Int} (n0 : 0 ≤ n) (q : row_ok E m 12) (hh : ∀ c : Nat, rw_h E1 m 12 c = if c = n.toNat then 0 else rw_h E m 12 c) (ep : rw_p E1 m 12 = rw_p E m 12) (en : tw_fi E1 m 26 = tw_fi E m 26) (nk : nk_inv (rw_h E m 12) (rw_p E m 12) n 150) (hp : rw_p E m 12 n.toNat ≠ -1) : row_ok E1 m 12 := by
  have old : ∀ c : Nat, rw_h E1 m 12 c ≠ 0 → rw_h E m 12 c ≠ 0 := fun c hc => by
    have := hh c
    split at this
    · exact absurd this hc
    · exact this ▸ hc
  obtain ⟨⟨t1, t2, t3⟩, ⟨r, r0, r1, r2, r3⟩, q3, q4⟩ := q
  refine ⟨?_, ⟨r, r0, r1, ?_, by rw [ep]; exact r3⟩, Nat.le_trans (rt_size_le old) q3, fun c hc hx => by rw [en]; exact q4 c hc (old c hx)⟩
  · unfold rw_ok
    rw [ep]
    exact rt_take hh (fun c hc hk => nk c hc ⟨hk.2.1, by rw [hk.2.2]; omega⟩) t1 t2 t3
  · rw [hh, if_neg (fun z => hp (by rw [← z]; exact r3))]
    exact r2
end RWI
/-- the draft's row as functions -/
def h12_ok (E : Nat → va_E) (m : Nat) (f : Nat → Int) : Prop := rw_h E m 12 = f
def p12_ok (E : Nat → va_E) (m : Nat) (f : Nat → Int) : Prop := rw_p E m 12 = f
section RWJ
variable {D : va_G} {A : Nat → Prop} {H : Heap} {cs : Nat → ClassId} {kp : Nat → Nat} {L : List Nat} {E E1 : Nat → va_E} {ms : List (Nat × Nat)} {ks : List Nat} {m : Nat}
theorem h12_ok_fr {f : Nat → Int} (TH : tw_H D cs kp L E1 A H) (h : tw_fr kp L ms ks E E1) (hm : m ∈ L) (hk : kp m = 12) (h1 : ∀ x ∈ [(12, 16)], x ∉ ms) (h2 : ∀ x ∈ [316, 326], x ∉ ks) (q : h12_ok E m f) : h12_ok E1 m f := (rw_h_fr TH h hm hk (h1 _ (by decide)) (h2 _ (by decide)) (h2 _ (by decide)) (i := 12) (by decide)).trans q
theorem p12_ok_fr {f : Nat → Int} (TH : tw_H D cs kp L E1 A H) (h : tw_fr kp L ms ks E E1) (hm : m ∈ L) (hk : kp m = 12) (h1 : ∀ x ∈ [(12, 18)], x ∉ ms) (h2 : ∀ x ∈ [318, 328], x ∉ ks) (q : p12_ok E m f) : p12_ok E1 m f := (rw_p_fr TH h hm hk (h1 _ (by decide)) (h2 _ (by decide)) (h2 _ (by decide)) (i := 12) (by decide)).trans q
theorem h12_st {f : Nat → Int} {n : Nat} {x : Int} (q : h12_ok E m f) (hh : ∀ c : Nat, rw_h E1 m 12 c = if c = n then x else rw_h E m 12 c) : h12_ok E1 m (fun c => if c = n then x else f c) := by
  funext c
  rw [hh c, show rw_h E m 12 = f from q]
theorem p12_st {f : Nat → Int} {n : Nat} {x : Int} (q : p12_ok E m f) (hh : ∀ c : Nat, rw_p E1 m 12 c = if c = n then x else rw_p E m 12 c) : p12_ok E1 m (fun c => if c = n then x else f c) := by
  funext c
  rw [hh c, show rw_p E m 12 = f from q]
/-- numbers have been given -/
theorem eo_ok_more (TH : tw_H D cs kp L E1 A H) (h : tw_fr kp L ms ks E E1) (hm : m ∈ L) (hk : kp m = 12) (h1 : ∀ x ∈ [(12, 16), (12, 18), (12, 27)], x ∉ ms) (h2 : ∀ x ∈ [316, 318, 326, 328], x ∉ ks) (en : tw_fi E m 26 ≤ tw_fi E1 m 26) (q : eo_ok E m) : eo_ok E1 m := by
  intro i h0 h3
  have hb := tw_fi_ed TH hm hk
  rw [tw_fi_fr h hm hk (h1 _ (by decide))] at h3 hb
  exact row_ok_same (rw_h_fr TH h hm hk (h1 _ (by decide)) (h2 _ (by decide)) (h2 _ (by decide)) (by omega)) (rw_p_fr TH h hm hk (h1 _ (by decide)) (h2 _ (by decide)) (h2 _ (by decide)) (by omega)) en (q i h0 h3)
theorem dr_ok_more (TH : tw_H D cs kp L E1 A H) (h : tw_fr kp L ms ks E E1) (hm : m ∈ L) (hk : kp m = 12) (h1 : ∀ x ∈ [(12, 16), (12, 18), (12, 29)], x ∉ ms) (h2 : ∀ x ∈ [316, 318, 326, 328], x ∉ ks) (en : tw_fi E m 26 ≤ tw_fi E1 m 26) (q : dr_ok E m) : dr_ok E1 m := fun hd => by
  rw [tw_fi_fr h hm hk (h1 _ (by decide))] at hd
  exact row_ok_same (rw_h_fr TH h hm hk (h1 _ (by decide)) (h2 _ (by decide)) (h2 _ (by decide)) (by decide)) (rw_p_fr TH h hm hk (h1 _ (by decide)) (h2 _ (by decide)) (h2 _ (by decide)) (by decide)) en (q hd)
/-- a node has come under another, or was moved there -/
theorem row_put {h p : Nat → Int} {n u N : Int} (n0 : 0 ≤ n) (n1 : n < 150) (u0 : 0 ≤ u) (hroot : ∃ r : Int, 0 ≤ r ∧ r < 150 ∧ r ≠ n ∧ h r.toNat ≠ 0 ∧ p r.toNat = -1) (hsz : rt_size h ≤ 39 ∨ (h n.toNat ≠ 0 ∧ rt_size h ≤ 40)) (hN : ∀ c : Nat, c < 150 → h c ≠ 0 → (c : Int) < N) (hn : n < N) (eN : tw_fi E m 26 = N) (hh : ∀ c : Nat, rw_h E m 12 c = if c = n.toNat then 1 else h c) (hp : ∀ c : Nat, rw_p E m 12 c = if c = n.toNat then u else p c) (rw0 : rw_ok E m 12) : row_ok E m 12 := by
  obtain ⟨r, r0, r1, r2, r3, r4⟩ := hroot
  refine ⟨rw0, ⟨r, r0, r1, ?_, ?_⟩, ?_, fun c hc hx => ?_⟩
  · rw [hh, if_neg (by omega)]
    exact r3
  · rw [hp, if_neg (by omega)]
    exact r4
  · rcases hsz with z | ⟨z1, z2⟩
    · have := rt_size_put hh
      omega
    · refine Nat.le_trans (rt_size_le (fun c hc => ?_)) z2
      by_cases e : c = n.toNat
      · rw [e]
        exact z1
      · rw [hh, if_neg e] at hc
        exact hc
  · rw [eN]
    by_cases e : c = n.toNat
    · omega
    · rw [hh, if_neg e] at hx
      exact hN c hc hx
end RWJ
theorem rt_cnt_step {P : Nat → Bool} {k k1 : Nat} {x y : Int} (hk : k1 = k + 1) (hx : x = (rt_cnt P k : Int)) (hy : y = x + (if P k then 1 else 0)) : y = (rt_cnt P k1 : Int) := by
  subst hk
  show y = (((if P k then 1 else 0) + rt_cnt P k : Nat) : Int)
  split at hy <;> rename_i h <;> simp [h] <;> omega
theorem rt_cnt_h {h : Nat → Int} {k k1 : Nat} {x y : Int} (hk : k1 = k + 1) (hx : x = (rt_cnt (fun m => decide (h m ≠ 0)) k : Int)) (hy : (h k ≠ 0 ∧ y = x + 1) ∨ (h k = 0 ∧ y = x)) : y = (rt_cnt (fun m => decide (h m ≠ 0)) k1 : Int) := by
  refine rt_cnt_step hk hx ?_
  rcases hy with ⟨a, b⟩ | ⟨a, b⟩
  · simp [a, b]
  · simp [a, b]
/-- rows but one are as they were -/
def ot_ok (E : Nat → va_E) (m : Nat) (r : Int) (E0 : Nat → va_E) : Prop := ∀ j : Int, 0 ≤ j → j < 16 → j ≠ r → rw_h E m j = rw_h E0 m j ∧ rw_p E m j = rw_p E0 m j
theorem ot_ok_rf {E : Nat → va_E} {m : Nat} {r : Int} : ot_ok E m r E := fun _ _ _ _ => ⟨rfl, rfl⟩
/-- the first k of a row are another's -/
def cph_ok (E : Nat → va_E) (m : Nat) (r f : Int) (E0 : Nat → va_E) (k : Int) : Prop := ∀ c : Nat, (c : Int) < k → rw_h E m r c = rw_h E0 m f c
def cpp_ok (E : Nat → va_E) (m : Nat) (r f : Int) (E0 : Nat → va_E) (k : Int) : Prop := ∀ c : Nat, (c : Int) < k → rw_p E m r c = rw_p E0 m f c
theorem cph_ok_cast {E E0 : Nat → va_E} {m : Nat} {r f k k1 : Int} (h : k = k1) (q : cph_ok E m r f E0 k) : cph_ok E m r f E0 k1 := h ▸ q
theorem cpp_ok_cast {E E0 : Nat → va_E} {m : Nat} {r f k k1 : Int} (h : k = k1) (q : cpp_ok E m r f E0 k) : cpp_ok E m r f E0 k1 := h ▸ q
theorem cph_ok_zero {E E0 : Nat → va_E} {m : Nat} {r f k : Int} (h : k ≤ 0) : cph_ok E m r f E0 k := fun c hc => absurd hc (by omega)
theorem cpp_ok_zero {E E0 : Nat → va_E} {m : Nat} {r f k : Int} (h : k ≤ 0) : cpp_ok E m r f E0 k := fun c hc => absurd hc (by omega)
section RWK
variable {D : va_G} {A : Nat → Prop} {H : Heap} {cs : Nat → ClassId} {kp : Nat → Nat} {L : List Nat} {E E1 E0 : Nat → va_E} {ms : List (Nat × Nat)} {ks : List Nat} {m : Nat}
theorem ot_ok_fr {r : Int} (TH : tw_H D cs kp L E1 A H) (h : tw_fr kp L ms ks E E1) (hm : m ∈ L) (hk : kp m = 12) (h1 : ∀ x ∈ [(12, 16), (12, 18)], x ∉ ms) (h2 : ∀ x ∈ [316, 318, 326, 328], x ∉ ks) (q : ot_ok E m r E0) : ot_ok E1 m r E0 := fun j h0 h3 h4 => by
  rw [rw_h_fr TH h hm hk (h1 _ (by decide)) (h2 _ (by decide)) (h2 _ (by decide)) (by omega), rw_p_fr TH h hm hk (h1 _ (by decide)) (h2 _ (by decide)) (h2 _ (by decide)) (by omega)]
  exact q j h0 h3 h4
theorem cph_ok_fr {r f k : Int} (TH : tw_H D cs kp L E1 A H) (h : tw_fr kp L ms ks E E1) (hm : m ∈ L) (hk : kp m = 12) (h1 : ∀ x ∈ [(12, 16)], x ∉ ms) (h2 : ∀ x ∈ [316, 326], x ∉ ks) (hr : r.toNat < 16) (q : cph_ok E m r f E0 k) : cph_ok E1 m r f E0 k := fun c hc => by
  rw [rw_h_fr TH h hm hk (h1 _ (by decide)) (h2 _ (by decide)) (h2 _ (by decide)) hr]
  exact q c hc
theorem cpp_ok_fr {r f k : Int} (TH : tw_H D cs kp L E1 A H) (h : tw_fr kp L ms ks E E1) (hm : m ∈ L) (hk : kp m = 12) (h1 : ∀ x ∈ [(12, 18)], x ∉ ms) (h2 : ∀ x ∈ [318, 328], x ∉ ks) (hr : r.toNat < 16) (q : cpp_ok E m r f E0 k) : cpp_ok E1 m r f E0 k := fun c hc => by
  rw [rw_p_fr TH h hm hk (h1 _ (by decide)) (h2 _ (by decide)) (h2 _ (by decide)) hr]
  exact q c hc
theorem ot_ok_h {o a : Nat} {i : Int32} (TH : tw_H D cs kp L E1 A H) (hm : m ∈ L) (hk : kp m = 12) (rd : rd_ok E m) (ho : tw_fv E m 16 = .ref o) (er : tw_rf E o i.toNatClampNeg = a) (hko : kp o = 316) (hka : kp a = 326) (p2 : ∀ b j : Nat, tw_fv E1 b j = tw_fv E b j) (p3 : ∀ b : Nat, b ≠ a → E1 b = E b) (hi0 : 0 ≤ i.toInt) (hi : i.toInt < 16) (q : ot_ok E m i.toInt E0) : ot_ok E1 m i.toInt E0 := fun j h0 h3 h4 => by
  have hn := ia_tn hi0
  rw [rw_h_oth rd ho er hko hka p2 p3 (by omega) (by omega) (by omega), rw_p_hst TH hm hk hka p2 p3 (by omega)]
  exact q j h0 h3 h4
theorem ot_ok_p {o a : Nat} {i : Int32} (TH : tw_H D cs kp L E1 A H) (hm : m ∈ L) (hk : kp m = 12) (rd : rd_ok E m) (ho : tw_fv E m 18 = .ref o) (er : tw_rf E o i.toNatClampNeg = a) (hko : kp o = 318) (hka : kp a = 328) (p2 : ∀ b j : Nat, tw_fv E1 b j = tw_fv E b j) (p3 : ∀ b : Nat, b ≠ a → E1 b = E b) (hi0 : 0 ≤ i.toInt) (hi : i.toInt < 16) (q : ot_ok E m i.toInt E0) : ot_ok E1 m i.toInt E0 := fun j h0 h3 h4 => by
  have hn := ia_tn hi0
  rw [rw_h_pst TH hm hk hka p2 p3 (by omega), rw_p_oth rd ho er hko hka p2 p3 (by omega) (by omega) (by omega)]
  exact q j h0 h3 h4
theorem cph_push {r f k x : Int} (hh : ∀ n : Nat, rw_h E1 m r n = if n = k.toNat then x else rw_h E m r n) (k0 : 0 ≤ k) (hx : rw_h E m f k.toNat = x) (ot : rw_h E m f = rw_h E0 m f) (q : cph_ok E m r f E0 k) : cph_ok E1 m r f E0 (k + 1) := fun c hc => by
  rw [hh c]
  split
  · rename_i e
    rw [e, ← hx, ot]
  · exact q c (by omega)
theorem cpp_push {r f k x : Int} (hh : ∀ n : Nat, rw_p E1 m r n = if n = k.toNat then x else rw_p E m r n) (k0 : 0 ≤ k) (hx : rw_p E m f k.toNat = x) (ot : rw_p E m f = rw_p E0 m f) (q : cpp_ok E m r f E0 k) : cpp_ok E1 m r f E0 (k + 1) := fun c hc => by
  rw [hh c]
  split
  · rename_i e
    rw [e, ← hx, ot]
  · exact q c (by omega)
theorem row_copy {r f : Int} (q : row_ok E m f) (hc : ∀ c : Nat, c < 150 → rw_h E1 m r c = rw_h E m f c ∧ rw_p E1 m r c = rw_p E m f c) (en : tw_fi E m 26 ≤ tw_fi E1 m 26) : row_ok E1 m r := by
  obtain ⟨⟨t1, t2, t3⟩, ⟨x, x0, x1, x2, x3⟩, q3, q4⟩ := q
  refine ⟨rt_ext (fun c h => (hc c h).1) (fun c h => (hc c h).2) t1 t2 t3, ⟨x, x0, x1, ?_, ?_⟩, Nat.le_trans (rt_size_ext (fun c h => (hc c h).1)) q3, fun c h hx => ?_⟩
  · rw [(hc _ (by omega)).1]
    exact x2
  · rw [(hc _ (by omega)).2]
    exact x3
  · rw [(hc c h).1] at hx
    exact Int.lt_of_lt_of_le (q4 c h hx) en
theorem eo_ok_ot {r : Int} (TH : tw_H D cs kp L E1 A H) (h : tw_fr kp L ms ks E E1) (hm : m ∈ L) (hk : kp m = 12) (h1 : ∀ x ∈ [(12, 26), (12, 27)], x ∉ ms) (ot : ot_ok E1 m r E) (hr : tw_fi E m 27 ≤ r) (q : eo_ok E m) : eo_ok E1 m := by
  intro i h0 h3
  have hb := tw_fi_ed TH hm hk
  rw [tw_fi_fr h hm hk (h1 _ (by decide))] at h3 hb
  obtain ⟨e1, e2⟩ := ot i h0 (by omega) (by omega)
  exact row_ok_same e1 e2 (Int.le_of_eq (tw_fi_fr h hm hk (h1 _ (by decide))).symm) (q i h0 h3)
theorem dr_ok_ot {r : Int} (h : tw_fr kp L ms ks E E1) (hm : m ∈ L) (hk : kp m = 12) (h1 : ∀ x ∈ [(12, 26), (12, 29)], x ∉ ms) (ot : ot_ok E1 m r E) (hr : r ≠ 12) (q : dr_ok E m) : dr_ok E1 m := fun hd => by
  rw [tw_fi_fr h hm hk (h1 _ (by decide))] at hd
  obtain ⟨e1, e2⟩ := ot 12 (by omega) (by omega) (by omega)
  exact row_ok_same e1 e2 (Int.le_of_eq (tw_fi_fr h hm hk (h1 _ (by decide))).symm) (q hd)
theorem ht_of_h (hh : ∀ n : Nat, 24 ≤ n → n < 150 → rw_h E m 15 n = 0) : ht_ok E m := fun n a b => by
  have := hh n a b
  have z : (tw_iv E (tw_rf E (tw_fa E m 16) 15) n).toInt = 0 := this
  exact (fa_eq _ _).mpr (by rw [z]; decide)
theorem ht_ok_ot {r : Int} (ot : ot_ok E1 m r E) (hr : r ≠ 15) (q : ht_ok E m) : ht_ok E1 m := ht_of_h (fun n a b => by
  rw [(ot 15 (by omega) (by omega) (by omega)).1]
  exact ht_h q a b)
end RWK
/-- one edition more -/
theorem eo_ok_inc {D : va_G} {A : Nat → Prop} {H : Heap} {cs : Nat → ClassId} {kp : Nat → Nat} {L : List Nat} {E E1 : Nat → va_E} {ms : List (Nat × Nat)} {ks : List Nat} {m : Nat} {r : Int} (TH : tw_H D cs kp L E1 A H) (h : tw_fr kp L ms ks E E1) (hm : m ∈ L) (hk : kp m = 12) (h1 : ∀ x ∈ [(12, 16), (12, 18), (12, 26)], x ∉ ms) (h2 : ∀ x ∈ [316, 318, 326, 328], x ∉ ks) (hr : tw_fi E m 27 = r) (hi : tw_fi E1 m 27 = r + 1) (qr : row_ok E m r) (q : eo_ok E m) : eo_ok E1 m := by
  intro i h0 h3
  have hb := tw_fi_ed TH hm hk
  rw [hi] at h3 hb
  refine row_ok_fr TH h hm hk h1 h2 (by omega) ?_
  by_cases e : i = r
  · rw [e]
    exact qr
  · exact q i h0 (by rw [hr]; omega)
def rw_w (E : Nat → va_E) (m : Nat) (i : Int) : Nat → Int := fun n => (tw_lv E (tw_rf E (tw_fa E m 17) i.toNat) n).toInt
theorem rw_w_of {E : Nat → va_E} {m o xr : Nat} {i c : Int32} {x : Int64} (h : tw_fv E m 17 = .ref o) (er : tw_rf E o i.toNatClampNeg = xr) (ev : tw_lv E xr c.toNatClampNeg = x) : rw_w E m i.toInt c.toInt.toNat = x.toInt := by
  show (tw_lv E (tw_rf E (tw_fa E m 17) i.toNatClampNeg) c.toNatClampNeg).toInt = _
  rw [tw_fa_of h, er, ev]
/-- nothing is settled for a node and a kind between two editions, among the first k -/
def st_nk (E : Nat → va_E) (m : Nat) (n kd a b : Int) (k : Int) : Prop := ∀ j : Nat, (j : Int) < k → ¬ (tw_el E m 54 j = n ∧ tw_el E m 55 j = kd ∧ (tw_el E m 56 j = a ∨ tw_el E m 56 j = b))
def st_ns (E : Nat → va_E) (m : Nat) (n kd a b : Int) : Prop := st_nk E m n kd a b (tw_fi E m 58)
theorem st_nk_step {E : Nat → va_E} {m : Nat} {n kd a b k k1 : Int} (i : st_nk E m n kd a b k) (k0 : 0 ≤ k) (hk : k1 = k + 1) (hx : ¬ (tw_el E m 54 k.toNat = n ∧ tw_el E m 55 k.toNat = kd ∧ (tw_el E m 56 k.toNat = a ∨ tw_el E m 56 k.toNat = b))) : st_nk E m n kd a b k1 := by
  subst hk
  intro j hj
  by_cases e : (j : Int) = k
  · rw [show j = k.toNat by omega]
    exact hx
  · exact i j (by omega)
/-- the sides quarrel about a node's word or parent, and nothing is settled -/
def un_w (E : Nat → va_E) (m : Nat) (n a b o : Int) : Prop := rw_h E m a n.toNat ≠ 0 ∧ rw_h E m b n.toNat ≠ 0 ∧ rw_w E m a n.toNat ≠ rw_w E m b n.toNat ∧ (rw_h E m o n.toNat ≠ 0 → rw_w E m a n.toNat ≠ rw_w E m o n.toNat ∧ rw_w E m b n.toNat ≠ rw_w E m o n.toNat) ∧ st_ns E m n 2 a b
def un_p (E : Nat → va_E) (m : Nat) (n a b o : Int) : Prop := rw_h E m a n.toNat ≠ 0 ∧ rw_h E m b n.toNat ≠ 0 ∧ rw_p E m a n.toNat ≠ rw_p E m b n.toNat ∧ (rw_h E m o n.toNat ≠ 0 → rw_p E m a n.toNat ≠ rw_p E m o n.toNat ∧ rw_p E m b n.toNat ≠ rw_p E m o n.toNat) ∧ st_ns E m n 3 a b
theorem st_flag (E : Nat → va_E) (m : Nat) (n kd a b : Int) : ∃ s : Int, s = -1 ↔ st_ns E m n kd a b := by
  by_cases h : st_ns E m n kd a b
  · exact ⟨-1, fun _ => h, fun _ => rfl⟩
  · exact ⟨0, fun z => absurd z (by decide), fun z => absurd z h⟩
section UNF
variable {D : va_G} {A : Nat → Prop} {H : Heap} {cs : Nat → ClassId} {kp : Nat → Nat} {L : List Nat} {E E1 : Nat → va_E} {ms : List (Nat × Nat)} {ks : List Nat} {m : Nat}
theorem rw_w_fr (TH : tw_H D cs kp L E1 A H) (h : tw_fr kp L ms ks E E1) (hm : m ∈ L) (hk : kp m = 12) (h1 : (12, 17) ∉ ms) (h2 : 317 ∉ ks) (h3 : 327 ∉ ks) {i : Int} (hi : i.toNat < 16) : rw_w E1 m i = rw_w E m i := by
  have r := tw_rf_fr TH h hm hk (k := 17) (by decide) (by decide) (kd := 317) rfl (by decide) h1 h2 i.toNat
  obtain ⟨w1, w2⟩ := tw_rw TH hm hk (k := 17) (i := i.toNat) (by decide) (by decide) (kd := 317) rfl (by decide) (t0 := 6) (n := 16) (rk := 327) (hi := 0) rfl hi
  have e5 := h.2 _ w1 (by rw [w2]; decide) (by rw [w2]; exact h3)
  funext n
  show (tw_lv E1 (tw_rf E1 (tw_fa E1 m 17) i.toNat) n).toInt = (tw_lv E (tw_rf E (tw_fa E m 17) i.toNat) n).toInt
  rw [← r]
  unfold tw_lv
  rw [e5]
theorem st_ns_fr (TH : tw_H D cs kp L E1 A H) (h : tw_fr kp L ms ks E E1) (hm : m ∈ L) (hk : kp m = 12) (h1 : ∀ f ∈ [54, 55, 56, 58], (12, f) ∉ ms) (h2 : ∀ k ∈ [360, 361, 362], k ∉ ks) {n kd a b : Int} : st_ns E1 m n kd a b = st_ns E m n kd a b := by
  unfold st_ns st_nk
  rw [tw_fi_fr h hm hk (h1 58 (by decide))]
  have e1 := fun j => tw_el_fr TH h hm hk (k := 54) (by decide) (by decide) (kd := 360) rfl (by decide) (h1 54 (by decide)) (h2 360 (by decide)) j
  have e2 := fun j => tw_el_fr TH h hm hk (k := 55) (by decide) (by decide) (kd := 361) rfl (by decide) (h1 55 (by decide)) (h2 361 (by decide)) j
  have e3 := fun j => tw_el_fr TH h hm hk (k := 56) (by decide) (by decide) (kd := 362) rfl (by decide) (h1 56 (by decide)) (h2 362 (by decide)) j
  simp only [e1, e2, e3]
theorem un_fr (TH : tw_H D cs kp L E1 A H) (h : tw_fr kp L ms ks E E1) (hm : m ∈ L) (hk : kp m = 12) (h1 : ∀ f ∈ [16, 17, 18, 54, 55, 56, 58], (12, f) ∉ ms) (h2 : ∀ k ∈ [316, 317, 318, 326, 327, 328, 360, 361, 362], k ∉ ks) {n a b o : Int} (ha : a.toNat < 16) (hb : b.toNat < 16) (ho : o.toNat < 16) : un_w E1 m n a b o = un_w E m n a b o ∧ un_p E1 m n a b o = un_p E m n a b o := by
  have fh : ∀ i : Int, i.toNat < 16 → rw_h E1 m i = rw_h E m i := fun i hi => rw_h_fr TH h hm hk (h1 16 (by decide)) (h2 316 (by decide)) (h2 326 (by decide)) hi
  have fp : ∀ i : Int, i.toNat < 16 → rw_p E1 m i = rw_p E m i := fun i hi => rw_p_fr TH h hm hk (h1 18 (by decide)) (h2 318 (by decide)) (h2 328 (by decide)) hi
  have fw : ∀ i : Int, i.toNat < 16 → rw_w E1 m i = rw_w E m i := fun i hi => rw_w_fr TH h hm hk (h1 17 (by decide)) (h2 317 (by decide)) (h2 327 (by decide)) hi
  have fs : ∀ kd : Int, st_ns E1 m n kd a b = st_ns E m n kd a b := fun kd => st_ns_fr TH h hm hk (fun f hf => h1 f (by revert f; decide)) (fun k hk2 => h2 k (by revert k; decide))
  unfold un_w un_p
  rw [fh a ha, fh b hb, fh o ho, fp a ha, fp b hb, fp o ho, fw a ha, fw b hb, fw o ho, fs 2, fs 3]
  exact ⟨rfl, rfl⟩
end UNF
/-- no quarrel of words (kind 2) or of parents (kind 3) among the nodes looked at so far -/
def fq_ok (E : Nat → va_E) (m : Nat) (a b o kd n : Int) : Prop := (∀ j : Int, 0 ≤ j → j < tw_fi E m 26 → (kd = 2 → j < n) → ¬ un_w E m j a b o) ∧ ∀ j : Int, 0 ≤ j → j < tw_fi E m 26 → 3 ≤ kd → (kd = 3 → j < n) → ¬ un_p E m j a b o
theorem fq_init {E : Nat → va_E} {m : Nat} {a b o kd n : Int} (hk : kd = 2) (hn : n = 0) : fq_ok E m a b o kd n := by
  subst hk hn
  exact ⟨fun j h0 _ h2 => absurd (h2 rfl) (by omega), fun j _ _ h3 => absurd h3 (by decide)⟩
theorem fq_n0 {E : Nat → va_E} {m : Nat} {a b o kd n k : Int} (i : fq_ok E m a b o kd k) (hk : k = 0) (hn : n = 0) : fq_ok E m a b o kd n := by subst hk hn; exact i
theorem fq_next {E : Nat → va_E} {m : Nat} {a b o kd n kd1 : Int} (i : fq_ok E m a b o kd n) (k2 : 2 ≤ kd) (hn : tw_fi E m 26 ≤ n) (hk : kd1 = kd + 1) : fq_ok E m a b o kd1 0 := by
  subst hk
  refine ⟨fun j h0 h1 h2 => i.1 j h0 h1 (fun _ => by omega), fun j h0 h1 h3 h4 => i.2 j h0 h1 ?_ (fun _ => by omega)⟩
  apply Decidable.byContradiction
  intro q
  have := h4 (by omega)
  omega
theorem fq_step {E : Nat → va_E} {m : Nat} {a b o kd n n1 : Int} (i : fq_ok E m a b o kd n) (hn : n1 = n + 1) (hw : kd = 2 → ¬ un_w E m n a b o) (hp : kd ≠ 2 → ¬ un_p E m n a b o) : fq_ok E m a b o kd n1 := by
  subst hn
  refine ⟨fun j h0 h1 h2 => ?_, fun j h0 h1 h3 h4 => ?_⟩
  · by_cases e : j = n ∧ kd = 2
    · rw [e.1]; exact hw e.2
    · exact i.1 j h0 h1 (fun q => by have := h2 q; omega)
  · by_cases e : j = n ∧ kd = 3
    · rw [e.1]; exact hp (by omega)
    · exact i.2 j h0 h1 h3 (fun q => by have := h4 q; omega)
/-- a long stored at a column leaves the other columns -/
theorem rw_w_col {D : va_G} {A : Nat → Prop} {H : Heap} {cs : Nat → ClassId} {kp : Nat → Nat} {L : List Nat} {E E1 : Nat → va_E} {m a : Nat} {c : Int32} {x : Int64} (TH : tw_H D cs kp L E1 A H) (hm : m ∈ L) (hk : kp m = 12) (hka : kp a = 327) (p2 : ∀ b j : Nat, tw_fv E1 b j = tw_fv E b j) (p3 : ∀ b : Nat, b ≠ a → E1 b = E b) (p4 : ∀ j : Nat, tw_lv E1 a j = if j = c.toNatClampNeg then x else tw_lv E a j) {i : Int} {j : Nat} (hj : j ≠ c.toInt.toNat) : rw_w E1 m i j = rw_w E m i j := by
  have r := tw_rf_fr TH (tw_fr.ast (ms := []) (ks := [327]) (k := 327) tw_fr.rf (fun _ => hka) p2 p3 (by decide)) hm hk (k := 17) (by decide) (by decide) (kd := 317) rfl (by decide) (by decide) (by decide) i.toNat
  show (tw_lv E1 (tw_rf E1 (tw_fa E1 m 17) i.toNat) j).toInt = (tw_lv E (tw_rf E (tw_fa E m 17) i.toNat) j).toInt
  rw [r]
  by_cases e : tw_rf E (tw_fa E m 17) i.toNat = a
  · rw [e, p4, if_neg (show j ≠ c.toNatClampNeg from hj)]
  · unfold tw_lv
    rw [p3 _ e]
/-- words from a column on are as they were -/
def ww_ok (E : Nat → va_E) (m : Nat) (E0 : Nat → va_E) (k : Int) : Prop := ∀ i : Int, 0 ≤ i → i < 16 → ∀ j : Nat, k ≤ j → rw_w E m i j = rw_w E0 m i j
theorem ww_ok_rf {E : Nat → va_E} {m : Nat} {k : Int} : ww_ok E m E k := fun _ _ _ _ _ => rfl
theorem ww_ok_fr {D : va_G} {A : Nat → Prop} {H : Heap} {cs : Nat → ClassId} {kp : Nat → Nat} {L : List Nat} {E E1 E0 : Nat → va_E} {ms : List (Nat × Nat)} {ks : List Nat} {m : Nat} {k : Int} (TH : tw_H D cs kp L E1 A H) (h : tw_fr kp L ms ks E E1) (hm : m ∈ L) (hk : kp m = 12) (h1 : ∀ x ∈ [(12, 17)], x ∉ ms) (h2 : ∀ x ∈ [317, 327], x ∉ ks) (q : ww_ok E m E0 k) : ww_ok E1 m E0 k := fun i h0 h3 j hj => by
  rw [rw_w_fr TH h hm hk (h1 _ (by decide)) (h2 _ (by decide)) (h2 _ (by decide)) (by omega)]
  exact q i h0 h3 j hj
theorem ww_ok_cast {E E0 : Nat → va_E} {m : Nat} {k k1 : Int} (h : k = k1) (q : ww_ok E m E0 k) : ww_ok E m E0 k1 := h ▸ q
theorem ww_ok_mono {E E0 : Nat → va_E} {m : Nat} {k k1 : Int} (h : k ≤ k1) (q : ww_ok E m E0 k) : ww_ok E m E0 k1 := fun i h0 h3 j hj => q i h0 h3 j (by omega)
/-- the merged row's nodes so far -/
def sx_ok (E : Nat → va_E) (m : Nat) (E0 : Nat → va_E) (a b k : Int) : Prop := ∀ c : Nat, (c : Int) < k → (rw_h E m 13 c ≠ 0 → (c : Int) < tw_fi E0 m 26) ∧ (rw_h E0 m a c ≠ 0 → rw_h E0 m b c ≠ 0 → rw_p E0 m a c = -1 → rw_p E0 m b c = -1 → rw_h E m 13 c ≠ 0 ∧ rw_p E m 13 c = -1)
theorem sx_ok_cast {E E0 : Nat → va_E} {m : Nat} {a b k k1 : Int} (h : k = k1) (q : sx_ok E m E0 a b k) : sx_ok E m E0 a b k1 := h ▸ q
theorem sx_ok_fr {D : va_G} {A : Nat → Prop} {H : Heap} {cs : Nat → ClassId} {kp : Nat → Nat} {L : List Nat} {E E1 E0 : Nat → va_E} {ms : List (Nat × Nat)} {ks : List Nat} {m : Nat} {a b k : Int} (TH : tw_H D cs kp L E1 A H) (h : tw_fr kp L ms ks E E1) (hm : m ∈ L) (hk : kp m = 12) (h1 : ∀ x ∈ [(12, 16), (12, 18)], x ∉ ms) (h2 : ∀ x ∈ [316, 318, 326, 328], x ∉ ks) (q : sx_ok E m E0 a b k) : sx_ok E1 m E0 a b k := fun c hc => by
  rw [rw_h_fr TH h hm hk (h1 _ (by decide)) (h2 _ (by decide)) (h2 _ (by decide)) (i := 13) (by decide), rw_p_fr TH h hm hk (h1 _ (by decide)) (h2 _ (by decide)) (h2 _ (by decide)) (i := 13) (by decide)]
  exact q c hc
theorem sx_zero {E E0 : Nat → va_E} {m : Nat} {a b k : Int} (hk : k = 0) : sx_ok E m E0 a b k := fun c hc => absurd hc (by omega)
theorem sx_keep {E E1 E0 : Nat → va_E} {m : Nat} {a b k v : Int} (q : sx_ok E m E0 a b k) (k0 : 0 ≤ k) (hh : ∀ c : Nat, rw_h E1 m 13 c = if c = k.toNat then v else rw_h E m 13 c) (hp : rw_p E1 m 13 = rw_p E m 13) : sx_ok E1 m E0 a b k := fun c hc => by
  rw [hp, hh c, if_neg (by omega)]
  exact q c hc
theorem sx_push0 {E E0 : Nat → va_E} {m : Nat} {a b k : Int} (q : sx_ok E m E0 a b k) (hz : rw_h E m 13 k.toNat = 0) (hn : ¬ (rw_h E0 m a k.toNat ≠ 0 ∧ rw_h E0 m b k.toNat ≠ 0)) : sx_ok E m E0 a b (k + 1) := fun c hc => by
  by_cases e : c = k.toNat
  · subst e
    exact ⟨fun z => absurd hz z, fun z1 z2 => absurd ⟨z1, z2⟩ hn⟩
  · exact q c (by omega)
theorem sx_push1 {E E1 E0 : Nat → va_E} {m : Nat} {a b k x : Int} (q : sx_ok E m E0 a b k) (k0 : 0 ≤ k) (hN : k < tw_fi E0 m 26) (hz : rw_h E m 13 k.toNat ≠ 0) (hh : rw_h E1 m 13 = rw_h E m 13) (hp : ∀ c : Nat, rw_p E1 m 13 c = if c = k.toNat then x else rw_p E m 13 c) (hx : rw_h E0 m a k.toNat ≠ 0 → rw_h E0 m b k.toNat ≠ 0 → rw_p E0 m a k.toNat = -1 → rw_p E0 m b k.toNat = -1 → x = -1) : sx_ok E1 m E0 a b (k + 1) := fun c hc => by
  rw [hh, hp c]
  by_cases e : c = k.toNat
  · subst e
    rw [if_pos rfl]
    exact ⟨fun _ => by omega, fun z1 z2 z3 z4 => ⟨hz, hx z1 z2 z3 z4⟩⟩
  · rw [if_neg e]
    exact q c (by omega)
theorem sx_rem {E E1 E0 : Nat → va_E} {m : Nat} {a b k n : Int} (q : sx_ok E m E0 a b k) (hh : ∀ c : Nat, rw_h E1 m 13 c = if c = n.toNat then 0 else rw_h E m 13 c) (hp : rw_p E1 m 13 = rw_p E m 13) (hn : rw_p E m 13 n.toNat ≠ -1) : sx_ok E1 m E0 a b k := fun c hc => by
  rw [hp, hh c]
  by_cases e : c = n.toNat
  · subst e
    rw [if_pos rfl]
    exact ⟨fun z => absurd rfl z, fun z1 z2 z3 z4 => absurd ((q _ hc).2 z1 z2 z3 z4).2 hn⟩
  · rw [if_neg e]
    exact q c hc
theorem rt_size_rem {h h1 : Nat → Int} {n : Int} (hh : ∀ c : Nat, h1 c = if c = n.toNat then 0 else h c) (n0 : 0 ≤ n) (n1 : n < 150) (hn : h n.toNat ≠ 0) : rt_size h1 + 1 ≤ rt_size h := by
  refine rt_cnt_lt (fun i _ hp => ?_) ⟨n.toNat, by omega, ?_, ?_⟩
  · simp only [decide_eq_true_eq] at hp ⊢
    rw [hh i] at hp
    intro z
    rw [z] at hp
    exact hp (by split <;> rfl)
  · rw [hh, if_pos rfl]; rfl
  · simp only [decide_eq_true_eq]; exact hn
/-- each of the first nodes has its parent there -/
def tk_ok (E : Nat → va_E) (m : Nat) (k : Int) : Prop := ∀ c : Nat, (c : Int) < k → rw_h E m 13 c ≠ 0 → rw_p E m 13 c = -1 ∨ (0 ≤ rw_p E m 13 c ∧ rw_p E m 13 c < 150 ∧ rw_h E m 13 (rw_p E m 13 c).toNat ≠ 0)
theorem tk_step {E : Nat → va_E} {m : Nat} {k k1 : Int} (q : tk_ok E m k) (hk : k1 = k + 1) (hx : rw_h E m 13 k.toNat ≠ 0 → rw_p E m 13 k.toNat = -1 ∨ (0 ≤ rw_p E m 13 k.toNat ∧ rw_p E m 13 k.toNat < 150 ∧ rw_h E m 13 (rw_p E m 13 k.toNat).toNat ≠ 0)) : tk_ok E m k1 := fun c hc hz => by
  by_cases e : c = k.toNat
  · subst e; exact hx hz
  · exact q c (by omega) hz
theorem tk_done {E : Nat → va_E} {m : Nat} {k : Int} (q : tk_ok E m k) (hk : 150 ≤ k) : t1_ok E m 13 := fun c hc hz => q c (by omega) hz
theorem un_w_same {E E1 : Nat → va_E} {m : Nat} {n a b o : Int} (ha : rw_h E1 m a = rw_h E m a) (hb : rw_h E1 m b = rw_h E m b) (ho : rw_h E1 m o = rw_h E m o) (wa : rw_w E1 m a n.toNat = rw_w E m a n.toNat) (wb : rw_w E1 m b n.toNat = rw_w E m b n.toNat) (wo : rw_w E1 m o n.toNat = rw_w E m o n.toNat) (hs : st_ns E1 m n 2 a b = st_ns E m n 2 a b) : un_w E1 m n a b o = un_w E m n a b o := by
  unfold un_w
  rw [ha, hb, ho, wa, wb, wo, hs]
theorem un_p_same {E E1 : Nat → va_E} {m : Nat} {n a b o : Int} (ha : rw_h E1 m a = rw_h E m a) (hb : rw_h E1 m b = rw_h E m b) (ho : rw_h E1 m o = rw_h E m o) (wa : rw_p E1 m a = rw_p E m a) (wb : rw_p E1 m b = rw_p E m b) (wo : rw_p E1 m o = rw_p E m o) (hs : st_ns E1 m n 3 a b = st_ns E m n 3 a b) : un_p E1 m n a b o = un_p E m n a b o := by
  unfold un_p
  rw [ha, hb, ho, wa, wb, wo, hs]
/-- no node is contrary among the first, if there is no quarrel -/
def nc_ok (E : Nat → va_E) (m : Nat) (k : Int) : Prop := tw_fi E m 57 = 0 → ∀ c : Nat, (c : Int) < k → tw_el E m 60 c = 0
theorem nc_ok_cast {E : Nat → va_E} {m : Nat} {k k1 : Int} (h : k = k1) (q : nc_ok E m k) : nc_ok E m k1 := h ▸ q
theorem nc_ok_fr {D : va_G} {A : Nat → Prop} {H : Heap} {cs : Nat → ClassId} {kp : Nat → Nat} {L : List Nat} {E E1 : Nat → va_E} {ms : List (Nat × Nat)} {ks : List Nat} {m : Nat} {k : Int} (TH : tw_H D cs kp L E1 A H) (h : tw_fr kp L ms ks E E1) (hm : m ∈ L) (hk : kp m = 12) (h1 : ∀ x ∈ [(12, 57), (12, 60)], x ∉ ms) (h2 : ∀ x ∈ [364], x ∉ ks) (q : nc_ok E m k) : nc_ok E1 m k := fun z c hc => by
  rw [tw_fi_fr h hm hk (h1 _ (by decide))] at z
  rw [tw_el_fr TH h hm hk (k := 60) (by decide) (by decide) (kd := 364) rfl (by decide) (h1 _ (by decide)) (h2 _ (by decide))]
  exact q z c hc
theorem nc_push {E : Nat → va_E} {m : Nat} {k : Int} (q : nc_ok E m k) (hx : tw_el E m 60 k.toNat = 0) : nc_ok E m (k + 1) := fun z c hc => by
  by_cases e : c = k.toNat
  · rw [e]; exact hx
  · exact q z c (by omega)
/-- a root is the top, among the first -/
def r3_ok (h p : Nat → Int) (top k : Int) : Prop := ∀ c : Nat, (c : Int) < k → h c ≠ 0 → p c = -1 → (c : Int) = top
theorem r3_step {h p : Nat → Int} {top k k1 : Int} (i : r3_ok h p top k) (hk : k1 = k + 1) (hx : h k.toNat ≠ 0 → p k.toNat = -1 → k = top) (k0 : 0 ≤ k) : r3_ok h p top k1 := fun c hc hz hp => by
  by_cases e : (c : Int) = k
  · have ec : c = k.toNat := by omega
    rw [ec] at hz hp
    exact e.trans (hx hz hp)
  · exact i c (by omega) hz hp
theorem r3_T3 {h p : Nat → Int} {top k : Int} (i : r3_ok h p top k) (hk : 150 ≤ k) : rt_T3 h p := fun a b ha hb h1 h2 p1 p2 => by
  have x := i a (by omega) h1 p1
  have y := i b (by omega) h2 p2
  omega
theorem fq_fr {D : va_G} {A : Nat → Prop} {H : Heap} {cs : Nat → ClassId} {kp : Nat → Nat} {L : List Nat} {E E1 : Nat → va_E} {ms : List (Nat × Nat)} {ks : List Nat} {m : Nat} (TH : tw_H D cs kp L E1 A H) (h : tw_fr kp L ms ks E E1) (hm : m ∈ L) (hk : kp m = 12) (h0 : (12, 26) ∉ ms) (h1 : ∀ f ∈ [16, 17, 18, 54, 55, 56, 58], (12, f) ∉ ms) (h2 : ∀ k ∈ [316, 317, 318, 326, 327, 328, 360, 361, 362], k ∉ ks) {a b o kd n : Int} (ha : a.toNat < 16) (hb : b.toNat < 16) (ho : o.toNat < 16) (q : fq_ok E m a b o kd n) : fq_ok E1 m a b o kd n := by
  unfold fq_ok
  rw [tw_fi_fr h hm hk h0]
  refine ⟨fun j j0 j1 j2 => ?_, fun j j0 j1 j2 j3 => ?_⟩
  · rw [(un_fr TH h hm hk h1 h2 ha hb ho).1]; exact q.1 j j0 j1 j2
  · rw [(un_fr TH h hm hk h1 h2 ha hb ho).2]; exact q.2 j j0 j1 j2 j3
theorem ot_ok_tr {E E1 E0 : Nat → va_E} {m : Nat} {r : Int} (x : ot_ok E1 m r E) (y : ot_ok E m r E0) : ot_ok E1 m r E0 := fun j h0 h1 h2 => ⟨(x j h0 h1 h2).1.trans (y j h0 h1 h2).1, (x j h0 h1 h2).2.trans (y j h0 h1 h2).2⟩
/-- no rings in the merged row, and few nodes -/
def lr_ok (E : Nat → va_E) (m : Nat) : Prop := lr_all (rw_h E m 13) (rw_p E m 13) 150 ∧ rt_size (rw_h E m 13) ≤ 40
theorem lr_ok_fr {D : va_G} {A : Nat → Prop} {H : Heap} {cs : Nat → ClassId} {kp : Nat → Nat} {L : List Nat} {E E1 : Nat → va_E} {ms : List (Nat × Nat)} {ks : List Nat} {m : Nat} (TH : tw_H D cs kp L E1 A H) (h : tw_fr kp L ms ks E E1) (hm : m ∈ L) (hk : kp m = 12) (h1 : ∀ x ∈ [(12, 16), (12, 18)], x ∉ ms) (h2 : ∀ x ∈ [316, 318, 326, 328], x ∉ ks) (q : lr_ok E m) : lr_ok E1 m := by
  unfold lr_ok
  rw [rw_h_fr TH h hm hk (h1 _ (by decide)) (h2 _ (by decide)) (h2 _ (by decide)) (i := 13) (by decide), rw_p_fr TH h hm hk (h1 _ (by decide)) (h2 _ (by decide)) (h2 _ (by decide)) (i := 13) (by decide)]
  exact q
/-- two rows have one root -/
def r2_ok (E : Nat → va_E) (m : Nat) (a b : Int) : Prop := ∃ r : Int, 0 ≤ r ∧ r < 150 ∧ rw_h E m a r.toNat ≠ 0 ∧ rw_h E m b r.toNat ≠ 0 ∧ rw_p E m a r.toNat = -1 ∧ rw_p E m b r.toNat = -1
theorem row_13 {E E0 : Nat → va_E} {m : Nat} {a b : Int} (t1 : t1_ok E m 13) (sx : sx_ok E m E0 a b 150) (lr : lr_ok E m) (t3 : rt_T3 (rw_h E m 13) (rw_p E m 13)) (hN : tw_fi E0 m 26 ≤ tw_fi E m 26) (r2 : r2_ok E0 m a b) : row_ok E m 13 := by
  refine ⟨⟨t1, lr_T2 t1 (fun n hn hz => lr.1 n (by omega) hz), t3⟩, ?_, lr.2, fun c hc hz => ?_⟩
  · obtain ⟨r, r0, r1, r2, r3, r4, r5⟩ := r2
    have w := (sx r.toNat (by omega)).2 r2 r3 r4 r5
    exact ⟨r, r0, r1, w.1, w.2⟩
  · have := (sx c (by omega)).1 hz
    omega
theorem r2_fr {D : va_G} {A : Nat → Prop} {H : Heap} {cs : Nat → ClassId} {kp : Nat → Nat} {L : List Nat} {E E1 : Nat → va_E} {ms : List (Nat × Nat)} {ks : List Nat} {m : Nat} {a b : Int} (TH : tw_H D cs kp L E1 A H) (h : tw_fr kp L ms ks E E1) (hm : m ∈ L) (hk : kp m = 12) (h1 : ∀ x ∈ [(12, 16), (12, 18)], x ∉ ms) (h2 : ∀ x ∈ [316, 318, 326, 328], x ∉ ks) (ha : a.toNat < 16) (hb : b.toNat < 16) (q : r2_ok E m a b) : r2_ok E1 m a b := by
  have fh : ∀ i : Int, i.toNat < 16 → rw_h E1 m i = rw_h E m i := fun i hi => rw_h_fr TH h hm hk (h1 _ (by decide)) (h2 _ (by decide)) (h2 _ (by decide)) hi
  have fp : ∀ i : Int, i.toNat < 16 → rw_p E1 m i = rw_p E m i := fun i hi => rw_p_fr TH h hm hk (h1 _ (by decide)) (h2 _ (by decide)) (h2 _ (by decide)) hi
  unfold r2_ok
  rw [fh a ha, fh b hb, fp a ha, fp b hb]
  exact q
/-- each edition's parents are earlier ones, with the same root -/
def ln_ok (E : Nat → va_E) (m : Nat) : Prop := ∀ e : Nat, (e : Int) < tw_fi E m 27 → ∀ f ∈ [24, 25], tw_el E m f e = -1 ∨ (0 ≤ tw_el E m f e ∧ tw_el E m f e < e ∧ r2_ok E m e (tw_el E m f e))
theorem ln_same {E E1 : Nat → va_E} {m : Nat} (eN : tw_fi E1 m 27 = tw_fi E m 27) (ep : ∀ f ∈ [24, 25], ∀ j : Nat, tw_el E1 m f j = tw_el E m f j) (er : ∀ i : Int, 0 ≤ i → i < tw_fi E m 27 → rw_h E1 m i = rw_h E m i ∧ rw_p E1 m i = rw_p E m i) (q : ln_ok E m) : ln_ok E1 m := fun e he f hf => by
  rw [eN] at he
  rw [ep f hf e]
  rcases q e he f hf with z | ⟨z0, z1, z2⟩
  · exact Or.inl z
  · refine Or.inr ⟨z0, z1, ?_⟩
    have a := er e (by omega) he
    have b := er _ z0 (by omega)
    unfold r2_ok at z2 ⊢
    rw [a.1, a.2, b.1, b.2]
    exact z2
section LNF
variable {D : va_G} {A : Nat → Prop} {H : Heap} {cs : Nat → ClassId} {kp : Nat → Nat} {L : List Nat} {E E1 : Nat → va_E} {ms : List (Nat × Nat)} {ks : List Nat} {m : Nat}
theorem ln_el (TH : tw_H D cs kp L E1 A H) (h : tw_fr kp L ms ks E E1) (hm : m ∈ L) (hk : kp m = 12) (h1 : ∀ x ∈ [(12, 24), (12, 25)], x ∉ ms) (h2 : ∀ x ∈ [334, 335], x ∉ ks) : ∀ f ∈ [24, 25], ∀ j : Nat, tw_el E1 m f j = tw_el E m f j := fun f hf j => by
  have hf : f = 24 ∨ f = 25 := by simpa using hf
  rcases hf with rfl | rfl
  · exact tw_el_fr TH h hm hk (by decide) (by decide) (kd := 334) rfl (by decide) (h1 _ (by decide)) (h2 _ (by decide)) j
  · exact tw_el_fr TH h hm hk (by decide) (by decide) (kd := 335) rfl (by decide) (h1 _ (by decide)) (h2 _ (by decide)) j
theorem ln_ok_fr (TH : tw_H D cs kp L E1 A H) (h : tw_fr kp L ms ks E E1) (hm : m ∈ L) (hk : kp m = 12) (h1 : ∀ x ∈ [(12, 16), (12, 18), (12, 24), (12, 25), (12, 27)], x ∉ ms) (h2 : ∀ x ∈ [316, 318, 326, 328, 334, 335], x ∉ ks) (q : ln_ok E m) : ln_ok E1 m := by
  have hb := tw_fi_ed TH hm hk
  have eN := tw_fi_fr h hm hk (h1 (12, 27) (by decide))
  refine ln_same eN (ln_el TH h hm hk (fun x hx => h1 x (by revert x; decide)) (fun x hx => h2 x (by revert x; decide))) (fun i i0 i1 => ?_) q
  exact ⟨rw_h_fr TH h hm hk (h1 _ (by decide)) (h2 _ (by decide)) (h2 _ (by decide)) (by omega), rw_p_fr TH h hm hk (h1 _ (by decide)) (h2 _ (by decide)) (h2 _ (by decide)) (by omega)⟩
theorem ln_ok_h {o a : Nat} {i : Int32} (TH : tw_H D cs kp L E1 A H) (hm : m ∈ L) (hk : kp m = 12) (rd : rd_ok E m) (ho : tw_fv E m 16 = .ref o) (er : tw_rf E o i.toNatClampNeg = a) (hko : kp o = 316) (hka : kp a = 326) (p2 : ∀ b j : Nat, tw_fv E1 b j = tw_fv E b j) (p3 : ∀ b : Nat, b ≠ a → E1 b = E b) (hi0 : 0 ≤ i.toInt) (hi : i.toInt < 16) (he : tw_fi E1 m 27 ≤ i.toInt) (q : ln_ok E m) : ln_ok E1 m := by
  have hb := tw_fi_ed TH hm hk
  have hfi : ∀ k : Nat, tw_fi E1 m k = tw_fi E m k := fun k => by unfold tw_fi; rw [p2]
  have hn := ia_tn hi0
  rw [hfi] at hb he
  exact ln_same (hfi 27) (ln_el TH (tw_fr.ast (ms := []) (ks := [326]) (k := 326) tw_fr.rf (fun _ => hka) p2 p3 (by decide)) hm hk (by decide) (by decide)) (fun j j0 j1 => ⟨rw_h_oth rd ho er hko hka p2 p3 (by omega) (by omega) (by omega), rw_p_hst TH hm hk hka p2 p3 (by omega)⟩) q
theorem ln_ok_p {o a : Nat} {i : Int32} (TH : tw_H D cs kp L E1 A H) (hm : m ∈ L) (hk : kp m = 12) (rd : rd_ok E m) (ho : tw_fv E m 18 = .ref o) (er : tw_rf E o i.toNatClampNeg = a) (hko : kp o = 318) (hka : kp a = 328) (p2 : ∀ b j : Nat, tw_fv E1 b j = tw_fv E b j) (p3 : ∀ b : Nat, b ≠ a → E1 b = E b) (hi0 : 0 ≤ i.toInt) (hi : i.toInt < 16) (he : tw_fi E1 m 27 ≤ i.toInt) (q : ln_ok E m) : ln_ok E1 m := by
  have hb := tw_fi_ed TH hm hk
  have hfi : ∀ k : Nat, tw_fi E1 m k = tw_fi E m k := fun k => by unfold tw_fi; rw [p2]
  have hn := ia_tn hi0
  rw [hfi] at hb he
  exact ln_same (hfi 27) (ln_el TH (tw_fr.ast (ms := []) (ks := [328]) (k := 328) tw_fr.rf (fun _ => hka) p2 p3 (by decide)) hm hk (by decide) (by decide)) (fun j j0 j1 => ⟨rw_h_pst TH hm hk hka p2 p3 (by omega), rw_p_oth rd ho er hko hka p2 p3 (by omega) (by omega) (by omega)⟩) q
theorem ln_ok_ot {r : Int} (TH : tw_H D cs kp L E1 A H) (h : tw_fr kp L ms ks E E1) (hm : m ∈ L) (hk : kp m = 12) (h1 : ∀ x ∈ [(12, 24), (12, 25), (12, 27)], x ∉ ms) (h2 : ∀ x ∈ [334, 335], x ∉ ks) (ot : ot_ok E1 m r E) (hr : tw_fi E m 27 ≤ r) (q : ln_ok E m) : ln_ok E1 m := by
  have hb := tw_fi_ed TH hm hk
  have eN := tw_fi_fr h hm hk (h1 (12, 27) (by decide))
  rw [eN] at hb
  exact ln_same eN (ln_el TH h hm hk (fun x hx => h1 x (by revert x; decide)) h2) (fun i i0 i1 => ot i i0 (by omega) (by omega)) q
/-- one edition more -/
theorem ln_ok_inc {r : Int} (TH : tw_H D cs kp L E1 A H) (h : tw_fr kp L ms ks E E1) (hm : m ∈ L) (hk : kp m = 12) (h1 : ∀ x ∈ [(12, 16), (12, 18)], x ∉ ms) (h2 : ∀ x ∈ [316, 318, 326, 328], x ∉ ks) (hr : tw_fi E m 27 = r) (hi : tw_fi E1 m 27 = r + 1) (ep : ∀ f ∈ [24, 25], ∀ j : Nat, (j : Int) < r → tw_el E1 m f j = tw_el E m f j) (en : ∀ f ∈ [24, 25], tw_el E1 m f r.toNat = -1 ∨ (0 ≤ tw_el E1 m f r.toNat ∧ tw_el E1 m f r.toNat < r ∧ r2_ok E m r (tw_el E1 m f r.toNat))) (q : ln_ok E m) : ln_ok E1 m := fun e he f hf => by
  have hb := tw_fi_ed TH hm hk
  rw [hi] at he hb
  have rr : ∀ a b : Int, 0 ≤ a → a ≤ r → 0 ≤ b → b ≤ r → r2_ok E m a b → r2_ok E1 m a b := fun a b a0 a1 b0 b1 z => r2_fr TH h hm hk h1 h2 (by omega) (by omega) z
  by_cases e1 : (e : Int) = r
  · have e2 : e = r.toNat := by omega
    subst e2
    rcases en f hf with z | ⟨z0, z1, z2⟩
    · exact Or.inl z
    · refine Or.inr ⟨z0, by omega, rr _ _ (by omega) (by omega) z0 (by omega) ?_⟩
      rw [e1]
      exact z2
  · rw [ep f hf e (by omega)]
    rcases q e (by rw [hr]; omega) f hf with z | ⟨z0, z1, z2⟩
    · exact Or.inl z
    · exact Or.inr ⟨z0, z1, rr _ _ (by omega) (by omega) z0 (by omega) z2⟩
end LNF
/-- one root goes through -/
theorem r2_tr {E : Nat → va_E} {m : Nat} {a b c : Int} (hb : rw_ok E m b) (x : r2_ok E m a b) (y : r2_ok E m b c) : r2_ok E m a c := by
  obtain ⟨r, r0, r1, r2, r3, r4, r5⟩ := x
  obtain ⟨s, s0, s1, s2, s3, s4, s5⟩ := y
  have e := hb.2.2 r.toNat s.toNat (by omega) (by omega) r3 s2 r5 s4
  have e2 : s = r := by omega
  subst e2
  exact ⟨s, r0, r1, r2, s3, r4, s5⟩
theorem r2_rf {E : Nat → va_E} {m : Nat} {a : Int} (q : row_ok E m a) : r2_ok E m a a := by
  obtain ⟨r, r0, r1, r2, r3⟩ := q.2.1
  exact ⟨r, r0, r1, r2, r2, r3, r3⟩
theorem r2_sy {E : Nat → va_E} {m : Nat} {a b : Int} (q : r2_ok E m a b) : r2_ok E m b a := by
  obtain ⟨r, r0, r1, r2, r3, r4, r5⟩ := q
  exact ⟨r, r0, r1, r3, r2, r5, r4⟩
/-- the merged row has the root of both -/
theorem r2_13 {E E0 : Nat → va_E} {m : Nat} {a b : Int} (sx : sx_ok E m E0 a b 150) (ha : rw_h E m a = rw_h E0 m a ∧ rw_p E m a = rw_p E0 m a) (hb : rw_h E m b = rw_h E0 m b ∧ rw_p E m b = rw_p E0 m b) (r2 : r2_ok E0 m a b) : r2_ok E m 13 a ∧ r2_ok E m 13 b := by
  obtain ⟨r, r0, r1, r2, r3, r4, r5⟩ := r2
  have w := (sx r.toNat (by omega)).2 r2 r3 r4 r5
  refine ⟨⟨r, r0, r1, w.1, ?_, w.2, ?_⟩, ⟨r, r0, r1, w.1, ?_, w.2, ?_⟩⟩
  · rw [ha.1]; exact r2
  · rw [ha.2]; exact r4
  · rw [hb.1]; exact r3
  · rw [hb.2]; exact r5
/-- the cells of the editions' parents -/
def p24_ok (E : Nat → va_E) (m : Nat) (g : Nat → Int) : Prop := ∀ j : Nat, tw_el E m 24 j = g j
def p25_ok (E : Nat → va_E) (m : Nat) (g : Nat → Int) : Prop := ∀ j : Nat, tw_el E m 25 j = g j
theorem p24_ok_fr {D : va_G} {A : Nat → Prop} {H : Heap} {cs : Nat → ClassId} {kp : Nat → Nat} {L : List Nat} {E E1 : Nat → va_E} {ms : List (Nat × Nat)} {ks : List Nat} {m : Nat} {g : Nat → Int} (TH : tw_H D cs kp L E1 A H) (h : tw_fr kp L ms ks E E1) (hm : m ∈ L) (hk : kp m = 12) (h1 : ∀ x ∈ [(12, 24)], x ∉ ms) (h2 : ∀ x ∈ [334], x ∉ ks) (q : p24_ok E m g) : p24_ok E1 m g := fun j =>
  (tw_el_fr TH h hm hk (by decide) (by decide) (kd := 334) rfl (by decide) (h1 _ (by decide)) (h2 _ (by decide)) j).trans (q j)
theorem p25_ok_fr {D : va_G} {A : Nat → Prop} {H : Heap} {cs : Nat → ClassId} {kp : Nat → Nat} {L : List Nat} {E E1 : Nat → va_E} {ms : List (Nat × Nat)} {ks : List Nat} {m : Nat} {g : Nat → Int} (TH : tw_H D cs kp L E1 A H) (h : tw_fr kp L ms ks E E1) (hm : m ∈ L) (hk : kp m = 12) (h1 : ∀ x ∈ [(12, 25)], x ∉ ms) (h2 : ∀ x ∈ [335], x ∉ ks) (q : p25_ok E m g) : p25_ok E1 m g := fun j =>
  (tw_el_fr TH h hm hk (by decide) (by decide) (kd := 335) rfl (by decide) (h1 _ (by decide)) (h2 _ (by decide)) j).trans (q j)
theorem r2_copy {E E1 : Nat → va_E} {m : Nat} {r f a : Int} (hc : ∀ c : Nat, c < 150 → rw_h E1 m r c = rw_h E m f c ∧ rw_p E1 m r c = rw_p E m f c) (ha : rw_h E1 m a = rw_h E m a ∧ rw_p E1 m a = rw_p E m a) (q : r2_ok E m f a) : r2_ok E1 m r a := by
  obtain ⟨x, x0, x1, x2, x3, x4, x5⟩ := q
  have c := hc x.toNat (by omega)
  exact ⟨x, x0, x1, by rw [c.1]; exact x2, by rw [ha.1]; exact x3, by rw [c.2]; exact x4, by rw [ha.2]; exact x5⟩
theorem r2_ok_fr {D : va_G} {A : Nat → Prop} {H : Heap} {cs : Nat → ClassId} {kp : Nat → Nat} {L : List Nat} {E E1 : Nat → va_E} {ms : List (Nat × Nat)} {ks : List Nat} {m : Nat} {a b : Int} (TH : tw_H D cs kp L E1 A H) (h : tw_fr kp L ms ks E E1) (hm : m ∈ L) (hk : kp m = 12) (h1 : ∀ x ∈ [(12, 16), (12, 18)], x ∉ ms) (h2 : ∀ x ∈ [316, 318, 326, 328], x ∉ ks) (hab : a.toNat < 16 ∧ b.toNat < 16) (q : r2_ok E m a b) : r2_ok E1 m a b := r2_fr TH h hm hk h1 h2 hab.1 hab.2 q
theorem r2_ok_cast {E : Nat → va_E} {m : Nat} {a b a1 b1 : Int} (h : a = a1 ∧ b = b1) (q : r2_ok E m a b) : r2_ok E m a1 b1 := by
  obtain ⟨rfl, rfl⟩ := h
  exact q
theorem r2_ot {E E1 : Nat → va_E} {m : Nat} {r a b : Int} (ot : ot_ok E1 m r E) (a0 : 0 ≤ a) (a1 : a < 16) (a2 : a ≠ r) (b0 : 0 ≤ b) (b1 : b < 16) (b2 : b ≠ r) (q : r2_ok E m a b) : r2_ok E1 m a b := by
  have ha := ot a a0 a1 a2
  have hb := ot b b0 b1 b2
  unfold r2_ok
  rw [ha.1, ha.2, hb.1, hb.2]
  exact q
