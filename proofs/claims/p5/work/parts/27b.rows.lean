/-! rows of the reference: who is there, parents, places -/
def rw_h (E : Nat → va_E) (m : Nat) (i : Int) : Nat → Int := fun n => (tw_iv E (tw_rf E (tw_fa E m 16) i.toNat) n).toInt
def rw_p (E : Nat → va_E) (m : Nat) (i : Int) : Nat → Int := fun n => (tw_iv E (tw_rf E (tw_fa E m 18) i.toNat) n).toInt
def rw_q (E : Nat → va_E) (m : Nat) (i : Int) : Nat → Int := fun n => (tw_iv E (tw_rf E (tw_fa E m 19) i.toNat) n).toInt
theorem rw_h_of {E : Nat → va_E} {m o xr : Nat} {i c x : Int32} (h : tw_fv E m 16 = .ref o) (er : tw_rf E o i.toNatClampNeg = xr) (ev : tw_iv E xr c.toNatClampNeg = x) : rw_h E m i.toInt c.toInt.toNat = x.toInt := by
  show (tw_iv E (tw_rf E (tw_fa E m 16) i.toNatClampNeg) c.toNatClampNeg).toInt = _
  rw [tw_fa_of h, er, ev]
theorem rw_p_of {E : Nat → va_E} {m o xr : Nat} {i c x : Int32} (h : tw_fv E m 18 = .ref o) (er : tw_rf E o i.toNatClampNeg = xr) (ev : tw_iv E xr c.toNatClampNeg = x) : rw_p E m i.toInt c.toInt.toNat = x.toInt := by
  show (tw_iv E (tw_rf E (tw_fa E m 18) i.toNatClampNeg) c.toNatClampNeg).toInt = _
  rw [tw_fa_of h, er, ev]
theorem rw_q_of {E : Nat → va_E} {m o xr : Nat} {i c x : Int32} (h : tw_fv E m 19 = .ref o) (er : tw_rf E o i.toNatClampNeg = xr) (ev : tw_iv E xr c.toNatClampNeg = x) : rw_q E m i.toInt c.toInt.toNat = x.toInt := by
  show (tw_iv E (tw_rf E (tw_fa E m 19) i.toNatClampNeg) c.toNatClampNeg).toInt = _
  rw [tw_fa_of h, er, ev]
/-- a row is a tree: parents are there, the way up ends, there is one outermost node -/
def rw_ok (E : Nat → va_E) (m : Nat) (i : Int) : Prop := rt_T1 (rw_h E m i) (rw_p E m i) ∧ rt_T2 (rw_h E m i) (rw_p E m i) ∧ rt_T3 (rw_h E m i) (rw_p E m i)
theorem rw_ok_cast {E : Nat → va_E} {m : Nat} {i j : Int} (h : i = j) (q : rw_ok E m i) : rw_ok E m j := h ▸ q
/-- a node of a row -/
def nd_is (E : Nat → va_E) (m : Nat) (i n : Int) : Prop := 0 ≤ n ∧ n < 150 ∧ rw_h E m i n.toNat ≠ 0
theorem ht_h {E : Nat → va_E} {m n : Nat} (q : ht_ok E m) (h1 : 24 ≤ n) (h2 : n < 150) : rw_h E m 15 n = 0 := by
  have := q n h1 h2
  show (tw_iv E (tw_rf E (tw_fa E m 16) 15) n).toInt = 0
  rw [this]
  decide
theorem ht_le {E : Nat → va_E} {m : Nat} {i c : Int} (q : ht_ok E m) (h0 : 0 ≤ c) (h1 : c < 150) (h2 : rw_h E m i c.toNat ≠ 0) (hi : i = 15) : c ≤ 23 := by
  rcases Int.lt_or_le 23 c with h | h
  · subst hi
    exact absurd (ht_h q (n := c.toNat) (by omega) (by omega)) h2
  · exact h
/-- parents are there -/
def t1_ok (E : Nat → va_E) (m : Nat) (i : Int) : Prop := rt_T1 (rw_h E m i) (rw_p E m i)
theorem t1_ok_cast {E : Nat → va_E} {m : Nat} {i j : Int} (h : i = j) (q : t1_ok E m i) : t1_ok E m j := h ▸ q
theorem t1_le {E : Nat → va_E} {m : Nat} {i n x : Int} (t : t1_ok E m i) (q : ht_ok E m) (h0 : 0 ≤ n) (h1 : n < 150) (h2 : rw_h E m i n.toNat ≠ 0) (e : rw_p E m i n.toNat = x) (hx : x ≠ -1) (hi : i = 15) : x ≤ 23 := by
  rcases t n.toNat (by omega) h2 with z | ⟨a, b, c⟩
  · exact absurd (e.symm.trans z) hx
  · rw [e] at a b c
    exact ht_le q a b c hi
section RWF
variable {D : va_G} {A : Nat → Prop} {H : Heap} {cs : Nat → ClassId} {kp : Nat → Nat} {L : List Nat} {E E1 : Nat → va_E} {ms : List (Nat × Nat)} {ks : List Nat} {m : Nat}
theorem rw_h_fr (TH : tw_H D cs kp L E1 A H) (h : tw_fr kp L ms ks E E1) (hm : m ∈ L) (hk : kp m = 12) (h1 : (12, 16) ∉ ms) (h2 : 316 ∉ ks) (h3 : 326 ∉ ks) {i : Int} (hi : i.toNat < 16) : rw_h E1 m i = rw_h E m i := by
  have r := tw_rf_fr TH h hm hk (k := 16) (by decide) (by decide) (kd := 316) rfl (by decide) h1 h2 i.toNat
  obtain ⟨w1, w2⟩ := tw_rw TH hm hk (k := 16) (i := i.toNat) (by decide) (by decide) (kd := 316) rfl (by decide) (t0 := 5) (n := 16) (rk := 326) (hi := 0) rfl hi
  have e5 := h.2 _ w1 (by rw [w2]; decide) (by rw [w2]; exact h3)
  funext n
  show (tw_iv E1 (tw_rf E1 (tw_fa E1 m 16) i.toNat) n).toInt = (tw_iv E (tw_rf E (tw_fa E m 16) i.toNat) n).toInt
  rw [← r]
  unfold tw_iv
  rw [e5]
theorem rw_p_fr (TH : tw_H D cs kp L E1 A H) (h : tw_fr kp L ms ks E E1) (hm : m ∈ L) (hk : kp m = 12) (h1 : (12, 18) ∉ ms) (h2 : 318 ∉ ks) (h3 : 328 ∉ ks) {i : Int} (hi : i.toNat < 16) : rw_p E1 m i = rw_p E m i := by
  have r := tw_rf_fr TH h hm hk (k := 18) (by decide) (by decide) (kd := 318) rfl (by decide) h1 h2 i.toNat
  obtain ⟨w1, w2⟩ := tw_rw TH hm hk (k := 18) (i := i.toNat) (by decide) (by decide) (kd := 318) rfl (by decide) (t0 := 4) (n := 16) (rk := 328) (hi := 0) rfl hi
  have e5 := h.2 _ w1 (by rw [w2]; decide) (by rw [w2]; exact h3)
  funext n
  show (tw_iv E1 (tw_rf E1 (tw_fa E1 m 18) i.toNat) n).toInt = (tw_iv E (tw_rf E (tw_fa E m 18) i.toNat) n).toInt
  rw [← r]
  unfold tw_iv
  rw [e5]
theorem rw_q_fr (TH : tw_H D cs kp L E1 A H) (h : tw_fr kp L ms ks E E1) (hm : m ∈ L) (hk : kp m = 12) (h1 : (12, 19) ∉ ms) (h2 : 319 ∉ ks) (h3 : 329 ∉ ks) {i : Int} (hi : i.toNat < 16) : rw_q E1 m i = rw_q E m i := by
  have r := tw_rf_fr TH h hm hk (k := 19) (by decide) (by decide) (kd := 319) rfl (by decide) h1 h2 i.toNat
  obtain ⟨w1, w2⟩ := tw_rw TH hm hk (k := 19) (i := i.toNat) (by decide) (by decide) (kd := 319) rfl (by decide) (t0 := 4) (n := 16) (rk := 329) (hi := 0) rfl hi
  have e5 := h.2 _ w1 (by rw [w2]; decide) (by rw [w2]; exact h3)
  funext n
  show (tw_iv E1 (tw_rf E1 (tw_fa E1 m 19) i.toNat) n).toInt = (tw_iv E (tw_rf E (tw_fa E m 19) i.toNat) n).toInt
  rw [← r]
  unfold tw_iv
  rw [e5]
theorem t1_ok_fr {i : Int} (TH : tw_H D cs kp L E1 A H) (h : tw_fr kp L ms ks E E1) (hm : m ∈ L) (hk : kp m = 12) (h1 : ∀ x ∈ [(12, 16), (12, 18)], x ∉ ms) (h2 : ∀ x ∈ [316, 318, 326, 328], x ∉ ks) (hi : i.toNat < 16) (q : t1_ok E m i) : t1_ok E1 m i := by
  unfold t1_ok at q ⊢
  rw [rw_h_fr TH h hm hk (h1 _ (by decide)) (h2 _ (by decide)) (h2 _ (by decide)) hi, rw_p_fr TH h hm hk (h1 _ (by decide)) (h2 _ (by decide)) (h2 _ (by decide)) hi]
  exact q
theorem rw_ok_fr {i : Int} (TH : tw_H D cs kp L E1 A H) (h : tw_fr kp L ms ks E E1) (hm : m ∈ L) (hk : kp m = 12) (h1 : ∀ x ∈ [(12, 16), (12, 18)], x ∉ ms) (h2 : ∀ x ∈ [316, 318, 326, 328], x ∉ ks) (hi : i.toNat < 16) (q : rw_ok E m i) : rw_ok E1 m i := by
  unfold rw_ok at q ⊢
  rw [rw_h_fr TH h hm hk (h1 _ (by decide)) (h2 _ (by decide)) (h2 _ (by decide)) hi, rw_p_fr TH h hm hk (h1 _ (by decide)) (h2 _ (by decide)) (h2 _ (by decide)) hi]
  exact q
end RWF
