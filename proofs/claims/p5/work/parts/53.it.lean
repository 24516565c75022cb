/-! the grids of items -/
def g10_ok (E : Nat → va_E) (m : Nat) (F : Nat → Nat → Int) : Prop := ∀ j i : Nat, j < 10 → rx E m 10 j i = F j i
def g11_ok (E : Nat → va_E) (m : Nat) (F : Nat → Nat → Int) : Prop := ∀ j i : Nat, j < 10 → rx E m 11 j i = F j i
section ITF
variable {D : va_G} {A : Nat → Prop} {H : Heap} {cs : Nat → ClassId} {kp : Nat → Nat} {L : List Nat} {E E1 : Nat → va_E} {ms : List (Nat × Nat)} {ks : List Nat} {m o a : Nat} {i c x : Int32}
theorem rx_fr10 (TH : tw_H D cs kp L E1 A H) (h : tw_fr kp L ms ks E E1) (hm : m ∈ L) (hk : kp m = 12) (h1 : (12, 10) ∉ ms) (h2 : 310 ∉ ks) (h3 : 320 ∉ ks) {j : Nat} (hj : j < 10) (n : Nat) : rx E1 m 10 j n = rx E m 10 j n := by
  have r := tw_rf_fr TH h hm hk (k := 10) (by decide) (by decide) (kd := 310) rfl (by decide) h1 h2 j
  obtain ⟨w1, w2⟩ := tw_rw TH hm hk (k := 10) (i := j) (by decide) (by decide) (kd := 310) rfl (by decide) (t0 := 4) (n := 10) (rk := 320) (hi := 0) rfl hj
  have e5 := h.2 _ w1 (by rw [w2]; decide) (by rw [w2]; exact h3)
  show (tw_iv E1 (tw_rf E1 (tw_fa E1 m 10) j) n).toInt = (tw_iv E (tw_rf E (tw_fa E m 10) j) n).toInt
  rw [← r]
  unfold tw_iv
  rw [e5]
theorem g10_ok_fr {F : Nat → Nat → Int} (TH : tw_H D cs kp L E1 A H) (h : tw_fr kp L ms ks E E1) (hm : m ∈ L) (hk : kp m = 12) (h1 : ∀ x ∈ [(12, 10)], x ∉ ms) (h2 : ∀ x ∈ [310, 320], x ∉ ks) (q : g10_ok E m F) : g10_ok E1 m F := fun j n hj => (rx_fr10 TH h hm hk (h1 _ (by decide)) (h2 _ (by decide)) (h2 _ (by decide)) hj n).trans (q j n hj)
theorem g10_st {F : Nat → Nat → Int} (rg : rg_ok E m) (ho : tw_fv E m 10 = .ref o) (er : tw_rf E o i.toNatClampNeg = a) (hko : kp o = 310) (hka : kp a = 320) (p2 : ∀ b j : Nat, tw_fv E1 b j = tw_fv E b j) (p3 : ∀ b : Nat, b ≠ a → E1 b = E b) (p4 : ∀ j : Nat, tw_iv E1 a j = if j = c.toNatClampNeg then x else tw_iv E a j) (hi : i.toNatClampNeg < 10) (q : g10_ok E m F) : g10_ok E1 m (fun j n => if j = i.toInt.toNat ∧ n = c.toInt.toNat then x.toInt else F j n) := fun j n hj => by
  have hne : o ≠ a := fun z => by rw [z, hka] at hko; exact absurd hko (by decide)
  have key : rx E1 m 10 j n = (tw_iv E1 (tw_rf E (tw_fa E m 10) j) n).toInt := by
    show (tw_iv E1 (tw_rf E1 (tw_fa E1 m 10) j) n).toInt = _
    rw [tw_fa_of ((p2 m 10).trans ho), tw_fa_of ho, tw_rf_keep hne p3]
  rw [key]
  show _ = (if j = i.toNatClampNeg ∧ n = c.toNatClampNeg then x.toInt else F j n)
  by_cases e : j = i.toNatClampNeg
  · rw [e, tw_fa_of ho, er, p4]
    by_cases e2 : n = c.toNatClampNeg
    · rw [if_pos e2, if_pos ⟨rfl, e2⟩]
    · rw [if_neg e2, if_neg (fun z => e2 z.2), ← q _ n hi]
      show _ = (tw_iv E (tw_rf E (tw_fa E m 10) i.toNatClampNeg) n).toInt
      rw [tw_fa_of ho, er]
  · have hr : tw_rf E (tw_fa E m 10) j ≠ a := fun z => e (rg 10 (by decide) j i.toNatClampNeg hj hi (by rw [z, tw_fa_of ho, er]))
    rw [if_neg (fun z => e z.1), ← q j n hj]
    show (tw_iv E1 _ n).toInt = (tw_iv E (tw_rf E (tw_fa E m 10) j) n).toInt
    unfold tw_iv
    rw [p3 _ hr]
theorem rx_fr11 (TH : tw_H D cs kp L E1 A H) (h : tw_fr kp L ms ks E E1) (hm : m ∈ L) (hk : kp m = 12) (h1 : (12, 11) ∉ ms) (h2 : 311 ∉ ks) (h3 : 321 ∉ ks) {j : Nat} (hj : j < 10) (n : Nat) : rx E1 m 11 j n = rx E m 11 j n := by
  have r := tw_rf_fr TH h hm hk (k := 11) (by decide) (by decide) (kd := 311) rfl (by decide) h1 h2 j
  obtain ⟨w1, w2⟩ := tw_rw TH hm hk (k := 11) (i := j) (by decide) (by decide) (kd := 311) rfl (by decide) (t0 := 4) (n := 10) (rk := 321) (hi := 0) rfl hj
  have e5 := h.2 _ w1 (by rw [w2]; decide) (by rw [w2]; exact h3)
  show (tw_iv E1 (tw_rf E1 (tw_fa E1 m 11) j) n).toInt = (tw_iv E (tw_rf E (tw_fa E m 11) j) n).toInt
  rw [← r]
  unfold tw_iv
  rw [e5]
theorem g11_ok_fr {F : Nat → Nat → Int} (TH : tw_H D cs kp L E1 A H) (h : tw_fr kp L ms ks E E1) (hm : m ∈ L) (hk : kp m = 12) (h1 : ∀ x ∈ [(12, 11)], x ∉ ms) (h2 : ∀ x ∈ [311, 321], x ∉ ks) (q : g11_ok E m F) : g11_ok E1 m F := fun j n hj => (rx_fr11 TH h hm hk (h1 _ (by decide)) (h2 _ (by decide)) (h2 _ (by decide)) hj n).trans (q j n hj)
theorem g11_st {F : Nat → Nat → Int} (rg : rg_ok E m) (ho : tw_fv E m 11 = .ref o) (er : tw_rf E o i.toNatClampNeg = a) (hko : kp o = 311) (hka : kp a = 321) (p2 : ∀ b j : Nat, tw_fv E1 b j = tw_fv E b j) (p3 : ∀ b : Nat, b ≠ a → E1 b = E b) (p4 : ∀ j : Nat, tw_iv E1 a j = if j = c.toNatClampNeg then x else tw_iv E a j) (hi : i.toNatClampNeg < 10) (q : g11_ok E m F) : g11_ok E1 m (fun j n => if j = i.toInt.toNat ∧ n = c.toInt.toNat then x.toInt else F j n) := fun j n hj => by
  have hne : o ≠ a := fun z => by rw [z, hka] at hko; exact absurd hko (by decide)
  have key : rx E1 m 11 j n = (tw_iv E1 (tw_rf E (tw_fa E m 11) j) n).toInt := by
    show (tw_iv E1 (tw_rf E1 (tw_fa E1 m 11) j) n).toInt = _
    rw [tw_fa_of ((p2 m 11).trans ho), tw_fa_of ho, tw_rf_keep hne p3]
  rw [key]
  show _ = (if j = i.toNatClampNeg ∧ n = c.toNatClampNeg then x.toInt else F j n)
  by_cases e : j = i.toNatClampNeg
  · rw [e, tw_fa_of ho, er, p4]
    by_cases e2 : n = c.toNatClampNeg
    · rw [if_pos e2, if_pos ⟨rfl, e2⟩]
    · rw [if_neg e2, if_neg (fun z => e2 z.2), ← q _ n hi]
      show _ = (tw_iv E (tw_rf E (tw_fa E m 11) i.toNatClampNeg) n).toInt
      rw [tw_fa_of ho, er]
  · have hr : tw_rf E (tw_fa E m 11) j ≠ a := fun z => e (rg 11 (by decide) j i.toNatClampNeg hj hi (by rw [z, tw_fa_of ho, er]))
    rw [if_neg (fun z => e z.1), ← q j n hj]
    show (tw_iv E1 _ n).toInt = (tw_iv E (tw_rf E (tw_fa E m 11) j) n).toInt
    unfold tw_iv
    rw [p3 _ hr]
theorem rg_ok_fr (TH : tw_H D cs kp L E1 A H) (h : tw_fr kp L ms ks E E1) (hm : m ∈ L) (hk : kp m = 12) (h1 : ∀ x ∈ [(12, 10), (12, 11)], x ∉ ms) (h2 : ∀ x ∈ [310, 311], x ∉ ks) (q : rg_ok E m) : rg_ok E1 m := fun f hf i j hi hj e => by
  have hf2 : f = 10 ∨ f = 11 := by simpa using hf
  rcases hf2 with rfl | rfl
  · have r := tw_rf_fr TH h hm hk (k := 10) (by decide) (by decide) (kd := 310) rfl (by decide) (h1 _ (by decide)) (h2 _ (by decide))
    rw [r, r] at e
    exact q 10 (by decide) i j hi hj e
  · have r := tw_rf_fr TH h hm hk (k := 11) (by decide) (by decide) (kd := 311) rfl (by decide) (h1 _ (by decide)) (h2 _ (by decide))
    rw [r, r] at e
    exact q 11 (by decide) i j hi hj e
theorem ip_fr {k : Int} (TH : tw_H D cs kp L E1 A H) (h : tw_fr kp L ms ks E E1) (hm : m ∈ L) (hk : kp m = 12) (h1 : ∀ x ∈ [(12, 9), (12, 10), (12, 11)], x ∉ ms) (h2 : ∀ x ∈ [305, 310, 311, 320, 321], x ∉ ks) (hk10 : k ≤ 10) : ip_ E1 m k = ip_ E m k := by
  funext y
  apply propext
  unfold ip_
  rw [el_fr TH h hm hk (k := 9) (by decide) rfl (by decide) (h1 _ (by decide)) (h2 _ (by decide))]
  constructor
  · rintro ⟨j, n, hj, hn, e⟩
    rw [rx_fr10 TH h hm hk (h1 _ (by decide)) (h2 _ (by decide)) (h2 _ (by decide)) (by omega), rx_fr11 TH h hm hk (h1 _ (by decide)) (h2 _ (by decide)) (h2 _ (by decide)) (by omega)] at e
    exact ⟨j, n, hj, hn, e⟩
  · rintro ⟨j, n, hj, hn, e⟩
    rw [← rx_fr10 TH h hm hk (h1 _ (by decide)) (h2 _ (by decide)) (h2 _ (by decide)) (by omega), ← rx_fr11 TH h hm hk (h1 _ (by decide)) (h2 _ (by decide)) (h2 _ (by decide)) (by omega)] at e
    exact ⟨j, n, hj, hn, e⟩
theorem kp_fr {k : Int} (TH : tw_H D cs kp L E1 A H) (h : tw_fr kp L ms ks E E1) (hm : m ∈ L) (hk : kp m = 12) (h1 : ∀ x ∈ [(12, 6), (12, 7)], x ∉ ms) (h2 : ∀ x ∈ [302, 303], x ∉ ks) : kp_ E1 m k = kp_ E m k := by
  unfold kp_
  rw [el_fr TH h hm hk (k := 6) (by decide) rfl (by decide) (h1 _ (by decide)) (h2 _ (by decide)), el_fr TH h hm hk (k := 7) (by decide) rfl (by decide) (h1 _ (by decide)) (h2 _ (by decide))]
end ITF
/-- an item more, told by what was stored -/
theorem ip_more {E E1 : Nat → va_E} {m : Nat} {k s l c : Int} (k0 : 0 ≤ k) (k1 : k < 10) (hc : tw_el E m 9 k.toNat = c) (c0 : 0 ≤ c) (h9 : ∀ j : Nat, tw_el E1 m 9 j = if j = k.toNat then c + 1 else tw_el E m 9 j) (h10 : g10_ok E1 m (fun j n => if j = k.toNat ∧ n = c.toNat then s else rx E m 10 j n)) (h11 : g11_ok E1 m (fun j n => if j = k.toNat ∧ n = c.toNat then l else rx E m 11 j n)) : ip_ E1 m (k + 1) = gy_ins (ip_ E m (k + 1)) (s, s + l) := ip_push k0 hc c0 h9 (fun j n hj => h10 j n (by omega)) (fun j n hj => h11 j n (by omega))
noncomputable def it_q (E : Nat → va_E) (m : Nat) (k : Int) : Nat := cite (tw_el E m 8 k.toNat = 2) 2 1
theorem it_q12 (E : Nat → va_E) (m : Nat) (k : Int) : it_q E m k = 1 ∨ it_q E m k = 2 := by
  unfold it_q
  rcases Classical.em (tw_el E m 8 k.toNat = 2) with h | h
  · exact Or.inr (cite_pos h)
  · exact Or.inl (cite_neg h)
/-- two bytes an item -/
def it_c (t : Nat → Int) (n at_ c : Int) : Prop := 2 * c ≤ at_ + 1 ∧ (at_ < n → lx_le (t at_.toNat) → 2 * c ≤ at_)
theorem it_c_next {t : Nat → Int} {n s e s1 c c1 : Int} (q : it_c t n s c) (h : lx_TK t n s e) (s0 : 0 ≤ s) (hx : lx_nm t n s e) (w : lx_WS t n e s1) (hc : c1 = c + 1) : it_c t n s1 c1 := by
  have a := q.2 hx.1 hx.2.1
  have b := lx_TK_end h (by have := hx.1; omega)
  have b2 := b.2.2 hx.1
  have w1 := w.1
  refine ⟨by omega, fun h1 h2 => ?_⟩
  rcases h with z | z | z
  · omega
  · by_cases e1 : s1 = e
    · rw [e1] at h1 h2
      exact absurd h2 (z.2.2.2.2.2 h1)
    · omega
  · exact absurd hx.2.1 z.2.1
theorem it_c_mark {t : Nat → Int} {n s e s1 s2 c c1 : Int} (q : it_c t n s c) (h : lx_TK t n s e) (s0 : 0 ≤ s) (hx : lx_nm t n s e) (w : lx_WS t n e s1) (w2 : lx_WS t n (s1 + 1) s2) (hc : c1 = c + 1) : it_c t n s2 c1 := by
  have a := q.2 hx.1 hx.2.1
  have b := lx_TK_end h (by have := hx.1; omega)
  have b2 := b.2.2 hx.1
  have w1 := w.1
  have w3 := w2.1
  exact ⟨by omega, fun _ _ => by omega⟩
