/-! words as numbers -/
def gw_ok (w : Int) : Prop := w = 0 ∨ w % 256 ≠ 0
theorem sg_nat (z : Int64) : z.toInt = if 2 * z.toUInt64.toNat < 2 ^ 64 then (z.toUInt64.toNat : Int) else (z.toUInt64.toNat : Int) - 2 ^ 64 := by
  have h := BitVec.toInt_eq_toNat_cond z.toBitVec
  exact h
theorem sh_nat (a c : Int64) {n : Nat} (hc : (c.toBitVec.smod 64).toNat = n) : (a <<< c).toUInt64.toNat = a.toUInt64.toNat * 2 ^ n % 2 ^ 64 := by
  show (a.toBitVec <<< (c.toBitVec.smod 64)).toNat = a.toBitVec.toNat * 2 ^ n % 2 ^ 64
  rw [BitVec.shiftLeft_eq', BitVec.toNat_shiftLeft, hc, Nat.shiftLeft_eq]
theorem gw_or {w b z s : Int64} (hs : s = (w <<< ((8 : Int32).toInt64 &&& 63))) (hz : z = s ||| b) (h0 : 0 < b.toInt) (h1 : b.toInt < 256) : z.toInt % 256 ≠ 0 := by
  have e8 : ((8 : Int32).toInt64 &&& 63) = (8 : Int64) := by decide
  rw [e8] at hs
  have hs2 := sh_nat w 8 (n := 8) (by decide)
  rw [← hs] at hs2
  have key : z.toUInt64.toNat % 256 = b.toUInt64.toNat % 256 := by
    have e1 : z.toUInt64.toNat = s.toUInt64.toNat ||| b.toUInt64.toNat := by
      rw [hz]
      show (s.toBitVec ||| b.toBitVec).toNat = _
      rw [BitVec.toNat_or]
      rfl
    rw [e1, show (256 : Nat) = 2 ^ 8 from rfl, Nat.or_mod_two_pow, hs2]
    have e2 : w.toUInt64.toNat * 2 ^ 8 % 2 ^ 64 % 2 ^ 8 = 0 := by omega
    rw [e2]
    simp
  have hb := sg_nat b
  have hzz := sg_nat z
  have hbl : b.toUInt64.toNat < 2 ^ 64 := b.toUInt64.toNat_lt
  split at hb <;> split at hzz <;> omega
theorem gw_or_ok {z : Int64} (h : z.toInt % 256 ≠ 0) : gw_ok z.toInt := Or.inr h
def lo_is (v : Nat) (L : Int) : Prop := (v = 0 ∧ L = 0) ∨ (1 ≤ L ∧ L ≤ 8 ∧ 2 ^ (8 * (L - 1).toNat) ≤ v ∧ v < 2 ^ (8 * L.toNat))
def lo_2 (w v : Int64) (n : Int) : Prop := 0 ≤ n ∧ n ≤ 8 ∧ v.toUInt64.toNat = w.toUInt64.toNat / 2 ^ (8 * n.toNat) ∧ (n = 0 ∨ 2 ^ (8 * (n - 1).toNat) ≤ w.toUInt64.toNat)
theorem lo_2_zero (w : Int64) {n : Int} (h : n = 0) : lo_2 w w n := by
  subst h
  refine ⟨by omega, by omega, ?_, Or.inl rfl⟩
  show w.toUInt64.toNat = w.toUInt64.toNat / 2 ^ 0
  rw [Nat.pow_zero, Nat.div_one]
theorem lo_2_step {w v u : Int64} {n m : Int} (h : lo_2 w v n) (hlt : n < 8) (hne : v.toInt ≠ 0) (hu : u = (v.toUInt64 >>> (((8 : Int32)).toInt64.toUInt64 &&& Int64.toUInt64 63)).toInt64) (hm : m = n + 1) : lo_2 w u m := by
  obtain ⟨a, b, q, -⟩ := h
  subst hm
  have e8 : (((8 : Int32)).toInt64.toUInt64 &&& Int64.toUInt64 63) = 8 := by decide
  rw [e8] at hu
  have e1 : u.toUInt64 = v.toUInt64 >>> 8 := by rw [hu]; simp
  have h1 := lo_ne hne
  rw [q] at h1
  refine ⟨by omega, by omega, ?_, Or.inr ?_⟩
  · have e3 : ((8 : UInt64).toNat % 64) = 8 := by decide
    rw [e1, UInt64.toNat_shiftRight, e3, Nat.shiftRight_eq_div_pow, q, Nat.div_div_eq_div_mul, ← Nat.pow_add, show 8 * n.toNat + 8 = 8 * (n + 1).toNat by omega]
  · rw [show (n + 1 - 1).toNat = n.toNat by omega]
    exact Nat.not_lt.mp (fun z => h1 (Nat.div_eq_of_lt z))
theorem lo_e0 {v : Int64} (h : v.toInt = 0) : v.toUInt64.toNat = 0 := by
  have e : v = 0 := Int64.toInt_inj.mp (by rw [h]; decide)
  rw [e]
  decide
theorem lo_2_done {w v : Int64} {n : Int} (h : lo_2 w v n) (hv : v.toInt = 0) : lo_is w.toUInt64.toNat n := by
  obtain ⟨a, b, q, r⟩ := h
  rw [lo_e0 hv] at q
  have hlt : w.toUInt64.toNat < 2 ^ (8 * n.toNat) := by
    rcases Nat.lt_or_ge w.toUInt64.toNat (2 ^ (8 * n.toNat)) with z | z
    · exact z
    · have := Nat.div_pos z (Nat.pow_pos (n := 8 * n.toNat) (show 0 < 2 by decide))
      omega
  by_cases n0 : n = 0
  · subst n0
    have hlt : w.toUInt64.toNat < 1 := hlt
    exact Or.inl ⟨by omega, rfl⟩
  · exact Or.inr ⟨by omega, b, r.resolve_left n0, hlt⟩
/-- flushed to the left -/
def lj (v : Nat) : Nat := if v < 2 ^ 8 then v * 2 ^ 56 else if v < 2 ^ 16 then v * 2 ^ 48 else if v < 2 ^ 24 then v * 2 ^ 40 else if v < 2 ^ 32 then v * 2 ^ 32 else if v < 2 ^ 40 then v * 2 ^ 24 else if v < 2 ^ 48 then v * 2 ^ 16 else if v < 2 ^ 56 then v * 2 ^ 8 else v
def lj_u (w : Int) : Nat := (w % 18446744073709551616).toNat
def lj_s (v : Nat) : Int := if 2 * v < 2 ^ 64 then (v : Int) else (v : Int) - 2 ^ 64
def lj_i (w : Int) : Int := lj_s (lj (lj_u w))
theorem lj_u_of (z : Int64) : lj_u z.toInt = z.toUInt64.toNat := by
  have h := sg_nat z
  have hl : z.toUInt64.toNat < 2 ^ 64 := z.toUInt64.toNat_lt
  unfold lj_u
  split at h <;> omega
theorem lj_lt {v : Nat} (hv : v < 2 ^ 64) : lj v < 2 ^ 64 := by
  unfold lj
  repeat' split
  all_goals omega
theorem lj_inj {v u : Nat} (gv : v = 0 ∨ v % 256 ≠ 0) (gu : u = 0 ∨ u % 256 ≠ 0) (e : lj v = lj u) : v = u := by
  unfold lj at e
  repeat' split at e
  all_goals omega
theorem lj_s_inj {v u : Nat} (hv : v < 2 ^ 64) (hu : u < 2 ^ 64) (e : lj_s v = lj_s u) : v = u := by
  unfold lj_s at e
  repeat' split at e
  all_goals omega
theorem lj_i_inj {w x : Int} (h1 : -9223372036854775808 ≤ w) (h2 : w < 9223372036854775808) (h3 : -9223372036854775808 ≤ x) (h4 : x < 9223372036854775808) (gw : gw_ok w) (gx : gw_ok x) (e : lj_i w = lj_i x) : w = x := by
  have a : lj_u w < 2 ^ 64 := by unfold lj_u; omega
  have b : lj_u x < 2 ^ 64 := by unfold lj_u; omega
  have c := lj_inj (v := lj_u w) (u := lj_u x) (by unfold lj_u gw_ok at *; omega) (by unfold lj_u gw_ok at *; omega) (lj_s_inj (lj_lt a) (lj_lt b) e)
  unfold lj_u at c
  omega
theorem lj_val {a z : Int64} {k : Int32} {L : Int} (hL : lo_is a.toUInt64.toNat L) (ha : a.toInt ≠ 0) (hk : k.toInt = 8 * (8 - L)) (hz : z = a <<< (k.toInt64 &&& 63)) : z.toInt = lj_i a.toInt := by
  have hne := lo_ne ha
  have al : a.toUInt64.toNat < 2 ^ 64 := a.toUInt64.toNat_lt
  unfold lj_i
  rw [lj_u_of, sg_nat z]
  have key : z.toUInt64.toNat = lj a.toUInt64.toNat := by
    rcases hL with ⟨h, -⟩ | ⟨l1, l2, h1, h2⟩
    · exact absurd h hne
    · have c : L = 1 ∨ L = 2 ∨ L = 3 ∨ L = 4 ∨ L = 5 ∨ L = 6 ∨ L = 7 ∨ L = 8 := by omega
      rw [hz]
      rcases c with rfl | rfl | rfl | rfl | rfl | rfl | rfl | rfl
      · have ek : k = 56 := Int32.toInt_inj.mp (by rw [hk]; decide)
        have h2 : a.toUInt64.toNat < 2 ^ 8 := h2
        rw [ek, show ((56 : Int32).toInt64 &&& 63) = (56 : Int64) from by decide, sh_nat a 56 (n := 56) (by decide)]
        unfold lj
        rw [if_pos h2]
        omega
      · have ek : k = 48 := Int32.toInt_inj.mp (by rw [hk]; decide)
        have h1 : 2 ^ 8 ≤ a.toUInt64.toNat := h1
        have h2 : a.toUInt64.toNat < 2 ^ 16 := h2
        rw [ek, show ((48 : Int32).toInt64 &&& 63) = (48 : Int64) from by decide, sh_nat a 48 (n := 48) (by decide)]
        unfold lj
        rw [if_neg (by omega), if_pos h2]
        omega
      · have ek : k = 40 := Int32.toInt_inj.mp (by rw [hk]; decide)
        have h1 : 2 ^ 16 ≤ a.toUInt64.toNat := h1
        have h2 : a.toUInt64.toNat < 2 ^ 24 := h2
        rw [ek, show ((40 : Int32).toInt64 &&& 63) = (40 : Int64) from by decide, sh_nat a 40 (n := 40) (by decide)]
        unfold lj
        rw [if_neg (by omega), if_neg (by omega), if_pos h2]
        omega
      · have ek : k = 32 := Int32.toInt_inj.mp (by rw [hk]; decide)
        have h1 : 2 ^ 24 ≤ a.toUInt64.toNat := h1
        have h2 : a.toUInt64.toNat < 2 ^ 32 := h2
        rw [ek, show ((32 : Int32).toInt64 &&& 63) = (32 : Int64) from by decide, sh_nat a 32 (n := 32) (by decide)]
        unfold lj
        rw [if_neg (by omega), if_neg (by omega), if_neg (by omega), if_pos h2]
        omega
      · have ek : k = 24 := Int32.toInt_inj.mp (by rw [hk]; decide)
        have h1 : 2 ^ 32 ≤ a.toUInt64.toNat := h1
        have h2 : a.toUInt64.toNat < 2 ^ 40 := h2
        rw [ek, show ((24 : Int32).toInt64 &&& 63) = (24 : Int64) from by decide, sh_nat a 24 (n := 24) (by decide)]
        unfold lj
        rw [if_neg (by omega), if_neg (by omega), if_neg (by omega), if_neg (by omega), if_pos h2]
        omega
      · have ek : k = 16 := Int32.toInt_inj.mp (by rw [hk]; decide)
        have h1 : 2 ^ 40 ≤ a.toUInt64.toNat := h1
        have h2 : a.toUInt64.toNat < 2 ^ 48 := h2
        rw [ek, show ((16 : Int32).toInt64 &&& 63) = (16 : Int64) from by decide, sh_nat a 16 (n := 16) (by decide)]
        unfold lj
        rw [if_neg (by omega), if_neg (by omega), if_neg (by omega), if_neg (by omega), if_neg (by omega), if_pos h2]
        omega
      · have ek : k = 8 := Int32.toInt_inj.mp (by rw [hk]; decide)
        have h1 : 2 ^ 48 ≤ a.toUInt64.toNat := h1
        have h2 : a.toUInt64.toNat < 2 ^ 56 := h2
        rw [ek, show ((8 : Int32).toInt64 &&& 63) = (8 : Int64) from by decide, sh_nat a 8 (n := 8) (by decide)]
        unfold lj
        rw [if_neg (by omega), if_neg (by omega), if_neg (by omega), if_neg (by omega), if_neg (by omega), if_neg (by omega), if_pos h2]
        omega
      · have ek : k = 0 := Int32.toInt_inj.mp (by rw [hk]; decide)
        have h1 : 2 ^ 56 ≤ a.toUInt64.toNat := h1
        rw [ek, show ((0 : Int32).toInt64 &&& 63) = (0 : Int64) from by decide, sh_nat a 0 (n := 0) (by decide)]
        unfold lj
        rw [if_neg (by omega), if_neg (by omega), if_neg (by omega), if_neg (by omega), if_neg (by omega), if_neg (by omega), if_neg (by omega)]
        omega
  rw [key]
  rfl
theorem lj_zero {a : Int64} (h : a.toInt = 0) : lj_i a.toInt = 0 := by
  rw [h]
  decide
/-! who is ahead among brothers -/
def ah (kd w : Nat → Int) (a b : Int) : Prop := kd a.toNat < kd b.toNat ∨ (kd a.toNat = kd b.toNat ∧ ((w a.toNat ≠ w b.toNat ∧ lj_i (w a.toNat) < lj_i (w b.toNat)) ∨ (w a.toNat = w b.toNat ∧ a < b)))
theorem ah_tr {kd w : Nat → Int} {a b c : Int} (x : ah kd w a b) (y : ah kd w b c) : ah kd w a c := by
  unfold ah at *
  by_cases e1 : w a.toNat = w b.toNat
  · by_cases e2 : w b.toNat = w c.toNat
    · have e3 := e1.trans e2
      omega
    · have e3 : w a.toNat ≠ w c.toNat := fun z => e2 (e1.symm.trans z)
      rw [e1] at x ⊢
      omega
  · by_cases e2 : w b.toNat = w c.toNat
    · rw [e2] at x
      rw [e2] at e1
      omega
    · by_cases e3 : w a.toNat = w c.toNat
      · rw [e3] at x e1 ⊢
        omega
      · omega
theorem ah_tot {kd w : Nat → Int} {a b : Int} (hi : lj_i (w a.toNat) = lj_i (w b.toNat) → w a.toNat = w b.toNat) (hne : a ≠ b) : ah kd w a b ∨ ah kd w b a := by
  unfold ah
  by_cases e1 : w a.toNat = w b.toNat
  · rw [e1]
    omega
  · have e2 : lj_i (w a.toNat) ≠ lj_i (w b.toNat) := fun z => e1 (hi z)
    omega
theorem ah_irr {kd w : Nat → Int} {a : Int} (x : ah kd w a a) : False := by
  unfold ah at x
  omega
noncomputable def rk_b (h p kd w : Nat → Int) (n : Int) (c : Nat) : Bool := @decide (h c ≠ 0 ∧ (c : Int) ≠ n ∧ p c = p n.toNat ∧ ah kd w c n) (Classical.propDecidable _)
theorem rk_b_iff {h p kd w : Nat → Int} {n : Int} {c : Nat} : rk_b h p kd w n c = true ↔ (h c ≠ 0 ∧ (c : Int) ≠ n ∧ p c = p n.toNat ∧ ah kd w c n) := by
  unfold rk_b
  exact @decide_eq_true_iff _ (Classical.propDecidable _)
/-- how many brothers are ahead -/
noncomputable def rk (h p kd w : Nat → Int) (n : Int) : Nat := rt_cnt (rk_b h p kd w n) 150
theorem rk_lt {h p kd w : Nat → Int} {a b : Int} (a0 : 0 ≤ a) (a1 : a < 150) (b0 : 0 ≤ b) (ha : h a.toNat ≠ 0) (hp : p a.toNat = p b.toNat) (x : ah kd w a b) : rk h p kd w a + 1 ≤ rk h p kd w b := by
  refine rt_cnt_lt (fun i _ hi => ?_) ⟨a.toNat, by omega, ?_, ?_⟩
  · rw [rk_b_iff] at hi ⊢
    refine ⟨hi.1, fun z => ?_, hi.2.2.1.trans hp, ah_tr hi.2.2.2 x⟩
    have y := hi.2.2.2
    rw [z] at y
    exact ah_irr (ah_tr y x)
  · cases e : rk_b h p kd w a a.toNat with
    | false => rfl
    | true =>
      rw [rk_b_iff] at e
      exact absurd (show ((a.toNat : Nat) : Int) = a by omega) e.2.1
  · rw [rk_b_iff, show ((a.toNat : Nat) : Int) = a by omega]
    refine ⟨ha, fun z => ?_, hp, x⟩
    rw [z] at x
    exact ah_irr x
/-! the tree of the text, as it is read: N nodes so far -/
theorem rw_w_st {E E1 : Nat → va_E} {kp : Nat → Nat} {m o a : Nat} {i c : Int32} {x : Int64} (ho : tw_fv E m 17 = .ref o) (er : tw_rf E o i.toNatClampNeg = a) (hko : kp o = 317) (hka : kp a = 327) (p2 : ∀ b j : Nat, tw_fv E1 b j = tw_fv E b j) (p3 : ∀ b : Nat, b ≠ a → E1 b = E b) (p4 : ∀ j : Nat, tw_lv E1 a j = if j = c.toNatClampNeg then x else tw_lv E a j) (n : Nat) : rw_w E1 m i.toInt n = if n = c.toInt.toNat then x.toInt else rw_w E m i.toInt n := by
  have hne : o ≠ a := fun z => by rw [z, hka] at hko; exact absurd hko (by decide)
  show (tw_lv E1 (tw_rf E1 (tw_fa E1 m 17) i.toNatClampNeg) n).toInt = if n = c.toNatClampNeg then x.toInt else (tw_lv E (tw_rf E (tw_fa E m 17) i.toNatClampNeg) n).toInt
  rw [tw_fa_of ((p2 m 17).trans ho), tw_fa_of ho, tw_rf_keep hne p3, er, p4]
  split <;> rfl
def th_ok (E : Nat → va_E) (m : Nat) (N : Int) : Prop := (0 ≤ N ∧ N ≤ 24) ∧ ∀ c : Nat, c < 150 → (rw_h E m 15 c ≠ 0 ↔ (c : Int) < N)
def tp_ok (E : Nat → va_E) (m : Nat) (N : Int) : Prop := ∀ c : Nat, (c : Int) < N → (c = 0 ∧ rw_p E m 15 c = -1) ∨ (0 < c ∧ 0 ≤ rw_p E m 15 c ∧ rw_p E m 15 c < c)
def tq_ok (E : Nat → va_E) (m : Nat) (N : Int) : Prop := ∀ c : Nat, (c : Int) < N → rw_q E m 15 c = c
def tg_ok (E : Nat → va_E) (m : Nat) (N : Int) : Prop := ∀ c : Nat, (c : Int) < N → gw_ok (rw_w E m 15 c)
theorem th_ok_cast {E : Nat → va_E} {m : Nat} {k k1 : Int} (h : k = k1) (q : th_ok E m k) : th_ok E m k1 := h ▸ q
theorem tp_ok_cast {E : Nat → va_E} {m : Nat} {k k1 : Int} (h : k = k1) (q : tp_ok E m k) : tp_ok E m k1 := h ▸ q
theorem tq_ok_cast {E : Nat → va_E} {m : Nat} {k k1 : Int} (h : k = k1) (q : tq_ok E m k) : tq_ok E m k1 := h ▸ q
theorem tg_ok_cast {E : Nat → va_E} {m : Nat} {k k1 : Int} (h : k = k1) (q : tg_ok E m k) : tg_ok E m k1 := h ▸ q
section TRF
variable {D : va_G} {A : Nat → Prop} {H : Heap} {cs : Nat → ClassId} {kp : Nat → Nat} {L : List Nat} {E E1 : Nat → va_E} {ms : List (Nat × Nat)} {ks : List Nat} {m : Nat} {N : Int}
theorem th_ok_fr (TH : tw_H D cs kp L E1 A H) (h : tw_fr kp L ms ks E E1) (hm : m ∈ L) (hk : kp m = 12) (h1 : ∀ x ∈ [(12, 16)], x ∉ ms) (h2 : ∀ x ∈ [316, 326], x ∉ ks) (q : th_ok E m N) : th_ok E1 m N := by
  unfold th_ok
  rw [rw_h_fr TH h hm hk (h1 _ (by decide)) (h2 _ (by decide)) (h2 _ (by decide)) (i := 15) (by decide)]
  exact q
theorem tp_ok_fr (TH : tw_H D cs kp L E1 A H) (h : tw_fr kp L ms ks E E1) (hm : m ∈ L) (hk : kp m = 12) (h1 : ∀ x ∈ [(12, 18)], x ∉ ms) (h2 : ∀ x ∈ [318, 328], x ∉ ks) (q : tp_ok E m N) : tp_ok E1 m N := by
  unfold tp_ok
  rw [rw_p_fr TH h hm hk (h1 _ (by decide)) (h2 _ (by decide)) (h2 _ (by decide)) (i := 15) (by decide)]
  exact q
theorem tq_ok_fr (TH : tw_H D cs kp L E1 A H) (h : tw_fr kp L ms ks E E1) (hm : m ∈ L) (hk : kp m = 12) (h1 : ∀ x ∈ [(12, 19)], x ∉ ms) (h2 : ∀ x ∈ [319, 329], x ∉ ks) (q : tq_ok E m N) : tq_ok E1 m N := by
  unfold tq_ok
  rw [rw_q_fr TH h hm hk (h1 _ (by decide)) (h2 _ (by decide)) (h2 _ (by decide)) (i := 15) (by decide)]
  exact q
theorem tg_ok_fr (TH : tw_H D cs kp L E1 A H) (h : tw_fr kp L ms ks E E1) (hm : m ∈ L) (hk : kp m = 12) (h1 : ∀ x ∈ [(12, 17)], x ∉ ms) (h2 : ∀ x ∈ [317, 327], x ∉ ks) (q : tg_ok E m N) : tg_ok E1 m N := by
  unfold tg_ok
  rw [rw_w_fr TH h hm hk (h1 _ (by decide)) (h2 _ (by decide)) (h2 _ (by decide)) (i := 15) (by decide)]
  exact q
end TRF
section TRP
variable {E E1 : Nat → va_E} {m : Nat} {N N1 v : Int}
theorem th_push (q : th_ok E m N) (hN : N ≤ 23) (h1 : N1 = N + 1) (hv : v ≠ 0) (hh : ∀ c : Nat, rw_h E1 m 15 c = if c = N.toNat then v else rw_h E m 15 c) : th_ok E1 m N1 := by
  refine ⟨by have := q.1; omega, fun c hc => ?_⟩
  rw [hh]
  by_cases e : c = N.toNat
  · rw [if_pos e]
    have := q.1
    exact ⟨fun _ => by omega, fun _ => hv⟩
  · rw [if_neg e, q.2 c hc]
    omega
theorem tp_push (q : tp_ok E m N) (n0 : 0 ≤ N) (h1 : N1 = N + 1) (hv : (N = 0 ∧ v = -1) ∨ (0 < N ∧ 0 ≤ v ∧ v < N)) (hh : ∀ c : Nat, rw_p E1 m 15 c = if c = N.toNat then v else rw_p E m 15 c) : tp_ok E1 m N1 := fun c hc => by
  rw [hh]
  by_cases e : c = N.toNat
  · rw [if_pos e]
    omega
  · rw [if_neg e]
    exact q c (by omega)
theorem tq_push (q : tq_ok E m N) (n0 : 0 ≤ N) (h1 : N1 = N + 1) (hv : v = N) (hh : ∀ c : Nat, rw_q E1 m 15 c = if c = N.toNat then v else rw_q E m 15 c) : tq_ok E1 m N1 := fun c hc => by
  rw [hh]
  by_cases e : c = N.toNat
  · rw [if_pos e]
    omega
  · rw [if_neg e]
    exact q c (by omega)
theorem tg_push (q : tg_ok E m N) (n0 : 0 ≤ N) (h1 : N1 = N + 1) (hv : gw_ok v) (hh : ∀ c : Nat, rw_w E1 m 15 c = if c = N.toNat then v else rw_w E m 15 c) : tg_ok E1 m N1 := fun c hc => by
  rw [hh]
  by_cases e : c = N.toNat
  · rw [if_pos e]
    exact hv
  · rw [if_neg e]
    exact q c (by omega)
theorem tg_set {n : Int} (q : tg_ok E m N) (hv : gw_ok v) (hh : ∀ c : Nat, rw_w E1 m 15 c = if c = n.toNat then v else rw_w E m 15 c) : tg_ok E1 m N := fun c hc => by
  rw [hh]
  by_cases e : c = n.toNat
  · rw [if_pos e]
    exact hv
  · rw [if_neg e]
    exact q c hc
theorem tp_up {p : Nat → Int} {N : Int} (q : ∀ c : Nat, (c : Int) < N → (c = 0 ∧ p c = -1) ∨ (0 < c ∧ 0 ≤ p c ∧ p c < c)) : ∀ (g c : Nat), c < g → (c : Int) < N → ∃ k : Nat, rt_up p k (c : Int) < 0
  | 0, _, h, _ => absurd h (by omega)
  | g + 1, c, h, hN => by
    rcases q c hN with ⟨-, z⟩ | ⟨z0, z1, z2⟩
    · refine ⟨1, ?_⟩
      rw [rt_up_1 (by omega), Int.toNat_natCast, z]
      show (-1 : Int) < 0
      decide
    · obtain ⟨k, hk⟩ := tp_up q g (p c).toNat (by omega) (by omega)
      refine ⟨k + 1, ?_⟩
      rw [rt_up_1 (by omega), Int.toNat_natCast]
      rw [show (((p c).toNat : Nat) : Int) = p c by omega] at hk
      exact hk
/-- what is so is a tree -/
theorem tp_tree (h : th_ok E m N) (q : tp_ok E m N) (hN : 1 ≤ N) : rt_tree (rw_h E m 15) (rw_p E m 15) 0 := by
  have hl := h.1.2
  refine ⟨⟨fun c hc hz => ?_, fun c hc hz => ?_, fun a b ha hb h1 h2 e1 e2 => ?_⟩, ⟨by decide, by decide, ?_⟩, ?_⟩
  · have hc2 := (h.2 c hc).mp hz
    rcases q c hc2 with z | z
    · exact Or.inl z.2
    · exact Or.inr ⟨z.2.1, by omega, (h.2 _ (by omega)).mpr (by omega)⟩
  · have hc2 := (h.2 c hc).mp hz
    exact tp_up q (c + 1) c (by omega) hc2
  · have a2 := (h.2 a ha).mp h1
    have b2 := (h.2 b hb).mp h2
    rcases q a a2 with z | z <;> rcases q b b2 with y | y <;> omega
  · exact (h.2 0 (by decide)).mpr (by omega)
  · rcases q 0 (by omega) with z | z
    · exact z.2
    · omega
end TRP
theorem tk_of {D : va_G} {A : Nat → Prop} {H : Heap} {cs : Nat → ClassId} {kp : Nat → Nat} {L : List Nat} {E E1 : Nat → va_E} {ms : List (Nat × Nat)} {ks : List Nat} {m : Nat} {n a : Int} (TH : tw_H D cs kp L E1 A H) (h : tw_fr kp L ms ks E E1) (hm : m ∈ L) (hk : kp m = 12) (h0 : (12, 0) ∉ ms) (h1 : (12, 1) ∉ ms) (h2 : 300 ∉ ks) (hn : tw_fi E m 1 = n) (w : lx_WS (tw_el E m 0) n a (tw_fi E1 m 2) ∧ lx_TK (tw_el E m 0) n (tw_fi E1 m 2) (tw_fi E1 m 3)) : tk_at E1 m := by
  unfold tk_at
  rw [tw_fi_fr h hm hk h1, el_fr TH h hm hk (k := 0) (by decide) rfl (by decide) h0 h2, hn]
  exact ⟨w.1.2.1, w.2⟩
theorem tk_wd {E : Nat → va_E} {m : Nat} {n s e : Int} (q : tk_at E m) (h1 : tw_fi E m 1 = n) (h2 : tw_fi E m 2 = s) (h3 : tw_fi E m 3 = e) (hs : s < n) (hc : tw_el E m 0 s.toNat = 123) (he : s + 1 < e) : lx_wd (tw_el E m 0) n s e := by
  unfold tk_at at q
  rw [h1, h2, h3] at q
  rcases q.2 with z | z | ⟨-, -, z | z⟩
  · omega
  · have := z.2.1
    unfold lx_le at this
    omega
  · omega
  · exact z.2
theorem tk_le {E : Nat → va_E} {m : Nat} {n s e : Int} (q : tk_at E m) (h1 : tw_fi E m 1 = n) (h2 : tw_fi E m 2 = s) (h3 : tw_fi E m 3 = e) : s ≤ n ∧ s ≤ e ∧ e ≤ n ∧ (s < n → s < e) := by
  unfold tk_at at q
  rw [h1, h2, h3] at q
  have := lx_TK_end q.2 q.1
  exact ⟨q.1, this.1, this.2.1, this.2.2⟩
/-! brothers in a set lie in their order -/
theorem rk_push {h p kd w : Nat → Int} {n x y : Int} {k k1 : Nat} (hk : k1 = k + 1) (hx : x = (rt_cnt (rk_b h p kd w n) k : Int)) (hy : ((h k ≠ 0 ∧ (k : Int) ≠ n ∧ p k = p n.toNat ∧ ah kd w k n) ∧ y = x + 1) ∨ (¬ (h k ≠ 0 ∧ (k : Int) ≠ n ∧ p k = p n.toNat ∧ ah kd w k n) ∧ y = x)) : y = (rt_cnt (rk_b h p kd w n) k1 : Int) := by
  refine rt_cnt_step hk hx ?_
  rcases hy with ⟨a, b⟩ | ⟨a, b⟩
  · rw [if_pos (rk_b_iff.mpr a)]; exact b
  · rw [if_neg (fun z => a (rk_b_iff.mp z))]; omega
abbrev st_p (E : Nat → va_E) (m : Nat) (n : Nat) : Prop := rw_p E m 15 n ≠ -1 ∧ tw_el E m 33 (tw_el E m 22 (rw_p E m 15 n).toNat).toNat = 1
noncomputable abbrev rk_e (E : Nat → va_E) (m : Nat) (n : Int) : Nat := rk (rw_h E m 15) (rw_p E m 15) (tw_el E m 22) (rw_w E m 15) n
def oq_ok (E : Nat → va_E) (m : Nat) (E0 : Nat → va_E) (k : Int) : Prop := ∀ n : Nat, n < 150 → rw_h E0 m 15 n ≠ 0 → (((n : Int) < k ∧ st_p E0 m n) → rw_q E m 15 n = (rk_e E0 m n : Int)) ∧ (¬ ((n : Int) < k ∧ st_p E0 m n) → rw_q E m 15 n = rw_q E0 m 15 n)
theorem oq_zero {E : Nat → va_E} {m : Nat} {k : Int} (h : k = 0) : oq_ok E m E k := fun n _ _ => ⟨fun z => absurd z.1 (by omega), fun _ => rfl⟩
theorem oq_ok_cast {E E0 : Nat → va_E} {m : Nat} {k k1 : Int} (h : k = k1) (q : oq_ok E m E0 k) : oq_ok E m E0 k1 := h ▸ q
theorem oq_skip {E E0 : Nat → va_E} {m : Nat} {k k1 : Int} (q : oq_ok E m E0 k) (k0 : 0 ≤ k) (hk : k1 = k + 1) (hn : ¬ (rw_h E0 m 15 k.toNat ≠ 0 ∧ st_p E0 m k.toNat)) : oq_ok E m E0 k1 := fun n hn1 hh => by
  by_cases e : n = k.toNat
  · subst e
    have w := q _ hn1 hh
    have hs : ¬ st_p E0 m k.toNat := fun z => hn ⟨hh, z⟩
    exact ⟨fun z => absurd z.2 hs, fun _ => w.2 (fun z => hs z.2)⟩
  · have w := q n hn1 hh
    exact ⟨fun z => w.1 ⟨by omega, z.2⟩, fun z => w.2 (fun y => z ⟨by omega, y.2⟩)⟩
theorem oq_set {E E1 E0 : Nat → va_E} {m : Nat} {k k1 v : Int} (q : oq_ok E m E0 k) (k0 : 0 ≤ k) (hk : k1 = k + 1) (hs : st_p E0 m k.toNat) (hv : v = (rk_e E0 m k : Int)) (hq : ∀ c : Nat, rw_q E1 m 15 c = if c = k.toNat then v else rw_q E m 15 c) : oq_ok E1 m E0 k1 := fun n hn1 hh => by
  rw [hq]
  by_cases e : n = k.toNat
  · subst e
    rw [if_pos rfl, show ((k.toNat : Nat) : Int) = k by omega]
    exact ⟨fun _ => hv, fun z => absurd (⟨by omega, hs⟩ : k < k1 ∧ st_p E0 m k.toNat) z⟩
  · rw [if_neg e]
    have w := q n hn1 hh
    exact ⟨fun z => w.1 ⟨by omega, z.2⟩, fun z => w.2 (fun y => z ⟨by omega, y.2⟩)⟩
theorem oq_ok_fr {D : va_G} {A : Nat → Prop} {H : Heap} {cs : Nat → ClassId} {kp : Nat → Nat} {L : List Nat} {E E1 E0 : Nat → va_E} {ms : List (Nat × Nat)} {ks : List Nat} {m : Nat} {k : Int} (TH : tw_H D cs kp L E1 A H) (h : tw_fr kp L ms ks E E1) (hm : m ∈ L) (hk : kp m = 12) (h1 : ∀ x ∈ [(12, 19)], x ∉ ms) (h2 : ∀ x ∈ [319, 329], x ∉ ks) (q : oq_ok E m E0 k) : oq_ok E1 m E0 k := by
  unfold oq_ok
  rw [rw_q_fr TH h hm hk (h1 _ (by decide)) (h2 _ (by decide)) (h2 _ (by decide)) (i := 15) (by decide)]
  exact q
theorem rw_w_rng (E : Nat → va_E) (m : Nat) (i : Int) (n : Nat) : -9223372036854775808 ≤ rw_w E m i n ∧ rw_w E m i n < 9223372036854775808 := by
  unfold rw_w
  generalize tw_lv E (tw_rf E (tw_fa E m 17) i.toNat) n = z
  have h := sg_nat z
  have hl : z.toUInt64.toNat < 2 ^ 64 := z.toUInt64.toNat_lt
  split at h <;> omega
/-- then no two brothers have one place -/
theorem oq_dq {E E0 : Nat → va_E} {m : Nat} {N : Int} (q : oq_ok E m E0 150) (h : th_ok E0 m N) (tp : tp_ok E0 m N) (tq : tq_ok E0 m N) (tg : tg_ok E0 m N) (eh : rw_h E m 15 = rw_h E0 m 15) (ep : rw_p E m 15 = rw_p E0 m 15) : rt_dq (rw_h E m 15) (rw_p E m 15) (rw_q E m 15) := by
  rw [eh, ep]
  have rng := rw_w_rng E0 m 15
  constructor
  · intro a b ha hb ha1 hb1 hp hq
    have wa := q a ha ha1
    have wb := q b hb hb1
    have na := (h.2 a ha).mp ha1
    have nb := (h.2 b hb).mp hb1
    by_cases s : st_p E0 m a
    · have s2 : st_p E0 m b := by
        unfold st_p at s ⊢
        rw [← hp]
        exact s
      rw [wa.1 ⟨by omega, s⟩, wb.1 ⟨by omega, s2⟩] at hq
      have hq : (rk (rw_h E0 m 15) (rw_p E0 m 15) (tw_el E0 m 22) (rw_w E0 m 15) (a : Int) : Int) = (rk (rw_h E0 m 15) (rw_p E0 m 15) (tw_el E0 m 22) (rw_w E0 m 15) (b : Int) : Int) := hq
      rcases Classical.em (a = b) with e | e
      · exact e
      · exfalso
        rcases ah_tot (kd := tw_el E0 m 22) (w := rw_w E0 m 15) (a := (a : Int)) (b := (b : Int)) (fun z => lj_i_inj (rng _).1 (rng _).2 (rng _).1 (rng _).2 (tg _ (by simpa using na)) (tg _ (by simpa using nb)) z) (by omega) with x | x
        · have := rk_lt (h := rw_h E0 m 15) (p := rw_p E0 m 15) (by omega) (by omega) (by omega) (by simpa using ha1) (by simpa using hp) x
          omega
        · have := rk_lt (h := rw_h E0 m 15) (p := rw_p E0 m 15) (by omega) (by omega) (by omega) (by simpa using hb1) (by simpa using hp.symm) x
          omega
    · have s2 : ¬ st_p E0 m b := by
        unfold st_p at s ⊢
        rw [← hp]
        exact s
      rw [wa.2 (fun z => s z.2), wb.2 (fun z => s2 z.2), tq a na, tq b nb] at hq
      omega
  · intro a ha ha1
    have wa := q a ha ha1
    have na := (h.2 a ha).mp ha1
    by_cases s : st_p E0 m a
    · rw [wa.1 ⟨by omega, s⟩]
      omega
    · rw [wa.2 (fun z => s z.2), tq a na]
      omega
/-! the text's tree put into its order -/
def gsq (s x h p q : Nat → Int) (top k n : Int) : Prop := 0 ≤ k ∧ rt_tr h p q top s k.toNat ∧ (∀ j : Nat, (j : Int) < k → x (s j).toNat = j) ∧ (k = 0 → n = top) ∧ (0 < k → n = rt_nxf h p q top (s (k - 1).toNat))
def gsa (s x h p q : Nat → Int) (top k n : Int) : Prop := 0 ≤ k ∧ rt_tr h p q top s (k + 1).toNat ∧ (∀ j : Nat, (j : Int) < k → x (s j).toNat = j) ∧ s k.toNat = n
def gsb (s x h p q : Nat → Int) (top k n : Int) : Prop := 0 ≤ k ∧ rt_tr h p q top s (k + 1).toNat ∧ (∀ j : Nat, (j : Int) < k + 1 → x (s j).toNat = j) ∧ s k.toNat = n
theorem gs_a {s s1 x x1 h p q : Nat → Int} {top k n : Int} (g : gsq s x h p q top k n) (hs1 : ∀ j : Nat, s1 j = if j = k.toNat then n else s j) (hx1 : ∀ j : Nat, x1 j = x j) (hn : n ≠ -1) : gsa s1 x1 h p q top k n := by
  obtain ⟨k0, r, y, z, w⟩ := g
  have hs : ∀ j : Nat, j ≠ k.toNat → s1 j = s j := fun j hj => by rw [hs1, if_neg hj]
  have hk : s1 k.toNat = n := by rw [hs1, if_pos rfl]
  refine ⟨k0, ⟨fun _ => ?_, fun j hj => ?_⟩, fun j hj => ?_, hk⟩
  · by_cases e : k = 0
    · have e2 : k.toNat = 0 := by omega
      rw [e2] at hk
      rw [hk]; exact z e
    · rw [hs 0 (by omega)]
      exact r.1 (by omega)
  · by_cases e : j + 1 = k.toNat
    · rw [e, hk, hs j (by omega)]
      have w := w (by omega)
      rw [show (k - 1).toNat = j by omega] at w
      exact ⟨w, hn⟩
    · rw [hs (j + 1) e, hs j (by omega)]
      exact r.2 j (by omega)
  · rw [hs j (by omega), hx1]
    exact y j hj
theorem gs_b {s s1 x x1 h p q : Nat → Int} {top k n : Int} (t : rt_tree h p top) (g : gsa s x h p q top k n) (hs1 : ∀ j : Nat, s1 j = s j) (hx1 : ∀ j : Nat, x1 j = if j = n.toNat then k else x j) : gsb s1 x1 h p q top k n := by
  obtain ⟨k0, r, y, w⟩ := g
  have hs : s1 = s := funext hs1
  have hnd := tr_nd t r k.toNat (by omega)
  rw [w] at hnd
  refine ⟨k0, by rw [hs]; exact r, fun j hj => ?_, by rw [hs]; exact w⟩
  rw [hs, hx1]
  by_cases e : j = k.toNat
  · rw [e, w, if_pos rfl]
    omega
  · have hj2 := tr_nd t r j (by omega)
    rw [if_neg (fun z => ?_)]
    · exact y j (by omega)
    · have e2 : s j = s k.toNat := by rw [w]; have := hj2.1; have := hnd.1; omega
      exact e (tr_inj t r (by omega) (by omega) e2)
theorem gs_n {s x h p q : Nat → Int} {top k n k1 c : Int} (g : gsb s x h p q top k n) (hk : k1 = k + 1) (hc : c = rt_nxf h p q top n) : gsq s x h p q top k1 c := by
  subst hk
  obtain ⟨k0, r, y, w⟩ := g
  exact ⟨by omega, r, y, fun z => absurd z (by omega), fun _ => by rw [show (k + 1 - 1).toNat = k.toNat by omega, w]; exact hc⟩
theorem gs_zero {s x h p q : Nat → Int} {top k n : Int} (hk : k = 0) (hn : n = top) : gsq s x h p q top k n := by
  subst hk
  exact ⟨Int.le_refl 0, ⟨fun z => absurd z (by decide), fun j hj => absurd hj (by simp)⟩, fun j hj => absurd hj (by omega), fun _ => hn, fun z => absurd z (by decide)⟩
def rf_fn (s x p : Nat → Int) (N : Int) : Prop := ∀ i : Nat, (i : Int) < N → (0 ≤ s i ∧ s i < N) ∧ ((i = 0 ∧ p (s i).toNat = -1) ∨ (0 < i ∧ 0 ≤ p (s i).toNat ∧ p (s i).toNat < N ∧ 0 ≤ x (p (s i).toNat).toNat ∧ x (p (s i).toNat).toNat < i))
theorem gs_fin {s x h p q : Nat → Int} {N k n : Int} (t : rt_tree h p 0) (dq : rt_dq h p q) (hN : ∀ c : Nat, c < 150 → (h c ≠ 0 ↔ (c : Int) < N)) (N2 : N ≤ 24) (g : gsq s x h p q 0 k n) (hn : n = -1) : rf_fn s x p N := by
  obtain ⟨k0, r, y, z, w⟩ := g
  have hk : 0 < k := by
    by_cases e : k = 0
    · have := z e
      omega
    · omega
  obtain ⟨K, eK⟩ : ∃ K : Nat, k.toNat = K + 1 := ⟨k.toNat - 1, by omega⟩
  rw [eK] at r
  have he : rt_nxf h p q 0 (s K) = -1 := by
    have := w hk
    rw [show (k - 1).toNat = K by omega] at this
    rw [← this]; exact hn
  have all : ∀ c : Int, rt_nd h c → ∃ j : Nat, j < K + 1 ∧ s j = c := fun c hc => tr_all t dq r he 151 c hc (rt_dep_le _)
  have nd : ∀ c : Nat, (c : Int) < N → rt_nd h c := fun c hc => ⟨by omega, by omega, by rw [Int.toNat_natCast]; exact (hN c (by omega)).mpr hc⟩
  have le : N ≤ k := by
    have l1 : ((List.range N.toNat).map (fun c => (x c).toNat)).Nodup := by
      rw [List.Nodup, List.pairwise_iff_getElem]
      intro i j hi hj hij
      simp only [List.length_map, List.length_range] at hi hj
      simp only [List.getElem_map, List.getElem_range]
      intro e
      obtain ⟨a, ha, ea⟩ := all i (nd i (by omega))
      obtain ⟨b, hb, eb⟩ := all j (nd j (by omega))
      have xa := y a (by omega)
      have xb := y b (by omega)
      rw [ea, Int.toNat_natCast] at xa
      rw [eb, Int.toNat_natCast] at xb
      have : a = b := by omega
      rw [this, eb] at ea
      omega
    have := rt_short (K + 1) _ l1 (fun v hv => by
      obtain ⟨c, hc, rfl⟩ := List.mem_map.mp hv
      have hc := List.mem_range.mp hc
      obtain ⟨a, ha, ea⟩ := all c (nd c (by omega))
      have xa := y a (by omega)
      rw [ea, Int.toNat_natCast] at xa
      omega)
    simp at this
    omega
  intro i hi
  have hni := tr_nd t r i (by omega)
  have hi2 := (hN (s i).toNat (by have := hni.1; have := hni.2.1; omega)).mp hni.2.2
  refine ⟨⟨hni.1, by have := hni.1; omega⟩, ?_⟩
  by_cases e : s i = 0
  · have e2 : i = 0 := tr_inj t r (by omega) (by omega) (e.trans (r.1 (by omega)).symm)
    refine Or.inl ⟨e2, ?_⟩
    rw [e]
    exact t.2.2
  · have hP := rt_nd_up t hni e
    obtain ⟨j, hj, ej⟩ := all _ hP
    have xj := y j (by omega)
    rw [ej] at xj
    have hk2 : rt_kid h p (p (s i).toNat) (s i).toNat := ⟨by have := hni.1; have := hni.2.1; omega, hni.2.2, rfl⟩
    have lt := rt_lt_kid (q := q) t.1.1 t.1.2.1 hk2
    rw [show (((s i).toNat : Nat) : Int) = s i by have := hni.1; omega] at lt
    have hp2 := (hN (p (s i).toNat).toNat (by have := hP.1; have := hP.2.1; omega)).mp hP.2.2
    refine Or.inr ⟨?_, hP.1, by have := hP.1; omega, by omega, ?_⟩
    · rcases Nat.eq_zero_or_pos i with z0 | z0
      · rw [z0] at e
        exact absurd (r.1 (by omega)) e
      · exact z0
    · rcases Nat.lt_trichotomy j i with c | c | c
      · omega
      · exfalso
        rw [c] at ej
        rw [← ej] at lt
        exact rt_lt_irr _ lt
      · exfalso
        have l2 := tr_lt t r i j c hj
        rw [ej] at l2
        exact rt_lt_irr _ (rt_lt_tr lt l2)
def ar_ok (E : Nat → va_E) (m : Nat) (E0 : Nat → va_E) (k n : Int) : Prop := gsq (tw_el E m 37) (tw_el E m 40) (rw_h E0 m 15) (rw_p E0 m 15) (rw_q E0 m 15) 0 k n
def ara_ok (E : Nat → va_E) (m : Nat) (E0 : Nat → va_E) (k n : Int) : Prop := gsa (tw_el E m 37) (tw_el E m 40) (rw_h E0 m 15) (rw_p E0 m 15) (rw_q E0 m 15) 0 k n
def arb_ok (E : Nat → va_E) (m : Nat) (E0 : Nat → va_E) (k n : Int) : Prop := gsb (tw_el E m 37) (tw_el E m 40) (rw_h E0 m 15) (rw_p E0 m 15) (rw_q E0 m 15) 0 k n
theorem ar_ok_cast {E E0 : Nat → va_E} {m : Nat} {k n k1 n1 : Int} (h : k = k1 ∧ n = n1) (q : ar_ok E m E0 k n) : ar_ok E m E0 k1 n1 := by
  obtain ⟨rfl, rfl⟩ := h
  exact q
def rf_ok (E : Nat → va_E) (m : Nat) (E0 : Nat → va_E) (N : Int) : Prop := rf_fn (tw_el E m 37) (tw_el E m 40) (rw_p E0 m 15) N
def uw_ok (E : Nat → va_E) (m : Nat) (E0 : Nat → va_E) (k : Int) : Prop := ∀ j : Nat, (j : Int) < k → tw_el E m 39 j = rw_p E0 m 15 j
theorem uw_ok_cast {E E0 : Nat → va_E} {m : Nat} {k k1 : Int} (h : k = k1) (q : uw_ok E m E0 k) : uw_ok E m E0 k1 := h ▸ q
theorem rf_ok_cast {E E0 : Nat → va_E} {m : Nat} {k k1 : Int} (h : k = k1) (q : rf_ok E m E0 k) : rf_ok E m E0 k1 := h ▸ q
theorem uw_push {E E1 E0 : Nat → va_E} {m : Nat} {k k1 v : Int} (q : uw_ok E m E0 k) (k0 : 0 ≤ k) (hk : k1 = k + 1) (hv : rw_p E0 m 15 k.toNat = v) (h : ∀ j : Nat, tw_el E1 m 39 j = if j = k.toNat then v else tw_el E m 39 j) : uw_ok E1 m E0 k1 := fun j hj => by
  rw [h]
  by_cases e : j = k.toNat
  · rw [if_pos e, e, hv]
  · rw [if_neg e]
    exact q j (by omega)
section ARF
variable {D : va_G} {A : Nat → Prop} {H : Heap} {cs : Nat → ClassId} {kp : Nat → Nat} {L : List Nat} {E E1 E0 : Nat → va_E} {ms : List (Nat × Nat)} {ks : List Nat} {m : Nat} {k n : Int}
theorem ar_ok_fr (TH : tw_H D cs kp L E1 A H) (h : tw_fr kp L ms ks E E1) (hm : m ∈ L) (hk : kp m = 12) (h1 : ∀ x ∈ [(12, 37), (12, 40)], x ∉ ms) (h2 : ∀ x ∈ [343, 346], x ∉ ks) (q : ar_ok E m E0 k n) : ar_ok E1 m E0 k n := by
  unfold ar_ok
  rw [el_fr TH h hm hk (k := 37) (by decide) rfl (by decide) (h1 _ (by decide)) (h2 _ (by decide)), el_fr TH h hm hk (k := 40) (by decide) rfl (by decide) (h1 _ (by decide)) (h2 _ (by decide))]
  exact q
theorem ara_ok_fr (TH : tw_H D cs kp L E1 A H) (h : tw_fr kp L ms ks E E1) (hm : m ∈ L) (hk : kp m = 12) (h1 : ∀ x ∈ [(12, 37), (12, 40)], x ∉ ms) (h2 : ∀ x ∈ [343, 346], x ∉ ks) (q : ara_ok E m E0 k n) : ara_ok E1 m E0 k n := by
  unfold ara_ok
  rw [el_fr TH h hm hk (k := 37) (by decide) rfl (by decide) (h1 _ (by decide)) (h2 _ (by decide)), el_fr TH h hm hk (k := 40) (by decide) rfl (by decide) (h1 _ (by decide)) (h2 _ (by decide))]
  exact q
theorem arb_ok_fr (TH : tw_H D cs kp L E1 A H) (h : tw_fr kp L ms ks E E1) (hm : m ∈ L) (hk : kp m = 12) (h1 : ∀ x ∈ [(12, 37), (12, 40)], x ∉ ms) (h2 : ∀ x ∈ [343, 346], x ∉ ks) (q : arb_ok E m E0 k n) : arb_ok E1 m E0 k n := by
  unfold arb_ok
  rw [el_fr TH h hm hk (k := 37) (by decide) rfl (by decide) (h1 _ (by decide)) (h2 _ (by decide)), el_fr TH h hm hk (k := 40) (by decide) rfl (by decide) (h1 _ (by decide)) (h2 _ (by decide))]
  exact q
theorem rf_ok_fr (TH : tw_H D cs kp L E1 A H) (h : tw_fr kp L ms ks E E1) (hm : m ∈ L) (hk : kp m = 12) (h1 : ∀ x ∈ [(12, 37), (12, 40)], x ∉ ms) (h2 : ∀ x ∈ [343, 346], x ∉ ks) (q : rf_ok E m E0 k) : rf_ok E1 m E0 k := by
  unfold rf_ok
  rw [el_fr TH h hm hk (k := 37) (by decide) rfl (by decide) (h1 _ (by decide)) (h2 _ (by decide)), el_fr TH h hm hk (k := 40) (by decide) rfl (by decide) (h1 _ (by decide)) (h2 _ (by decide))]
  exact q
theorem uw_ok_fr (TH : tw_H D cs kp L E1 A H) (h : tw_fr kp L ms ks E E1) (hm : m ∈ L) (hk : kp m = 12) (h1 : ∀ x ∈ [(12, 39)], x ∉ ms) (h2 : ∀ x ∈ [345], x ∉ ks) (q : uw_ok E m E0 k) : uw_ok E1 m E0 k := by
  unfold uw_ok
  rw [el_fr TH h hm hk (k := 39) (by decide) rfl (by decide) (h1 _ (by decide)) (h2 _ (by decide))]
  exact q
end ARF
theorem tt_of {E : Nat → va_E} {m : Nat} {N : Int} (h : th_ok E m N) (p : tp_ok E m N) (q : tq_ok E m N) (hN : tw_fi E m 28 = N) (N1 : 1 ≤ N) : tt_ok E m := by
  unfold tt_ok
  rw [hN]
  exact ⟨⟨N1, h.1.2⟩, h.2, p, q⟩
theorem rt_cnt_bd {P : Nat → Bool} {B : Nat} (h : ∀ i : Nat, P i = true → i < B) : ∀ k : Nat, rt_cnt P k ≤ B
  | 0 => Nat.zero_le _
  | k + 1 => by
    by_cases e : k < B
    · have := rt_cnt_k (P := P) (k + 1)
      omega
    · have a : rt_cnt P (k + 1) ≤ rt_cnt P k := by
        show (if P k then 1 else 0) + rt_cnt P k ≤ rt_cnt P k
        rw [if_neg (fun z => e (h k z))]
        omega
      have := rt_cnt_bd h k
      omega
theorem ar_sz {E : Nat → va_E} {m : Nat} {N : Int} {p q : Nat → Int} (h : th_ok E m N) : (rt_mz (rw_h E m 15) p q 0 : Int) ≤ 24 := by
  have b : rt_size (rw_h E m 15) ≤ 24 := by
    have w := rt_cnt_bd (P := fun c => decide (rw_h E m 15 c ≠ 0) && decide (c < 150)) (B := 24) (fun i hi => by
      simp only [Bool.and_eq_true, decide_eq_true_eq] at hi
      have z := (h.2 i hi.2).mp hi.1
      have := h.1.2
      omega) 150
    have v : rt_size (rw_h E m 15) ≤ rt_cnt (fun c => decide (rw_h E m 15 c ≠ 0) && decide (c < 150)) 150 := rt_cnt_le (fun i hi hz => by
      simp only [Bool.and_eq_true, decide_eq_true_eq] at hz ⊢
      exact ⟨hz, hi⟩)
    omega
  unfold rt_mz
  rw [if_neg (by decide)]
  by_cases e : rw_h E m 15 0 = 0
  · have a : rt_mu (rw_h E m 15) p q 0 ≤ rt_cnt (fun _ => false) 150 := rt_cnt_le (fun i hi hz => by
      simp only [Bool.and_eq_true, decide_eq_true_eq] at hz
      have z := (h.2 i hi).mp hz.1
      have z0 := (h.2 0 (by decide)).mpr (by omega)
      exact absurd e z0)
    have c := rt_cnt_bd (P := fun _ => false) (B := 0) (fun i hi => by cases hi) 150
    omega
  · have a := rt_mu_size (h := rw_h E m 15) (p := p) (q := q) (x := 0) (by decide) (by decide) e
    omega
/-! editions that come of the text -/
def hz_ok (E : Nat → va_E) (m : Nat) (k : Int) : Prop := ∀ c : Nat, (c : Int) < k → rw_h E m 15 c = 0
theorem hz_ok_cast {E : Nat → va_E} {m : Nat} {k k1 : Int} (h : k = k1) (q : hz_ok E m k) : hz_ok E m k1 := h ▸ q
theorem hz_push {E E1 : Nat → va_E} {m : Nat} {k k1 : Int} (q : hz_ok E m k) (hk : k1 = k + 1) (hh : ∀ c : Nat, rw_h E1 m 15 c = if c = k.toNat then 0 else rw_h E m 15 c) : hz_ok E1 m k1 := fun c hc => by
  rw [hh]
  split
  · rfl
  · exact q c (by omega)
theorem th_of_hz {E : Nat → va_E} {m : Nat} {k : Int} (q : hz_ok E m k) (hk : 150 ≤ k) : th_ok E m 0 := ⟨by omega, fun c hc => ⟨fun z => absurd (q c (by omega)) z, fun z => absurd z (by omega)⟩⟩
theorem ht_of_th {E : Nat → va_E} {m : Nat} {N : Int} (q : th_ok E m N) : ht_ok E m := fun n h1 h2 => by
  by_cases e : rw_h E m 15 n = 0
  · have z : (tw_iv E (tw_rf E (tw_fa E m 16) 15) n).toInt = (0 : Int32).toInt := by
      rw [show ((0 : Int32).toInt) = 0 from by decide]
      exact e
    exact Int32.toInt_inj.mp z
  · have := (q.2 n h2).mp e
    have := q.1.2
    omega
theorem tt_rw {E : Nat → va_E} {m : Nat} (t : tt_ok E m) : rt_tree (rw_h E m 15) (rw_p E m 15) 0 := tp_tree (N := tw_fi E m 28) ⟨⟨by have := t.1.1; omega, t.1.2⟩, t.2.1⟩ t.2.2.1 t.1.1
/-- the numbers that the nodes of the text get -/
def nbp_ok (E : Nat → va_E) (m : Nat) (B : Int) : Prop := (∀ j : Nat, (j : Int) < tw_fi E m 28 → tw_el E m 44 j = -1 ∨ (0 ≤ tw_el E m 44 j ∧ tw_el E m 44 j < B)) ∧ ∀ i j : Nat, (i : Int) < tw_fi E m 28 → (j : Int) < tw_fi E m 28 → tw_el E m 44 i ≠ -1 → tw_el E m 44 i = tw_el E m 44 j → i = j
def nz_ok (E : Nat → va_E) (m : Nat) (k : Int) : Prop := ∀ j : Nat, (j : Int) < k → tw_el E m 44 j ≠ -1
def n0_ok (E : Nat → va_E) (m : Nat) (v : Int) : Prop := tw_el E m 44 0 = v ∨ v = -1
def nr_c (f : Nat → Int) (N : Int) : Nat := rt_cnt (fun j => decide (f j = -1)) N.toNat
def nc2_ok (E : Nat → va_E) (m : Nat) : Prop := tw_fi E m 26 + (nr_c (tw_el E m 44) (tw_fi E m 28) : Int) ≤ 150
theorem nbp_ok_cast {E : Nat → va_E} {m : Nat} {k k1 : Int} (h : k = k1) (q : nbp_ok E m k) : nbp_ok E m k1 := h ▸ q
theorem nz_ok_cast {E : Nat → va_E} {m : Nat} {k k1 : Int} (h : k = k1) (q : nz_ok E m k) : nz_ok E m k1 := h ▸ q
theorem nr_pos {f : Nat → Int} {N k : Int} (k0 : 0 ≤ k) (k1 : k < N) (h : f k.toNat = -1) : 1 ≤ nr_c f N := by
  have : rt_cnt (fun _ => false) N.toNat + 1 ≤ nr_c f N := rt_cnt_lt (fun i _ hi => by simp at hi) ⟨k.toNat, by omega, rfl, by simp [h]⟩
  omega
theorem nr_less {f g : Nat → Int} {N k : Int} (k0 : 0 ≤ k) (k1 : k < N) (h : f k.toNat = -1) (hg : ∀ j : Nat, g j = if j = k.toNat then g k.toNat else f j) (hk : g k.toNat ≠ -1) : nr_c g N + 1 ≤ nr_c f N := by
  refine rt_cnt_lt (fun i _ hi => ?_) ⟨k.toNat, by omega, by simp [hk], by simp [h]⟩
  by_cases e : i = k.toNat
  · rw [e] at hi
    simp [hk] at hi
  · have := hg i
    rw [if_neg e] at this
    simp only [decide_eq_true_eq] at hi ⊢
    rw [← this]; exact hi
theorem nbp_set {E E1 : Nat → va_E} {m : Nat} {B B1 k : Int} (q : nbp_ok E m B) (b0 : 0 ≤ B) (hB : B1 = B + 1) (h28 : tw_fi E1 m 28 = tw_fi E m 28) (hf : ∀ j : Nat, tw_el E1 m 44 j = if j = k.toNat then B else tw_el E m 44 j) : nbp_ok E1 m B1 := by
  unfold nbp_ok
  rw [h28]
  refine ⟨fun j hj => ?_, fun i j hi hj h1 h2 => ?_⟩
  · rw [hf]
    split
    · exact Or.inr ⟨b0, by omega⟩
    · rcases q.1 j hj with z | z
      · exact Or.inl z
      · exact Or.inr ⟨z.1, by omega⟩
  · rw [hf, hf] at h2
    rw [hf] at h1
    have qi := q.1 i hi
    have qj := q.1 j hj
    by_cases ei : i = k.toNat <;> by_cases ej : j = k.toNat
    · omega
    · rw [if_pos ei, if_neg ej] at h2
      omega
    · rw [if_neg ei, if_pos ej] at h2
      omega
    · rw [if_neg ei, if_neg ej] at h2
      rw [if_neg ei] at h1
      exact q.2 i j hi hj h1 h2
theorem nz_push {E E1 : Nat → va_E} {m : Nat} {k k1 v : Int} (q : nz_ok E m k) (hk : k1 = k + 1) (hv : v ≠ -1) (hf : ∀ j : Nat, tw_el E1 m 44 j = if j = k.toNat then v else tw_el E m 44 j) : nz_ok E1 m k1 := fun j hj => by
  rw [hf]
  split
  · exact hv
  · exact q j (by omega)
theorem nz_skip {E : Nat → va_E} {m : Nat} {k k1 : Int} (q : nz_ok E m k) (k0 : 0 ≤ k) (hk : k1 = k + 1) (hv : tw_el E m 44 k.toNat ≠ -1) : nz_ok E m k1 := fun j hj => by
  by_cases e : j = k.toNat
  · rw [e]; exact hv
  · exact q j (by omega)
theorem n0_set {E E1 : Nat → va_E} {m : Nat} {v k x : Int} (q : n0_ok E m v) (hk : tw_el E m 44 k.toNat = -1) (hf : ∀ j : Nat, tw_el E1 m 44 j = if j = k.toNat then x else tw_el E m 44 j) : n0_ok E1 m v := by
  unfold n0_ok at q ⊢
  rw [hf]
  split
  · rename_i e
    rw [← e] at hk
    rcases q with q | q
    · exact Or.inr (by rw [← q]; exact hk)
    · exact Or.inr q
  · exact q
/-- the row of the new edition, k nodes so far -/
def ch_ok (E : Nat → va_E) (m : Nat) (e k : Int) : Prop := (∀ c : Nat, c < 150 → (rw_h E m e c ≠ 0 ↔ ∃ j : Nat, (j : Int) < k ∧ tw_el E m 44 j = c)) ∧ (rt_size (rw_h E m e) : Int) ≤ k
def cq_ok (E : Nat → va_E) (m : Nat) (e k : Int) : Prop := ∀ j : Nat, (j : Int) < k → rw_p E m e (tw_el E m 44 j).toNat = (if rw_p E m 15 j = -1 then -1 else tw_el E m 44 (rw_p E m 15 j).toNat)
theorem ch_ok_cast {E : Nat → va_E} {m : Nat} {e k e1 k1 : Int} (h : e = e1 ∧ k = k1) (q : ch_ok E m e k) : ch_ok E m e1 k1 := by
  obtain ⟨rfl, rfl⟩ := h
  exact q
theorem cq_ok_cast {E : Nat → va_E} {m : Nat} {e k e1 k1 : Int} (h : e = e1 ∧ k = k1) (q : cq_ok E m e k) : cq_ok E m e1 k1 := by
  obtain ⟨rfl, rfl⟩ := h
  exact q
theorem ch_zero {E : Nat → va_E} {m : Nat} {e k : Int} (hk : k = 0) (h : ∀ c : Nat, c < 150 → rw_h E m e c = 0) : ch_ok E m e k := by
  subst hk
  refine ⟨fun c hc => ⟨fun z => absurd (h c hc) z, fun ⟨j, hj, _⟩ => absurd hj (by omega)⟩, ?_⟩
  have a : rt_size (rw_h E m e) ≤ rt_cnt (fun _ => false) 150 := rt_cnt_le (fun i hi hz => by
    have := h i hi
    simp [this] at hz)
  have b := rt_cnt_bd (P := fun _ => false) (B := 0) (fun i hi => by cases hi) 150
  omega
theorem ch_push {E E1 : Nat → va_E} {m : Nat} {e k k1 n : Int} (q : ch_ok E m e k) (k0 : 0 ≤ k) (hk : k1 = k + 1) (n0 : 0 ≤ n) (hn : tw_el E m 44 k.toNat = n) (h44 : ∀ j : Nat, tw_el E1 m 44 j = tw_el E m 44 j) (hh : ∀ c : Nat, rw_h E1 m e c = if c = n.toNat then 1 else rw_h E m e c) : ch_ok E1 m e k1 := by
  have e44 : tw_el E1 m 44 = tw_el E m 44 := funext h44
  unfold ch_ok
  rw [e44]
  refine ⟨fun c hc => ?_, ?_⟩
  · rw [hh]
    by_cases ec : c = n.toNat
    · rw [if_pos ec]
      exact ⟨fun _ => ⟨k.toNat, by omega, by rw [hn]; omega⟩, fun _ => by decide⟩
    · rw [if_neg ec, q.1 c hc]
      constructor
      · rintro ⟨j, hj, ej⟩
        exact ⟨j, by omega, ej⟩
      · rintro ⟨j, hj, ej⟩
        refine ⟨j, ?_, ej⟩
        by_cases e2 : j = k.toNat
        · rw [e2, hn] at ej
          omega
        · omega
  · have := rt_size_put hh
    have := q.2
    omega
theorem cq_push {E E1 : Nat → va_E} {m : Nat} {e k k1 n v B : Int} (q : cq_ok E m e k) (nb : nbp_ok E m B) (nz : nz_ok E m (tw_fi E m 28)) (kN : k < tw_fi E m 28) (k0 : 0 ≤ k) (hk : k1 = k + 1) (hn : tw_el E m 44 k.toNat = n) (hv : v = (if rw_p E m 15 k.toNat = -1 then -1 else tw_el E m 44 (rw_p E m 15 k.toNat).toNat)) (h44 : ∀ j : Nat, tw_el E1 m 44 j = tw_el E m 44 j) (h15 : rw_p E1 m 15 = rw_p E m 15) (hh : ∀ c : Nat, rw_p E1 m e c = if c = n.toNat then v else rw_p E m e c) : cq_ok E1 m e k1 := fun j hj => by
  have e44 : tw_el E1 m 44 = tw_el E m 44 := funext h44
  rw [e44, h15, hh]
  by_cases ej : j = k.toNat
  · rw [ej, hn, if_pos rfl]
    exact hv
  · rw [if_neg (fun z => ?_)]
    · exact q j (by omega)
    · have a := (nb.1 j (by omega)).resolve_left (nz j (by omega))
      have b := (nb.1 k.toNat (by omega)).resolve_left (nz _ (by omega))
      rw [hn] at b
      exact ej (nb.2 j k.toNat (by omega) (by omega) (nz j (by omega)) (by rw [hn]; omega))
theorem cm_up {p pT f : Nat → Int} {N : Int} (hp : ∀ j : Nat, (j : Int) < N → p (f j).toNat = (if pT j = -1 then -1 else f (pT j).toNat)) (hf : ∀ j : Nat, (j : Int) < N → 0 ≤ f j) (ht : ∀ c : Nat, (c : Int) < N → (c = 0 ∧ pT c = -1) ∨ (0 < c ∧ 0 ≤ pT c ∧ pT c < c)) : ∀ (g j : Nat), j < g → (j : Int) < N → ∃ k : Nat, rt_up p k (f j) < 0
  | 0, _, h, _ => absurd h (by omega)
  | g + 1, j, h, hN => by
    have e := hp j hN
    rcases ht j hN with ⟨-, z⟩ | ⟨z0, z1, z2⟩
    · refine ⟨1, ?_⟩
      rw [rt_up_1 (hf j hN), e, if_pos z]
      show (-1 : Int) < 0
      decide
    · obtain ⟨k, hk⟩ := cm_up hp hf ht g (pT j).toNat (by omega) (by omega)
      refine ⟨k + 1, ?_⟩
      rw [rt_up_1 (hf j hN), e, if_neg (by omega)]
      exact hk
/-- the row is a tree -/
theorem cm_row {E : Nat → va_E} {m : Nat} {e B : Int} (tN : 1 ≤ tw_fi E m 28 ∧ tw_fi E m 28 ≤ 24) (tpp : ∀ c : Nat, (c : Int) < tw_fi E m 28 → (c = 0 ∧ rw_p E m 15 c = -1) ∨ (0 < c ∧ 0 ≤ rw_p E m 15 c ∧ rw_p E m 15 c < c)) (nb : nbp_ok E m B) (hB : B ≤ tw_fi E m 26) (h26 : tw_fi E m 26 ≤ 150) (nz : nz_ok E m (tw_fi E m 28)) (ch : ch_ok E m e (tw_fi E m 28)) (cq : cq_ok E m e (tw_fi E m 28)) : row_ok E m e ∧ 0 ≤ tw_el E m 44 0 ∧ tw_el E m 44 0 < 150 ∧ rw_h E m e (tw_el E m 44 0).toNat ≠ 0 ∧ rw_p E m e (tw_el E m 44 0).toNat = -1 := by
  have N1 := tN.1
  have N2 := tN.2
  have hf : ∀ j : Nat, (j : Int) < tw_fi E m 28 → 0 ≤ tw_el E m 44 j ∧ tw_el E m 44 j < 150 := fun j hj => by
    have := (nb.1 j hj).resolve_left (nz j hj)
    omega
  have has : ∀ j : Nat, (j : Int) < tw_fi E m 28 → rw_h E m e (tw_el E m 44 j).toNat ≠ 0 := fun j hj => by
    have := hf j hj
    exact (ch.1 _ (by omega)).mpr ⟨j, hj, by omega⟩
  have hp0 : rw_p E m 15 0 = -1 := by
    rcases tpp 0 (by omega) with z | z
    · exact z.2
    · omega
  have hr : rw_p E m e (tw_el E m 44 0).toNat = -1 := by
    rw [cq 0 (by omega), if_pos hp0]
  have h0 := hf 0 (by omega)
  refine ⟨⟨⟨fun c hc hz => ?_, fun c hc hz => ?_, fun a b ha hb h1 h2 e1 e2 => ?_⟩, ⟨tw_el E m 44 0, h0.1, h0.2, has 0 (by omega), hr⟩, by have := ch.2; omega, fun c hc hz => ?_⟩, h0.1, h0.2, has 0 (by omega), hr⟩
  · obtain ⟨j, hj, ej⟩ := (ch.1 c hc).mp hz
    have w := cq j hj
    rw [show (tw_el E m 44 j).toNat = c by omega] at w
    rw [w]
    rcases tpp j hj with z | ⟨z0, z1, z2⟩
    · rw [if_pos z.2]
      exact Or.inl rfl
    · rw [if_neg (by omega)]
      have a := hf (rw_p E m 15 j).toNat (by omega)
      exact Or.inr ⟨a.1, a.2, has _ (by omega)⟩
  · obtain ⟨j, hj, ej⟩ := (ch.1 c hc).mp hz
    obtain ⟨k, hk⟩ := cm_up cq (fun j hj => (hf j hj).1) tpp (j + 1) j (by omega) hj
    rw [ej] at hk
    exact ⟨k, hk⟩
  · obtain ⟨i, hi, ei⟩ := (ch.1 a ha).mp h1
    obtain ⟨j, hj, ej⟩ := (ch.1 b hb).mp h2
    have wi := cq i hi
    have wj := cq j hj
    rw [show (tw_el E m 44 i).toNat = a by omega, e1] at wi
    rw [show (tw_el E m 44 j).toNat = b by omega, e2] at wj
    have key : ∀ i : Nat, (i : Int) < tw_fi E m 28 → (-1 : Int) = (if rw_p E m 15 i = -1 then -1 else tw_el E m 44 (rw_p E m 15 i).toNat) → i = 0 := fun i hi w => by
      rcases tpp i hi with z | ⟨z0, z1, z2⟩
      · exact z.1
      · rw [if_neg (by omega)] at w
        have := hf (rw_p E m 15 i).toNat (by omega)
        omega
    have a0 := key i hi wi
    have b0 := key j hj wj
    rw [a0] at ei
    rw [b0] at ej
    omega
  · obtain ⟨j, hj, ej⟩ := (ch.1 c hc).mp hz
    have := (nb.1 j hj).resolve_left (nz j hj)
    omega
section CMF
variable {D : va_G} {A : Nat → Prop} {H : Heap} {cs : Nat → ClassId} {kp : Nat → Nat} {L : List Nat} {E E1 : Nat → va_E} {ms : List (Nat × Nat)} {ks : List Nat} {m : Nat} {k e : Int}
theorem hz_ok_fr (TH : tw_H D cs kp L E1 A H) (h : tw_fr kp L ms ks E E1) (hm : m ∈ L) (hk : kp m = 12) (h1 : ∀ x ∈ [(12, 16)], x ∉ ms) (h2 : ∀ x ∈ [316, 326], x ∉ ks) (q : hz_ok E m k) : hz_ok E1 m k := by
  unfold hz_ok
  rw [rw_h_fr TH h hm hk (h1 _ (by decide)) (h2 _ (by decide)) (h2 _ (by decide)) (i := 15) (by decide)]
  exact q
theorem nbp_ok_fr (TH : tw_H D cs kp L E1 A H) (h : tw_fr kp L ms ks E E1) (hm : m ∈ L) (hk : kp m = 12) (h1 : ∀ x ∈ [(12, 28), (12, 44)], x ∉ ms) (h2 : ∀ x ∈ [353], x ∉ ks) (q : nbp_ok E m k) : nbp_ok E1 m k := by
  unfold nbp_ok
  rw [tw_fi_fr h hm hk (h1 (12, 28) (by decide)), el_fr TH h hm hk (k := 44) (by decide) rfl (by decide) (h1 _ (by decide)) (h2 _ (by decide))]
  exact q
theorem nz_ok_fr (TH : tw_H D cs kp L E1 A H) (h : tw_fr kp L ms ks E E1) (hm : m ∈ L) (hk : kp m = 12) (h1 : ∀ x ∈ [(12, 44)], x ∉ ms) (h2 : ∀ x ∈ [353], x ∉ ks) (q : nz_ok E m k) : nz_ok E1 m k := by
  unfold nz_ok
  rw [el_fr TH h hm hk (k := 44) (by decide) rfl (by decide) (h1 _ (by decide)) (h2 _ (by decide))]
  exact q
theorem n0_ok_fr (TH : tw_H D cs kp L E1 A H) (h : tw_fr kp L ms ks E E1) (hm : m ∈ L) (hk : kp m = 12) (h1 : ∀ x ∈ [(12, 44)], x ∉ ms) (h2 : ∀ x ∈ [353], x ∉ ks) (q : n0_ok E m k) : n0_ok E1 m k := by
  unfold n0_ok
  rw [el_fr TH h hm hk (k := 44) (by decide) rfl (by decide) (h1 _ (by decide)) (h2 _ (by decide))]
  exact q
theorem ch_ok_fr (TH : tw_H D cs kp L E1 A H) (h : tw_fr kp L ms ks E E1) (hm : m ∈ L) (hk : kp m = 12) (h1 : ∀ x ∈ [(12, 16), (12, 44)], x ∉ ms) (h2 : ∀ x ∈ [316, 326, 353], x ∉ ks) (he : e.toNat < 16) (q : ch_ok E m e k) : ch_ok E1 m e k := by
  unfold ch_ok
  rw [el_fr TH h hm hk (k := 44) (by decide) rfl (by decide) (h1 _ (by decide)) (h2 _ (by decide)), rw_h_fr TH h hm hk (h1 _ (by decide)) (h2 _ (by decide)) (h2 _ (by decide)) (i := e) he]
  exact q
theorem cq_ok_fr (TH : tw_H D cs kp L E1 A H) (h : tw_fr kp L ms ks E E1) (hm : m ∈ L) (hk : kp m = 12) (h1 : ∀ x ∈ [(12, 18), (12, 44)], x ∉ ms) (h2 : ∀ x ∈ [318, 328, 353], x ∉ ks) (he : e.toNat < 16) (q : cq_ok E m e k) : cq_ok E1 m e k := by
  unfold cq_ok
  rw [el_fr TH h hm hk (k := 44) (by decide) rfl (by decide) (h1 _ (by decide)) (h2 _ (by decide)), rw_p_fr TH h hm hk (h1 _ (by decide)) (h2 _ (by decide)) (h2 _ (by decide)) (i := e) he, rw_p_fr TH h hm hk (h1 _ (by decide)) (h2 _ (by decide)) (h2 _ (by decide)) (i := 15) (by decide)]
  exact q
/-- a row behind the editions' has changed, and there may be more nodes -/
theorem eo_ot2 {r : Int} (TH : tw_H D cs kp L E1 A H) (hm : m ∈ L) (hk : kp m = 12) (ot : ot_ok E1 m r E) (h27 : tw_fi E1 m 27 = tw_fi E m 27) (h26 : tw_fi E m 26 ≤ tw_fi E1 m 26) (hr : tw_fi E m 27 ≤ r) (q : eo_ok E m) : eo_ok E1 m := fun i i0 i1 => by
  have hb := tw_fi_ed TH hm hk
  rw [h27] at i1 hb
  have o := ot i i0 (by omega) (by omega)
  exact row_ok_same o.1 o.2 h26 (q i i0 i1)
theorem dr_ot2 {r : Int} (ot : ot_ok E1 m r E) (h29 : tw_fi E1 m 29 = tw_fi E m 29) (h26 : tw_fi E m 26 ≤ tw_fi E1 m 26) (hr : r ≠ 12) (q : dr_ok E m) : dr_ok E1 m := fun z => by
  rw [h29] at z
  have o := ot 12 (by decide) (by decide) (by omega)
  exact row_ok_same o.1 o.2 h26 (q z)
end CMF
def n44_ok (E : Nat → va_E) (m : Nat) (k : Int) : Prop := ∀ j : Nat, (j : Int) < k → tw_el E m 44 j = -1
theorem n44_ok_cast {E : Nat → va_E} {m : Nat} {k k1 : Int} (h : k = k1) (q : n44_ok E m k) : n44_ok E m k1 := h ▸ q
theorem n44_push {E E1 : Nat → va_E} {m : Nat} {k k1 : Int} (q : n44_ok E m k) (hk : k1 = k + 1) (h : ∀ j : Nat, tw_el E1 m 44 j = if j = k.toNat then -1 else tw_el E m 44 j) : n44_ok E1 m k1 := fun j hj => by
  rw [h]
  split
  · rfl
  · exact q j (by omega)
theorem n44_ok_fr {D : va_G} {A : Nat → Prop} {H : Heap} {cs : Nat → ClassId} {kp : Nat → Nat} {L : List Nat} {E E1 : Nat → va_E} {ms : List (Nat × Nat)} {ks : List Nat} {m : Nat} {k : Int} (TH : tw_H D cs kp L E1 A H) (h : tw_fr kp L ms ks E E1) (hm : m ∈ L) (hk : kp m = 12) (h1 : ∀ x ∈ [(12, 44)], x ∉ ms) (h2 : ∀ x ∈ [353], x ∉ ks) (q : n44_ok E m k) : n44_ok E1 m k := by
  unfold n44_ok
  rw [el_fr TH h hm hk (k := 44) (by decide) rfl (by decide) (h1 _ (by decide)) (h2 _ (by decide))]
  exact q
theorem nbp_of44 {E : Nat → va_E} {m : Nat} {B : Int} (q : n44_ok E m (tw_fi E m 28)) : nbp_ok E m B := ⟨fun j hj => Or.inl (q j hj), fun i j hi hj h1 _ => absurd (q i hi) h1⟩
theorem nc2_of {E : Nat → va_E} {m : Nat} (h : tw_fi E m 26 + tw_fi E m 28 ≤ 150) (h0 : 0 ≤ tw_fi E m 28) : nc2_ok E m := by
  unfold nc2_ok nr_c
  have := rt_cnt_k (P := fun j => decide (tw_el E m 44 j = -1)) (tw_fi E m 28).toNat
  omega
/-- the numbers of the pairs -/
def nx_ok (E : Nat → va_E) (m : Nat) (k : Int) : Prop := ∀ b : Nat, (b : Int) < k → tw_el E m 44 b = (if tw_el E m 47 b = -1 then -1 else tw_el E m 45 (tw_el E m 47 b).toNat)
def fc_ok (E : Nat → va_E) (m : Nat) (k c : Int) : Prop := c = (rt_cnt (fun j => decide (tw_el E m 44 j = -1)) k.toNat : Int)
theorem nx_ok_cast {E : Nat → va_E} {m : Nat} {k k1 : Int} (h : k = k1) (q : nx_ok E m k) : nx_ok E m k1 := h ▸ q
theorem fc_ok_cast {E : Nat → va_E} {m : Nat} {k c k1 c1 : Int} (h : k = k1 ∧ c = c1) (q : fc_ok E m k c) : fc_ok E m k1 c1 := by
  obtain ⟨rfl, rfl⟩ := h
  exact q
theorem nx_push {E E1 : Nat → va_E} {m : Nat} {k k1 v : Int} (q : nx_ok E m k) (k0 : 0 ≤ k) (hk : k1 = k + 1) (hv : v = (if tw_el E m 47 k.toNat = -1 then -1 else tw_el E m 45 (tw_el E m 47 k.toNat).toNat)) (h44 : ∀ j : Nat, tw_el E1 m 44 j = if j = k.toNat then v else tw_el E m 44 j) (h45 : ∀ j : Nat, tw_el E1 m 45 j = tw_el E m 45 j) (h47 : ∀ j : Nat, tw_el E1 m 47 j = tw_el E m 47 j) : nx_ok E1 m k1 := fun b hb => by
  rw [h44, h47, h45]
  by_cases e : b = k.toNat
  · rw [if_pos e, e]; exact hv
  · rw [if_neg e]; exact q b (by omega)
theorem rt_cnt_same {P Q : Nat → Bool} : ∀ {k : Nat}, (∀ i : Nat, i < k → P i = Q i) → rt_cnt P k = rt_cnt Q k := fun {k} h => Nat.le_antisymm (rt_cnt_le (fun i hi z => by rw [← h i hi]; exact z)) (rt_cnt_le (fun i hi z => by rw [h i hi]; exact z))
theorem fc_keep {E E1 : Nat → va_E} {m : Nat} {k c v : Int} (q : fc_ok E m k c) (k0 : 0 ≤ k) (h44 : ∀ j : Nat, tw_el E1 m 44 j = if j = k.toNat then v else tw_el E m 44 j) : fc_ok E1 m k c := by
  unfold fc_ok at q ⊢
  rw [q]
  congr 1
  refine rt_cnt_same (fun i hi => ?_)
  rw [h44, if_neg (by omega)]
theorem fc_push {E : Nat → va_E} {m : Nat} {k c k1 c1 : Int} (q : fc_ok E m k c) (k0 : 0 ≤ k) (hk : k1 = k + 1) (hc : (tw_el E m 44 k.toNat = -1 ∧ c1 = c + 1) ∨ (tw_el E m 44 k.toNat ≠ -1 ∧ c1 = c)) : fc_ok E m k1 c1 := by
  unfold fc_ok at q ⊢
  refine rt_cnt_step (show k1.toNat = k.toNat + 1 by omega) q ?_
  rcases hc with ⟨a, b⟩ | ⟨a, b⟩
  · rw [if_pos (by simp [a])]; exact b
  · rw [if_neg (by simp [a])]; omega
section NXF
variable {D : va_G} {A : Nat → Prop} {H : Heap} {cs : Nat → ClassId} {kp : Nat → Nat} {L : List Nat} {E E1 : Nat → va_E} {ms : List (Nat × Nat)} {ks : List Nat} {m : Nat} {k c : Int}
theorem nx_ok_fr (TH : tw_H D cs kp L E1 A H) (h : tw_fr kp L ms ks E E1) (hm : m ∈ L) (hk : kp m = 12) (h1 : ∀ x ∈ [(12, 44), (12, 45), (12, 47)], x ∉ ms) (h2 : ∀ x ∈ [353, 354, 356], x ∉ ks) (q : nx_ok E m k) : nx_ok E1 m k := by
  unfold nx_ok
  rw [el_fr TH h hm hk (k := 44) (by decide) rfl (by decide) (h1 _ (by decide)) (h2 _ (by decide)), el_fr TH h hm hk (k := 45) (by decide) rfl (by decide) (h1 _ (by decide)) (h2 _ (by decide)), el_fr TH h hm hk (k := 47) (by decide) rfl (by decide) (h1 _ (by decide)) (h2 _ (by decide))]
  exact q
theorem fc_ok_fr (TH : tw_H D cs kp L E1 A H) (h : tw_fr kp L ms ks E E1) (hm : m ∈ L) (hk : kp m = 12) (h1 : ∀ x ∈ [(12, 44)], x ∉ ms) (h2 : ∀ x ∈ [353], x ∉ ks) (q : fc_ok E m k c) : fc_ok E1 m k c := by
  unfold fc_ok
  rw [el_fr TH h hm hk (k := 44) (by decide) rfl (by decide) (h1 _ (by decide)) (h2 _ (by decide))]
  exact q
theorem nc2_ok_fr (TH : tw_H D cs kp L E1 A H) (h : tw_fr kp L ms ks E E1) (hm : m ∈ L) (hk : kp m = 12) (h1 : ∀ x ∈ [(12, 26), (12, 28), (12, 44)], x ∉ ms) (h2 : ∀ x ∈ [353], x ∉ ks) (q : nc2_ok E m) : nc2_ok E1 m := by
  unfold nc2_ok
  rw [tw_fi_fr h hm hk (h1 (12, 26) (by decide)), tw_fi_fr h hm hk (h1 (12, 28) (by decide)), el_fr TH h hm hk (k := 44) (by decide) rfl (by decide) (h1 _ (by decide)) (h2 _ (by decide))]
  exact q
end NXF
/-- the pairs' numbers are good ones, and the root keeps its own -/
theorem nx_done {E : Nat → va_E} {m : Nat} {i : Int} (q : nx_ok E m (tw_fi E m 28)) (pi : pi_ok E m) (ls : ls_ok E m i) (ro : row_ok E m i) (h28 : 1 ≤ tw_fi E m 28) : nbp_ok E m (tw_fi E m 26) ∧ 0 ≤ tw_el E m 44 0 ∧ tw_el E m 44 0 < 150 ∧ rw_h E m i (tw_el E m 44 0).toNat ≠ 0 ∧ rw_p E m i (tw_el E m 44 0).toNat = -1 := by
  have ls2 := ls
  obtain ⟨top, k, h50, t, r, he, hi⟩ := ls
  have nd : ∀ b : Nat, (b : Int) < tw_fi E m 28 → tw_el E m 47 b ≠ -1 → (tw_el E m 47 b).toNat < k + 1 ∧ rt_nd (rw_h E m i) (tw_el E m 45 (tw_el E m 47 b).toNat) := fun b hb hn => by
    have p := (pi.2 b hb).resolve_left hn
    exact ⟨by omega, tr_nd t r _ (by omega)⟩
  refine ⟨⟨fun j hj => ?_, fun a b ha hb h1 h2 => ?_⟩, ?_⟩
  · rw [q j hj]
    by_cases e : tw_el E m 47 j = -1
    · rw [if_pos e]; exact Or.inl rfl
    · rw [if_neg e]
      have n := nd j hj e
      have c := ro.2.2.2 _ (by have := n.2.1; have := n.2.2.1; omega) n.2.2.2
      have := n.2.1
      exact Or.inr ⟨n.2.1, by omega⟩
  · rw [q a ha] at h1 h2
    rw [q b hb] at h2
    by_cases ea : tw_el E m 47 a = -1
    · rw [if_pos ea] at h1
      exact absurd rfl h1
    · rw [if_neg ea] at h2
      have na := nd a ha ea
      by_cases eb : tw_el E m 47 b = -1
      · rw [if_pos eb] at h2
        have := na.2.1
        omega
      · rw [if_neg eb] at h2
        have nb := nd b hb eb
        have e := tr_inj t r na.1 nb.1 h2
        have pa := (pi.2 a ha).resolve_left ea
        have pb := (pi.2 b hb).resolve_left eb
        have e2 : tw_el E m 47 a = tw_el E m 47 b := by omega
        have := pa.2.2
        rw [e2, pb.2.2] at this
        omega
  · have e0 := q 0 (by omega)
    rw [pi.1, if_neg (by decide)] at e0
    have e1 : tw_el E m 45 (0 : Int).toNat = top := r.1 (by omega)
    rw [e1] at e0
    rw [e0]
    exact ⟨t.2.1.1, t.2.1.2.1, t.2.1.2.2, t.2.2⟩
def r2c_ok (E : Nat → va_E) (m : Nat) (a b : Int) : Prop := b ≠ -1 → r2_ok E m a b
theorem r2c_ok_fr {D : va_G} {A : Nat → Prop} {H : Heap} {cs : Nat → ClassId} {kp : Nat → Nat} {L : List Nat} {E E1 : Nat → va_E} {ms : List (Nat × Nat)} {ks : List Nat} {m : Nat} {a b : Int} (TH : tw_H D cs kp L E1 A H) (h : tw_fr kp L ms ks E E1) (hm : m ∈ L) (hk : kp m = 12) (h1 : ∀ x ∈ [(12, 16), (12, 18)], x ∉ ms) (h2 : ∀ x ∈ [316, 318, 326, 328], x ∉ ks) (hb : a.toNat < 16 ∧ b.toNat < 16) (q : r2c_ok E m a b) : r2c_ok E1 m a b := fun z => r2_fr TH h hm hk h1 h2 hb.1 hb.2 (q z)
theorem cm_r2 {E E1 : Nat → va_E} {m : Nat} {e b v : Int} (ot : ot_ok E1 m e E) (b0 : -1 ≤ b) (b1 : b < 16) (hne : b ≠ e) (n0 : n0_ok E1 m v) (hv : v = tw_el E m 44 0) (root : 0 ≤ tw_el E1 m 44 0 ∧ tw_el E1 m 44 0 < 150 ∧ rw_h E1 m e (tw_el E1 m 44 0).toNat ≠ 0 ∧ rw_p E1 m e (tw_el E1 m 44 0).toNat = -1) (hp : b = -1 ∨ (0 ≤ tw_el E m 44 0 ∧ rw_h E m b (tw_el E m 44 0).toNat ≠ 0 ∧ rw_p E m b (tw_el E m 44 0).toNat = -1)) : r2c_ok E1 m e b := fun z => by
  have p := hp.resolve_left z
  have o := ot b (by omega) b1 hne
  rw [← hv] at p
  have ev : tw_el E1 m 44 0 = v := by
    rcases n0 with x | x
    · exact x
    · omega
  refine ⟨tw_el E1 m 44 0, root.1, root.2.1, root.2.2.1, ?_, root.2.2.2, ?_⟩
  · rw [o.1, ev]; exact p.2.1
  · rw [o.2, ev]; exact p.2.2
/-! grammars: what a text says, as a function of its bytes -/
theorem lx_WS_un {t : Nat → Int} {n a b c : Int} (x : lx_WS t n a b) (y : lx_WS t n a c) (a0 : 0 ≤ a) : b = c := by
  obtain ⟨x1, x2, x3, x4⟩ := x
  obtain ⟨y1, y2, y3, y4⟩ := y
  rcases Int.lt_trichotomy b c with z | z | z
  · exact absurd (y3 b.toNat (by omega) (by omega)) (x4 (by omega))
  · exact z
  · exact absurd (x3 c.toNat (by omega) (by omega)) (y4 (by omega))
theorem lx_TK_un {t : Nat → Int} {n s e f : Int} (x : lx_TK t n s e) (y : lx_TK t n s f) (s0 : 0 ≤ s) (hs : s < n) (hl : lx_le (t s.toNat)) : e = f := by
  have two : ∀ {e : Int}, lx_TK t n s e → s < e ∧ e ≤ n ∧ lx_al lx_le t s e ∧ (e < n → ¬ lx_le (t e.toNat)) := fun {e} x => by
    rcases x with x | x | x
    · omega
    · exact x.2.2
    · exact absurd hl x.2.1
  obtain ⟨x1, x2, x3, x4⟩ := two x
  obtain ⟨y1, y2, y3, y4⟩ := two y
  rcases Int.lt_trichotomy e f with z | z | z
  · exact absurd (y3 e.toNat (by omega) (by omega)) (x4 (by omega))
  · exact z
  · exact absurd (x3 f.toNat (by omega) (by omega)) (y4 (by omega))
/-- where the next token begins; where the name at s ends -/
noncomputable def lx_n (t : Nat → Int) (n a : Int) : Int := Classical.epsilon (fun b => lx_WS t n a b)
noncomputable def lx_e (t : Nat → Int) (n s : Int) : Int := Classical.epsilon (fun e => lx_TK t n s e)
theorem lx_n_of {t : Nat → Int} {n a b : Int} (h : lx_WS t n a b) (a0 : 0 ≤ a) : lx_n t n a = b := lx_WS_un (Classical.epsilon_spec (p := fun b => lx_WS t n a b) ⟨b, h⟩) h a0
theorem lx_e_of {t : Nat → Int} {n s e : Int} (h : lx_TK t n s e) (s0 : 0 ≤ s) (hs : s < n) (hl : lx_le (t s.toNat)) : lx_e t n s = e := lx_TK_un (Classical.epsilon_spec (p := fun e => lx_TK t n s e) ⟨e, h⟩) h s0 hs hl
noncomputable def cite {α : Type} (P : Prop) (a b : α) : α := @ite α P (Classical.propDecidable P) a b
theorem cite_pos {α : Type} {P : Prop} {a b : α} (h : P) : cite P a b = a := if_pos h
theorem cite_neg {α : Type} {P : Prop} {a b : α} (h : ¬ P) : cite P a b = b := if_neg h
/-- one of these names is the one at x -/
def gp_nm (t : Nat → Int) (K : List (Int × Int)) (x : Int × Int) : Prop := ∃ k ∈ K, k.2 - k.1 = x.2 - x.1 ∧ ∀ i : Nat, (i : Int) < x.2 - x.1 → t (k.1 + i).toNat = t (x.1 + i).toNat
noncomputable def gp_fin (t : Nat → Int) (K I : List (Int × Int)) : Int := cite (∀ x ∈ I, gp_nm t K x) (K.length : Int) (-1)
/-- mode 0: a rule begins at s; 1, 2: an item (2: with signs behind items); K the names, I the items so far -/
noncomputable def gp (t : Nat → Int) (n : Int) : Nat → Nat → Int → List (Int × Int) → List (Int × Int) → Int
  | 0, _, _, _, _ => -1
  | f + 1, 0, s, K, I => cite (lx_nm t n s (lx_e t n s) ∧ K.length < 10 ∧ ¬ gp_nm t K (s, lx_e t n s))
      (cite (lx_rs t n (lx_n t n (lx_e t n s)) (lx_e t n (lx_n t n (lx_e t n s))) 0)
        (cite (lx_n t n (lx_e t n (lx_n t n (lx_e t n s))) < n ∧ t (lx_n t n (lx_e t n (lx_n t n (lx_e t n s)))).toNat = 59)
          (cite (n ≤ lx_n t n (lx_n t n (lx_e t n (lx_n t n (lx_e t n s))) + 1)) (gp_fin t (K ++ [(s, lx_e t n s)]) I) (gp t n f 0 (lx_n t n (lx_n t n (lx_e t n (lx_n t n (lx_e t n s))) + 1)) (K ++ [(s, lx_e t n s)]) I))
          (-1))
        (cite (lx_rs t n (lx_n t n (lx_e t n s)) (lx_e t n (lx_n t n (lx_e t n s))) 1)
          (gp t n f 1 (lx_n t n (lx_e t n (lx_n t n (lx_e t n s)))) (K ++ [(s, lx_e t n s)]) I)
          (cite (lx_n t n (lx_e t n s) < n ∧ t (lx_n t n (lx_e t n s)).toNat = 61)
            (gp t n f 2 (lx_n t n (lx_n t n (lx_e t n s) + 1)) (K ++ [(s, lx_e t n s)]) I)
            (-1))))
      (-1)
  | f + 1, q + 1, s, K, I => cite (lx_nm t n s (lx_e t n s))
      (cite (q = 1 ∧ lx_n t n (lx_e t n s) < n ∧ (t (lx_n t n (lx_e t n s)).toNat = 63 ∨ t (lx_n t n (lx_e t n s)).toNat = 42))
        (cite (lx_n t n (lx_n t n (lx_e t n s) + 1) < n ∧ t (lx_n t n (lx_n t n (lx_e t n s) + 1)).toNat = 59)
          (cite (n ≤ lx_n t n (lx_n t n (lx_n t n (lx_e t n s) + 1) + 1)) (gp_fin t K (I ++ [(s, lx_e t n s)])) (gp t n f 0 (lx_n t n (lx_n t n (lx_n t n (lx_e t n s) + 1) + 1)) K (I ++ [(s, lx_e t n s)])))
          (gp t n f (q + 1) (lx_n t n (lx_n t n (lx_e t n s) + 1)) K (I ++ [(s, lx_e t n s)])))
        (cite (lx_n t n (lx_e t n s) < n ∧ t (lx_n t n (lx_e t n s)).toNat = 59)
          (cite (n ≤ lx_n t n (lx_n t n (lx_e t n s) + 1)) (gp_fin t K (I ++ [(s, lx_e t n s)])) (gp t n f 0 (lx_n t n (lx_n t n (lx_e t n s) + 1)) K (I ++ [(s, lx_e t n s)])))
          (gp t n f (q + 1) (lx_n t n (lx_e t n s)) K (I ++ [(s, lx_e t n s)]))))
      (-1)
/-- what grammar() answers where there is no GRAMMAR yet -/
noncomputable def gp_all (t : Nat → Int) (n : Int) : Int := gp t n 501 0 (lx_n t n 0) [] []
/-- from here on the answer is R -/
def gp_at (t : Nat → Int) (n : Int) (mode : Nat) (s : Int) (K I : List (Int × Int)) : Prop := ∃ f : Nat, 501 ≤ (f : Int) + s ∧ gp t n f mode s K I = gp_all t n
