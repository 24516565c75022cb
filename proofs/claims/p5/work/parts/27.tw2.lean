/-! typed worlds: rows of rows, bytes, booleans (the reference) -/
def tw_rf (E : Nat → va_E) (a i : Nat) : Nat := match E a with
  | .inl (_, _, .inr (.inr (.inr (.inr f)))) => (f i).getD 0
  | _ => 0
theorem ia_i2b (x : Int32) : -128 ≤ (x.toInt8.toInt32).toInt ∧ (x.toInt8.toInt32).toInt ≤ 127 := by
  rw [Int8.toInt_toInt32]
  have h1 := Int8.le_toInt x.toInt8
  have h2 := Int8.toInt_lt x.toInt8
  omega
theorem ia_bmod8 {x : Int} (h1 : -128 ≤ x) (h2 : x ≤ 127) : x.bmod 256 = x := by
  unfold Int.bmod
  dsimp only
  split <;> omega
theorem ia_byte {x : Int32} (h1 : -128 ≤ x.toInt) (h2 : x.toInt ≤ 127) : x.toInt8.toInt32 = x := by
  apply Int32.toInt_inj.mp
  rw [Int8.toInt_toInt32, Int32.toInt_toInt8]
  exact ia_bmod8 h1 h2
theorem ia_narb {x : Int32} (h1 : -128 ≤ x.toInt) (h2 : x.toInt ≤ 127) : vp_nar .byte x = x := by
  have e : narrow .byte (.int x) = .int x.toInt8.toInt32 := rfl
  unfold vp_nar
  rw [e]
  exact ia_byte h1 h2
theorem ia_narz {x : Int32} (h1 : 0 ≤ x.toInt) (h2 : x.toInt ≤ 1) : vp_nar .boolean x = x := by
  unfold vp_nar
  rw [ia_bool h1 h2]
section TW2
variable {p : Program} {l : Launch} {e : Env} {R : Room} {s : State} {m : MethodId} {args : Array Value} {below : List Frame} {meth : Method} {c : Code} {H : Heap} {locs : List Loc} {cells slots : Nat} {Q : State → Prop} {cc : ByteArray} {pc : Nat} {ls : Array Slot} {rest : List Value} {D : va_G} {A : Nat → Prop} {H0 : Heap} {cs : Nat → ClassId} {kp : Nat → Nat} {L : List Nat} {E : Nat → va_E} {a : Nat}
theorem tw_aald (hexec : p.tables.exec = Jvm.exec) (hb : c.code = cc) (hK : va_K D vwCl (cx_TY cs) s) (TH : tw_H D cs kp L E A H) (ha : a ∈ L) {k t0 n : Nat} {lo hi : Int} {ty : FieldType} (hk : kp a = k) (hge : 100 ≤ k) (hkd : tw_KD k = (2, t0, n, lo, hi)) (ht : (cx_TY cs)[t0]? = some (cs t0, .array ty)) {i : Int32} (hin : vp_in i n) (hdg : decode cc pc = .ok (.aaload, 1))
    (kk : ∀ b : Nat, tw_rf E a i.toNatClampNeg = b → b ∈ L → kp b = lo.toNat → W p l e R s m args below meth c H locs cells slots Q (F0 m (pc + 1) ls (.ref b :: rest))) : W p l e R s m args below meth c H locs cells slots Q (F0 m pc ls (.int i :: .ref a :: rest)) := by
  obtain ⟨⟨n2, x⟩, he, hl, hC⟩ := tw_arr TH.2.2 ha hk hge
  obtain ⟨q, hq⟩ := tw_at (E := E) ha
  rw [hkd] at he hl hC
  have hl : n2 = n := hl
  subst hl
  have hlt : i.toNatClampNeg < n2 := Nat.not_le.mp fun q => hin (Or.inr q)
  match x, he, hC with
  | .inr (.inr (.inr (.inr f))), he, hC =>
    rw [he] at hq
    obtain ⟨b, e1, e2, e3⟩ := hC i.toNatClampNeg hlt
    exact cx_alda hexec hb hK TH.1 q t0 hq ht hin e1 hdg (kk b (by unfold tw_rf; rw [he]; show (f i.toNatClampNeg).getD 0 = b; rw [e1]; rfl) e2 e3)
theorem tw_bast (hexec : p.tables.exec = Jvm.exec) (hb : c.code = cc) (hK : va_K D vwCl (cx_TY cs) s) (TH : tw_H D cs kp L E A H) (hS : va_S A H0 H locs) (ha : a ∈ L) {k n : Nat} {lo hi : Int} (hk : kp a = k) (hge : 100 ≤ k) (hkd : tw_KD k = (0, 2, n, lo, hi)) {i x : Int32} (hin : vp_in i n) (h1 : lo ≤ x.toInt) (h2 : x.toInt ≤ hi) (h3 : -128 ≤ x.toInt) (h4 : x.toInt ≤ 127) (hdg : decode cc pc = .ok (.bastore, 1))
    (kk : ∀ (H1 : Heap) (locs1 : List Loc) (E1 : Nat → va_E), tw_H D cs kp L E1 A H1 → va_S A H0 H1 locs1 → (∀ b j : Nat, tw_fv E1 b j = tw_fv E b j) → (∀ b : Nat, b ≠ a → E1 b = E b) → (∀ j : Nat, tw_iv E1 a j = if j = i.toNatClampNeg then x else tw_iv E a j) → W p l e R s m args below meth c H1 locs1 cells slots Q (F0 m (pc + 1) ls rest)) : W p l e R s m args below meth c H locs cells slots Q (F0 m pc ls (.int x :: .int i :: .ref a :: rest)) := by
  obtain ⟨⟨n2, y⟩, he, hl, hC⟩ := tw_arr TH.2.2 ha hk hge
  obtain ⟨q, hq⟩ := tw_at (E := E) ha
  rw [hkd] at he hl hC
  have hl : n2 = n := hl
  subst hl
  match y, he, hC with
  | .inl f, he, hC =>
    have hq2 := hq
    rw [he] at hq2
    refine va_bast hexec hb hK TH.1 TH.2.1 hS q 2 hq2 rfl hin hdg (fun H1 locs1 hP1 hD1 hS1 => ?_)
    rw [ia_narb h3 h4] at hP1 hD1
    have hne : tw_E cs kp L (kp a) (.inl (cs 2, n2, .inl (upd f i.toNatClampNeg x))) := by
      refine ⟨by rw [hk]; exact hge, by rw [hk, hkd], by rw [hk, hkd], ?_⟩
      rw [hk, hkd]
      intro j hj
      show lo ≤ (upd f i.toNatClampNeg x j).toInt ∧ (upd f i.toNatClampNeg x j).toInt ≤ hi
      by_cases hji : j = i.toNatClampNeg
      · subst hji
        rw [pk_us]
        exact ⟨h1, h2⟩
      · rw [pk_un hji]
        exact hC j hj
    refine kk H1 locs1 _ (tw_write TH ha hq hne hP1 hD1) hS1 (fun b j => tw_fv_arr he _ b j) (fun b hba => va_up_ne E _ hba) (fun j => ?_)
    unfold tw_iv
    rw [va_up_self, he]
    rfl
theorem tw_zast (hexec : p.tables.exec = Jvm.exec) (hb : c.code = cc) (hK : va_K D vwCl (cx_TY cs) s) (TH : tw_H D cs kp L E A H) (hS : va_S A H0 H locs) (ha : a ∈ L) {k n : Nat} {lo hi : Int} (hk : kp a = k) (hge : 100 ≤ k) (hkd : tw_KD k = (0, 3, n, lo, hi)) {i x : Int32} (hin : vp_in i n) (h1 : lo ≤ x.toInt) (h2 : x.toInt ≤ hi) (h3 : 0 ≤ x.toInt) (h4 : x.toInt ≤ 1) (hdg : decode cc pc = .ok (.bastore, 1))
    (kk : ∀ (H1 : Heap) (locs1 : List Loc) (E1 : Nat → va_E), tw_H D cs kp L E1 A H1 → va_S A H0 H1 locs1 → (∀ b j : Nat, tw_fv E1 b j = tw_fv E b j) → (∀ b : Nat, b ≠ a → E1 b = E b) → (∀ j : Nat, tw_iv E1 a j = if j = i.toNatClampNeg then x else tw_iv E a j) → W p l e R s m args below meth c H1 locs1 cells slots Q (F0 m (pc + 1) ls rest)) : W p l e R s m args below meth c H locs cells slots Q (F0 m pc ls (.int x :: .int i :: .ref a :: rest)) := by
  obtain ⟨⟨n2, y⟩, he, hl, hC⟩ := tw_arr TH.2.2 ha hk hge
  obtain ⟨q, hq⟩ := tw_at (E := E) ha
  rw [hkd] at he hl hC
  have hl : n2 = n := hl
  subst hl
  match y, he, hC with
  | .inl f, he, hC =>
    have hq2 := hq
    rw [he] at hq2
    refine va_zast hexec hb hK TH.1 TH.2.1 hS q 3 hq2 rfl hin hdg (fun H1 locs1 hP1 hD1 hS1 => ?_)
    rw [ia_narz h3 h4] at hP1 hD1
    have hne : tw_E cs kp L (kp a) (.inl (cs 3, n2, .inl (upd f i.toNatClampNeg x))) := by
      refine ⟨by rw [hk]; exact hge, by rw [hk, hkd], by rw [hk, hkd], ?_⟩
      rw [hk, hkd]
      intro j hj
      show lo ≤ (upd f i.toNatClampNeg x j).toInt ∧ (upd f i.toNatClampNeg x j).toInt ≤ hi
      by_cases hji : j = i.toNatClampNeg
      · subst hji
        rw [pk_us]
        exact ⟨h1, h2⟩
      · rw [pk_un hji]
        exact hC j hj
    refine kk H1 locs1 _ (tw_write TH ha hq hne hP1 hD1) hS1 (fun b j => tw_fv_arr he _ b j) (fun b hba => va_up_ne E _ hba) (fun j => ?_)
    unfold tw_iv
    rw [va_up_self, he]
    rfl
end TW2
theorem ia_lc (x y : Int64) : (x.toInt < y.toInt ∧ (lg_cmp x y).toInt = -1) ∨ (x.toInt = y.toInt ∧ (lg_cmp x y).toInt = 0) ∨ (y.toInt < x.toInt ∧ (lg_cmp x y).toInt = 1) := by
  rcases cx_lc0 x y with ⟨a, h⟩ | ⟨a, h⟩ | ⟨a, h⟩ <;> rw [h]
  · exact Or.inl ⟨a, by decide⟩
  · exact Or.inr (Or.inl ⟨a, by decide⟩)
  · exact Or.inr (Or.inr ⟨a, by decide⟩)
/-- how long a word is -/
def lo_inv (v : Int64) (n : Int) : Prop := 0 ≤ n ∧ n ≤ 8 ∧ v.toUInt64.toNat < 2 ^ (64 - 8 * n.toNat)
theorem lo_inv_zero (v : Int64) {n : Int} (h : n = 0) : lo_inv v n := by
  subst h
  exact ⟨by omega, by omega, v.toUInt64.toNat_lt⟩
theorem lo_ne {v : Int64} (h : v.toInt ≠ 0) : v.toUInt64.toNat ≠ 0 := fun q => h (by
  have e : v.toUInt64 = 0 := UInt64.toNat_inj.mp q
  have e2 : v = 0 := by
    have := congrArg UInt64.toInt64 e
    simpa using this
  rw [e2]
  decide)
theorem lo_inv_lt {v : Int64} {n : Int} (h : lo_inv v n) (hne : v.toInt ≠ 0) : n < 8 := by
  have h1 := lo_ne hne
  obtain ⟨a, b, q⟩ := h
  rcases Int.lt_or_eq_of_le b with z | z
  · exact z
  · subst z
    simp at q
    omega
theorem lo_inv_step {v w : Int64} {n m : Int} (h : lo_inv v n) (hne : v.toInt ≠ 0) (hw : w = (v.toUInt64 >>> (((8 : Int32)).toInt64.toUInt64 &&& Int64.toUInt64 63)).toInt64) (hm : m = n + 1) : lo_inv w m := by
  have hlt := lo_inv_lt h hne
  obtain ⟨a, b, q⟩ := h
  subst hm
  refine ⟨by omega, by omega, ?_⟩
  have e8 : (((8 : Int32)).toInt64.toUInt64 &&& Int64.toUInt64 63) = 8 := by decide
  rw [e8] at hw
  have e1 : w.toUInt64 = v.toUInt64 >>> 8 := by rw [hw]; simp
  rw [e1, UInt64.toNat_shiftRight]
  have e3 : ((8 : UInt64).toNat % 64) = 8 := by decide
  rw [e3, Nat.shiftRight_eq_div_pow]
  have e4 : 2 ^ (64 - 8 * n.toNat) = 2 ^ (64 - 8 * (n + 1).toNat) * 2 ^ 8 := by
    rw [← Nat.pow_add]
    congr 1
    omega
  rw [e4] at q
  exact Nat.div_lt_of_lt_mul (by rw [Nat.mul_comm]; exact q)
theorem ia_max (x y : Int32) : x.toInt ≤ (if x < y then y else x).toInt ∧ y.toInt ≤ (if x < y then y else x).toInt ∧ ((if x < y then y else x).toInt = x.toInt ∨ (if x < y then y else x).toInt = y.toInt) := by
  by_cases h : x < y
  · rw [if_pos h]
    have := (fa_lt _ _).mp h
    omega
  · rw [if_neg h]
    have : ¬ x.toInt < y.toInt := fun q => h ((fa_lt _ _).mpr q)
    omega
/-- the text's tree has no node beyond its 24 -/
def ht_ok (E : Nat → va_E) (m : Nat) : Prop := ∀ n : Nat, 24 ≤ n → n < 150 → tw_iv E (tw_rf E (tw_fa E m 16) 15) n = 0
theorem ht_use {E : Nat → va_E} {m o xr : Nat} {i c x : Int32} (q : ht_ok E m) (h16 : tw_fv E m 16 = .ref o) (er : tw_rf E o i.toNatClampNeg = xr) (ev : tw_iv E xr c.toNatClampNeg = x) (hx : x.toInt ≠ 0) (h0 : 0 ≤ c.toInt) (h1 : c.toInt ≤ 149) (hi : i.toInt = 15) : c.toInt ≤ 23 := by
  have hn := ia_tn h0
  rcases Int.lt_or_le 23 c.toInt with h | h
  · exfalso
    have e15 : i.toNatClampNeg = 15 := by
      show i.toInt.toNat = 15
      omega
    have := q c.toNatClampNeg (by omega) (by omega)
    rw [tw_fa_of h16, ← e15, er, ev] at this
    exact hx (by rw [this]; decide)
  · exact h
theorem tw_rf_fr {D : va_G} {A : Nat → Prop} {H : Heap} {cs : Nat → ClassId} {kp : Nat → Nat} {L : List Nat} {E E1 : Nat → va_E} {a ci k : Nat} {ms : List (Nat × Nat)} {ks : List Nat} (TH : tw_H D cs kp L E1 A H) (h : tw_fr kp L ms ks E E1) (ha : a ∈ L) (hk : kp a = ci) (hlt : ci < 100) (hN : k < tw_N ci) {kd : Int} (hf : tw_FT ci k = (2, kd, 0)) (hge : 100 ≤ kd) (h1 : (ci, k) ∉ ms) (h2 : kd.toNat ∉ ks) (i : Nat) : tw_rf E1 (tw_fa E1 a k) i = tw_rf E (tw_fa E a k) i := by
  obtain ⟨b, e1, e2, e3⟩ := tw_ra TH ha hk hlt hN hf
  have e4 : tw_fv E a k = .ref b := (h.1 a k ha (by rw [hk]; exact h1)).symm.trans e1
  rw [tw_fa_of e1, tw_fa_of e4]
  have e5 : E1 b = E b := h.2 b e2 (by rw [e3]; omega) (by rw [e3]; exact h2)
  unfold tw_rf
  rw [e5]
/-- a row of a field of rows, by the types -/
theorem tw_rw {D : va_G} {A : Nat → Prop} {H : Heap} {cs : Nat → ClassId} {kp : Nat → Nat} {L : List Nat} {E : Nat → va_E} {a ci k i : Nat} (TH : tw_H D cs kp L E A H) (ha : a ∈ L) (hk : kp a = ci) (hlt : ci < 100) (hN : k < tw_N ci) {kd rk hi : Int} {t0 n : Nat} (hf : tw_FT ci k = (2, kd, 0)) (hge : 100 ≤ kd) (hkd : tw_KD kd.toNat = (2, t0, n, rk, hi)) (hi2 : i < n) : tw_rf E (tw_fa E a k) i ∈ L ∧ kp (tw_rf E (tw_fa E a k) i) = rk.toNat := by
  obtain ⟨b, e1, e2, e3⟩ := tw_ra TH ha hk hlt hN hf
  rw [tw_fa_of e1]
  obtain ⟨⟨n2, x⟩, he, hl, hC⟩ := tw_arr TH.2.2 e2 e3 (by omega)
  rw [hkd] at he hl hC
  have hl : n2 = n := hl
  subst hl
  match x, he, hC with
  | .inr (.inr (.inr (.inr f))), he, hC =>
    obtain ⟨r, f1, f2, f3⟩ := hC i hi2
    have : tw_rf E b i = r := by
      unfold tw_rf
      rw [he]
      show (f i).getD 0 = r
      rw [f1]
      rfl
    rw [this]
    exact ⟨f2, f3⟩
theorem ht_ok_fr {D : va_G} {A : Nat → Prop} {H : Heap} {cs : Nat → ClassId} {kp : Nat → Nat} {L : List Nat} {E E1 : Nat → va_E} {ms : List (Nat × Nat)} {ks : List Nat} {m : Nat} (TH : tw_H D cs kp L E1 A H) (h : tw_fr kp L ms ks E E1) (hm : m ∈ L) (hk : kp m = 12) (h1 : ∀ x ∈ [(12, 16)], x ∉ ms) (h2 : ∀ x ∈ [316, 326], x ∉ ks) (q : ht_ok E m) : ht_ok E1 m := by
  have r := tw_rf_fr TH h hm hk (k := 16) (by decide) (by decide) (kd := 316) rfl (by decide) (h1 _ (by decide)) (h2 _ (by decide)) 15
  obtain ⟨w1, w2⟩ := tw_rw TH hm hk (k := 16) (i := 15) (by decide) (by decide) (kd := 316) rfl (by decide) (t0 := 5) (n := 16) (rk := 326) (hi := 0) rfl (by decide)
  have e5 := h.2 _ w1 (by rw [w2]; decide) (by rw [w2]; exact h2 _ (by decide))
  intro n a b
  have := q n a b
  rw [← r] at this
  unfold tw_iv at this ⊢
  rw [e5]
  exact this
def tw_lv (E : Nat → va_E) (a j : Nat) : Int64 := match E a with
  | .inl (_, _, .inr (.inl f)) => f j
  | _ => 0
theorem tw_lald2 {p : Program} {l : Launch} {e : Env} {R : Room} {s : State} {m : MethodId} {args : Array Value} {below : List Frame} {meth : Method} {c : Code} {H : Heap} {locs : List Loc} {cells slots : Nat} {Q : State → Prop} {cc : ByteArray} {pc : Nat} {ls : Array Slot} {rest : List Value} {D : va_G} {A : Nat → Prop} {cs : Nat → ClassId} {kp : Nat → Nat} {L : List Nat} {E : Nat → va_E} {a : Nat} (hexec : p.tables.exec = Jvm.exec) (hb : c.code = cc) (hK : va_K D vwCl (cx_TY cs) s) (TH : tw_H D cs kp L E A H) (ha : a ∈ L) {k n : Nat} {lo hi : Int} (hk : kp a = k) (hge : 100 ≤ k) (hkd : tw_KD k = (1, 1, n, lo, hi)) {i : Int32} (hin : vp_in i n) (hdg : decode cc pc = .ok (.laload, 1))
    (kk : ∀ x : Int64, tw_lv E a i.toNatClampNeg = x → W p l e R s m args below meth c H locs cells slots Q (F0 m (pc + 1) ls (.long x :: rest))) : W p l e R s m args below meth c H locs cells slots Q (F0 m pc ls (.int i :: .ref a :: rest)) := by
  obtain ⟨⟨n2, x⟩, he, hl, hC⟩ := tw_arr TH.2.2 ha hk hge
  obtain ⟨q, hq⟩ := tw_at (E := E) ha
  rw [hkd] at he hl hC
  have hl : n2 = n := hl
  subst hl
  match x, he, hC with
  | .inr (.inl f), he, hC =>
    rw [he] at hq
    exact va_lald hexec hb hK TH.1 q 1 hq rfl hin hdg (kk _ (by unfold tw_lv; rw [he]))
section TWL2
variable {p : Program} {l : Launch} {e : Env} {R : Room} {s : State} {m : MethodId} {args : Array Value} {below : List Frame} {meth : Method} {c : Code} {H : Heap} {locs : List Loc} {cells slots : Nat} {Q : State → Prop} {cc : ByteArray} {pc : Nat} {ls : Array Slot} {rest : List Value} {D : va_G} {A : Nat → Prop} {H0 : Heap} {cs : Nat → ClassId} {kp : Nat → Nat} {L : List Nat} {E : Nat → va_E} {a : Nat}
theorem tw_last2 (hexec : p.tables.exec = Jvm.exec) (hb : c.code = cc) (hK : va_K D vwCl (cx_TY cs) s) (TH : tw_H D cs kp L E A H) (hS : va_S A H0 H locs) (ha : a ∈ L) {k n : Nat} {lo hi : Int} (hk : kp a = k) (hge : 100 ≤ k) (hkd : tw_KD k = (1, 1, n, lo, hi)) {i : Int32} {x : Int64} (hin : vp_in i n) (hdg : decode cc pc = .ok (.lastore, 1))
    (kk : ∀ (H1 : Heap) (locs1 : List Loc) (E1 : Nat → va_E), tw_H D cs kp L E1 A H1 → va_S A H0 H1 locs1 → (∀ b j : Nat, tw_fv E1 b j = tw_fv E b j) → (∀ b : Nat, b ≠ a → E1 b = E b) → (∀ j : Nat, tw_lv E1 a j = if j = i.toNatClampNeg then x else tw_lv E a j) → W p l e R s m args below meth c H1 locs1 cells slots Q (F0 m (pc + 1) ls rest)) : W p l e R s m args below meth c H locs cells slots Q (F0 m pc ls (.long x :: .int i :: .ref a :: rest)) := by
  obtain ⟨⟨n2, y⟩, he, hl, hC⟩ := tw_arr TH.2.2 ha hk hge
  obtain ⟨q, hq⟩ := tw_at (E := E) ha
  rw [hkd] at he hl hC
  have hl : n2 = n := hl
  subst hl
  match y, he, hC with
  | .inr (.inl f), he, hC =>
    have hq2 := hq
    rw [he] at hq2
    refine va_last hexec hb hK TH.1 TH.2.1 hS q 1 hq2 rfl hin hdg (fun H1 locs1 hP1 hD1 hS1 => ?_)
    have hne : tw_E cs kp L (kp a) (.inl (cs 1, n2, .inr (.inl (vp_updL f i.toNatClampNeg x)))) := by
      refine ⟨by rw [hk]; exact hge, by rw [hk, hkd], by rw [hk, hkd], ?_⟩
      rw [hk, hkd]
      exact trivial
    exact kk H1 locs1 _ (tw_write TH ha hq hne hP1 hD1) hS1 (fun b j => tw_fv_arr he _ b j) (fun b hba => va_up_ne E _ hba) (fun j => by unfold tw_lv; rw [va_up_self, he]; rfl)
end TWL2
