/-! rows that no edition has yet are empty -/
def fw_ok (E : Nat → va_E) (m : Nat) : Prop := ∀ i : Int, tw_fi E m 27 ≤ i → i < 12 → ∀ c : Nat, c < 150 → rw_h E m i c = 0
def fx_ok (E : Nat → va_E) (m : Nat) (r : Int) : Prop := ∀ i : Int, r < i → i < 12 → ∀ c : Nat, c < 150 → rw_h E m i c = 0
/-! the draft has the root of its edition -/
def dl_ok (E : Nat → va_E) (m : Nat) : Prop := tw_fi E m 29 = 1 → 0 ≤ tw_fi E m 52 ∧ tw_fi E m 52 < tw_fi E m 27 ∧ r2_ok E m 12 (tw_fi E m 52)
theorem dl_step {E E1 : Nat → va_E} {m : Nat} (h27 : tw_fi E1 m 27 = tw_fi E m 27) (h52 : tw_fi E1 m 52 = tw_fi E m 52) (h29 : tw_fi E1 m 29 = tw_fi E m 29) (ot : ∀ j : Int, 0 ≤ j → j < tw_fi E m 27 → rw_h E1 m j = rw_h E m j ∧ rw_p E1 m j = rw_p E m j) (hr : ∀ r : Nat, r < 150 → rw_h E m 12 r ≠ 0 → rw_p E m 12 r = -1 → rw_h E1 m 12 r ≠ 0 ∧ rw_p E1 m 12 r = -1) (q : dl_ok E m) : dl_ok E1 m := by
  intro z
  rw [h29] at z
  obtain ⟨q0, q1, r, r0, r1, r2, r3, r4, r5⟩ := q z
  rw [h52, h27]
  have o := ot _ q0 q1
  have w := hr r.toNat (by omega) r2 r4
  exact ⟨q0, q1, r, r0, r1, w.1, by rw [o.1]; exact r3, w.2, by rw [o.2]; exact r5⟩
section DLF
variable {D : va_G} {A : Nat → Prop} {H : Heap} {cs : Nat → ClassId} {kp : Nat → Nat} {L : List Nat} {E E1 : Nat → va_E} {ms : List (Nat × Nat)} {ks : List Nat} {m : Nat}
theorem dl_ok_fr (TH : tw_H D cs kp L E1 A H) (h : tw_fr kp L ms ks E E1) (hm : m ∈ L) (hk : kp m = 12) (h1 : ∀ x ∈ [(12, 16), (12, 18), (12, 27), (12, 52), (12, 29)], x ∉ ms) (h2 : ∀ x ∈ [316, 318, 326, 328], x ∉ ks) (q : dl_ok E m) : dl_ok E1 m := by
  have hb := tw_fi_ed TH hm hk
  have eN := tw_fi_fr h hm hk (h1 (12, 27) (by decide))
  rw [eN] at hb
  have fh : ∀ i : Int, i.toNat < 16 → rw_h E1 m i = rw_h E m i := fun i hi => rw_h_fr TH h hm hk (h1 _ (by decide)) (h2 _ (by decide)) (h2 _ (by decide)) hi
  have fp : ∀ i : Int, i.toNat < 16 → rw_p E1 m i = rw_p E m i := fun i hi => rw_p_fr TH h hm hk (h1 _ (by decide)) (h2 _ (by decide)) (h2 _ (by decide)) hi
  refine dl_step eN (tw_fi_fr h hm hk (h1 (12, 52) (by decide))) (tw_fi_fr h hm hk (h1 (12, 29) (by decide))) (fun j j0 j1 => ⟨fh j (by omega), fp j (by omega)⟩) (fun r _ x y => ?_) q
  rw [fh 12 (by decide), fp 12 (by decide)]
  exact ⟨x, y⟩
/-- after a call or a store that leaves the other rows -/
theorem dl_ok_12 (TH : tw_H D cs kp L E1 A H) (h : tw_fr kp L ms ks E E1) (hm : m ∈ L) (hk : kp m = 12) (h1 : ∀ x ∈ [(12, 27), (12, 52), (12, 29)], x ∉ ms) (ot : ot_ok E1 m 12 E) (hr : ∀ r : Nat, r < 150 → rw_h E m 12 r ≠ 0 → rw_p E m 12 r = -1 → rw_h E1 m 12 r ≠ 0 ∧ rw_p E1 m 12 r = -1) (q : dl_ok E m) : dl_ok E1 m := by
  have hb := tw_fi_ed TH hm hk
  have eN := tw_fi_fr h hm hk (h1 (12, 27) (by decide))
  rw [eN] at hb
  exact dl_step eN (tw_fi_fr h hm hk (h1 (12, 52) (by decide))) (tw_fi_fr h hm hk (h1 (12, 29) (by decide))) (fun j j0 j1 => ot j j0 (by omega) (by omega)) hr q
/-- another row, no edition's, has changed -/
theorem dl_ok_ot {r : Int} (TH : tw_H D cs kp L E1 A H) (h : tw_fr kp L ms ks E E1) (hm : m ∈ L) (hk : kp m = 12) (h1 : ∀ x ∈ [(12, 27), (12, 52), (12, 29)], x ∉ ms) (ot : ot_ok E1 m r E) (hr : r ≠ 12) (hN : tw_fi E m 27 ≤ r) (q : dl_ok E m) : dl_ok E1 m := by
  have hb := tw_fi_ed TH hm hk
  have eN := tw_fi_fr h hm hk (h1 (12, 27) (by decide))
  rw [eN] at hb
  have o := ot 12 (by decide) (by decide) (by omega)
  refine dl_step eN (tw_fi_fr h hm hk (h1 (12, 52) (by decide))) (tw_fi_fr h hm hk (h1 (12, 29) (by decide))) (fun j j0 j1 => ot j j0 (by omega) (by omega)) (fun x _ y z => ?_) q
  rw [o.1, o.2]
  exact ⟨y, z⟩
end DLF
section FWF
variable {D : va_G} {A : Nat → Prop} {H : Heap} {cs : Nat → ClassId} {kp : Nat → Nat} {L : List Nat} {E E1 : Nat → va_E} {ms : List (Nat × Nat)} {ks : List Nat} {m : Nat}
theorem tw_fi_ed0 (TH : tw_H D cs kp L E A H) (hm : m ∈ L) (hk : kp m = 12) : 0 ≤ tw_fi E m 27 := by
  obtain ⟨x, e, h, -⟩ := tw_rd TH hm hk (by decide) (by decide) (k := 27) rfl
  rw [tw_fi_of e]
  exact h
theorem fw_ok_fr (TH : tw_H D cs kp L E1 A H) (h : tw_fr kp L ms ks E E1) (hm : m ∈ L) (hk : kp m = 12) (h1 : ∀ x ∈ [(12, 16), (12, 27)], x ∉ ms) (h2 : ∀ x ∈ [316, 326], x ∉ ks) (q : fw_ok E m) : fw_ok E1 m := fun i i0 i1 c hc => by
  rw [tw_fi_fr h hm hk (h1 (12, 27) (by decide))] at i0
  rw [rw_h_fr TH h hm hk (h1 _ (by decide)) (h2 _ (by decide)) (h2 _ (by decide)) (i := i) (by omega)]
  exact q i i0 i1 c hc
theorem fx_ok_fr {r : Int} (TH : tw_H D cs kp L E1 A H) (h : tw_fr kp L ms ks E E1) (hm : m ∈ L) (hk : kp m = 12) (h1 : ∀ x ∈ [(12, 16)], x ∉ ms) (h2 : ∀ x ∈ [316, 326], x ∉ ks) (q : fx_ok E m r) : fx_ok E1 m r := fun i i0 i1 c hc => by
  rw [rw_h_fr TH h hm hk (h1 _ (by decide)) (h2 _ (by decide)) (h2 _ (by decide)) (i := i) (by omega)]
  exact q i i0 i1 c hc
/-- a row behind the editions' has changed -/
theorem fw_ok_ot {r : Int} (TH : tw_H D cs kp L E1 A H) (h : tw_fr kp L ms ks E E1) (hm : m ∈ L) (hk : kp m = 12) (h1 : (12, 27) ∉ ms) (ot : ot_ok E1 m r E) (hr : 12 ≤ r) (q : fw_ok E m) : fw_ok E1 m := fun i i0 i1 c hc => by
  have z := tw_fi_ed0 TH hm hk
  rw [tw_fi_fr h hm hk h1] at i0 z
  rw [(ot i (by omega) (by omega) (by omega)).1]
  exact q i i0 i1 c hc
/-- the row of the next edition has changed -/
theorem fx_of_ot {r : Int} (ot : ot_ok E1 m r E) (r0 : 0 ≤ r) (hr : tw_fi E m 27 = r) (q : fw_ok E m) : fx_ok E1 m r := fun i i0 i1 c hc => by
  rw [(ot i (by omega) (by omega) (by omega)).1]
  exact q i (by omega) i1 c hc
theorem fw_of_fx {r : Int} (hi : tw_fi E m 27 = r + 1) (q : fx_ok E m r) : fw_ok E m := fun i i0 i1 c hc => q i (by omega) i1 c hc
/-- a store into a row behind the editions' -/
theorem fw_ok_h {o a : Nat} {i : Int32} (TH : tw_H D cs kp L E1 A H) (hm : m ∈ L) (hk : kp m = 12) (rd : rd_ok E m) (ho : tw_fv E m 16 = .ref o) (er : tw_rf E o i.toNatClampNeg = a) (hko : kp o = 316) (hka : kp a = 326) (p2 : ∀ b j : Nat, tw_fv E1 b j = tw_fv E b j) (p3 : ∀ b : Nat, b ≠ a → E1 b = E b) (hi0 : 12 ≤ i.toInt) (hi : i.toInt < 16) (q : fw_ok E m) : fw_ok E1 m := fun j j0 j1 c hc => by
  have z := tw_fi_ed0 TH hm hk
  have e : tw_fi E1 m 27 = tw_fi E m 27 := by unfold tw_fi; rw [p2]
  rw [e] at j0 z
  have hn : i.toNatClampNeg = i.toInt.toNat := rfl
  rw [rw_h_oth rd ho er hko hka p2 p3 (by omega) (by omega) (by omega)]
  exact q j j0 j1 c hc
/-- one edition more, a draft goes on -/
theorem dl_ok_inc (TH : tw_H D cs kp L E1 A H) (h : tw_fr kp L ms ks E E1) (hm : m ∈ L) (hk : kp m = 12) (h1 : ∀ x ∈ [(12, 16), (12, 18), (12, 52), (12, 29)], x ∉ ms) (h2 : ∀ x ∈ [316, 318, 326, 328], x ∉ ks) (hi : tw_fi E m 27 ≤ tw_fi E1 m 27) (q : dl_ok E m) : dl_ok E1 m := fun z => by
  have hb := tw_fi_ed TH hm hk
  rw [tw_fi_fr h hm hk (h1 (12, 29) (by decide))] at z
  obtain ⟨q0, q1, q2⟩ := q z
  rw [tw_fi_fr h hm hk (h1 (12, 52) (by decide))]
  exact ⟨q0, by omega, r2_fr TH h hm hk (fun x hx => h1 x (by revert x; decide)) h2 (by decide) (by omega) q2⟩
/-- a draft begins -/
theorem dl_ok_beg {e : Int} (h29 : tw_fi E m 52 = e) (e0 : 0 ≤ e) (e1 : e < tw_fi E m 27) (q : r2_ok E m 12 e) : dl_ok E m := fun _ => by
  rw [h29]
  exact ⟨e0, e1, q⟩
end FWF
/-! going down: how many nodes lie behind a node's kids -/
/-- s is ahead of t, and no beginning of it -/
def rt_af : List Int → List Int → Prop
  | [], _ => False
  | _ :: _, [] => False
  | a :: s, b :: t => a < b ∨ (a = b ∧ rt_af s t)
def rt_afb : List Int → List Int → Bool
  | [], _ => false
  | _ :: _, [] => false
  | a :: s, b :: t => decide (a < b) || (decide (a = b) && rt_afb s t)
theorem rt_afb_iff : ∀ (s t : List Int), rt_afb s t = true ↔ rt_af s t
  | [], t => by simp [rt_afb, rt_af]
  | a :: s, [] => by simp [rt_afb, rt_af]
  | a :: s, b :: t => by simp [rt_afb, rt_af, rt_afb_iff s t]
/-- how many nodes lie behind all that is under x -/
def rt_R (h p q : Nat → Int) (x : Int) : Nat := rt_cnt (fun m => decide (h m ≠ 0) && rt_afb (rt_K p q x) (rt_K p q m)) 150
theorem rt_af_app : ∀ (l : List Int) (s t : List Int), rt_af l t → rt_af (l ++ s) t
  | [], _, _, h => absurd h (by simp [rt_af])
  | a :: l, s, [], h => absurd h (by simp [rt_af])
  | a :: l, s, b :: t, h => by
    rcases h with h | ⟨h1, h2⟩
    · exact Or.inl h
    · exact Or.inr ⟨h1, rt_af_app l s t h2⟩
theorem rt_af_lt : ∀ (l : List Int) (a b : Int) (t : List Int), a < b → (l ++ [b] = t ∨ rt_lt (l ++ [b]) t) → rt_af (l ++ [a]) t
  | [], a, b, t, hab, h => by
    rcases h with rfl | h
    · exact Or.inl hab
    · match t, h with
      | [], h => exact absurd h (rt_lt_nil _)
      | c :: t, h =>
        rcases h with h | ⟨h1, h2⟩
        · exact Or.inl (by omega)
        · exact Or.inl (by omega)
  | x :: l, a, b, t, hab, h => by
    rcases h with rfl | h
    · exact Or.inr ⟨rfl, rt_af_lt l a b _ hab (Or.inl rfl)⟩
    · match t, h with
      | [], h => exact absurd h (rt_lt_nil _)
      | c :: t, h =>
        rcases h with h | ⟨h1, h2⟩
        · exact Or.inl h
        · exact Or.inr ⟨h1, rt_af_lt l a b t hab (Or.inr h2)⟩
/-- behind a kid lies all that lies behind its parent -/
theorem rt_R_kid {h p q : Nat → Int} (t1 : rt_T1 h p) (t2 : rt_T2 h p) {n : Int} {c : Nat} (hc : rt_kid h p n c) : rt_R h p q n ≤ rt_R h p q c := by
  have e := rt_K_up (q := q) t1 t2 (x := (c : Int)) (by omega) (by have := hc.1; omega) (by rw [Int.toNat_natCast]; exact hc.2.1)
  rw [Int.toNat_natCast, hc.2.2] at e
  refine rt_cnt_le (fun i _ hi => ?_)
  simp only [Bool.and_eq_true] at hi ⊢
  refine ⟨hi.1, ?_⟩
  rw [e, rt_afb_iff]
  exact rt_af_app _ _ _ ((rt_afb_iff _ _).mp hi.2)
/-- behind a kid lie its later brothers and what is behind them -/
theorem rt_R_next {h p q : Nat → Int} (t1 : rt_T1 h p) (t2 : rt_T2 h p) {n : Int} {c d : Nat} (hc : rt_kid h p n c) (hd : rt_kid h p n d) (hq : q c < q d) : 1 + rt_mu h p q d ≤ rt_R h p q c := by
  have e := rt_K_up (q := q) t1 t2 (x := (c : Int)) (by omega) (by have := hc.1; omega) (by rw [Int.toNat_natCast]; exact hc.2.1)
  rw [Int.toNat_natCast, hc.2.2] at e
  have e2 := rt_K_up (q := q) t1 t2 (x := (d : Int)) (by omega) (by have := hd.1; omega) (by rw [Int.toNat_natCast]; exact hd.2.1)
  rw [Int.toNat_natCast, hd.2.2] at e2
  have w : rt_mu h p q d + 1 ≤ rt_R h p q c := by
    refine rt_cnt_lt (fun i _ hi => ?_) ⟨d, hd.1, ?_, ?_⟩
    · simp only [Bool.and_eq_true] at hi ⊢
      refine ⟨hi.1, ?_⟩
      have z := (rt_ltb_iff _ _).mp hi.2
      rw [e2] at z
      rw [e, rt_afb_iff]
      exact rt_af_lt _ _ _ _ hq (Or.inr z)
    · simp only [Bool.and_eq_false_iff]
      refine Or.inr ?_
      cases hb : rt_ltb (rt_K p q d) (rt_K p q d) with
      | false => rfl
      | true => exact absurd ((rt_ltb_iff _ _).mp hb) (rt_lt_irr _)
    · simp only [Bool.and_eq_true, decide_eq_true_eq]
      refine ⟨hd.2.1, ?_⟩
      rw [e, rt_afb_iff]
      exact rt_af_lt _ _ _ _ hq (Or.inl e2.symm)
  omega
theorem rt_mu_kid {h p q : Nat → Int} (t1 : rt_T1 h p) (t2 : rt_T2 h p) {n c : Int} (hc : 0 ≤ c ∧ c < 150 ∧ rt_kid h p n c.toNat) : rt_mu h p q c + 1 ≤ rt_mu h p q n := by
  have w := rt_mu_fall (q := q) hc.2.2.1 hc.2.2.2.1 (rt_lt_kid (q := q) t1 t2 hc.2.2)
  rw [show ((c.toNat : Nat) : Int) = c by omega] at w
  exact w
theorem rt_R_le {h p q : Nat → Int} {x : Int} (h0 : 0 ≤ x) (h1 : x < 150) (hh : h x.toNat ≠ 0) : rt_R h p q x ≤ rt_mu h p q x := by
  refine rt_cnt_le (fun i _ hi => ?_)
  simp only [Bool.and_eq_true] at hi ⊢
  refine ⟨hi.1, ?_⟩
  rw [rt_ltb_iff]
  have z := (rt_afb_iff _ _).mp hi.2
  revert z
  generalize rt_K p q x = s
  generalize rt_K p q (i : Int) = t
  intro z
  clear hi
  induction s generalizing t with
  | nil => exact absurd z (by simp [rt_af])
  | cons a s ih =>
    match t, z with
    | [], z => exact absurd z (by simp [rt_af])
    | b :: t, z =>
      rcases z with z | ⟨z1, z2⟩
      · exact Or.inl z
      · exact Or.inr ⟨z1, ih t z2⟩
/-- the root's number of nodes behind it -/
theorem rt_mu_40 {E : Nat → va_E} {m : Nat} {i x : Int} (q : row_ok E m i) (h0 : 0 ≤ x) (h1 : x < 150) (hh : rw_h E m i x.toNat ≠ 0) : (rt_mu (rw_h E m i) (rw_p E m i) (rw_q E m i) x : Int) + 1 ≤ 40 := by
  have a := rt_mu_size (p := rw_p E m i) (q := rw_q E m i) h0 h1 hh
  have b := q.2.2.1
  omega
/-- a row that is a tree has its root found -/
theorem row_root {E : Nat → va_E} {m : Nat} {i x : Int} (q : row_ok E m i) (hx : (x = -1 ∧ rt_nr (rw_h E m i) (rw_p E m i) 150) ∨ (0 ≤ x ∧ x < 150 ∧ rw_h E m i x.toNat ≠ 0 ∧ rw_p E m i x.toNat = -1)) : 0 ≤ x ∧ x < 150 ∧ rw_h E m i x.toNat ≠ 0 ∧ rw_p E m i x.toNat = -1 := by
  rcases hx with ⟨-, hx⟩ | hx
  · obtain ⟨r, r0, r1, r2, r3⟩ := q.2.1
    exact absurd r3 (hx r.toNat (by omega) r2)
  · exact hx
theorem rt_R_nextI {h p q : Nat → Int} (t1 : rt_T1 h p) (t2 : rt_T2 h p) {n c d : Int} (hc : 0 ≤ c ∧ c < 150 ∧ rt_kid h p n c.toNat) (i : rt_kbk h p q 150 n (q c.toNat) d) (hd : d ≠ -1) : 1 + rt_mu h p q d ≤ rt_R h p q c := by
  have k := rt_kbk_kid i hd
  have w := rt_R_next (q := q) t1 t2 hc.2.2 k.2.2.1 k.2.2.2
  rw [show ((c.toNat : Nat) : Int) = c by omega, show ((d.toNat : Nat) : Int) = d by omega] at w
  exact w
theorem rt_R_kidI {h p q : Nat → Int} (t1 : rt_T1 h p) (t2 : rt_T2 h p) {n c : Int} (hc : 0 ≤ c ∧ c < 150 ∧ rt_kid h p n c.toNat) : rt_R h p q n ≤ rt_R h p q c := by
  have w := rt_R_kid (q := q) t1 t2 hc.2.2
  rw [show ((c.toNat : Nat) : Int) = c by omega] at w
  exact w
/-! the grammar that is kept: names lie in the text -/
def kg_ok (E : Nat → va_E) (m : Nat) : Prop := ∀ k : Nat, k < 10 → tw_el E m 31 k + tw_el E m 32 k ≤ 500
theorem kg_ok_fr {D : va_G} {A : Nat → Prop} {H : Heap} {cs : Nat → ClassId} {kp : Nat → Nat} {L : List Nat} {E E1 : Nat → va_E} {ms : List (Nat × Nat)} {ks : List Nat} {m : Nat} (TH : tw_H D cs kp L E1 A H) (h : tw_fr kp L ms ks E E1) (hm : m ∈ L) (hk : kp m = 12) (h1 : ∀ x ∈ [(12, 31), (12, 32)], x ∉ ms) (h2 : ∀ x ∈ [337, 338], x ∉ ks) (q : kg_ok E m) : kg_ok E1 m := fun k hk2 => by
  rw [tw_el_fr TH h hm hk (by decide) (by decide) (k := 31) rfl (by decide) (h1 _ (by decide)) (h2 _ (by decide)), tw_el_fr TH h hm hk (by decide) (by decide) (k := 32) rfl (by decide) (h1 _ (by decide)) (h2 _ (by decide))]
  exact q k hk2
/-! what is settled: each node and kind once -/
def sd_ok (E : Nat → va_E) (m : Nat) : Prop := ∀ i : Nat, (i : Int) < tw_fi E m 58 → (1 ≤ tw_el E m 55 i ∧ tw_el E m 55 i ≤ 3) ∧ (0 ≤ tw_el E m 54 i ∧ tw_el E m 54 i < 150) ∧ ∀ j : Nat, j < i → tw_el E m 54 j ≠ tw_el E m 54 i ∨ tw_el E m 55 j ≠ tw_el E m 55 i
theorem sd_ok_fr {D : va_G} {A : Nat → Prop} {H : Heap} {cs : Nat → ClassId} {kp : Nat → Nat} {L : List Nat} {E E1 : Nat → va_E} {ms : List (Nat × Nat)} {ks : List Nat} {m : Nat} (TH : tw_H D cs kp L E1 A H) (h : tw_fr kp L ms ks E E1) (hm : m ∈ L) (hk : kp m = 12) (h1 : ∀ x ∈ [(12, 54), (12, 55), (12, 58)], x ∉ ms) (h2 : ∀ x ∈ [360, 361], x ∉ ks) (q : sd_ok E m) : sd_ok E1 m := by
  have e1 : ∀ j, tw_el E1 m 54 j = tw_el E m 54 j := fun j => tw_el_fr TH h hm hk (by decide) (by decide) (k := 54) rfl (by decide) (h1 _ (by decide)) (h2 _ (by decide)) j
  have e2 : ∀ j, tw_el E1 m 55 j = tw_el E m 55 j := fun j => tw_el_fr TH h hm hk (by decide) (by decide) (k := 55) rfl (by decide) (h1 _ (by decide)) (h2 _ (by decide)) j
  unfold sd_ok
  rw [tw_fi_fr h hm hk (h1 (12, 58) (by decide))]
  simp only [e1, e2]
  exact q
theorem sd_room {f g : Nat → Int} {s n k : Int} (q : ∀ i : Nat, (i : Int) < s → (1 ≤ g i ∧ g i ≤ 3) ∧ (0 ≤ f i ∧ f i < 150) ∧ ∀ j : Nat, j < i → f j ≠ f i ∨ g j ≠ g i) (hn : ∀ i : Nat, (i : Int) < s → ¬ (f i = n ∧ g i = k)) (n0 : 0 ≤ n) (n1 : n < 150) (k0 : 1 ≤ k) (k1 : k ≤ 3) (s0 : 0 ≤ s) : s + 1 ≤ 450 := by
  have w : ∀ i : Nat, i < s.toNat + 1 → ∃ x y : Int, (0 ≤ x ∧ x < 150) ∧ (1 ≤ y ∧ y ≤ 3) ∧ ((i < s.toNat ∧ x = f i ∧ y = g i) ∨ (i = s.toNat ∧ x = n ∧ y = k)) := fun i hi => by
    by_cases h : i < s.toNat
    · exact ⟨f i, g i, (q i (by omega)).2.1, (q i (by omega)).1, Or.inl ⟨h, rfl, rfl⟩⟩
    · exact ⟨n, k, ⟨n0, n1⟩, ⟨k0, k1⟩, Or.inr ⟨by omega, rfl, rfl⟩⟩
  let F : Nat → Nat := fun i => if i < s.toNat then (3 * f i + g i - 1).toNat else (3 * n + k - 1).toNat
  have l1 : ((List.range (s.toNat + 1)).map F).Nodup := by
    rw [List.Nodup, List.pairwise_iff_getElem]
    intro i j hi hj hij
    simp only [List.length_map, List.length_range] at hi hj
    simp only [List.getElem_map, List.getElem_range]
    intro e
    have hi2 : i < s.toNat := by omega
    have qi := q i (by omega)
    simp only [F, if_pos hi2] at e
    by_cases hj2 : j < s.toNat
    · rw [if_pos hj2] at e
      have qj := q j (by omega)
      have z := qj.2.2 i hij
      omega
    · rw [if_neg hj2] at e
      have z := hn i (by omega)
      omega
  have := rt_short 450 _ l1 (fun y hy => by
    obtain ⟨i, hi, rfl⟩ := List.mem_map.mp hy
    have hi := List.mem_range.mp hi
    simp only [F]
    split
    · rename_i h
      have qi := q i (by omega)
      omega
    · omega)
  simp at this
  omega
def sd_fn (f g : Nat → Int) (s : Int) : Prop := ∀ i : Nat, (i : Int) < s → (1 ≤ g i ∧ g i ≤ 3) ∧ (0 ≤ f i ∧ f i < 150) ∧ ∀ j : Nat, j < i → f j ≠ f i ∨ g j ≠ g i
theorem sd_set {f g f1 g1 : Nat → Int} {s s1 n k c : Int} (q : sd_fn f g s) (hf : ∀ j : Nat, f1 j = if j = c.toNat then n else f j) (hg : ∀ j : Nat, g1 j = if j = c.toNat then k else g j) (c0 : 0 ≤ c) (n0 : 0 ≤ n) (n1 : n < 150) (k0 : 1 ≤ k) (k1 : k ≤ 3) (hs : s1 = s ∨ s1 = c + 1) (hs1 : s ≤ s1) (hs2 : c + 1 ≤ s1) (hx : (s ≤ c ∧ ∀ j : Nat, (j : Int) < c → ¬ (f j = n ∧ g j = k)) ∨ (c < s ∧ f c.toNat = n ∧ g c.toNat = k)) (hc : c ≤ s) : sd_fn f1 g1 s1 := by
  rcases hx with ⟨h1, h2⟩ | ⟨h1, h2, h3⟩
  · intro i hi
    have e : ∀ j : Nat, j ≠ c.toNat → f1 j = f j ∧ g1 j = g j := fun j hj => by rw [hf, hg, if_neg hj, if_neg hj]; exact ⟨rfl, rfl⟩
    by_cases hic : i = c.toNat
    · subst hic
      rw [hf, hg, if_pos rfl, if_pos rfl]
      refine ⟨⟨k0, k1⟩, ⟨n0, n1⟩, fun j hj => ?_⟩
      rw [(e j (by omega)).1, (e j (by omega)).2]
      have z := h2 j (by omega)
      omega
    · rw [(e i hic).1, (e i hic).2]
      have w := q i (by omega)
      refine ⟨w.1, w.2.1, fun j hj => ?_⟩
      rw [(e j (by omega)).1, (e j (by omega)).2]
      exact w.2.2 j hj
  · have ef : f1 = f := funext fun j => by
      rw [hf]
      split
      · rename_i h; rw [h, h2]
      · rfl
    have eg : g1 = g := funext fun j => by
      rw [hg]
      split
      · rename_i h; rw [h, h3]
      · rfl
    rw [ef, eg, show s1 = s by omega]
    exact q
def p54_ok (E : Nat → va_E) (m : Nat) (g : Nat → Int) : Prop := ∀ j : Nat, tw_el E m 54 j = g j
def p55_ok (E : Nat → va_E) (m : Nat) (g : Nat → Int) : Prop := ∀ j : Nat, tw_el E m 55 j = g j
theorem p54_ok_fr {D : va_G} {A : Nat → Prop} {H : Heap} {cs : Nat → ClassId} {kp : Nat → Nat} {L : List Nat} {E E1 : Nat → va_E} {ms : List (Nat × Nat)} {ks : List Nat} {m : Nat} {g : Nat → Int} (TH : tw_H D cs kp L E1 A H) (h : tw_fr kp L ms ks E E1) (hm : m ∈ L) (hk : kp m = 12) (h1 : ∀ x ∈ [(12, 54)], x ∉ ms) (h2 : ∀ x ∈ [360], x ∉ ks) (q : p54_ok E m g) : p54_ok E1 m g := fun j =>
  (tw_el_fr TH h hm hk (by decide) (by decide) (k := 54) rfl (by decide) (h1 _ (by decide)) (h2 _ (by decide)) j).trans (q j)
theorem p55_ok_fr {D : va_G} {A : Nat → Prop} {H : Heap} {cs : Nat → ClassId} {kp : Nat → Nat} {L : List Nat} {E E1 : Nat → va_E} {ms : List (Nat × Nat)} {ks : List Nat} {m : Nat} {g : Nat → Int} (TH : tw_H D cs kp L E1 A H) (h : tw_fr kp L ms ks E E1) (hm : m ∈ L) (hk : kp m = 12) (h1 : ∀ x ∈ [(12, 55)], x ∉ ms) (h2 : ∀ x ∈ [361], x ∉ ks) (q : p55_ok E m g) : p55_ok E1 m g := fun j =>
  (tw_el_fr TH h hm hk (by decide) (by decide) (k := 55) rfl (by decide) (h1 _ (by decide)) (h2 _ (by decide)) j).trans (q j)
/-! kids, and the next node, as functions -/
def rt_kbf (h p q : Nat → Int) (n last : Int) : Nat → Int
  | 0 => -1
  | k + 1 => if h k ≠ 0 ∧ p k = n ∧ last < q k then (if rt_kbf h p q n last k = -1 ∨ q k < q (rt_kbf h p q n last k).toNat then (k : Int) else rt_kbf h p q n last k) else rt_kbf h p q n last k
theorem rt_kbf_step {h p q : Nat → Int} {k k1 : Nat} {n last x x1 : Int} (i : x = rt_kbf h p q n last k) (hk : k1 = k + 1) (hx : (¬ (h k ≠ 0 ∧ p k = n ∧ last < q k) ∧ x1 = x) ∨ ((h k ≠ 0 ∧ p k = n ∧ last < q k) ∧ ((x1 = k ∧ (x = -1 ∨ q k < q x.toNat)) ∨ (x1 = x ∧ x ≠ -1 ∧ q x.toNat ≤ q k)))) : x1 = rt_kbf h p q n last k1 := by
  subst hk
  subst i
  show x1 = if h k ≠ 0 ∧ p k = n ∧ last < q k then (if rt_kbf h p q n last k = -1 ∨ q k < q (rt_kbf h p q n last k).toNat then (k : Int) else rt_kbf h p q n last k) else rt_kbf h p q n last k
  rcases hx with ⟨a, e⟩ | ⟨a, ⟨e, b⟩ | ⟨e, b, c⟩⟩
  · rw [if_neg a]; exact e
  · rw [if_pos a, if_pos b]; exact e
  · rw [if_pos a, if_neg (fun z => by rcases z with z | z; exact b z; omega)]; exact e
theorem rt_kbf_kbk {h p q : Nat → Int} {n last : Int} : ∀ k : Nat, rt_kbk h p q k n last (rt_kbf h p q n last k)
  | 0 => rt_kbk_zero rfl rfl
  | k + 1 => by
    refine rt_kbk_step (rt_kbf_kbk k) rfl ?_
    show (_ ∧ (if h k ≠ 0 ∧ p k = n ∧ last < q k then (if rt_kbf h p q n last k = -1 ∨ q k < q (rt_kbf h p q n last k).toNat then (k : Int) else rt_kbf h p q n last k) else rt_kbf h p q n last k) = _) ∨ _
    by_cases c : h k ≠ 0 ∧ p k = n ∧ last < q k
    · refine Or.inr ⟨c, ?_⟩
      show ((if h k ≠ 0 ∧ p k = n ∧ last < q k then (if rt_kbf h p q n last k = -1 ∨ q k < q (rt_kbf h p q n last k).toNat then (k : Int) else rt_kbf h p q n last k) else rt_kbf h p q n last k) = _ ∧ _) ∨ ((if h k ≠ 0 ∧ p k = n ∧ last < q k then (if rt_kbf h p q n last k = -1 ∨ q k < q (rt_kbf h p q n last k).toNat then (k : Int) else rt_kbf h p q n last k) else rt_kbf h p q n last k) = _ ∧ _)
      rw [if_pos c]
      by_cases d : rt_kbf h p q n last k = -1 ∨ q k < q (rt_kbf h p q n last k).toNat
      · rw [if_pos d]; exact Or.inl ⟨rfl, d⟩
      · rw [if_neg d]; exact Or.inr ⟨rfl, fun z => d (Or.inl z), by have z : ¬ (q k < q (rt_kbf h p q n last k).toNat) := fun z => d (Or.inr z); omega⟩
    · exact Or.inl ⟨c, if_neg c⟩
def rt_fk (h p q : Nat → Int) (n : Int) : Int := rt_kbf h p q n (-1) 150
def rt_nk (h p q : Nat → Int) (c : Int) : Int := rt_kbf h p q (p c.toNat) (q c.toNat) 150
def rt_clf (h p q : Nat → Int) (top : Int) : Nat → Int → Int
  | 0, _ => -1
  | f + 1, u => if u = top then -1 else if rt_nk h p q u = -1 then rt_clf h p q top f (p u.toNat) else rt_nk h p q u
def rt_nxf (h p q : Nat → Int) (top n : Int) : Int := if rt_fk h p q n = -1 then rt_clf h p q top 151 n else rt_fk h p q n
def rt_nd (h : Nat → Int) (x : Int) : Prop := 0 ≤ x ∧ x < 150 ∧ h x.toNat ≠ 0
def rt_tree (h p : Nat → Int) (top : Int) : Prop := (rt_T1 h p ∧ rt_T2 h p ∧ rt_T3 h p) ∧ rt_nd h top ∧ p top.toNat = -1
theorem rt_fk_kid {h p q : Nat → Int} {n : Int} (hx : rt_fk h p q n ≠ -1) : 0 ≤ rt_fk h p q n ∧ rt_fk h p q n < 150 ∧ rt_kid h p n (rt_fk h p q n).toNat ∧ -1 < q (rt_fk h p q n).toNat := rt_kbk_kid (rt_kbf_kbk 150) hx
theorem rt_nk_kid {h p q : Nat → Int} {c : Int} (hx : rt_nk h p q c ≠ -1) : 0 ≤ rt_nk h p q c ∧ rt_nk h p q c < 150 ∧ rt_kid h p (p c.toNat) (rt_nk h p q c).toNat ∧ q c.toNat < q (rt_nk h p q c).toNat := rt_kbk_kid (rt_kbf_kbk 150) hx
theorem rt_nd_fk {h p q : Nat → Int} {n : Int} (hx : rt_fk h p q n ≠ -1) : rt_nd h (rt_fk h p q n) := ⟨(rt_fk_kid hx).1, (rt_fk_kid hx).2.1, (rt_fk_kid hx).2.2.1.2.1⟩
theorem rt_nd_nk {h p q : Nat → Int} {n : Int} (hx : rt_nk h p q n ≠ -1) : rt_nd h (rt_nk h p q n) := ⟨(rt_nk_kid hx).1, (rt_nk_kid hx).2.1, (rt_nk_kid hx).2.2.1.2.1⟩
theorem rt_nd_up {h p : Nat → Int} {top x : Int} (t : rt_tree h p top) (hx : rt_nd h x) (hn : x ≠ top) : rt_nd h (p x.toNat) := by
  rcases t.1.1 x.toNat (by have := hx.1; have := hx.2.1; omega) hx.2.2 with z | z
  · exfalso
    have := t.1.2.2 x.toNat top.toNat (by have := hx.2.1; have := hx.1; omega) (by have := t.2.1.2.1; have := t.2.1.1; omega) hx.2.2 t.2.1.2.2 z t.2.2
    have := hx.1
    have := t.2.1.1
    omega
  · exact z
theorem rt_dep_nd {h p : Nat → Int} {top x : Int} (t : rt_tree h p top) (hx : rt_nd h x) : rt_dep p x = 1 + rt_dep p (p x.toNat) := rt_dep_up t.1.1 t.1.2.1 hx.1 hx.2.1 hx.2.2
theorem rt_up_1 {p : Nat → Int} {d : Nat} {x : Int} (h : 0 ≤ x) : rt_up p (d + 1) x = rt_up p d (p x.toNat) := rt_up_pos h
theorem clf_yes {h p q : Nat → Int} {top : Int} (t : rt_tree h p top) : ∀ (f : Nat) (u : Int), rt_nd h u → rt_clf h p q top f u ≠ -1 → ∃ d : Nat, rt_clf h p q top f u = rt_nk h p q (rt_up p d u) ∧ rt_nd h (rt_up p d u) ∧ rt_up p d u ≠ top ∧ ∀ i : Nat, i < d → rt_up p i u ≠ top ∧ rt_nk h p q (rt_up p i u) = -1
  | 0, u, _, hx => absurd rfl hx
  | f + 1, u, hu, hx => by
    by_cases e1 : u = top
    · exact absurd (show rt_clf h p q top (f + 1) u = -1 from if_pos e1) hx
    · by_cases e2 : rt_nk h p q u = -1
      · have ee : rt_clf h p q top (f + 1) u = rt_clf h p q top f (p u.toNat) := by
          show (if u = top then -1 else if rt_nk h p q u = -1 then rt_clf h p q top f (p u.toNat) else rt_nk h p q u) = _
          rw [if_neg e1, if_pos e2]
        rw [ee] at hx ⊢
        obtain ⟨d, a, b, c, g⟩ := clf_yes t f _ (rt_nd_up t hu e1) hx
        refine ⟨d + 1, by rw [rt_up_1 hu.1]; exact a, by rw [rt_up_1 hu.1]; exact b, by rw [rt_up_1 hu.1]; exact c, fun i hi => ?_⟩
        cases i with
        | zero => exact ⟨e1, e2⟩
        | succ i => rw [rt_up_1 hu.1]; exact g i (by omega)
      · refine ⟨0, ?_, hu, e1, fun i hi => absurd hi (by omega)⟩
        show (if u = top then -1 else if rt_nk h p q u = -1 then rt_clf h p q top f (p u.toNat) else rt_nk h p q u) = rt_nk h p q u
        rw [if_neg e1, if_neg e2]
theorem clf_no {h p q : Nat → Int} {top : Int} (t : rt_tree h p top) : ∀ (f : Nat) (u : Int), rt_nd h u → rt_dep p u ≤ f → rt_clf h p q top f u = -1 → ∀ d : Nat, (∀ i : Nat, i ≤ d → rt_up p i u ≠ top) → rt_nk h p q (rt_up p d u) = -1
  | 0, u, hu, hf, _, _, _ => absurd (rt_dep_nd t hu) (by omega)
  | f + 1, u, hu, hf, hx, d, hd => by
    have e1 : u ≠ top := hd 0 (by omega)
    have hx : (if u = top then -1 else if rt_nk h p q u = -1 then rt_clf h p q top f (p u.toNat) else rt_nk h p q u) = -1 := hx
    rw [if_neg e1] at hx
    by_cases e2 : rt_nk h p q u = -1
    · rw [if_pos e2] at hx
      cases d with
      | zero => exact e2
      | succ d =>
        rw [rt_up_1 hu.1]
        have := rt_dep_nd t hu
        exact clf_no t f _ (rt_nd_up t hu e1) (by omega) hx d (fun i hi => by have z := hd (i + 1) (by omega); rw [rt_up_1 hu.1] at z; exact z)
    · rw [if_neg e2] at hx
      exact absurd hx e2
theorem nxf_lt {h p q : Nat → Int} {top n : Int} (t : rt_tree h p top) (hn : rt_nd h n) (hx : rt_nxf h p q top n ≠ -1) : rt_nd h (rt_nxf h p q top n) ∧ rt_lt (rt_K p q n) (rt_K p q (rt_nxf h p q top n)) := by
  unfold rt_nxf at hx ⊢
  by_cases e : rt_fk h p q n = -1
  · rw [if_pos e] at hx ⊢
    obtain ⟨d, a, b, c, g⟩ := clf_yes t _ _ hn hx
    rw [a] at hx ⊢
    have k := rt_nk_kid hx
    refine ⟨rt_nd_nk hx, ?_⟩
    have := rt_lt_nxt (q := q) t.1.1 t.1.2.1 hn.1 hn.2.1 hn.2.2 (k := d) rfl b.1 k.2.2.1 k.2.2.2
    rw [show (((rt_nk h p q (rt_up p d n)).toNat : Nat) : Int) = rt_nk h p q (rt_up p d n) by have := k.1; omega] at this
    exact this
  · rw [if_neg e] at hx ⊢
    have k := rt_fk_kid hx
    refine ⟨rt_nd_fk hx, ?_⟩
    have := rt_lt_kid (q := q) t.1.1 t.1.2.1 k.2.2.1
    rw [show (((rt_fk h p q n).toNat : Nat) : Int) = rt_fk h p q n by have := k.1; omega] at this
    exact this
/-- the first k nodes as they follow each other -/
def rt_tr (h p q : Nat → Int) (top : Int) (s : Nat → Int) (k : Nat) : Prop := (0 < k → s 0 = top) ∧ ∀ i : Nat, i + 1 < k → s (i + 1) = rt_nxf h p q top (s i) ∧ s (i + 1) ≠ -1
theorem tr_nd {h p q : Nat → Int} {top : Int} {s : Nat → Int} {k : Nat} (t : rt_tree h p top) (r : rt_tr h p q top s k) : ∀ i : Nat, i < k → rt_nd h (s i)
  | 0, hi => by rw [r.1 hi]; exact t.2.1
  | i + 1, hi => by
    have z := r.2 i hi
    rw [z.1]
    exact (nxf_lt t (tr_nd t r i (by omega)) (by rw [← z.1]; exact z.2)).1
theorem tr_lt {h p q : Nat → Int} {top : Int} {s : Nat → Int} {k : Nat} (t : rt_tree h p top) (r : rt_tr h p q top s k) (i : Nat) : ∀ j : Nat, i < j → j < k → rt_lt (rt_K p q (s i)) (rt_K p q (s j))
  | 0, h0, _ => absurd h0 (by omega)
  | j + 1, hij, hj => by
    have z := r.2 j hj
    have w := nxf_lt (q := q) t (tr_nd t r j (by omega)) (by rw [← z.1]; exact z.2)
    rw [← z.1] at w
    by_cases e : i = j
    · rw [e]; exact w.2
    · exact rt_lt_tr (tr_lt t r i j (by omega) (by omega)) w.2
theorem tr_inj {h p q : Nat → Int} {top : Int} {s : Nat → Int} {k i j : Nat} (t : rt_tree h p top) (r : rt_tr h p q top s k) (hi : i < k) (hj : j < k) (e : s i = s j) : i = j := by
  rcases Nat.lt_trichotomy i j with z | z | z
  · have w := tr_lt t r i j z hj
    rw [e] at w
    exact absurd w (rt_lt_irr _)
  · exact z
  · have w := tr_lt t r j i z hi
    rw [e] at w
    exact absurd w (rt_lt_irr _)
theorem tr_aux {h p q : Nat → Int} {top : Int} {s : Nat → Int} {k : Nat} (t : rt_tree h p top) (r : rt_tr h p q top s k) : ∀ i : Nat, i < k → ∀ j : Nat, j ≤ i → s j = top ∨ rt_nk h p q (s j) = -1 ∨ (∃ l : Nat, l ≤ i ∧ s l = rt_nk h p q (s j)) ∨ ∃ d : Nat, rt_up p d (s i) = s j
  | 0, hi, j, hj => by rw [show j = 0 by omega]; exact Or.inl (r.1 hi)
  | i + 1, hi, j, hj => by
    by_cases e : j = i + 1
    · exact Or.inr (Or.inr (Or.inr ⟨0, by rw [e]; rfl⟩))
    · have hni := tr_nd t r i (by omega)
      have hn1 := tr_nd t r (i + 1) hi
      have z := r.2 i hi
      rcases tr_aux t r i (by omega) j (by omega) with w | w | ⟨l, w1, w2⟩ | ⟨d, w⟩
      · exact Or.inl w
      · exact Or.inr (Or.inl w)
      · exact Or.inr (Or.inr (Or.inl ⟨l, by omega, w2⟩))
      · unfold rt_nxf at z
        by_cases ef : rt_fk h p q (s i) = -1
        · rw [if_pos ef] at z
          obtain ⟨d0, a, b, c, g⟩ := clf_yes t _ _ hni (by rw [← z.1]; exact z.2)
          rw [← z.1] at a
          rcases Nat.lt_trichotomy d d0 with y | y | y
          · have := (g d y).2
            rw [w] at this
            exact Or.inr (Or.inl this)
          · subst y
            rw [w] at a
            exact Or.inr (Or.inr (Or.inl ⟨i + 1, Nat.le_refl _, a⟩))
          · refine Or.inr (Or.inr (Or.inr ⟨d - d0, ?_⟩))
            have kk := rt_nk_kid (h := h) (p := p) (q := q) (c := rt_up p d0 (s i)) (by rw [← a]; exact z.2)
            rw [← a] at kk
            have e1 : rt_up p d (s i) = rt_up p (d - d0) (rt_up p d0 (s i)) := by rw [← rt_up_add, show d0 + (d - d0) = d by omega]
            rw [← w, e1, show d - d0 = (d - d0 - 1) + 1 by omega, rt_up_1 hn1.1, rt_up_1 b.1, kk.2.2.1.2.2]
        · rw [if_neg ef] at z
          have kk := rt_fk_kid ef
          rw [← z.1] at kk
          exact Or.inr (Or.inr (Or.inr ⟨d + 1, by rw [rt_up_1 hn1.1, kk.2.2.1.2.2]; exact w⟩))
/-- all that follows is among them, once nothing follows the last -/
theorem tr_clo {h p q : Nat → Int} {top : Int} {s : Nat → Int} {k : Nat} (t : rt_tree h p top) (r : rt_tr h p q top s (k + 1)) (he : rt_nxf h p q top (s k) = -1) {i : Nat} (hi : i < k + 1) : (rt_fk h p q (s i) = -1 ∨ ∃ j : Nat, j < k + 1 ∧ s j = rt_fk h p q (s i)) ∧ (s i = top ∨ rt_nk h p q (s i) = -1 ∨ ∃ j : Nat, j < k + 1 ∧ s j = rt_nk h p q (s i)) := by
  constructor
  · by_cases ef : rt_fk h p q (s i) = -1
    · exact Or.inl ef
    · have z : rt_nxf h p q top (s i) = rt_fk h p q (s i) := if_neg ef
      by_cases e : i = k
      · rw [e] at z ef
        rw [he] at z
        exact absurd z.symm ef
      · exact Or.inr ⟨i + 1, by omega, by rw [← z]; exact (r.2 i (by omega)).1⟩
  · by_cases et : s i = top
    · exact Or.inl et
    · refine Or.inr ?_
      have hni := tr_nd t r i hi
      have hnk := tr_nd t r k (by omega)
      rcases tr_aux t r k (by omega) i (by omega) with w | w | ⟨l, w1, w2⟩ | ⟨d, w⟩
      · exact absurd w et
      · exact Or.inl w
      · exact Or.inr ⟨l, by omega, w2⟩
      · left
        unfold rt_nxf at he
        by_cases ef : rt_fk h p q (s k) = -1
        · rw [if_pos ef] at he
          have := clf_no t 151 _ hnk (rt_dep_le _) he d (fun l hl e => by
            have z := rt_up_add l (d - l) (s k) (p := p)
            rw [show l + (d - l) = d by omega, w, e] at z
            by_cases ed : d - l = 0
            · rw [ed] at z
              exact et z
            · rw [show d - l = (d - l - 1) + 1 by omega, rt_up_1 t.2.1.1, t.2.2, rt_up_neg (by omega)] at z
              have := hni.1
              omega)
          rw [w] at this
          exact this
        · rw [if_neg ef] at he
          exact absurd he ef
/-- places among brothers differ: then every node is among them -/
def rt_dq (h p q : Nat → Int) : Prop := (∀ a b : Nat, a < 150 → b < 150 → h a ≠ 0 → h b ≠ 0 → p a = p b → q a = q b → a = b) ∧ ∀ a : Nat, a < 150 → h a ≠ 0 → 0 ≤ q a
theorem tr_kid1 {h p q : Nat → Int} {top P : Int} {s : Nat → Int} {k i : Nat} (dq : rt_dq h p q) (hP : 0 ≤ P) (htop : p top.toNat = -1) (clo : ∀ i : Nat, i < k → (s i = top ∨ rt_nk h p q (s i) = -1 ∨ ∃ j : Nat, j < k ∧ s j = rt_nk h p q (s i))) {m : Nat} (hm : rt_kid h p P m) (hi : i < k) (h0 : 0 ≤ s i) (hk : rt_kid h p P (s i).toNat) (hq : q (s i).toNat < q m) : (∃ j : Nat, j < k ∧ s j = m) ∨ ∃ j : Nat, j < k ∧ 0 ≤ s j ∧ rt_kid h p P (s j).toNat ∧ q (s j).toNat < q m ∧ rt_km h p q P (q (s j).toNat + 1) + 1 ≤ rt_km h p q P (q (s i).toNat + 1) := by
  have b : rt_kbk h p q 150 (p (s i).toNat) (q (s i).toNat) (rt_nk h p q (s i)) := rt_kbf_kbk 150
  have hne : rt_nk h p q (s i) ≠ -1 := fun z => by
    rw [z] at b
    rcases b with ⟨-, b⟩ | ⟨b, -⟩
    · have := b m hm.1 hm.2.1 (by rw [hm.2.2, hk.2.2])
      omega
    · omega
  have kk := rt_nk_kid hne
  rw [hk.2.2] at kk
  have hle : q (rt_nk h p q (s i)).toNat ≤ q m := by
    rcases b with ⟨b, -⟩ | ⟨-, -, -, -, -, b⟩
    · exact absurd b hne
    · exact b m hm.1 hm.2.1 (by rw [hm.2.2, hk.2.2]) hq
  have hv : ∃ j : Nat, j < k ∧ s j = rt_nk h p q (s i) := by
    rcases clo i hi with z | z | z
    · rw [z] at hk
      have := hk.2.2
      omega
    · exact absurd z hne
    · exact z
  obtain ⟨j, hj, ej⟩ := hv
  by_cases e : q (rt_nk h p q (s i)).toNat = q m
  · refine Or.inl ⟨j, hj, ?_⟩
    have := dq.1 _ m kk.2.2.1.1 hm.1 kk.2.2.1.2.1 hm.2.1 (by rw [kk.2.2.1.2.2, hm.2.2]) e
    rw [ej, ← this]
    have := kk.1
    omega
  · have fall := rt_km_fall (q := q) (k := q (s i).toNat + 1) (k1 := q (rt_nk h p q (s i)).toNat + 1) kk.2.2.1 (by have := kk.2.2.2; omega) (by omega)
    refine Or.inr ⟨j, hj, ?_⟩
    rw [ej]
    exact ⟨kk.1, kk.2.2.1, by omega, fall⟩
theorem tr_kids {h p q : Nat → Int} {top P : Int} {s : Nat → Int} {k : Nat} (dq : rt_dq h p q) (hP : 0 ≤ P) (htop : p top.toNat = -1) (clo : ∀ i : Nat, i < k → (s i = top ∨ rt_nk h p q (s i) = -1 ∨ ∃ j : Nat, j < k ∧ s j = rt_nk h p q (s i))) {m : Nat} (hm : rt_kid h p P m) (g : Nat) : ∀ i : Nat, i < k → 0 ≤ s i → rt_kid h p P (s i).toNat → q (s i).toNat < q m → rt_km h p q P (q (s i).toNat + 1) ≤ g → ∃ j : Nat, j < k ∧ s j = m := by
  induction g with
  | zero =>
    intro i hi h0 hk hq hg
    rcases tr_kid1 dq hP htop clo hm hi h0 hk hq with z | ⟨j, hj, a, b, c, d⟩
    · exact z
    · exfalso; omega
  | succ g ih =>
    intro i hi h0 hk hq hg
    rcases tr_kid1 dq hP htop clo hm hi h0 hk hq with z | ⟨j, hj, a, b, c, d⟩
    · exact z
    · exact ih j hj a b c (by omega)
theorem tr_all {h p q : Nat → Int} {top : Int} {s : Nat → Int} {k : Nat} (t : rt_tree h p top) (dq : rt_dq h p q) (r : rt_tr h p q top s (k + 1)) (he : rt_nxf h p q top (s k) = -1) : ∀ (g : Nat) (m : Int), rt_nd h m → rt_dep p m ≤ g → ∃ j : Nat, j < k + 1 ∧ s j = m
  | 0, m, hm, hg => absurd (rt_dep_nd t hm) (by omega)
  | g + 1, m, hm, hg => by
    by_cases e : m = top
    · exact ⟨0, by omega, by rw [e]; exact r.1 (by omega)⟩
    · have hP := rt_nd_up t hm e
      have hd := rt_dep_nd t hm
      obtain ⟨i, hi, ei⟩ := tr_all t dq r he g _ hP (by omega)
      have hk : rt_kid h p (p m.toNat) m.toNat := ⟨by have := hm.1; have := hm.2.1; omega, hm.2.2, rfl⟩
      have b : rt_kbk h p q 150 (p m.toNat) (-1) (rt_fk h p q (p m.toNat)) := rt_kbf_kbk 150
      have hq0 := dq.2 m.toNat hk.1 hm.2.2
      have hne : rt_fk h p q (p m.toNat) ≠ -1 := fun z => by
        rw [z] at b
        rcases b with ⟨-, b⟩ | ⟨b, -⟩
        · have := b m.toNat hk.1 hm.2.2 rfl
          omega
        · omega
      have kk := rt_fk_kid hne
      have hle : q (rt_fk h p q (p m.toNat)).toNat ≤ q m.toNat := by
        rcases b with ⟨b, -⟩ | ⟨-, -, -, -, -, b⟩
        · exact absurd b hne
        · exact b m.toNat hk.1 hm.2.2 rfl (by omega)
      have c1 := (tr_clo t r he hi).1
      rw [ei] at c1
      obtain ⟨j, hj, ej⟩ := c1.resolve_left hne
      by_cases eq : q (rt_fk h p q (p m.toNat)).toNat = q m.toNat
      · refine ⟨j, hj, ?_⟩
        have := dq.1 _ m.toNat kk.2.2.1.1 hk.1 kk.2.2.1.2.1 hm.2.2 (by rw [kk.2.2.1.2.2]) eq
        have := kk.1
        have := hm.1
        omega
      · obtain ⟨l, hl, el⟩ := tr_kids dq hP.1 t.2.2 (fun i hi => (tr_clo t r he hi).2) hk (rt_km h p q (p m.toNat) (q (s j).toNat + 1)) j hj (by rw [ej]; exact kk.1) (by rw [ej]; exact kk.2.2.1) (by rw [ej]; omega) (Nat.le_refl _)
        exact ⟨l, hl, by rw [el]; have := hm.1; omega⟩
/-- what a search for the next node finds -/
def nxf_inv (h p q : Nat → Int) (top n c u : Int) : Prop := (c ≠ -1 ∧ c = rt_nxf h p q top n) ∨ (c = -1 ∧ ∃ f : Nat, rt_dep p u ≤ f ∧ rt_clf h p q top f u = rt_nxf h p q top n)
theorem nxf_init {h p q : Nat → Int} {top n c : Int} (hc : c = rt_fk h p q n) : nxf_inv h p q top n c n := by
  by_cases e : c = -1
  · exact Or.inr ⟨e, 151, rt_dep_le _, by unfold rt_nxf; rw [if_pos (by rw [← hc]; exact e)]⟩
  · exact Or.inl ⟨e, by unfold rt_nxf; rw [if_neg (by rw [← hc]; exact e)]; exact hc⟩
theorem nxf_step {h p q : Nat → Int} {top n c u c1 u1 : Int} (t : rt_tree h p top) (i : nxf_inv h p q top n c u) (hu : rt_nd h u) (hc : c = -1) (hne : u ≠ top) (h1 : c1 = rt_nk h p q u) (h2 : p u.toNat = u1) : nxf_inv h p q top n c1 u1 := by
  rcases i with ⟨a, -⟩ | ⟨-, f, a, b⟩
  · exact absurd hc a
  · have hd := rt_dep_nd t hu
    match f, a, b with
    | 0, a, b => exfalso; omega
    | f + 1, a, b =>
      have b : (if u = top then -1 else if rt_nk h p q u = -1 then rt_clf h p q top f (p u.toNat) else rt_nk h p q u) = rt_nxf h p q top n := b
      rw [if_neg hne] at b
      by_cases e : rt_nk h p q u = -1
      · rw [if_pos e] at b
        exact Or.inr ⟨by rw [h1]; exact e, f, by rw [← h2]; omega, by rw [← h2]; exact b⟩
      · rw [if_neg e] at b
        exact Or.inl ⟨by rw [h1]; exact e, by rw [h1]; exact b⟩
theorem nxf_done {h p q : Nat → Int} {top n c u : Int} (t : rt_tree h p top) (i : nxf_inv h p q top n c u) (hx : c ≠ -1 ∨ u = top) : c = rt_nxf h p q top n := by
  rcases i with ⟨-, a⟩ | ⟨c1, f, a, b⟩
  · exact a
  · have hu : u = top := by
      rcases hx with z | z
      · exact absurd c1 z
      · exact z
    subst hu
    have hd := rt_dep_nd t t.2.1
    match f, a, b with
    | 0, a, b => exfalso; omega
    | f + 1, a, b =>
      have b : (if u = u then -1 else if rt_nk h p q u = -1 then rt_clf h p q u f (p u.toNat) else rt_nk h p q u) = rt_nxf h p q u n := b
      rw [if_pos rfl] at b
      rw [c1]
      exact b
/-! arrays that are fields, as functions -/
def p0_ok (E : Nat → va_E) (m : Nat) (g : Nat → Int) : Prop := ∀ j : Nat, tw_el E m 0 j = g j
theorem p0_ok_fr {D : va_G} {A : Nat → Prop} {H : Heap} {cs : Nat → ClassId} {kp : Nat → Nat} {L : List Nat} {E E1 : Nat → va_E} {ms : List (Nat × Nat)} {ks : List Nat} {m : Nat} {g : Nat → Int} (TH : tw_H D cs kp L E1 A H) (h : tw_fr kp L ms ks E E1) (hm : m ∈ L) (hk : kp m = 12) (h1 : ∀ x ∈ [(12, 0)], x ∉ ms) (h2 : ∀ x ∈ [300], x ∉ ks) (q : p0_ok E m g) : p0_ok E1 m g := fun j => (tw_el_fr TH h hm hk (by decide) (by decide) (k := 0) rfl (by decide) (h1 _ (by decide)) (h2 _ (by decide)) j).trans (q j)
def p5_ok (E : Nat → va_E) (m : Nat) (g : Nat → Int) : Prop := ∀ j : Nat, tw_el E m 5 j = g j
theorem p5_ok_fr {D : va_G} {A : Nat → Prop} {H : Heap} {cs : Nat → ClassId} {kp : Nat → Nat} {L : List Nat} {E E1 : Nat → va_E} {ms : List (Nat × Nat)} {ks : List Nat} {m : Nat} {g : Nat → Int} (TH : tw_H D cs kp L E1 A H) (h : tw_fr kp L ms ks E E1) (hm : m ∈ L) (hk : kp m = 12) (h1 : ∀ x ∈ [(12, 5)], x ∉ ms) (h2 : ∀ x ∈ [301], x ∉ ks) (q : p5_ok E m g) : p5_ok E1 m g := fun j => (tw_el_fr TH h hm hk (by decide) (by decide) (k := 5) rfl (by decide) (h1 _ (by decide)) (h2 _ (by decide)) j).trans (q j)
def p6_ok (E : Nat → va_E) (m : Nat) (g : Nat → Int) : Prop := ∀ j : Nat, tw_el E m 6 j = g j
theorem p6_ok_fr {D : va_G} {A : Nat → Prop} {H : Heap} {cs : Nat → ClassId} {kp : Nat → Nat} {L : List Nat} {E E1 : Nat → va_E} {ms : List (Nat × Nat)} {ks : List Nat} {m : Nat} {g : Nat → Int} (TH : tw_H D cs kp L E1 A H) (h : tw_fr kp L ms ks E E1) (hm : m ∈ L) (hk : kp m = 12) (h1 : ∀ x ∈ [(12, 6)], x ∉ ms) (h2 : ∀ x ∈ [302], x ∉ ks) (q : p6_ok E m g) : p6_ok E1 m g := fun j => (tw_el_fr TH h hm hk (by decide) (by decide) (k := 6) rfl (by decide) (h1 _ (by decide)) (h2 _ (by decide)) j).trans (q j)
def p7_ok (E : Nat → va_E) (m : Nat) (g : Nat → Int) : Prop := ∀ j : Nat, tw_el E m 7 j = g j
theorem p7_ok_fr {D : va_G} {A : Nat → Prop} {H : Heap} {cs : Nat → ClassId} {kp : Nat → Nat} {L : List Nat} {E E1 : Nat → va_E} {ms : List (Nat × Nat)} {ks : List Nat} {m : Nat} {g : Nat → Int} (TH : tw_H D cs kp L E1 A H) (h : tw_fr kp L ms ks E E1) (hm : m ∈ L) (hk : kp m = 12) (h1 : ∀ x ∈ [(12, 7)], x ∉ ms) (h2 : ∀ x ∈ [303], x ∉ ks) (q : p7_ok E m g) : p7_ok E1 m g := fun j => (tw_el_fr TH h hm hk (by decide) (by decide) (k := 7) rfl (by decide) (h1 _ (by decide)) (h2 _ (by decide)) j).trans (q j)
def p9_ok (E : Nat → va_E) (m : Nat) (g : Nat → Int) : Prop := ∀ j : Nat, tw_el E m 9 j = g j
theorem p9_ok_fr {D : va_G} {A : Nat → Prop} {H : Heap} {cs : Nat → ClassId} {kp : Nat → Nat} {L : List Nat} {E E1 : Nat → va_E} {ms : List (Nat × Nat)} {ks : List Nat} {m : Nat} {g : Nat → Int} (TH : tw_H D cs kp L E1 A H) (h : tw_fr kp L ms ks E E1) (hm : m ∈ L) (hk : kp m = 12) (h1 : ∀ x ∈ [(12, 9)], x ∉ ms) (h2 : ∀ x ∈ [305], x ∉ ks) (q : p9_ok E m g) : p9_ok E1 m g := fun j => (tw_el_fr TH h hm hk (by decide) (by decide) (k := 9) rfl (by decide) (h1 _ (by decide)) (h2 _ (by decide)) j).trans (q j)
def p22_ok (E : Nat → va_E) (m : Nat) (g : Nat → Int) : Prop := ∀ j : Nat, tw_el E m 22 j = g j
theorem p22_ok_fr {D : va_G} {A : Nat → Prop} {H : Heap} {cs : Nat → ClassId} {kp : Nat → Nat} {L : List Nat} {E E1 : Nat → va_E} {ms : List (Nat × Nat)} {ks : List Nat} {m : Nat} {g : Nat → Int} (TH : tw_H D cs kp L E1 A H) (h : tw_fr kp L ms ks E E1) (hm : m ∈ L) (hk : kp m = 12) (h1 : ∀ x ∈ [(12, 22)], x ∉ ms) (h2 : ∀ x ∈ [332], x ∉ ks) (q : p22_ok E m g) : p22_ok E1 m g := fun j => (tw_el_fr TH h hm hk (by decide) (by decide) (k := 22) rfl (by decide) (h1 _ (by decide)) (h2 _ (by decide)) j).trans (q j)
def p31_ok (E : Nat → va_E) (m : Nat) (g : Nat → Int) : Prop := ∀ j : Nat, tw_el E m 31 j = g j
theorem p31_ok_fr {D : va_G} {A : Nat → Prop} {H : Heap} {cs : Nat → ClassId} {kp : Nat → Nat} {L : List Nat} {E E1 : Nat → va_E} {ms : List (Nat × Nat)} {ks : List Nat} {m : Nat} {g : Nat → Int} (TH : tw_H D cs kp L E1 A H) (h : tw_fr kp L ms ks E E1) (hm : m ∈ L) (hk : kp m = 12) (h1 : ∀ x ∈ [(12, 31)], x ∉ ms) (h2 : ∀ x ∈ [337], x ∉ ks) (q : p31_ok E m g) : p31_ok E1 m g := fun j => (tw_el_fr TH h hm hk (by decide) (by decide) (k := 31) rfl (by decide) (h1 _ (by decide)) (h2 _ (by decide)) j).trans (q j)
def p32_ok (E : Nat → va_E) (m : Nat) (g : Nat → Int) : Prop := ∀ j : Nat, tw_el E m 32 j = g j
theorem p32_ok_fr {D : va_G} {A : Nat → Prop} {H : Heap} {cs : Nat → ClassId} {kp : Nat → Nat} {L : List Nat} {E E1 : Nat → va_E} {ms : List (Nat × Nat)} {ks : List Nat} {m : Nat} {g : Nat → Int} (TH : tw_H D cs kp L E1 A H) (h : tw_fr kp L ms ks E E1) (hm : m ∈ L) (hk : kp m = 12) (h1 : ∀ x ∈ [(12, 32)], x ∉ ms) (h2 : ∀ x ∈ [338], x ∉ ks) (q : p32_ok E m g) : p32_ok E1 m g := fun j => (tw_el_fr TH h hm hk (by decide) (by decide) (k := 32) rfl (by decide) (h1 _ (by decide)) (h2 _ (by decide)) j).trans (q j)
def p37_ok (E : Nat → va_E) (m : Nat) (g : Nat → Int) : Prop := ∀ j : Nat, tw_el E m 37 j = g j
theorem p37_ok_fr {D : va_G} {A : Nat → Prop} {H : Heap} {cs : Nat → ClassId} {kp : Nat → Nat} {L : List Nat} {E E1 : Nat → va_E} {ms : List (Nat × Nat)} {ks : List Nat} {m : Nat} {g : Nat → Int} (TH : tw_H D cs kp L E1 A H) (h : tw_fr kp L ms ks E E1) (hm : m ∈ L) (hk : kp m = 12) (h1 : ∀ x ∈ [(12, 37)], x ∉ ms) (h2 : ∀ x ∈ [343], x ∉ ks) (q : p37_ok E m g) : p37_ok E1 m g := fun j => (tw_el_fr TH h hm hk (by decide) (by decide) (k := 37) rfl (by decide) (h1 _ (by decide)) (h2 _ (by decide)) j).trans (q j)
def p38_ok (E : Nat → va_E) (m : Nat) (g : Nat → Int) : Prop := ∀ j : Nat, tw_el E m 38 j = g j
theorem p38_ok_fr {D : va_G} {A : Nat → Prop} {H : Heap} {cs : Nat → ClassId} {kp : Nat → Nat} {L : List Nat} {E E1 : Nat → va_E} {ms : List (Nat × Nat)} {ks : List Nat} {m : Nat} {g : Nat → Int} (TH : tw_H D cs kp L E1 A H) (h : tw_fr kp L ms ks E E1) (hm : m ∈ L) (hk : kp m = 12) (h1 : ∀ x ∈ [(12, 38)], x ∉ ms) (h2 : ∀ x ∈ [344], x ∉ ks) (q : p38_ok E m g) : p38_ok E1 m g := fun j => (tw_el_fr TH h hm hk (by decide) (by decide) (k := 38) rfl (by decide) (h1 _ (by decide)) (h2 _ (by decide)) j).trans (q j)
def p39_ok (E : Nat → va_E) (m : Nat) (g : Nat → Int) : Prop := ∀ j : Nat, tw_el E m 39 j = g j
theorem p39_ok_fr {D : va_G} {A : Nat → Prop} {H : Heap} {cs : Nat → ClassId} {kp : Nat → Nat} {L : List Nat} {E E1 : Nat → va_E} {ms : List (Nat × Nat)} {ks : List Nat} {m : Nat} {g : Nat → Int} (TH : tw_H D cs kp L E1 A H) (h : tw_fr kp L ms ks E E1) (hm : m ∈ L) (hk : kp m = 12) (h1 : ∀ x ∈ [(12, 39)], x ∉ ms) (h2 : ∀ x ∈ [345], x ∉ ks) (q : p39_ok E m g) : p39_ok E1 m g := fun j => (tw_el_fr TH h hm hk (by decide) (by decide) (k := 39) rfl (by decide) (h1 _ (by decide)) (h2 _ (by decide)) j).trans (q j)
def p40_ok (E : Nat → va_E) (m : Nat) (g : Nat → Int) : Prop := ∀ j : Nat, tw_el E m 40 j = g j
theorem p40_ok_fr {D : va_G} {A : Nat → Prop} {H : Heap} {cs : Nat → ClassId} {kp : Nat → Nat} {L : List Nat} {E E1 : Nat → va_E} {ms : List (Nat × Nat)} {ks : List Nat} {m : Nat} {g : Nat → Int} (TH : tw_H D cs kp L E1 A H) (h : tw_fr kp L ms ks E E1) (hm : m ∈ L) (hk : kp m = 12) (h1 : ∀ x ∈ [(12, 40)], x ∉ ms) (h2 : ∀ x ∈ [346], x ∉ ks) (q : p40_ok E m g) : p40_ok E1 m g := fun j => (tw_el_fr TH h hm hk (by decide) (by decide) (k := 40) rfl (by decide) (h1 _ (by decide)) (h2 _ (by decide)) j).trans (q j)
def p44_ok (E : Nat → va_E) (m : Nat) (g : Nat → Int) : Prop := ∀ j : Nat, tw_el E m 44 j = g j
theorem p44_ok_fr {D : va_G} {A : Nat → Prop} {H : Heap} {cs : Nat → ClassId} {kp : Nat → Nat} {L : List Nat} {E E1 : Nat → va_E} {ms : List (Nat × Nat)} {ks : List Nat} {m : Nat} {g : Nat → Int} (TH : tw_H D cs kp L E1 A H) (h : tw_fr kp L ms ks E E1) (hm : m ∈ L) (hk : kp m = 12) (h1 : ∀ x ∈ [(12, 44)], x ∉ ms) (h2 : ∀ x ∈ [353], x ∉ ks) (q : p44_ok E m g) : p44_ok E1 m g := fun j => (tw_el_fr TH h hm hk (by decide) (by decide) (k := 44) rfl (by decide) (h1 _ (by decide)) (h2 _ (by decide)) j).trans (q j)
def p46_ok (E : Nat → va_E) (m : Nat) (g : Nat → Int) : Prop := ∀ j : Nat, tw_el E m 46 j = g j
theorem p46_ok_fr {D : va_G} {A : Nat → Prop} {H : Heap} {cs : Nat → ClassId} {kp : Nat → Nat} {L : List Nat} {E E1 : Nat → va_E} {ms : List (Nat × Nat)} {ks : List Nat} {m : Nat} {g : Nat → Int} (TH : tw_H D cs kp L E1 A H) (h : tw_fr kp L ms ks E E1) (hm : m ∈ L) (hk : kp m = 12) (h1 : ∀ x ∈ [(12, 46)], x ∉ ms) (h2 : ∀ x ∈ [355], x ∉ ks) (q : p46_ok E m g) : p46_ok E1 m g := fun j => (tw_el_fr TH h hm hk (by decide) (by decide) (k := 46) rfl (by decide) (h1 _ (by decide)) (h2 _ (by decide)) j).trans (q j)
def p47_ok (E : Nat → va_E) (m : Nat) (g : Nat → Int) : Prop := ∀ j : Nat, tw_el E m 47 j = g j
theorem p47_ok_fr {D : va_G} {A : Nat → Prop} {H : Heap} {cs : Nat → ClassId} {kp : Nat → Nat} {L : List Nat} {E E1 : Nat → va_E} {ms : List (Nat × Nat)} {ks : List Nat} {m : Nat} {g : Nat → Int} (TH : tw_H D cs kp L E1 A H) (h : tw_fr kp L ms ks E E1) (hm : m ∈ L) (hk : kp m = 12) (h1 : ∀ x ∈ [(12, 47)], x ∉ ms) (h2 : ∀ x ∈ [356], x ∉ ks) (q : p47_ok E m g) : p47_ok E1 m g := fun j => (tw_el_fr TH h hm hk (by decide) (by decide) (k := 47) rfl (by decide) (h1 _ (by decide)) (h2 _ (by decide)) j).trans (q j)
def p48_ok (E : Nat → va_E) (m : Nat) (g : Nat → Int) : Prop := ∀ j : Nat, tw_el E m 48 j = g j
theorem p48_ok_fr {D : va_G} {A : Nat → Prop} {H : Heap} {cs : Nat → ClassId} {kp : Nat → Nat} {L : List Nat} {E E1 : Nat → va_E} {ms : List (Nat × Nat)} {ks : List Nat} {m : Nat} {g : Nat → Int} (TH : tw_H D cs kp L E1 A H) (h : tw_fr kp L ms ks E E1) (hm : m ∈ L) (hk : kp m = 12) (h1 : ∀ x ∈ [(12, 48)], x ∉ ms) (h2 : ∀ x ∈ [357], x ∉ ks) (q : p48_ok E m g) : p48_ok E1 m g := fun j => (tw_el_fr TH h hm hk (by decide) (by decide) (k := 48) rfl (by decide) (h1 _ (by decide)) (h2 _ (by decide)) j).trans (q j)
/-! an edition's nodes in a row (seq, indexIn), and what is free -/
abbrev ls_s (E : Nat → va_E) (m : Nat) : Nat → Int := tw_el E m 45
abbrev ls_x (E : Nat → va_E) (m : Nat) (n : Int) : Int := tw_el E m 49 n.toNat
/-- k nodes are in the row, and n is next -/
def sq_ok (E : Nat → va_E) (m : Nat) (E0 : Nat → va_E) (i top k n : Int) : Prop := 0 ≤ k ∧ rt_tr (rw_h E0 m i) (rw_p E0 m i) (rw_q E0 m i) top (ls_s E m) k.toNat ∧ (∀ j : Nat, (j : Int) < k → ls_x E m (ls_s E m j) = j) ∧ (k = 0 → n = top) ∧ (0 < k → n = rt_nxf (rw_h E0 m i) (rw_p E0 m i) (rw_q E0 m i) top (ls_s E m (k - 1).toNat))
def sqa_ok (E : Nat → va_E) (m : Nat) (E0 : Nat → va_E) (i top k n : Int) : Prop := 0 ≤ k ∧ rt_tr (rw_h E0 m i) (rw_p E0 m i) (rw_q E0 m i) top (ls_s E m) (k + 1).toNat ∧ (∀ j : Nat, (j : Int) < k → ls_x E m (ls_s E m j) = j) ∧ ls_s E m k.toNat = n
def sqb_ok (E : Nat → va_E) (m : Nat) (E0 : Nat → va_E) (i top k n : Int) : Prop := 0 ≤ k ∧ rt_tr (rw_h E0 m i) (rw_p E0 m i) (rw_q E0 m i) top (ls_s E m) (k + 1).toNat ∧ (∀ j : Nat, (j : Int) < k + 1 → ls_x E m (ls_s E m j) = j) ∧ ls_s E m k.toNat = n
theorem sq_ok_cast {E E0 : Nat → va_E} {m : Nat} {i top k n i1 top1 k1 n1 : Int} (h : i = i1 ∧ top = top1 ∧ k = k1 ∧ n = n1) (q : sq_ok E m E0 i top k n) : sq_ok E m E0 i1 top1 k1 n1 := by
  obtain ⟨rfl, rfl, rfl, rfl⟩ := h
  exact q
theorem sq_zero {E E0 : Nat → va_E} {m : Nat} {i top k n : Int} (hk : k = 0) (hn : n = top) : sq_ok E m E0 i top k n := by
  subst hk
  exact ⟨Int.le_refl 0, ⟨fun z => absurd z (by decide), fun j hj => absurd hj (by simp)⟩, fun j hj => absurd hj (by omega), fun _ => hn, fun z => absurd z (by decide)⟩
theorem sq_a {E E1 E0 : Nat → va_E} {m : Nat} {i top k n : Int} (q : sq_ok E m E0 i top k n) (h45 : ∀ j : Nat, tw_el E1 m 45 j = if j = k.toNat then n else tw_el E m 45 j) (h49 : ∀ j : Nat, tw_el E1 m 49 j = tw_el E m 49 j) (hn : n ≠ -1) : sqa_ok E1 m E0 i top k n := by
  obtain ⟨k0, r, x, z, w⟩ := q
  have hs : ∀ j : Nat, j ≠ k.toNat → ls_s E1 m j = ls_s E m j := fun j hj => by
    show tw_el E1 m 45 j = tw_el E m 45 j
    rw [h45, if_neg hj]
  have hk : ls_s E1 m k.toNat = n := by
    show tw_el E1 m 45 k.toNat = n
    rw [h45, if_pos rfl]
  refine ⟨k0, ⟨fun _ => ?_, fun j hj => ?_⟩, fun j hj => ?_, hk⟩
  · by_cases e : k = 0
    · have e2 : k.toNat = 0 := by omega
      rw [e2] at hk
      rw [hk]; exact z e
    · rw [hs 0 (by omega)]
      exact r.1 (by omega)
  · by_cases e : j + 1 = k.toNat
    · rw [e, hk, hs j (by omega)]
      have w := w (by omega)
      rw [show (k - 1).toNat = j by omega] at w
      exact ⟨w, hn⟩
    · rw [hs (j + 1) e, hs j (by omega)]
      exact r.2 j (by omega)
  · rw [hs j (by omega)]
    show tw_el E1 m 49 _ = _
    rw [h49]
    exact x j hj
theorem sq_b {E E1 E0 : Nat → va_E} {m : Nat} {i top k n : Int} (t : rt_tree (rw_h E0 m i) (rw_p E0 m i) top) (q : sqa_ok E m E0 i top k n) (h45 : ∀ j : Nat, tw_el E1 m 45 j = tw_el E m 45 j) (h49 : ∀ j : Nat, tw_el E1 m 49 j = if j = n.toNat then k else tw_el E m 49 j) : sqb_ok E1 m E0 i top k n := by
  obtain ⟨k0, r, x, w⟩ := q
  have hs : ls_s E1 m = ls_s E m := funext h45
  have hnd := tr_nd t r k.toNat (by omega)
  rw [w] at hnd
  refine ⟨k0, by rw [hs]; exact r, fun j hj => ?_, by rw [hs]; exact w⟩
  rw [hs]
  show tw_el E1 m 49 _ = _
  rw [h49]
  by_cases e : j = k.toNat
  · rw [e, w, if_pos rfl]
    omega
  · have hj2 := tr_nd t r j (by omega)
    rw [if_neg (fun z => ?_)]
    · exact x j (by omega)
    · have e2 : ls_s E m j = ls_s E m k.toNat := by rw [w]; have := hj2.1; have := hnd.1; omega
      exact e (tr_inj t r (by omega) (by omega) e2)
theorem sq_n {E E0 : Nat → va_E} {m : Nat} {i top k n k1 c : Int} (q : sqb_ok E m E0 i top k n) (hk : k1 = k + 1) (hc : c = rt_nxf (rw_h E0 m i) (rw_p E0 m i) (rw_q E0 m i) top n) : sq_ok E m E0 i top k1 c := by
  subst hk
  obtain ⟨k0, r, x, w⟩ := q
  exact ⟨by omega, r, x, fun z => absurd z (by omega), fun _ => by rw [show (k + 1 - 1).toNat = k.toNat by omega, w]; exact hc⟩
/-- all nodes of row i that follow each other are in seq -/
def ls_ok (E : Nat → va_E) (m : Nat) (i : Int) : Prop := ∃ (top : Int) (k : Nat), tw_fi E m 50 = k + 1 ∧ rt_tree (rw_h E m i) (rw_p E m i) top ∧ rt_tr (rw_h E m i) (rw_p E m i) (rw_q E m i) top (ls_s E m) (k + 1) ∧ rt_nxf (rw_h E m i) (rw_p E m i) (rw_q E m i) top (ls_s E m k) = -1 ∧ ∀ j : Nat, j < k + 1 → ls_x E m (ls_s E m j) = j
theorem ls_done {E E0 : Nat → va_E} {m : Nat} {i top k n : Int} (t : rt_tree (rw_h E0 m i) (rw_p E0 m i) top) (q : sq_ok E m E0 i top k n) (hn : n = -1) (h50 : tw_fi E m 50 = k) (eh : rw_h E m i = rw_h E0 m i) (ep : rw_p E m i = rw_p E0 m i) (eq : rw_q E m i = rw_q E0 m i) : ls_ok E m i := by
  obtain ⟨k0, r, x, z, w⟩ := q
  have hk : 0 < k := by
    by_cases e : k = 0
    · have := z e
      have := t.2.1.1
      omega
    · omega
  refine ⟨top, (k - 1).toNat, by rw [h50]; omega, ?_⟩
  rw [eh, ep, eq, show (k - 1).toNat + 1 = k.toNat by omega]
  exact ⟨t, r, by rw [← w hk]; exact hn, fun j hj => x j (by omega)⟩
section LSF
variable {D : va_G} {A : Nat → Prop} {H : Heap} {cs : Nat → ClassId} {kp : Nat → Nat} {L : List Nat} {E E1 : Nat → va_E} {ms : List (Nat × Nat)} {ks : List Nat} {m : Nat}
theorem el_fr (TH : tw_H D cs kp L E1 A H) (h : tw_fr kp L ms ks E E1) (hm : m ∈ L) (hk : kp m = 12) {k : Nat} {kd : Int} (hN : k < tw_N 12) (hf : tw_FT 12 k = (2, kd, 0)) (hge : 100 ≤ kd) (h1 : (12, k) ∉ ms) (h2 : kd.toNat ∉ ks) : tw_el E1 m k = tw_el E m k := funext fun j => tw_el_fr TH h hm hk (by decide) hN hf hge h1 h2 j
theorem ls_ok_fr {i : Int} (TH : tw_H D cs kp L E1 A H) (h : tw_fr kp L ms ks E E1) (hm : m ∈ L) (hk : kp m = 12) (h1 : ∀ x ∈ [(12, 16), (12, 18), (12, 19), (12, 45), (12, 49), (12, 50)], x ∉ ms) (h2 : ∀ x ∈ [316, 318, 319, 326, 328, 329, 354, 358], x ∉ ks) (hi : i.toNat < 16) (q : ls_ok E m i) : ls_ok E1 m i := by
  unfold ls_ok ls_s ls_x
  rw [rw_h_fr TH h hm hk (h1 _ (by decide)) (h2 _ (by decide)) (h2 _ (by decide)) hi, rw_p_fr TH h hm hk (h1 _ (by decide)) (h2 _ (by decide)) (h2 _ (by decide)) hi, rw_q_fr TH h hm hk (h1 _ (by decide)) (h2 _ (by decide)) (h2 _ (by decide)) hi, tw_fi_fr h hm hk (h1 (12, 50) (by decide)), el_fr TH h hm hk (k := 45) (by decide) rfl (by decide) (h1 _ (by decide)) (h2 _ (by decide)), el_fr TH h hm hk (k := 49) (by decide) rfl (by decide) (h1 _ (by decide)) (h2 _ (by decide))]
  exact q
theorem sq_ok_fr {E0 : Nat → va_E} {i top k n : Int} (TH : tw_H D cs kp L E1 A H) (h : tw_fr kp L ms ks E E1) (hm : m ∈ L) (hk : kp m = 12) (h1 : ∀ x ∈ [(12, 45), (12, 49)], x ∉ ms) (h2 : ∀ x ∈ [354, 358], x ∉ ks) (q : sq_ok E m E0 i top k n) : sq_ok E1 m E0 i top k n := by
  unfold sq_ok ls_s ls_x
  rw [el_fr TH h hm hk (k := 45) (by decide) rfl (by decide) (h1 _ (by decide)) (h2 _ (by decide)), el_fr TH h hm hk (k := 49) (by decide) rfl (by decide) (h1 _ (by decide)) (h2 _ (by decide))]
  exact q
theorem sqa_ok_fr {E0 : Nat → va_E} {i top k n : Int} (TH : tw_H D cs kp L E1 A H) (h : tw_fr kp L ms ks E E1) (hm : m ∈ L) (hk : kp m = 12) (h1 : ∀ x ∈ [(12, 45), (12, 49)], x ∉ ms) (h2 : ∀ x ∈ [354, 358], x ∉ ks) (q : sqa_ok E m E0 i top k n) : sqa_ok E1 m E0 i top k n := by
  unfold sqa_ok ls_s ls_x
  rw [el_fr TH h hm hk (k := 45) (by decide) rfl (by decide) (h1 _ (by decide)) (h2 _ (by decide)), el_fr TH h hm hk (k := 49) (by decide) rfl (by decide) (h1 _ (by decide)) (h2 _ (by decide))]
  exact q
theorem sqb_ok_fr {E0 : Nat → va_E} {i top k n : Int} (TH : tw_H D cs kp L E1 A H) (h : tw_fr kp L ms ks E E1) (hm : m ∈ L) (hk : kp m = 12) (h1 : ∀ x ∈ [(12, 45), (12, 49)], x ∉ ms) (h2 : ∀ x ∈ [354, 358], x ∉ ks) (q : sqb_ok E m E0 i top k n) : sqb_ok E1 m E0 i top k n := by
  unfold sqb_ok ls_s ls_x
  rw [el_fr TH h hm hk (k := 45) (by decide) rfl (by decide) (h1 _ (by decide)) (h2 _ (by decide)), el_fr TH h hm hk (k := 49) (by decide) rfl (by decide) (h1 _ (by decide)) (h2 _ (by decide))]
  exact q
end LSF
/-! like trees, free on both sides: a way through kids and brothers at once -/
def sfk (h p q h1 p1 q1 : Nat → Int) (pa : Int → Int) : Nat → Int → Int → Prop
  | 0, _, _ => False
  | k + 1, c, d => (c = -1 ∧ d = -1) ∨ (c ≠ -1 ∧ d ≠ -1 ∧ pa c = -1 ∧ sfk h p q h1 p1 q1 pa k (rt_fk h p q c) (rt_fk h1 p1 q1 d) ∧ sfk h p q h1 p1 q1 pa k (rt_nk h p q c) (rt_nk h1 p1 q1 d))
theorem sfk_mono {h p q h1 p1 q1 : Nat → Int} {pa : Int → Int} : ∀ {k k1 : Nat} {c d : Int}, k ≤ k1 → sfk h p q h1 p1 q1 pa k c d → sfk h p q h1 p1 q1 pa k1 c d
  | 0, _, _, _, _, z => absurd z id
  | k + 1, 0, _, _, hk, _ => absurd hk (by omega)
  | k + 1, k1 + 1, c, d, hk, z => by
    rcases z with z | ⟨a, b, e, f, g⟩
    · exact Or.inl z
    · exact Or.inr ⟨a, b, e, sfk_mono (by omega) f, sfk_mono (by omega) g⟩
theorem sfk_join {h p q h1 p1 q1 : Nat → Int} {pa : Int → Int} {c d : Int} (hc : c ≠ -1) (hd : d ≠ -1) (hp : pa c = -1) (x : ∃ k : Nat, sfk h p q h1 p1 q1 pa k (rt_fk h p q c) (rt_fk h1 p1 q1 d)) (y : ∃ k : Nat, sfk h p q h1 p1 q1 pa k (rt_nk h p q c) (rt_nk h1 p1 q1 d)) : ∃ k : Nat, sfk h p q h1 p1 q1 pa k c d := by
  obtain ⟨k, x⟩ := x
  obtain ⟨l, y⟩ := y
  exact ⟨k + l + 1, Or.inr ⟨hc, hd, hp, sfk_mono (by omega) x, sfk_mono (by omega) y⟩⟩
theorem sfk_end {h p q h1 p1 q1 : Nat → Int} {pa : Int → Int} {c d : Int} (hc : c = -1) (hd : d = -1) : ∃ k : Nat, sfk h p q h1 p1 q1 pa k c d := ⟨1, Or.inl ⟨hc, hd⟩⟩
abbrev pa_f (E : Nat → va_E) (m : Nat) (n : Int) : Int := tw_el E m 46 (tw_el E m 49 n.toNat).toNat
/-- what is under n is like what is under b, and free -/
def sf_ok (E : Nat → va_E) (m : Nat) (i n b : Int) : Prop := pa_f E m n = -1 ∧ ∃ k : Nat, sfk (rw_h E m i) (rw_p E m i) (rw_q E m i) (rw_h E m 15) (rw_p E m 15) (rw_q E m 15) (pa_f E m) k (rt_fk (rw_h E m i) (rw_p E m i) (rw_q E m i) n) (rt_fk (rw_h E m 15) (rw_p E m 15) (rw_q E m 15) b)
/-! pairing like trees -/
def vx_ok (E : Nat → va_E) (m : Nat) (x : Int) : Prop := 0 ≤ x ∧ x < 150 ∧ 0 ≤ ls_x E m x ∧ ls_x E m x < tw_fi E m 50 ∧ ls_s E m (ls_x E m x).toNat = x
/-- the tree of the text, in its order -/
def tt_ok (E : Nat → va_E) (m : Nat) : Prop := (1 ≤ tw_fi E m 28 ∧ tw_fi E m 28 ≤ 24) ∧ (∀ c : Nat, c < 150 → (rw_h E m 15 c ≠ 0 ↔ (c : Int) < tw_fi E m 28)) ∧ (∀ c : Nat, (c : Int) < tw_fi E m 28 → (c = 0 ∧ rw_p E m 15 c = -1) ∨ (0 < c ∧ 0 ≤ rw_p E m 15 c ∧ rw_p E m 15 c < c)) ∧ ∀ c : Nat, (c : Int) < tw_fi E m 28 → rw_q E m 15 c = c
theorem tt_kid {E : Nat → va_E} {m : Nat} {b d : Int} (t : tt_ok E m) (b0 : 0 ≤ b) (hd : kd_is (rw_h E m 15) (rw_p E m 15) b d) (hne : d ≠ -1) : 1 ≤ d ∧ d ≤ 23 := by
  rcases hd with z | ⟨z0, z1, z2, z3, z4⟩
  · exact absurd z hne
  · have w := (t.2.1 d.toNat z2).mp z3
    have := t.1.2
    rcases t.2.2.1 d.toNat w with ⟨e1, e2⟩ | ⟨e1, -⟩
    · omega
    · omega
theorem rt_dep_ups {h p : Nat → Int} {top : Int} (t : rt_tree h p top) : ∀ (j : Nat) (x : Int), rt_nd h x → 0 ≤ rt_up p j x → rt_dep p x = j + rt_dep p (rt_up p j x)
  | 0, x, _, _ => by show rt_dep p x = 0 + rt_dep p x; omega
  | j + 1, x, hx, h0 => by
    rw [rt_up_1 hx.1] at h0 ⊢
    have e := rt_dep_nd t hx
    have hp : rt_nd h (p x.toNat) := by
      rcases t.1.1 x.toNat (by have := hx.1; have := hx.2.1; omega) hx.2.2 with z | z
      · rw [z, rt_up_neg (by omega)] at h0
        omega
      · exact z
    have := rt_dep_ups t j _ hp h0
    omega
theorem ls_vx {E : Nat → va_E} {m : Nat} {i x : Int} (q : ls_ok E m i) (hx : vx_ok E m x) : rt_nd (rw_h E m i) x := by
  obtain ⟨top, k, h50, t, r, he, hi⟩ := q
  have w := tr_nd t r (ls_x E m x).toNat (by have := hx.2.2.1; have := hx.2.2.2.1; omega)
  rw [hx.2.2.2.2] at w
  exact w
theorem ls_at {E : Nat → va_E} {m : Nat} {i : Int} (q : ls_ok E m i) {j : Nat} (hj : (j : Int) < tw_fi E m 50) : vx_ok E m (ls_s E m j) := by
  obtain ⟨top, k, h50, t, r, he, hi⟩ := q
  have w := tr_nd t r j (by omega)
  have e := hi j (by omega)
  exact ⟨w.1, w.2.1, by rw [e]; omega, by rw [e]; exact hj, by rw [e]; rfl⟩
theorem ls_fk {E : Nat → va_E} {m : Nat} {i x : Int} (q : ls_ok E m i) (hx : vx_ok E m x) (hc : rt_fk (rw_h E m i) (rw_p E m i) (rw_q E m i) x ≠ -1) : vx_ok E m (rt_fk (rw_h E m i) (rw_p E m i) (rw_q E m i) x) := by
  have q2 := q
  obtain ⟨top, k, h50, t, r, he, hi⟩ := q
  have w := (tr_clo t r he (i := (ls_x E m x).toNat) (by have := hx.2.2.1; have := hx.2.2.2.1; omega)).1
  rw [hx.2.2.2.2] at w
  obtain ⟨j, hj, e⟩ := w.resolve_left hc
  rw [← e]
  exact ls_at q2 (by omega)
theorem ls_nk {E : Nat → va_E} {m : Nat} {i x : Int} (q : ls_ok E m i) (hx : vx_ok E m x) (hp : 0 ≤ rw_p E m i x.toNat) (hc : rt_nk (rw_h E m i) (rw_p E m i) (rw_q E m i) x ≠ -1) : vx_ok E m (rt_nk (rw_h E m i) (rw_p E m i) (rw_q E m i) x) := by
  have q2 := q
  obtain ⟨top, k, h50, t, r, he, hi⟩ := q
  have w := (tr_clo t r he (i := (ls_x E m x).toNat) (by have := hx.2.2.1; have := hx.2.2.2.1; omega)).2
  rw [hx.2.2.2.2] at w
  rcases w with w | w | ⟨j, hj, e⟩
  · rw [w, t.2.2] at hp
    omega
  · exact absurd w hc
  · rw [← e]
    exact ls_at q2 (by omega)
/-- rows and row of nodes are as they were -/
def sm_ok (E E1 : Nat → va_E) (m : Nat) (i : Int) : Prop := (rw_h E1 m i = rw_h E m i ∧ rw_p E1 m i = rw_p E m i ∧ rw_q E1 m i = rw_q E m i) ∧ (rw_h E1 m 15 = rw_h E m 15 ∧ rw_p E1 m 15 = rw_p E m 15 ∧ rw_q E1 m 15 = rw_q E m 15) ∧ tw_el E1 m 45 = tw_el E m 45 ∧ tw_el E1 m 49 = tw_el E m 49 ∧ tw_fi E1 m 50 = tw_fi E m 50
theorem sm_of {D : va_G} {A : Nat → Prop} {H : Heap} {cs : Nat → ClassId} {kp : Nat → Nat} {L : List Nat} {E E1 : Nat → va_E} {ms : List (Nat × Nat)} {ks : List Nat} {m : Nat} {i : Int} (TH : tw_H D cs kp L E1 A H) (h : tw_fr kp L ms ks E E1) (hm : m ∈ L) (hk : kp m = 12) (h1 : ∀ x ∈ [(12, 16), (12, 18), (12, 19), (12, 45), (12, 49), (12, 50)], x ∉ ms) (h2 : ∀ x ∈ [316, 318, 319, 326, 328, 329, 354, 358], x ∉ ks) (hi : i.toNat < 16) : sm_ok E E1 m i := by
  have a : ∀ i : Int, i.toNat < 16 → rw_h E1 m i = rw_h E m i ∧ rw_p E1 m i = rw_p E m i ∧ rw_q E1 m i = rw_q E m i := fun i hi => ⟨rw_h_fr TH h hm hk (h1 _ (by decide)) (h2 _ (by decide)) (h2 _ (by decide)) hi, rw_p_fr TH h hm hk (h1 _ (by decide)) (h2 _ (by decide)) (h2 _ (by decide)) hi, rw_q_fr TH h hm hk (h1 _ (by decide)) (h2 _ (by decide)) (h2 _ (by decide)) hi⟩
  exact ⟨a i hi, a 15 (by decide), el_fr TH h hm hk (k := 45) (by decide) rfl (by decide) (h1 _ (by decide)) (h2 _ (by decide)), el_fr TH h hm hk (k := 49) (by decide) rfl (by decide) (h1 _ (by decide)) (h2 _ (by decide)), tw_fi_fr h hm hk (h1 (12, 50) (by decide))⟩
theorem vx_sm {E E1 : Nat → va_E} {m : Nat} {i x : Int} (s : sm_ok E E1 m i) : vx_ok E1 m x ↔ vx_ok E m x := by
  unfold vx_ok ls_x ls_s
  rw [s.2.2.1, s.2.2.2.1, s.2.2.2.2]
theorem sfk_keep {h p q h1 p1 q1 : Nat → Int} {pa pb : Int → Int} {Z : Int → Prop} (z0 : ∀ x : Int, Z x → pb x = pa x) (z1 : ∀ x : Int, Z x → rt_fk h p q x = -1 ∨ Z (rt_fk h p q x)) (z2 : ∀ x : Int, Z x → rt_nk h p q x = -1 ∨ Z (rt_nk h p q x)) : ∀ (k : Nat) (c d : Int), c = -1 ∨ Z c → sfk h p q h1 p1 q1 pa k c d → sfk h p q h1 p1 q1 pb k c d
  | 0, _, _, _, z => z
  | k + 1, c, d, hc, z => by
    rcases z with z | ⟨a, b, e, f, g⟩
    · exact Or.inl z
    · have hz := hc.resolve_left a
      exact Or.inr ⟨a, b, by rw [z0 c hz]; exact e, sfk_keep z0 z1 z2 k _ _ (z1 c hz) f, sfk_keep z0 z1 z2 k _ _ (z2 c hz) g⟩
/-- the loop over the kids of n and of b -/
def pl_inv (E E1 : Nat → va_E) (m : Nat) (i n b c d : Int) : Prop := kd_is (rw_h E m i) (rw_p E m i) n c ∧ (c ≠ -1 → vx_ok E m c) ∧ (∃ k : Nat, sfk (rw_h E m i) (rw_p E m i) (rw_q E m i) (rw_h E m 15) (rw_p E m 15) (rw_q E m 15) (pa_f E1 m) k c d) ∧ kd_is (rw_h E m 15) (rw_p E m 15) b d ∧ ∀ x : Int, vx_ok E m x → (∀ j : Nat, rt_up (rw_p E m i) j x ≠ n) → pa_f E1 m x = pa_f E m x
theorem pl_init {E E1 : Nat → va_E} {m : Nat} {i n b c d : Int} (q : ls_ok E m i) (hv : vx_ok E m n) (sf : sf_ok E m i n b) (h46 : ∀ j : Nat, tw_el E1 m 46 j = if j = (ls_x E m n).toNat then b else tw_el E m 46 j) (s : sm_ok E E1 m i) (hc : c = rt_fk (rw_h E m i) (rw_p E m i) (rw_q E m i) n) (hd : d = rt_fk (rw_h E m 15) (rw_p E m 15) (rw_q E m 15) b) : pl_inv E E1 m i n b c d := by
  have keep : ∀ x : Int, vx_ok E m x → x ≠ n → pa_f E1 m x = pa_f E m x := fun x hx hxn => by
    show tw_el E1 m 46 (tw_el E1 m 49 x.toNat).toNat = _
    rw [s.2.2.2.1, h46, if_neg (fun z => hxn ?_)]
    have z : (ls_x E m x).toNat = (ls_x E m n).toNat := z
    rw [← hx.2.2.2.2, ← hv.2.2.2.2, z]
  have hnd := ls_vx q hv
  obtain ⟨top, k0, h50, t, r, he, hi⟩ := q
  have q : ls_ok E m i := ⟨top, k0, h50, t, r, he, hi⟩
  refine ⟨?_, ?_, ?_, ?_, fun x hx hu => keep x hx (hu 0)⟩
  · rw [hc]; exact kd_is_of (q := rw_q E m i) (last := -1) (rt_kbf_kbk 150)
  · rw [hc]; exact fun z => ls_fk q hv z
  · obtain ⟨k, z⟩ := sf.2
    refine ⟨k, ?_⟩
    rw [hc, hd]
    refine sfk_keep (Z := fun x => vx_ok E m x ∧ ∃ j : Nat, rt_up (rw_p E m i) (j + 1) x = n) (fun x hx => keep x hx.1 (fun e => ?_)) (fun x hx => ?_) (fun x hx => ?_) k _ _ ?_ z
    · obtain ⟨j, hj⟩ := hx.2
      rw [e] at hj
      have := rt_dep_ups t (j + 1) n hnd (by rw [hj]; exact hnd.1)
      rw [hj] at this
      omega
    · by_cases e : rt_fk (rw_h E m i) (rw_p E m i) (rw_q E m i) x = -1
      · exact Or.inl e
      · obtain ⟨j, hj⟩ := hx.2
        have kk := rt_fk_kid e
        exact Or.inr ⟨ls_fk q hx.1 e, j + 1, by rw [rt_up_1 kk.1, kk.2.2.1.2.2]; exact hj⟩
    · by_cases e : rt_nk (rw_h E m i) (rw_p E m i) (rw_q E m i) x = -1
      · exact Or.inl e
      · obtain ⟨j, hj⟩ := hx.2
        have kk := rt_nk_kid e
        rw [rt_up_1 hx.1.1] at hj
        have hp : 0 ≤ rw_p E m i x.toNat := by
          by_cases e2 : 0 ≤ rw_p E m i x.toNat
          · exact e2
          · rw [rt_up_neg (by omega)] at hj
            have := hnd.1
            omega
        exact Or.inr ⟨ls_nk q hx.1 hp e, j, by rw [rt_up_1 kk.1, kk.2.2.1.2.2]; exact hj⟩
    · by_cases e : rt_fk (rw_h E m i) (rw_p E m i) (rw_q E m i) n = -1
      · exact Or.inl e
      · have kk := rt_fk_kid e
        exact Or.inr ⟨ls_fk q hv e, 0, by rw [rt_up_1 kk.1, kk.2.2.1.2.2]; rfl⟩
  · rw [hd]; exact kd_is_of (q := rw_q E m 15) (last := -1) (rt_kbf_kbk 150)
theorem pl_call {E E1 : Nat → va_E} {m : Nat} {i n b c d : Int} (v : pl_inv E E1 m i n b c d) (hc : c ≠ -1) (s : sm_ok E E1 m i) : d ≠ -1 ∧ vx_ok E1 m c ∧ sf_ok E1 m i c d := by
  obtain ⟨-, v2, ⟨k, v3⟩, -, -⟩ := v
  match k, v3 with
  | 0, v3 => exact absurd v3 id
  | k + 1, v3 =>
    rcases v3 with ⟨z, -⟩ | ⟨-, z1, z2, z3, z4⟩
    · exact absurd z hc
    · refine ⟨z1, (vx_sm s).mpr (v2 hc), z2, k, ?_⟩
      rw [s.1.1, s.1.2.1, s.1.2.2, s.2.1.1, s.2.1.2.1, s.2.1.2.2]
      exact z3
theorem pl_next {E E1 E2 : Nat → va_E} {m : Nat} {i n b c d c1 d1 : Int} (q : ls_ok E m i) (hn : rt_nd (rw_h E m i) n) (v : pl_inv E E1 m i n b c d) (hc : c ≠ -1) (s : sm_ok E E1 m i) (hp : ∀ x : Int, vx_ok E1 m x → (∀ j : Nat, rt_up (rw_p E1 m i) j x ≠ c) → pa_f E2 m x = pa_f E1 m x) (h1 : c1 = rt_nk (rw_h E m i) (rw_p E m i) (rw_q E m i) c) (h2 : d1 = rt_nk (rw_h E m 15) (rw_p E m 15) (rw_q E m 15) d) : pl_inv E E2 m i n b c1 d1 := by
  obtain ⟨v1, v2, ⟨k, v3⟩, v4, v5⟩ := v
  obtain ⟨top, k0, h50, t, r, he, hi⟩ := q
  have q : ls_ok E m i := ⟨top, k0, h50, t, r, he, hi⟩
  have hk := v1.resolve_left hc
  have hvc := v2 hc
  have hcn := ls_vx q hvc
  have hpp : 0 ≤ rw_p E m i c.toNat := by rw [hk.2.2.2.2]; exact hn.1
  match k, v3 with
  | 0, v3 => exact absurd v3 id
  | k + 1, v3 =>
    rcases v3 with ⟨z, -⟩ | ⟨-, z1, z2, z3, z4⟩
    · exact absurd z hc
    · refine ⟨?_, ?_, ⟨k, ?_⟩, ?_, fun x hx hu => ?_⟩
      · rw [h1]
        have b9 : rt_kbk (rw_h E m i) (rw_p E m i) (rw_q E m i) 150 (rw_p E m i c.toNat) (rw_q E m i c.toNat) (rt_nk (rw_h E m i) (rw_p E m i) (rw_q E m i) c) := rt_kbf_kbk 150
        rw [hk.2.2.2.2] at b9
        exact kd_is_of b9
      · rw [h1]; exact fun z => ls_nk q hvc hpp z
      · rw [h1, h2]
        refine sfk_keep (Z := fun x => vx_ok E m x ∧ ∃ (y : Int) (j : Nat), (0 ≤ y ∧ y < 150 ∧ rt_kid (rw_h E m i) (rw_p E m i) n y.toNat) ∧ rw_q E m i c.toNat < rw_q E m i y.toNat ∧ rt_up (rw_p E m i) j x = y) (fun x hx => ?_) (fun x hx => ?_) (fun x hx => ?_) k _ _ ?_ z4
        · obtain ⟨hx1, y, j, hy, hq, hj⟩ := hx
          refine hp x ((vx_sm s).mpr hx1) (fun l hl => ?_)
          rw [s.1.2.1] at hl
          have hxn := ls_vx q hx1
          have e1 := rt_dep_ups t j x hxn (by rw [hj]; exact hy.1)
          have e2 := rt_dep_ups t l x hxn (by rw [hl]; exact hcn.1)
          rw [hj, rt_dep_nd t ⟨hy.1, hy.2.1, hy.2.2.2.1⟩, hy.2.2.2.2] at e1
          rw [hl, rt_dep_nd t hcn, hk.2.2.2.2] at e2
          have e3 : j = l := by omega
          rw [e3, hl] at hj
          rw [hj] at hq
          omega
        · by_cases e : rt_fk (rw_h E m i) (rw_p E m i) (rw_q E m i) x = -1
          · exact Or.inl e
          · obtain ⟨hx1, y, j, hy, hq, hj⟩ := hx
            have kk := rt_fk_kid e
            exact Or.inr ⟨ls_fk q hx1 e, y, j + 1, hy, hq, by rw [rt_up_1 kk.1, kk.2.2.1.2.2]; exact hj⟩
        · by_cases e : rt_nk (rw_h E m i) (rw_p E m i) (rw_q E m i) x = -1
          · exact Or.inl e
          · obtain ⟨hx1, y, j, hy, hq, hj⟩ := hx
            have kk := rt_nk_kid e
            cases j with
            | zero =>
              have hj : x = y := hj
              subst hj
              have hpx : rw_p E m i x.toNat = n := hy.2.2.2.2
              rw [hpx] at kk
              exact Or.inr ⟨ls_nk q hx1 (by rw [hpx]; exact hn.1) e, _, 0, ⟨kk.1, kk.2.1, kk.2.2.1⟩, by have := kk.2.2.2; omega, rfl⟩
            | succ j =>
              rw [rt_up_1 hx1.1] at hj
              have hpx : 0 ≤ rw_p E m i x.toNat := by
                by_cases e2 : 0 ≤ rw_p E m i x.toNat
                · exact e2
                · rw [rt_up_neg (by omega)] at hj
                  have := hy.1
                  omega
              exact Or.inr ⟨ls_nk q hx1 hpx e, y, j + 1, hy, hq, by rw [rt_up_1 kk.1, kk.2.2.1.2.2]; exact hj⟩
        · by_cases e : rt_nk (rw_h E m i) (rw_p E m i) (rw_q E m i) c = -1
          · exact Or.inl e
          · have kk := rt_nk_kid e
            rw [hk.2.2.2.2] at kk
            exact Or.inr ⟨ls_nk q hvc hpp e, _, 0, ⟨kk.1, kk.2.1, kk.2.2.1⟩, kk.2.2.2, rfl⟩
      · rw [h2]
        have hkd := v4.resolve_left z1
        have b9 : rt_kbk (rw_h E m 15) (rw_p E m 15) (rw_q E m 15) 150 (rw_p E m 15 d.toNat) (rw_q E m 15 d.toNat) (rt_nk (rw_h E m 15) (rw_p E m 15) (rw_q E m 15) d) := rt_kbf_kbk 150
        rw [hkd.2.2.2.2] at b9
        exact kd_is_of b9
      · refine (hp x ((vx_sm s).mpr hx) (fun j hj => ?_)).trans (v5 x hx hu)
        rw [s.1.2.1] at hj
        refine hu (j + 1) ?_
        rw [rt_up_add, hj]
        show rt_up (rw_p E m i) 1 c = n
        rw [rt_up_1 hcn.1]
        exact hk.2.2.2.2
/-! the pairs agree -/
def pi_ok (E : Nat → va_E) (m : Nat) : Prop := tw_el E m 47 0 = 0 ∧ ∀ b : Nat, (b : Int) < tw_fi E m 28 → tw_el E m 47 b = -1 ∨ (0 ≤ tw_el E m 47 b ∧ tw_el E m 47 b < tw_fi E m 50 ∧ tw_el E m 46 (tw_el E m 47 b).toNat = b)
theorem pi_pair {E E1 : Nat → va_E} {m : Nat} {a b : Int} (q : pi_ok E m) (a0 : 0 ≤ a) (a1 : a < tw_fi E m 50) (b0 : 1 ≤ b) (ha : tw_el E m 46 a.toNat = -1) (h46 : ∀ j : Nat, tw_el E1 m 46 j = if j = a.toNat then b else tw_el E m 46 j) (h47 : ∀ j : Nat, tw_el E1 m 47 j = if j = b.toNat then a else tw_el E m 47 j) (h28 : tw_fi E1 m 28 = tw_fi E m 28) (h50 : tw_fi E1 m 50 = tw_fi E m 50) : pi_ok E1 m := by
  refine ⟨by rw [h47, if_neg (by omega)]; exact q.1, fun c hc => ?_⟩
  rw [h28] at hc
  rw [h47, h50]
  by_cases e : c = b.toNat
  · rw [if_pos e, h46, if_pos rfl]
    exact Or.inr ⟨a0, a1, by omega⟩
  · rw [if_neg e]
    rcases q.2 c hc with z | ⟨z0, z1, z2⟩
    · exact Or.inl z
    · refine Or.inr ⟨z0, z1, ?_⟩
      rw [h46, if_neg (fun y => ?_)]
      · exact z2
      · rw [y, ha] at z2
        omega
section PIF
variable {D : va_G} {A : Nat → Prop} {H : Heap} {cs : Nat → ClassId} {kp : Nat → Nat} {L : List Nat} {E E1 : Nat → va_E} {ms : List (Nat × Nat)} {ks : List Nat} {m : Nat}
theorem pi_ok_fr (TH : tw_H D cs kp L E1 A H) (h : tw_fr kp L ms ks E E1) (hm : m ∈ L) (hk : kp m = 12) (h1 : ∀ x ∈ [(12, 28), (12, 46), (12, 47), (12, 50)], x ∉ ms) (h2 : ∀ x ∈ [355, 356], x ∉ ks) (q : pi_ok E m) : pi_ok E1 m := by
  unfold pi_ok
  rw [tw_fi_fr h hm hk (h1 (12, 28) (by decide)), tw_fi_fr h hm hk (h1 (12, 50) (by decide)), el_fr TH h hm hk (k := 46) (by decide) rfl (by decide) (h1 _ (by decide)) (h2 _ (by decide)), el_fr TH h hm hk (k := 47) (by decide) rfl (by decide) (h1 _ (by decide)) (h2 _ (by decide))]
  exact q
theorem tt_ok_fr (TH : tw_H D cs kp L E1 A H) (h : tw_fr kp L ms ks E E1) (hm : m ∈ L) (hk : kp m = 12) (h1 : ∀ x ∈ [(12, 16), (12, 18), (12, 19), (12, 28)], x ∉ ms) (h2 : ∀ x ∈ [316, 318, 319, 326, 328, 329], x ∉ ks) (q : tt_ok E m) : tt_ok E1 m := by
  unfold tt_ok
  rw [tw_fi_fr h hm hk (h1 (12, 28) (by decide)), rw_h_fr TH h hm hk (h1 _ (by decide)) (h2 _ (by decide)) (h2 _ (by decide)) (i := 15) (by decide), rw_p_fr TH h hm hk (h1 _ (by decide)) (h2 _ (by decide)) (h2 _ (by decide)) (i := 15) (by decide), rw_q_fr TH h hm hk (h1 _ (by decide)) (h2 _ (by decide)) (h2 _ (by decide)) (i := 15) (by decide)]
  exact q
end PIF
