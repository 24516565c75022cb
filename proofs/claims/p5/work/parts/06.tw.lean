/-! TYPED WORLDS: any number of cells, each of a kind; a kind says what its fields or elements may be. tw_N, tw_FT (fields of a class), tw_KD (kinds of arrays, from 100 on) stand ahead of this part. -/
/-- a value of a type: 0 an int between two bounds, 1 a long, 2 a reference to a cell of a kind, else null or such a reference -/
def tw_V (kp : Nat → Nat) (L : List Nat) (f : Nat × Int × Int) (v : Value) : Prop := match f.1 with
  | 0 => ∃ x : Int32, v = .int x ∧ f.2.1 ≤ x.toInt ∧ x.toInt ≤ f.2.2
  | 1 => ∃ x : Int64, v = .long x
  | 2 => ∃ a : Nat, v = .ref a ∧ a ∈ L ∧ kp a = f.2.1.toNat
  | _ => v = .null ∨ ∃ a : Nat, v = .ref a ∧ a ∈ L ∧ kp a = f.2.1.toNat
/-- what an array of a kind holds: 0 ints between bounds, 1 longs, 2 references to a kind, else null or such -/
def tw_C (kp : Nat → Nat) (L : List Nat) (d : Nat × Nat × Nat × Int × Int) (c : vp_A) : Prop := match d.1, c.2 with
  | 0, .inl f => ∀ j : Nat, j < c.1 → d.2.2.2.1 ≤ (f j).toInt ∧ (f j).toInt ≤ d.2.2.2.2
  | 1, .inr (.inl _) => True
  | 2, .inr (.inr (.inr (.inr f))) => ∀ j : Nat, j < c.1 → ∃ a : Nat, f j = some a ∧ a ∈ L ∧ kp a = d.2.2.2.1.toNat
  | 3, .inr (.inr (.inr (.inr f))) => ∀ j a : Nat, j < c.1 → f j = some a → a ∈ L ∧ kp a = d.2.2.2.1.toNat
  | _, _ => False
def tw_E (cs : Nat → ClassId) (kp : Nat → Nat) (L : List Nat) (k : Nat) (e : va_E) : Prop := match e with
  | .inr (ci, fs) => k = ci ∧ k < 100 ∧ fs.length = tw_N ci ∧ ∀ (j : Nat) (v : Value), fs[j]? = some v → tw_V kp L (tw_FT ci j) v
  | .inl (cA, c) => 100 ≤ k ∧ cA = cs (tw_KD k).2.1 ∧ c.1 = (tw_KD k).2.2.1 ∧ tw_C kp L (tw_KD k) c
def tw_ok (cs : Nat → ClassId) (kp : Nat → Nat) (L : List Nat) (E : Nat → va_E) : Prop := ∀ a, a ∈ L → tw_E cs kp L (kp a) (E a)
def tw_H (D : va_G) (cs : Nat → ClassId) (kp : Nat → Nat) (L : List Nat) (E : Nat → va_E) (A : Nat → Prop) (H : Heap) : Prop := va_P D vwCl (va_pl L E) H ∧ va_D A (va_pl L E) ∧ tw_ok cs kp L E
/-- field k of the object at a -/
def tw_fv (E : Nat → va_E) (a k : Nat) : Value := match E a with
  | .inr (_, fs) => fs.getD k .null
  | _ => .null
/-- element j of the array of ints at a -/
def tw_iv (E : Nat → va_E) (a j : Nat) : Int32 := match E a with
  | .inl (_, _, .inl f) => f j
  | _ => 0
theorem tw_obj {cs : Nat → ClassId} {kp : Nat → Nat} {L : List Nat} {E : Nat → va_E} (h : tw_ok cs kp L E) {a ci : Nat} (ha : a ∈ L) (hk : kp a = ci) (hlt : ci < 100) : ∃ fs : List Value, E a = .inr (ci, fs) ∧ fs.length = tw_N ci ∧ ∀ (j : Nat) (v : Value), fs[j]? = some v → tw_V kp L (tw_FT ci j) v := by
  have h1 := h a ha
  rw [hk] at h1
  cases he : E a with
  | inl x =>
    rw [he] at h1
    exact absurd h1.1 (by omega)
  | inr o =>
    obtain ⟨c2, fs⟩ := o
    rw [he] at h1
    obtain ⟨e1, -, e2, e3⟩ := h1
    subst e1
    exact ⟨fs, rfl, e2, e3⟩
theorem tw_arr {cs : Nat → ClassId} {kp : Nat → Nat} {L : List Nat} {E : Nat → va_E} (h : tw_ok cs kp L E) {a k : Nat} (ha : a ∈ L) (hk : kp a = k) (hge : 100 ≤ k) : ∃ c : vp_A, E a = .inl (cs (tw_KD k).2.1, c) ∧ c.1 = (tw_KD k).2.2.1 ∧ tw_C kp L (tw_KD k) c := by
  have h1 := h a ha
  rw [hk] at h1
  cases he : E a with
  | inr o =>
    obtain ⟨c2, fs⟩ := o
    rw [he] at h1
    exact absurd h1.2.1 (by omega)
  | inl x =>
    obtain ⟨cA, c⟩ := x
    rw [he] at h1
    obtain ⟨-, e2, e3, e4⟩ := h1
    subst e2
    exact ⟨c, rfl, e3, e4⟩
theorem tw_at {L : List Nat} {E : Nat → va_E} {a : Nat} (ha : a ∈ L) : ∃ q : Nat, (va_pl L E)[q]? = some (a, E a) := va_pl_get (X := []) ha
/-- a cell written anew -/
theorem tw_write {D : va_G} {cs : Nat → ClassId} {kp : Nat → Nat} {L : List Nat} {E : Nat → va_E} {A : Nat → Prop} {H H1 : Heap} {a q : Nat} {e : va_E} (TH : tw_H D cs kp L E A H) (ha : a ∈ L) (hq : (va_pl L E)[q]? = some (a, E a)) (he : tw_E cs kp L (kp a) e) (hP : va_P D vwCl ((va_pl L E).set q (a, e)) H1) (hD : va_D A ((va_pl L E).set q (a, e))) : tw_H D cs kp L (va_up E a e) A H1 := by
  have h9 : (va_pl L E).set q (a, e) = va_pl L (va_up E a e) := va_pl_set (X := []) TH.2.1 ha hq
  rw [h9] at hP hD
  refine ⟨hP, hD, fun b hb => ?_⟩
  by_cases hba : b = a
  · subst hba
    rw [va_up_self]
    exact he
  · rw [va_up_ne E e hba]
    exact TH.2.2 b hb
section TW
variable {p : Program} {l : Launch} {e : Env} {R : Room} {s : State} {m : MethodId} {args : Array Value} {below : List Frame} {meth : Method} {c : Code} {H : Heap} {locs : List Loc} {cells slots : Nat} {Q : State → Prop} {cc : ByteArray} {pc : Nat} {ls : Array Slot} {rest : List Value} {D : va_G} {A : Nat → Prop} {H0 : Heap} {cs : Nat → ClassId} {kp : Nat → Nat} {L : List Nat} {E : Nat → va_E} {a : Nat}
theorem tw_get (hexec : p.tables.exec = Jvm.exec) (hb : c.code = cc) {own ref C : String} {T : u_T} {N ci index : Nat} (hB : ∀ w ∈ cx_big, w.before args s = true) (hin : ∀ w ∈ u_ws C T N, w ∈ cx_big) (hown : s.vm.findClass own = some m.cls) (hK : va_K D vwCl (cx_TY cs) s) (TH : tw_H D cs kp L E A H) (ha : a ∈ L) (hk : kp a = ci) (hc : vwCl[ci]? = some (C, T, N)) (hN : ci < 100 ∧ tw_N ci = N) (k : Nat) (hkN : k < N) (hlink : Cond.fieldLink own index ref (T k).2.1 (T k).2.2.1 ∈ cx_big) (hsame : ∀ x, s.fieldFound? (T k).1 (T k).2.1 (T k).2.2.1 = some x → s.fieldFound? ref (T k).2.1 (T k).2.2.1 = some x) (hdg : decode cc pc = .ok (.getfield index, 3))
    (kk : tw_V kp L (tw_FT ci k) (tw_fv E a k) → W p l e R s m args below meth c H locs cells slots Q (F0 m (pc + 3) ls (tw_fv E a k :: rest))) : W p l e R s m args below meth c H locs cells slots Q (F0 m pc ls (.ref a :: rest)) := by
  obtain ⟨fs, he, hl, ht⟩ := tw_obj TH.2.2 ha hk hN.1
  obtain ⟨q, hq⟩ := tw_at (E := E) ha
  rw [he] at hq
  have hlt : k < fs.length := by rw [hl, hN.2]; exact hkN
  have hv : fs[k]? = some (fs.getD k .null) := by
    rw [List.getD_eq_getElem?_getD, List.getElem?_eq_getElem hlt]
    rfl
  have hf : tw_fv E a k = fs.getD k .null := by unfold tw_fv; rw [he]
  rw [hf] at kk
  exact va_get (D := D) hexec hb hB hin hown hK TH.1 q hq hc k hkN (hB _ hlink) hsame hv hdg (kk (ht k _ hv))
theorem tw_put (hexec : p.tables.exec = Jvm.exec) (hb : c.code = cc) {own ref C : String} {T : u_T} {N ci index : Nat} (hB : ∀ w ∈ cx_big, w.before args s = true) (hin : ∀ w ∈ u_ws C T N, w ∈ cx_big) (ty0 : Nat → FieldType) (hty : ∀ k, k < N → parseFieldDescriptor (T k).2.2.1 = some (ty0 k)) (hnm : ∀ a, a < N → ∀ b, b < N → a ≠ b → (T a).2.1 ≠ (T b).2.1) (hown : s.vm.findClass own = some m.cls) (hK : va_K D vwCl (cx_TY cs) s) (TH : tw_H D cs kp L E A H) (hS : va_S A H0 H locs) (ha : a ∈ L) (hk : kp a = ci) (hc : vwCl[ci]? = some (C, T, N)) (hN : ci < 100 ∧ tw_N ci = N) (k : Nat) (hkN : k < N) (hlink : Cond.fieldLink own index ref (T k).2.1 (T k).2.2.1 ∈ cx_big) (hsame : ∀ x, s.fieldFound? (T k).1 (T k).2.1 (T k).2.2.1 = some x → s.fieldFound? ref (T k).2.1 (T k).2.2.1 = some x) (hfin : (T k).2.2.2 = false) {ty : FieldType} {v : Value} (hd : parseFieldDescriptor (T k).2.2.1 = some ty) (hn : narrow ty v = v) (hfit : fits ty v = true) (hv : tw_V kp L (tw_FT ci k) v) (hdg : decode cc pc = .ok (.putfield index, 3))
    (kk : ∀ (H1 : Heap) (locs1 : List Loc) (E1 : Nat → va_E), tw_H D cs kp L E1 A H1 → va_S A H0 H1 locs1 → tw_fv E1 a k = v → (∀ b j : Nat, b ≠ a ∨ j ≠ k → tw_fv E1 b j = tw_fv E b j) → (∀ b : Nat, b ≠ a → E1 b = E b) → W p l e R s m args below meth c H1 locs1 cells slots Q (F0 m (pc + 3) ls rest)) : W p l e R s m args below meth c H locs cells slots Q (F0 m pc ls (v :: .ref a :: rest)) := by
  obtain ⟨fs, he, hl, ht⟩ := tw_obj TH.2.2 ha hk hN.1
  obtain ⟨q, hq⟩ := tw_at (E := E) ha
  have hq2 := hq
  rw [he] at hq2
  have hlt : k < fs.length := by rw [hl, hN.2]; exact hkN
  refine va_put (D := D) hexec hb hB hin ty0 hty hnm hown hK TH.1 TH.2.1 hS q hq2 hc k hkN (hB _ hlink) hsame hfin hd hn hfit hlt hdg (fun H1 locs1 hP1 hD1 hS1 => ?_)
  have hne : tw_E cs kp L (kp a) (.inr (ci, fs.set k v)) := by
    refine ⟨hk, by rw [hk]; exact hN.1, by rw [List.length_set]; exact hl, fun j w hj => ?_⟩
    by_cases hjk : k = j
    · subst hjk
      rw [List.getElem?_set_self hlt] at hj
      cases hj
      exact hv
    · rw [List.getElem?_set_ne hjk] at hj
      exact ht j w hj
  refine kk H1 locs1 (va_up E a (.inr (ci, fs.set k v))) (tw_write TH ha hq hne hP1 hD1) hS1 ?_ (fun b j hbj => ?_) (fun b hba => va_up_ne E _ hba)
  · unfold tw_fv
    rw [va_up_self]
    simp [List.getD_eq_getElem?_getD, List.getElem?_set_self hlt]
  · by_cases hba : b = a
    · subst hba
      have hjk : j ≠ k := by
        rcases hbj with h | h
        · exact absurd rfl h
        · exact h
      unfold tw_fv
      rw [va_up_self, he]
      simp [List.getD_eq_getElem?_getD, List.getElem?_set_ne (Ne.symm hjk)]
    · unfold tw_fv
      rw [va_up_ne E _ hba]
theorem tw_alen (hexec : p.tables.exec = Jvm.exec) (hb : c.code = cc) (hK : va_K D vwCl (cx_TY cs) s) (TH : tw_H D cs kp L E A H) (ha : a ∈ L) {k : Nat} (hk : kp a = k) (hge : 100 ≤ k) {ty : FieldType} (ht : (cx_TY cs)[(tw_KD k).2.1]? = some (cs (tw_KD k).2.1, ty)) {v : Int32} (hv : Int32.ofNat (tw_KD k).2.2.1 = v) (hdg : decode cc pc = .ok (.arraylength, 1))
    (kk : W p l e R s m args below meth c H locs cells slots Q (F0 m (pc + 1) ls (.int v :: rest))) : W p l e R s m args below meth c H locs cells slots Q (F0 m pc ls (.ref a :: rest)) := by
  obtain ⟨x, he, hl, -⟩ := tw_arr TH.2.2 ha hk hge
  obtain ⟨q, hq⟩ := tw_at (E := E) ha
  rw [he] at hq
  exact va_alen hexec hb hK TH.1 q _ hq ht (by rw [hl]; exact hv) hdg kk
theorem tw_iald (hexec : p.tables.exec = Jvm.exec) (hb : c.code = cc) (hK : va_K D vwCl (cx_TY cs) s) (TH : tw_H D cs kp L E A H) (ha : a ∈ L) {k t0 n : Nat} {lo hi : Int} (hk : kp a = k) (hge : 100 ≤ k) (hkd : tw_KD k = (0, t0, n, lo, hi)) (ht : (cx_TY cs)[t0]? = some (cs t0, .int)) {i : Int32} (hin : vp_in i n) (hdg : decode cc pc = .ok (.iaload, 1))
    (kk : lo ≤ (tw_iv E a i.toNatClampNeg).toInt → (tw_iv E a i.toNatClampNeg).toInt ≤ hi → W p l e R s m args below meth c H locs cells slots Q (F0 m (pc + 1) ls (.int (tw_iv E a i.toNatClampNeg) :: rest))) : W p l e R s m args below meth c H locs cells slots Q (F0 m pc ls (.int i :: .ref a :: rest)) := by
  obtain ⟨⟨n2, x⟩, he, hl, hC⟩ := tw_arr TH.2.2 ha hk hge
  obtain ⟨q, hq⟩ := tw_at (E := E) ha
  rw [hkd] at he hl hC
  have hl : n2 = n := hl
  subst hl
  have hlt : i.toNatClampNeg < n2 := Nat.not_le.mp fun q => hin (Or.inr q)
  match x, he, hC with
  | .inl f, he, hC =>
    rw [he] at hq
    have hf : tw_iv E a i.toNatClampNeg = f i.toNatClampNeg := by unfold tw_iv; rw [he]
    rw [hf] at kk
    have hb2 := hC i.toNatClampNeg hlt
    exact va_iald hexec hb hK TH.1 q t0 hq ht hin hdg (kk hb2.1 hb2.2)
theorem tw_bald (hexec : p.tables.exec = Jvm.exec) (hb : c.code = cc) (hK : va_K D vwCl (cx_TY cs) s) (TH : tw_H D cs kp L E A H) (ha : a ∈ L) {k t0 n : Nat} {lo hi : Int} (hk : kp a = k) (hge : 100 ≤ k) (hkd : tw_KD k = (0, t0, n, lo, hi)) (ht : (cx_TY cs)[t0]? = some (cs t0, .byte)) {i : Int32} (hin : vp_in i n) (hdg : decode cc pc = .ok (.baload, 1))
    (kk : lo ≤ (tw_iv E a i.toNatClampNeg).toInt → (tw_iv E a i.toNatClampNeg).toInt ≤ hi → W p l e R s m args below meth c H locs cells slots Q (F0 m (pc + 1) ls (.int (tw_iv E a i.toNatClampNeg) :: rest))) : W p l e R s m args below meth c H locs cells slots Q (F0 m pc ls (.int i :: .ref a :: rest)) := by
  obtain ⟨⟨n2, x⟩, he, hl, hC⟩ := tw_arr TH.2.2 ha hk hge
  obtain ⟨q, hq⟩ := tw_at (E := E) ha
  rw [hkd] at he hl hC
  have hl : n2 = n := hl
  subst hl
  have hlt : i.toNatClampNeg < n2 := Nat.not_le.mp fun q => hin (Or.inr q)
  match x, he, hC with
  | .inl f, he, hC =>
    rw [he] at hq
    have hf : tw_iv E a i.toNatClampNeg = f i.toNatClampNeg := by unfold tw_iv; rw [he]
    rw [hf] at kk
    have hb2 := hC i.toNatClampNeg hlt
    exact va_bald hexec hb hK TH.1 q t0 hq ht hin hdg (kk hb2.1 hb2.2)
theorem tw_zald (hexec : p.tables.exec = Jvm.exec) (hb : c.code = cc) (hK : va_K D vwCl (cx_TY cs) s) (TH : tw_H D cs kp L E A H) (ha : a ∈ L) {k t0 n : Nat} {lo hi : Int} (hk : kp a = k) (hge : 100 ≤ k) (hkd : tw_KD k = (0, t0, n, lo, hi)) (ht : (cx_TY cs)[t0]? = some (cs t0, .boolean)) {i : Int32} (hin : vp_in i n) (hdg : decode cc pc = .ok (.baload, 1))
    (kk : lo ≤ (tw_iv E a i.toNatClampNeg).toInt → (tw_iv E a i.toNatClampNeg).toInt ≤ hi → W p l e R s m args below meth c H locs cells slots Q (F0 m (pc + 1) ls (.int (tw_iv E a i.toNatClampNeg) :: rest))) : W p l e R s m args below meth c H locs cells slots Q (F0 m pc ls (.int i :: .ref a :: rest)) := by
  obtain ⟨⟨n2, x⟩, he, hl, hC⟩ := tw_arr TH.2.2 ha hk hge
  obtain ⟨q, hq⟩ := tw_at (E := E) ha
  rw [hkd] at he hl hC
  have hl : n2 = n := hl
  subst hl
  have hlt : i.toNatClampNeg < n2 := Nat.not_le.mp fun q => hin (Or.inr q)
  match x, he, hC with
  | .inl f, he, hC =>
    rw [he] at hq
    have hf : tw_iv E a i.toNatClampNeg = f i.toNatClampNeg := by unfold tw_iv; rw [he]
    rw [hf] at kk
    have hb2 := hC i.toNatClampNeg hlt
    exact va_zald hexec hb hK TH.1 q t0 hq ht hin hdg (kk hb2.1 hb2.2)
end TW
