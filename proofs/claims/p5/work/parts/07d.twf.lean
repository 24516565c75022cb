/-! typed worlds: frames (what fields and which kinds of arrays may have changed), further rows -/
def tw_fr (kp : Nat → Nat) (L : List Nat) (ms : List (Nat × Nat)) (ks : List Nat) (E E1 : Nat → va_E) : Prop := (∀ b j : Nat, b ∈ L → (kp b, j) ∉ ms → tw_fv E1 b j = tw_fv E b j) ∧ ∀ b : Nat, b ∈ L → 100 ≤ kp b → kp b ∉ ks → E1 b = E b
theorem tw_fr.rf {kp : Nat → Nat} {L : List Nat} {ms : List (Nat × Nat)} {ks : List Nat} {E : Nat → va_E} : tw_fr kp L ms ks E E := ⟨fun _ _ _ _ => rfl, fun _ _ _ _ => rfl⟩
theorem tw_fr.tr {kp kp1 : Nat → Nat} {L L1 : List Nat} {ms ms1 : List (Nat × Nat)} {ks ks1 : List Nat} {E E1 E2 : Nat → va_E} (h : tw_fr kp L ms ks E E1) (h1 : tw_fr kp1 L1 ms1 ks1 E1 E2) (hx : ∀ a : Nat, a ∈ L → a ∈ L1 ∧ kp1 a = kp a) (hm : ∀ x ∈ ms1, x ∈ ms) (hk : ∀ x ∈ ks1, x ∈ ks) : tw_fr kp L ms ks E E2 := by
  refine ⟨fun b j hb hn => ?_, fun b hb h100 hn => ?_⟩
  · obtain ⟨q1, q2⟩ := hx b hb
    exact (h1.1 b j q1 (fun z => hn (by rw [q2] at z; exact hm _ z))).trans (h.1 b j hb hn)
  · obtain ⟨q1, q2⟩ := hx b hb
    exact (h1.2 b q1 (by rw [q2]; exact h100) (fun z => hn (by rw [q2] at z; exact hk _ z))).trans (h.2 b hb h100 hn)
theorem tw_fr.put {kp : Nat → Nat} {L : List Nat} {ms : List (Nat × Nat)} {ks : List Nat} {E E1 E2 : Nat → va_E} {a ci k : Nat} (h : tw_fr kp L ms ks E E1) (hk : a ∈ L → kp a = ci) (hci : ci < 100) (hp2 : ∀ b j : Nat, b ≠ a ∨ j ≠ k → tw_fv E2 b j = tw_fv E1 b j) (hp3 : ∀ b : Nat, b ≠ a → E2 b = E1 b) (hin : (ci, k) ∈ ms) : tw_fr kp L ms ks E E2 := by
  refine ⟨fun b j hb hn => ?_, fun b hb h100 hn => ?_⟩
  · refine (hp2 b j ?_).trans (h.1 b j hb hn)
    by_cases hba : b = a
    · subst hba
      refine Or.inr (fun q => hn ?_)
      rw [hk hb, q]
      exact hin
    · exact Or.inl hba
  · refine (hp3 b ?_).trans (h.2 b hb h100 hn)
    intro q
    subst q
    rw [hk hb] at h100
    omega
theorem tw_fr.ast {kp : Nat → Nat} {L : List Nat} {ms : List (Nat × Nat)} {ks : List Nat} {E E1 E2 : Nat → va_E} {a k : Nat} (h : tw_fr kp L ms ks E E1) (hk : a ∈ L → kp a = k) (hp2 : ∀ b j : Nat, tw_fv E2 b j = tw_fv E1 b j) (hp3 : ∀ b : Nat, b ≠ a → E2 b = E1 b) (hin : k ∈ ks) : tw_fr kp L ms ks E E2 := by
  refine ⟨fun b j hb hn => (hp2 b j).trans (h.1 b j hb hn), fun b hb h100 hn => ?_⟩
  refine (hp3 b ?_).trans (h.2 b hb h100 hn)
  intro q
  subst q
  exact hn (by rw [hk hb]; exact hin)
section TWF
variable {p : Program} {l : Launch} {e : Env} {R : Room} {s : State} {m : MethodId} {args : Array Value} {below : List Frame} {meth : Method} {c : Code} {H : Heap} {locs : List Loc} {cells slots : Nat} {Q : State → Prop} {cc : ByteArray} {pc : Nat} {ls : Array Slot} {rest : List Value} {D : va_G} {A : Nat → Prop} {H0 : Heap} {cs : Nat → ClassId} {kp : Nat → Nat} {L : List Nat} {E : Nat → va_E} {a mc ms : Nat} {post : Option Value → (Nat → Nat) → List Nat → (Nat → va_E) → Prop}
/-- an int field of a cell, read without an instruction -/
theorem tw_rd (TH : tw_H D cs kp L E A H) (ha : a ∈ L) {ci k : Nat} (hk : kp a = ci) (hlt : ci < 100) (hN : k < tw_N ci) {lo hi : Int} (hf : tw_FT ci k = (0, lo, hi)) : ∃ x : Int32, tw_fv E a k = .int x ∧ lo ≤ x.toInt ∧ x.toInt ≤ hi := by
  obtain ⟨fs, he, hl, ht⟩ := tw_obj TH.2.2 ha hk hlt
  have hlt2 : k < fs.length := by rw [hl]; exact hN
  have hv : fs[k]? = some (fs.getD k .null) := by
    rw [List.getD_eq_getElem?_getD, List.getElem?_eq_getElem hlt2]
    rfl
  have hfv : tw_fv E a k = fs.getD k .null := by unfold tw_fv; rw [he]
  have h := ht k _ hv
  rw [hf] at h
  obtain ⟨x, e1, e2, e3⟩ := h
  exact ⟨x, by rw [hfv]; exact e1, e2, e3⟩
theorem tw_lret {kp0 : Nat → Nat} {L0 : List Nat} {x : Int64} (hx : p.tables.exec = Jvm.exec) (hb : c.code = cc) (hr : meth.sig.returnType = some .long) (hlocks : meth.locks = false) (TH : tw_H D cs kp L E A H) (hS : va_S A s.heap H locs) (hext : ∀ a : Nat, a ∈ L0 → a ∈ L ∧ kp a = kp0 a) (hp : post (some (.long x)) kp L E) (hc : cells ≤ mc) (hs : slots ≤ ms) (hdg : decode cc pc = .ok (.lreturn, 1)) : W p l e R s m args below meth c H locs cells slots (MQ below (tw_Q D cs kp0 L0 post A) args s mc ms A) (F0 m pc ls [.long x]) := by
  refine W.widen hc hs ?_
  exact W.lret hx hb hr (fun t ht hW => ⟨⟨some (.long x), kp, L, E, rfl, hp, hext, by rw [ht]; exact TH⟩, hS.F ht⟩) hS.2.2 hdg hlocks
theorem tw_aret {kp0 : Nat → Nat} {L0 : List Nat} {C : String} {v : Value} (hx : p.tables.exec = Jvm.exec) (hb : c.code = cc) (hr : meth.sig.returnType = some (.object C)) (hlocks : meth.locks = false) (hv : v = .null ∨ ∃ a, v = .ref a) (TH : tw_H D cs kp L E A H) (hS : va_S A s.heap H locs) (hext : ∀ a : Nat, a ∈ L0 → a ∈ L ∧ kp a = kp0 a) (hp : post (some v) kp L E) (hc : cells ≤ mc) (hs : slots ≤ ms) (hdg : decode cc pc = .ok (.areturn, 1)) : W p l e R s m args below meth c H locs cells slots (MQ below (tw_Q D cs kp0 L0 post A) args s mc ms A) (F0 m pc ls [v]) := by
  refine W.widen hc hs ?_
  exact W.aret hx hb hr (Or.inl ⟨_, rfl⟩) hv (fun t ht hW => ⟨⟨some v, kp, L, E, rfl, hp, hext, by rw [ht]; exact TH⟩, hS.F ht⟩) hS.2.2 hdg hlocks
/-- an element of an array of references, null or of a kind -/
theorem tw_naald (hexec : p.tables.exec = Jvm.exec) (hb : c.code = cc) (hK : va_K D vwCl (cx_TY cs) s) (TH : tw_H D cs kp L E A H) (ha : a ∈ L) {k t0 n : Nat} {lo hi : Int} {C : String} (hk : kp a = k) (hge : 100 ≤ k) (hkd : tw_KD k = (3, t0, n, lo, hi)) (ht : (cx_TY cs)[t0]? = some (cs t0, .object C)) {i : Int32} (hin : vp_in i n) (hdg : decode cc pc = .ok (.aaload, 1))
    (k0 : W p l e R s m args below meth c H locs cells slots Q (F0 m (pc + 1) ls (.null :: rest)))
    (kk : ∀ b : Nat, b ∈ L → kp b = lo.toNat → W p l e R s m args below meth c H locs cells slots Q (F0 m (pc + 1) ls (.ref b :: rest))) : W p l e R s m args below meth c H locs cells slots Q (F0 m pc ls (.int i :: .ref a :: rest)) := by
  obtain ⟨⟨n2, x⟩, he, hl, hC⟩ := tw_arr TH.2.2 ha hk hge
  obtain ⟨q, hq⟩ := tw_at (E := E) ha
  rw [hkd] at he hl hC
  have hl : n2 = n := hl
  subst hl
  have hlt : i.toNatClampNeg < n2 := Nat.not_le.mp fun q => hin (Or.inr q)
  match x, he, hC with
  | .inr (.inr (.inr (.inr f))), he, hC =>
    rw [he] at hq
    refine va_aldq hexec hb hK TH.1 q t0 hq ht hin hdg ?_
    cases hf : f i.toNatClampNeg with
    | none => exact k0
    | some b =>
      obtain ⟨h1, h2⟩ := hC i.toNatClampNeg b hlt hf
      exact kk b h1 h2
/-- a copy of ints from one array into another -/
theorem tw_copyi (hexec : p.tables.exec = Jvm.exec) (hb : c.code = cc) (hml : c.maxLocals = ls.size) {own : String} {index : Nat} (hown : s.vm.findClass own = some m.cls) (hlink : (Cond.methodLink own index arraycopyName).before args s = true) (hnat : (Cond.native arraycopyName).before args s = true) (hstat : (Cond.static arraycopyName).before args s = true) (hini : (Cond.initialized "java/lang/System").before args s = true)
    (hK : va_K D vwCl (cx_TY cs) s) (TH : tw_H D cs kp L E A H) (hS : va_S A H0 H locs) {a0 k0 k n0 n1 : Nat} {lo hi lo0 hi0 : Int} (ha0 : a0 ∈ L) (hk0 : kp a0 = k0) (hge0 : 100 ≤ k0) (hkd0 : tw_KD k0 = (0, 0, n0, lo0, hi0)) (ha : a ∈ L) (hk : kp a = k) (hge : 100 ≤ k) (hkd : tw_KD k = (0, 0, n1, lo, hi)) (hlo : lo ≤ lo0) (hhi : hi0 ≤ hi)
    {sp dp n : Int32} (h1 : 0 ≤ sp.toInt) (h2 : 0 ≤ dp.toInt) (h3 : 0 ≤ n.toInt) (h4 : sp.toInt + n.toInt ≤ n0) (h5 : dp.toInt + n.toInt ≤ n1)
    (hframes : 1 ≤ R.frames) (hlocals : (rest.map fun v => v.category).sum + (nativeFrameWords "java/lang/System" "arraycopy" 5 + 11) ≤ R.locals) (hdg : decode cc pc = .ok (.invokestatic index, 3))
    (kk : ∀ (H1 : Heap) (locs1 : List Loc) (E1 : Nat → va_E), tw_H D cs kp L E1 A H1 → va_S A H0 H1 locs1 → (∀ b j : Nat, tw_fv E1 b j = tw_fv E b j) → (∀ b : Nat, b ≠ a → E1 b = E b) → (∀ j : Nat, tw_iv E1 a j = va_cpy (tw_iv E a0) (tw_iv E a) sp.toNatClampNeg dp.toNatClampNeg n.toNatClampNeg j) → W p l e R s m args below meth c H1 locs1 cells slots Q (F0 m (pc + 3) ls rest)) : W p l e R s m args below meth c H locs cells slots Q (F0 m pc ls (.int n :: .int dp :: .ref a :: .int sp :: .ref a0 :: rest)) := by
  obtain ⟨⟨m0, x⟩, he0, hl0, hC0⟩ := tw_arr TH.2.2 ha0 hk0 hge0
  obtain ⟨⟨m1, y⟩, he, hl, hC⟩ := tw_arr TH.2.2 ha hk hge
  obtain ⟨q0, hq0⟩ := tw_at (E := E) ha0
  obtain ⟨q, hq⟩ := tw_at (E := E) ha
  rw [hkd0] at he0 hl0 hC0
  rw [hkd] at he hl hC
  have hl0 : m0 = n0 := hl0
  have hl : m1 = n1 := hl
  subst hl0
  subst hl
  have nn : ∀ z : Int32, 0 ≤ z.toInt → z.toInt = (z.toNatClampNeg : Int) := by
    intro z hz
    show z.toInt = ((z.toInt.toNat : Nat) : Int)
    omega
  have nl : ∀ z : Int32, 0 ≤ z.toInt → ¬ z < 0 := by
    intro z hz h
    have := (fa_lt _ _).mp h
    have z0 : ((0 : Int32).toInt) = 0 := by decide
    omega
  have e1 := nn _ h1
  have e2 := nn _ h2
  have e3 := nn _ h3
  match x, he0, hC0, y, he, hC with
  | .inl f, he0, hC0, .inl g, he, hC =>
    have hq2 := hq
    rw [he0] at hq0
    rw [he] at hq2
    refine va_copyi hexec hb hml hown hlink hnat hstat hini hK TH.1 TH.2.1 hS q0 q 0 0 hq0 hq2 (ty := .int) rfl rfl rfl (nl _ h1) (nl _ h2) (nl _ h3) (by omega) (by omega) (fun i _ => rfl) hframes hlocals hdg (fun H1 locs1 hP1 hD1 hS1 => ?_)
    have hne : tw_E cs kp L (kp a) (.inl (cs 0, m1, .inl (va_cpy f g sp.toNatClampNeg dp.toNatClampNeg n.toNatClampNeg))) := by
      refine ⟨by rw [hk]; exact hge, by rw [hk, hkd], by rw [hk, hkd], ?_⟩
      rw [hk, hkd]
      intro j hj
      show lo ≤ (va_cpy f g sp.toNatClampNeg dp.toNatClampNeg n.toNatClampNeg j).toInt ∧ (va_cpy f g sp.toNatClampNeg dp.toNatClampNeg n.toNatClampNeg j).toInt ≤ hi
      unfold va_cpy
      split
      · rename_i hin
        have hb2 := hC0 (sp.toNatClampNeg + (j - dp.toNatClampNeg)) (show _ < m0 by omega)
        exact ⟨Int.le_trans hlo hb2.1, Int.le_trans hb2.2 hhi⟩
      · exact hC j hj
    refine kk H1 locs1 _ (tw_write TH ha hq hne hP1 hD1) hS1 (fun b j => tw_fv_arr he _ b j) (fun b hba => va_up_ne E _ hba) (fun j => ?_)
    have f1 : tw_iv E a0 = f := by funext j; unfold tw_iv; rw [he0]
    have f2 : tw_iv E a = g := by funext j; unfold tw_iv; rw [he]
    rw [f1, f2]
    unfold tw_iv
    rw [va_up_self]
theorem tw_topl {x : Int64} (k : ∀ y : Int64, y = x → W p l e R s m args below meth c H locs cells slots Q (F0 m pc ls (.long y :: rest))) : W p l e R s m args below meth c H locs cells slots Q (F0 m pc ls (.long x :: rest)) := k x rfl
end TWF
