/-! typed worlds: new cells; contracts of constructors -/
theorem tw_Pm {D : va_G} {cl : List vw_C} {ws : va_W} {H : Heap} : va_P D cl ws H ↔ ∀ x ∈ ws, va_at D cl x H := ⟨fun h x hx => by
  obtain ⟨k, hk⟩ := List.getElem?_of_mem hx
  exact h k x hk, fun h _ q hk => h q (List.mem_of_getElem? hk)⟩
theorem tw_Dm {A : Nat → Prop} {ws : va_W} : va_D A ws ↔ (ws.map Prod.fst).Nodup ∧ ∀ x ∈ ws, A x.1 := by
  constructor
  · intro h
    refine ⟨?_, fun x hx => ?_⟩
    · rw [List.Nodup, List.pairwise_iff_getElem]
      intro i j hi hj hij e
      rw [List.length_map] at hi hj
      rw [List.getElem_map, List.getElem_map] at e
      have := h.1 i j ws[i] ws[j] (List.getElem?_eq_getElem hi) (List.getElem?_eq_getElem hj) e
      omega
    · obtain ⟨k, hk⟩ := List.getElem?_of_mem hx
      exact h.2 k x hk
  · rintro ⟨h1, h2⟩
    refine ⟨fun i j p q hi hj e => ?_, fun k q hk => h2 q (List.mem_of_getElem? hk)⟩
    rw [List.Nodup, List.pairwise_iff_getElem] at h1
    obtain ⟨hi', ei⟩ := List.getElem?_eq_some_iff.mp hi
    obtain ⟨hj', ej⟩ := List.getElem?_eq_some_iff.mp hj
    rcases Nat.lt_trichotomy i j with g | g | g
    · exact absurd (by rw [List.getElem_map, List.getElem_map, ei, ej]; exact e) (h1 i j (by rw [List.length_map]; exact hi') (by rw [List.length_map]; exact hj') g)
    · exact g
    · exact absurd (by rw [List.getElem_map, List.getElem_map, ei, ej]; exact e.symm) (h1 j i (by rw [List.length_map]; exact hj') (by rw [List.length_map]; exact hi') g)
theorem tw_plm {L : List Nat} {E : Nat → va_E} : (va_pl L E).map Prod.fst = L := by
  unfold va_pl
  rw [List.map_map]
  exact (List.map_congr_left (fun _ _ => rfl)).trans (List.map_id L)
theorem tw_plx {L : List Nat} {E : Nat → va_E} {x : Nat × va_E} : x ∈ va_pl L E ↔ x.1 ∈ L ∧ x.2 = E x.1 := by
  unfold va_pl
  constructor
  · intro h
    obtain ⟨a, ha, rfl⟩ := List.mem_map.mp h
    exact ⟨ha, rfl⟩
  · rintro ⟨h1, h2⟩
    exact List.mem_map.mpr ⟨x.1, h1, by rw [← h2]⟩
theorem tw_V_mono {kp kp1 : Nat → Nat} {L L1 : List Nat} (hx : ∀ a : Nat, a ∈ L → a ∈ L1 ∧ kp1 a = kp a) : ∀ (f : Nat × Int × Int) (v : Value), tw_V kp L f v → tw_V kp1 L1 f v
  | (0, _, _), _, h => h
  | (1, _, _), _, h => h
  | (2, _, _), _, h => by
    obtain ⟨a, e, ha, hk⟩ := h
    exact ⟨a, e, (hx a ha).1, ((hx a ha).2).trans hk⟩
  | (_ + 3, _, _), _, h => by
    rcases h with h | ⟨a, e, ha, hk⟩
    · exact Or.inl h
    · exact Or.inr ⟨a, e, (hx a ha).1, ((hx a ha).2).trans hk⟩
theorem tw_C_mono {kp kp1 : Nat → Nat} {L L1 : List Nat} (hx : ∀ a : Nat, a ∈ L → a ∈ L1 ∧ kp1 a = kp a) (d : Nat × Nat × Nat × Int × Int) (c : vp_A) (h : tw_C kp L d c) : tw_C kp1 L1 d c := by
  obtain ⟨t, t0, n, lo, hi⟩ := d
  obtain ⟨m, x⟩ := c
  match t, x, h with
  | 0, .inl f, h => exact h
  | 1, .inr (.inl f), h => exact trivial
  | 2, .inr (.inr (.inr (.inr f))), h =>
    intro j hj
    obtain ⟨a, e, ha, hk⟩ := h j hj
    exact ⟨a, e, (hx a ha).1, ((hx a ha).2).trans hk⟩
  | 3, .inr (.inr (.inr (.inr f))), h =>
    intro j a hj hf
    obtain ⟨ha, hk⟩ := h j a hj hf
    exact ⟨(hx a ha).1, ((hx a ha).2).trans hk⟩
theorem tw_E_mono {cs : Nat → ClassId} {kp kp1 : Nat → Nat} {L L1 : List Nat} (hx : ∀ a : Nat, a ∈ L → a ∈ L1 ∧ kp1 a = kp a) (k : Nat) (e : va_E) (h : tw_E cs kp L k e) : tw_E cs kp1 L1 k e := by
  match e, h with
  | .inr (ci, fs), h => exact ⟨h.1, h.2.1, h.2.2.1, fun j v hv => tw_V_mono hx _ _ (h.2.2.2 j v hv)⟩
  | .inl (cA, c), h => exact ⟨h.1, h.2.1, h.2.2.1, tw_C_mono hx _ _ h.2.2.2⟩
/-- a cell that is new comes into the typed world -/
theorem tw_abs {D : va_G} {cs : Nat → ClassId} {kp : Nat → Nat} {L : List Nat} {E : Nat → va_E} {A : Nat → Prop} {H : Heap} {Xs : va_W} {q k : Nat} {e : va_E} (hP : va_P D vwCl ((Xs ++ va_pl L E) ++ [(q, e)]) H) (hD : va_D A ((Xs ++ va_pl L E) ++ [(q, e)])) (hT : tw_ok cs kp L E) (he : ∀ kp1 : Nat → Nat, (∀ a : Nat, a ∈ L → a ∈ L ++ [q] ∧ kp1 a = kp a) → kp1 q = k → tw_E cs kp1 (L ++ [q]) k e) :
    ∃ (kp1 : Nat → Nat) (E1 : Nat → va_E), va_P D vwCl (Xs ++ va_pl (L ++ [q]) E1) H ∧ va_D A (Xs ++ va_pl (L ++ [q]) E1) ∧ tw_ok cs kp1 (L ++ [q]) E1 ∧ (∀ a : Nat, a ∈ L → a ∈ L ++ [q] ∧ kp1 a = kp a ∧ E1 a = E a) ∧ kp1 q = k ∧ E1 q = e ∧ q ∉ L := by
  have hq : q ∉ L := va_pl_fresh2 hD
  have hx : ∀ a : Nat, a ∈ L → a ∈ L ++ [q] ∧ va_up kp q k a = kp a := fun a ha => ⟨List.mem_append_left _ ha, va_up_ne kp k (fun z : a = q => hq (z ▸ ha))⟩
  rw [List.append_assoc, va_pl_push hq] at hP hD
  refine ⟨va_up kp q k, va_up E q e, hP, hD, fun a ha => ?_, fun a ha => ⟨(hx a ha).1, (hx a ha).2, va_up_ne E e (fun z : a = q => hq (z ▸ ha))⟩, va_up_self kp q k, va_up_self E q e, hq⟩
  rcases List.mem_append.mp ha with h | h
  · rw [(hx a h).2, va_up_ne E e (fun z : a = q => hq (z ▸ h))]
    exact tw_E_mono hx _ _ (hT a h)
  · have e1 : a = q := by simpa using h
    subst e1
    rw [va_up_self, va_up_self]
    exact he _ hx (va_up_self kp a k)
/-- contracts of constructors: beside the typed world lies the new object, not yet of its kind -/
def tw_Pi (D : va_G) (cs : Nat → ClassId) (kp : Nat → Nat) (L : List Nat) (E : Nat → va_E) (X : Nat × va_E) (sz : Nat) : Array Value → State → Prop := va_Pc [.ref X.1] (fun U => U.heap.size = sz ∧ va_P D vwCl ([X] ++ va_pl L E) U.heap ∧ va_D (fun _ => True) ([X] ++ va_pl L E) ∧ tw_ok cs kp L E ∧ va_K D vwCl (cx_TY cs) U ∧ cx_NW U)
def tw_Qi (D : va_G) (cs : Nat → ClassId) (kp : Nat → Nat) (L : List Nat) (E : Nat → va_E) (o ci : Nat) (post : List Nat → (Nat → va_E) → Prop) (A : Nat → Prop) : Array Value → State → Outcome → State → Prop := fun _ st oc t => (∃ (kp1 : Nat → Nat) (L1 : List Nat) (E1 : Nat → va_E), oc = .returned none ∧ (∀ a : Nat, a ∈ L → a ∈ L1 ∧ kp1 a = kp a ∧ E1 a = E a) ∧ (o ∈ L1 ∧ kp1 o = ci) ∧ post L1 E1 ∧ tw_H D cs kp1 L1 E1 A t.heap) ∧ va_F A st t
section TWI
variable {p : Program} {l : Launch} {e : Env} {R : Room} {s : State} {m : MethodId} {args : Array Value} {below : List Frame} {meth : Method} {c : Code} {H : Heap} {locs : List Loc} {cells slots : Nat} {Q : State → Prop} {cc : ByteArray} {pc : Nat} {ls : Array Slot} {rest st0 : List Value} {D : va_G} {A : Nat → Prop} {H0 : Heap} {cs : Nat → ClassId} {kp : Nat → Nat} {L : List Nat} {E : Nat → va_E}
variable {y : MethodName} {bytes : ByteArray} {maxL nL mc ms n index : Nat} {rm : Room} {own : String}
theorem tw_Pi.blind {X : Nat × va_E} {sz : Nat} : FrameBlind (tw_Pi D cs kp L E X sz) := fun a U g mk q => by
  obtain ⟨q0, q1, qP, qD, qT, qK, qN⟩ := q
  exact ⟨q0, q1, qP, qD, qT, va_K.moved (u := U) (U := U.calling g mk a) (Vm.Alike.refl U.vm) qK, cx_NW.same (u := U) (U := U.calling g mk a) rfl qN⟩
theorem tw_Pi.at {X : Nat × va_E} (hP : va_P D vwCl ([X] ++ va_pl L E) H) (hD : va_D A ([X] ++ va_pl L E)) (hT : tw_ok cs kp L E) (hK : va_K D vwCl (cx_TY cs) s) (hN : cx_NW s) : ∀ U : State, U.heap = H → s.WarmedH U.vm → tw_Pi D cs kp L E X H.size [.ref X.1].toArray U := fun U hU hW =>
  ⟨rfl, by rw [hU], by rw [hU]; exact hP, hD.weaken (fun _ _ _ _ => trivial), hT, va_K.moved hW.alike hK, hN.warm hW⟩
theorem tw_Iof {X : Nat × va_E} {ci sz : Nat} {post : List Nat → (Nat → va_E) → Prop} (hy : plainName y.cls = true) (hlen : (lg_sl [.ref X.1]).length ≤ maxL)
    (body : ∀ (p : Program) (e : Env) (s : State) (m : MethodId) (below : List Frame) (meth : Method) (c : Code) (A : Nat → Prop) (ls : Array Slot), p.tables.exec = Jvm.exec → c.code = bytes → meth.sig.returnType = none → c.maxLocals = maxL → (∀ w ∈ cx_big, w.before [.ref X.1].toArray s = true) → s.vm.findClass y.cls = some m.cls → meth.locks = false → meth.name = y.name → va_K D vwCl (cx_TY cs) s → cx_NW s → (∀ q : Nat, s.heap.size ≤ q → A q) → va_P D vwCl ([X] ++ va_pl L E) s.heap → va_D A ([X] ++ va_pl L E) → tw_ok cs kp L E → va_S A s.heap s.heap [] → lv_has ls maxL (lv_args 0 [.ref X.1]) →
      W p l e rm s m [.ref X.1].toArray below meth c s.heap [] 0 0 (MQ below (tw_Qi D cs kp L E X.1 ci post A) [.ref X.1].toArray s mc ms A) (F0 m 0 ls [])) :
    Met l y (.code y bytes maxL none :: cx_big) rm (tw_Pi D cs kp L E X sz) (tw_Qi D cs kp L E X.1 ci post (va_A ([X] ++ va_pl L E) sz)) mc ms (va_A ([X] ++ va_pl L E) sz) := by
  refine Met.ofW (cc := bytes) (maxL := maxL) (ret := none) hy rfl ?_
  intro p e s m args below meth c s₁ B hml hv
  obtain ⟨rfl, hsz, hP, hD, hT, hK, hN⟩ := hv
  have hts := atoms_spec (ws := .code y bytes maxL none :: cx_big) B.pre
  subst hsz
  have hl := lv_entry [.ref X.1] (n := maxL) hlen
  rw [lg_entry_eq]
  generalize (lg_sl [.ref X.1] ++ List.replicate (maxL - (lg_sl [.ref X.1]).length) Slot.unset).toArray = ls at hl ⊢
  exact body p e s m below meth c (va_A ([X] ++ va_pl L E) s.heap.size) ls B.exec B.bytes B.returns hml (fun w h => hts w (List.mem_cons_of_mem _ h)) (findClass_of_methodNamed B.named) B.notSynchronized (name_of_methodNamed B.named B.method).1 hK hN (fun q h => Or.inr h) hP (hD.self (sz := s.heap.size)) hT va_S.rf hl
/-- the end of a constructor: the object is of its kind -/
theorem tw_Iret {kp0 : Nat → Nat} {L0 : List Nat} {E0 : Nat → va_E} {o ci : Nat} {fs : List Value} {post : List Nat → (Nat → va_E) → Prop} (hx : p.tables.exec = Jvm.exec) (hb : c.code = cc) (hr : meth.sig.returnType = none) (hlocks : meth.locks = false) (hP : va_P D vwCl ([(o, .inr (ci, fs))] ++ va_pl L E) H) (hD : va_D A ([(o, .inr (ci, fs))] ++ va_pl L E)) (hT : tw_ok cs kp L E) (hS : va_S A s.heap H locs) (hext : ∀ a : Nat, a ∈ L0 → a ∈ L ∧ kp a = kp0 a ∧ E a = E0 a) (hci : ci < 100) (hl : fs.length = tw_N ci) (hf : ∀ (j : Nat) (v : Value), fs[j]? = some v → tw_V kp L (tw_FT ci j) v) (hp : o ∉ L → ∀ E1 : Nat → va_E, E1 o = .inr (ci, fs) → (∀ a : Nat, a ∈ L → E1 a = E a) → post (L ++ [o]) E1) (hc : cells ≤ mc) (hs : slots ≤ ms) (hdg : decode cc pc = .ok (.return_, 1)) : W p l e R s m args below meth c H locs cells slots (MQ below (tw_Qi D cs kp0 L0 E0 o ci post A) args s mc ms A) (F0 m pc ls []) := by
  have hP2 : va_P D vwCl (([] ++ va_pl L E) ++ [(o, .inr (ci, fs))]) H := tw_Pm.mpr (fun x hx => tw_Pm.mp hP x (by simp only [List.nil_append, List.mem_append] at hx ⊢; exact hx.symm))
  have hD2 : va_D A (([] ++ va_pl L E) ++ [(o, .inr (ci, fs))]) := by
    obtain ⟨d1, d2⟩ := tw_Dm.mp hD
    refine tw_Dm.mpr ⟨?_, fun x hx => d2 x (by simp only [List.nil_append, List.mem_append] at hx ⊢; exact hx.symm)⟩
    rw [List.map_append, tw_plm] at d1
    rw [List.map_append, List.nil_append, tw_plm]
    rw [List.nodup_append] at d1 ⊢
    exact ⟨d1.2.1, d1.1, fun a ha b hb => Ne.symm (d1.2.2 b hb a ha)⟩
  obtain ⟨kp1, E1, k1, k2, k3, k4, k5, k6, k7⟩ := tw_abs (k := ci) hP2 hD2 hT (fun kp1 h1 h2 => ⟨rfl, hci, hl, fun j v hv => tw_V_mono h1 _ _ (hf j v hv)⟩)
  refine W.widen hc hs ?_
  refine W.vret hx hb hr (fun t ht hW => ⟨⟨kp1, L ++ [o], E1, rfl, fun a ha => ?_, ⟨by simp, k5⟩, hp k7 E1 k6 (fun a ha => (k4 a ha).2.2), ?_⟩, hS.F ht⟩) hS.2.2 hdg hlocks
  · obtain ⟨h1, h2, h3⟩ := hext a ha
    exact ⟨(k4 a h1).1, (k4 a h1).2.1.trans h2, (k4 a h1).2.2.trans h3⟩
  · rw [ht]
    exact ⟨k1, k2, k3⟩
/-- a constructor's call, from a world that holds other cells beside the typed ones -/
theorem tw_Icall {Xs : va_W} {o ci : Nat} {fs : List Value} {post : List Nat → (Nat → va_E) → Prop} {v0 : Array Value} (hr : va_Run p l e R s m args below meth c H locs cells slots mc ms (F0 m pc ls st0) rest (tw_Qi D cs kp L E o ci post (va_A ([(o, .inr (ci, fs))] ++ va_pl L E) H.size) v0) (va_A ([(o, .inr (ci, fs))] ++ va_pl L E) H.size)) (hP : va_P D vwCl ((Xs ++ va_pl L E) ++ [(o, .inr (ci, fs))]) H) (hD : va_D A ((Xs ++ va_pl L E) ++ [(o, .inr (ci, fs))])) (hS : va_S A H0 H locs) (hA : ∀ q, H0.size ≤ q → A q)
    (kk : ∀ (kp1 : Nat → Nat) (L1 : List Nat) (E1 : Nat → va_E) (H1 : Heap) (locs1 : List Loc), (∀ a : Nat, a ∈ L → a ∈ L1 ∧ kp1 a = kp a ∧ E1 a = E a) → o ∈ L1 → kp1 o = ci → o ∉ L → post L1 E1 → va_P D vwCl (Xs ++ va_pl L1 E1) H1 → va_D A (Xs ++ va_pl L1 E1) → tw_ok cs kp1 L1 E1 → va_S A H0 H1 locs1 → W p l e R s m args below meth c H1 locs1 (cells + mc) (slots + ms) Q (F0 m (pc + 3) ls rest)) : W p l e R s m args below meth c H locs cells slots Q (F0 m pc ls st0) := by
  obtain ⟨d1, d2⟩ := tw_Dm.mp hD
  have hF : ∀ q, va_A ([(o, .inr (ci, fs))] ++ va_pl L E) H.size q → A q := fun q h => by
    rcases h with ⟨k, x, h⟩ | h
    · refine d2 (q, x) ?_
      have := List.mem_of_getElem? h
      simp only [List.mem_append] at this ⊢
      rcases this with h | h
      · exact Or.inr h
      · exact Or.inl (Or.inr h)
    · exact hA q (Nat.le_trans hS.1 h)
  have hq : o ∉ L := va_pl_fresh2 hD
  intro T hT X
  obtain ⟨v', st₀, t, T', J, h0, X', hJ, e1, e2, ⟨⟨kp1, L1, E1, hv, hx, ho, hp, hh⟩, hz, hk⟩, st⟩ := hr T hT X
  cases hv
  rw [h0] at hz hk
  have hk1 : ∀ q : Nat, q < H.size → ¬ va_A ([(o, .inr (ci, fs))] ++ va_pl L E) H.size q → T'.heap[q]? = H[q]? := fun q h1 h2 => by rw [e1]; exact hk q h1 h2
  rw [← e1] at hh
  have hPm := tw_Pm.mp hP
  have hnx : ∀ x ∈ Xs, x.1 < H.size ∧ ¬ va_A ([(o, .inr (ci, fs))] ++ va_pl L E) H.size x.1 := fun x hx => by
    have hlt := (hPm x (by simp [hx])).lt
    refine ⟨hlt, fun q => ?_⟩
    rcases q with ⟨k, w, h⟩ | h
    · have h := List.mem_of_getElem? h
      rw [List.map_append, List.map_append, tw_plm, List.nodup_append, List.nodup_append] at d1
      rcases List.mem_append.mp h with h | h
      · have : x.1 = o := by simpa using congrArg Prod.fst (List.mem_singleton.mp h)
        exact d1.2.2 x.1 (List.mem_append_left _ (List.mem_map_of_mem hx)) o (by simp) this
      · exact d1.1.2.2 x.1 (List.mem_map_of_mem hx) x.1 (tw_plx.mp h).1 rfl
    · omega
  have hP1 : va_P D vwCl (Xs ++ va_pl L1 E1) T'.heap := tw_Pm.mpr (fun x hx => by
    rcases List.mem_append.mp hx with h | h
    · exact (hPm x (by simp [h])).kept (hk1 x.1 (hnx x h).1 (hnx x h).2)
    · exact tw_Pm.mp hh.1 x h)
  have hD1 : va_D A (Xs ++ va_pl L1 E1) := by
    obtain ⟨g1, g2⟩ := tw_Dm.mp hh.2.1
    refine tw_Dm.mpr ⟨?_, fun x hx => ?_⟩
    · rw [List.map_append, tw_plm, List.nodup_append]
      rw [List.map_append, List.map_append, tw_plm, List.nodup_append, List.nodup_append] at d1
      rw [tw_plm] at g1
      refine ⟨d1.1.1, g1, fun a ha b hb e => ?_⟩
      obtain ⟨x, hx, rfl⟩ := List.mem_map.mp ha
      exact (hnx x hx).2 (e ▸ g2 (b, E1 b) (tw_plx.mpr ⟨hb, rfl⟩))
    · rcases List.mem_append.mp hx with h | h
      · exact d2 x (by simp [h])
      · exact hF _ (g2 x h)
  obtain ⟨t2, a1, b1⟩ := kk kp1 L1 E1 T'.heap (locs ++ J) hx ho.1 ho.2 hq hp hP1 hD1 hh.2.2 ⟨Nat.le_trans hS.1 (by rw [e1]; exact hz), fun q h1 h2 => (hk1 q (Nat.lt_of_lt_of_le h1 hS.1) (fun z => h2 (hF q z))).trans (hS.2.1 q h1 h2), fun q hq => by
      rcases List.mem_append.mp hq with h | h
      · exact hS.2.2 q h
      · exact hF _ (hJ q h)⟩ T' rfl X'
  exact ⟨t2, st t2 a1, b1⟩
end TWI
theorem cx_ra_tree {s : State} (c1 c2 : ClassId) (h1 : va_RA s c1 (.object "TreeMerge$Tree")) (h2 : va_RA s c2 (.object "TreeMerge$Tree")) : c1 = c2 := by
  obtain ⟨-, -, -, -, -, e1⟩ := h1
  obtain ⟨-, -, -, -, -, e2⟩ := h2
  exact Option.some.inj (e1.symm.trans e2)
/-- what a constructor leaves: references to what is new, and zeros -/
def nw_ok (L : List Nat) (o : Nat) (E : Nat → va_E) : Prop := (∀ j b : Nat, tw_fv E o j = .ref b → b ∉ L) ∧ ∀ (j : Nat) (x : Int32), tw_fv E o j = .int x → x = 0
theorem nw_ok_of {L : List Nat} {o ci : Nat} {E : Nat → va_E} {fs : List Value} (he : E o = .inr (ci, fs)) (h : ∀ v ∈ fs, match v with | .ref b => b ∉ L | .int x => x = 0 | _ => True) : nw_ok L o E := by
  have hf : ∀ j : Nat, tw_fv E o j = fs.getD j .null := fun j => by unfold tw_fv; rw [he]
  have hm : ∀ (j : Nat) (v : Value), fs.getD j .null = v → v = .null ∨ v ∈ fs := fun j v hv => by
    rw [List.getD_eq_getElem?_getD] at hv
    cases hj : fs[j]? with
    | none => rw [hj] at hv; exact Or.inl hv.symm
    | some w => rw [hj] at hv; exact Or.inr (hv ▸ List.mem_of_getElem? hj)
  refine ⟨fun j b hb => ?_, fun j x hx => ?_⟩
  · rw [hf] at hb
    rcases hm j _ hb with h1 | h1
    · cases h1
    · exact h _ h1
  · rw [hf] at hx
    rcases hm j _ hx with h1 | h1
    · cases h1
    · exact h _ h1
theorem tw_Dsub {A : Nat → Prop} {Xs : va_W} {L : List Nat} {E : Nat → va_E} {x : Nat × va_E} (hD : va_D A ((Xs ++ va_pl L E) ++ [x])) : va_D A ([x] ++ va_pl L E) := by
  obtain ⟨d1, d2⟩ := tw_Dm.mp hD
  refine tw_Dm.mpr ⟨?_, fun y hy => d2 y (by simp only [List.mem_append] at hy ⊢; exact hy.elim Or.inr (fun z => Or.inl (Or.inr z)))⟩
  rw [List.map_append, List.map_append, tw_plm, List.nodup_append, List.nodup_append] at d1
  rw [List.map_append, tw_plm, List.nodup_append]
  exact ⟨d1.2.1, d1.1.2.1, fun a ha b hb e => d1.2.2 b (List.mem_append_right _ hb) a ha e.symm⟩
section TWJ
variable {p : Program} {l : Launch} {e : Env} {R : Room} {s : State} {m : MethodId} {args : Array Value} {below : List Frame} {meth : Method} {c : Code} {H : Heap} {locs : List Loc} {cells slots : Nat} {Q : State → Prop} {cc : ByteArray} {pc : Nat} {ls : Array Slot} {rest st0 : List Value} {D : va_G} {A : Nat → Prop} {H0 : Heap} {cs : Nat → ClassId} {kp : Nat → Nat} {L : List Nat} {E : Nat → va_E}
variable {y : MethodName} {bytes : ByteArray} {maxL nL mc ms index : Nat} {rm : Room} {own : String}
theorem tw_ICN {Xs : va_W} {o ci : Nat} {fs : List Value} {post : List Nat → (Nat → va_E) → Prop} (S : CallFix p m c cc nL s args cx_big own) (hM : ∀ sz, Met l y (.code y bytes maxL none :: cx_big) rm (tw_Pi D cs kp L E (o, .inr (ci, fs)) sz) (tw_Qi D cs kp L E o ci post (va_A ([(o, .inr (ci, fs))] ++ va_pl L E) sz)) mc ms (va_A ([(o, .inr (ci, fs))] ++ va_pl L E) sz)) (hcd : Cond.code y bytes maxL none ∈ cx_big) (hini : Cond.initialized y.cls ∈ cx_big) (hlk : (own, index, y) ∈ cx_nest) (him : Cond.instanceMethod y ∈ cx_big) (hrc : rm.cells = mc) (hrs : rm.slots = ms) (hy1 : y.name = "<init>")
    (hd : y.cls ≠ "java/lang/invoke/MethodHandle" ∧ y.cls ≠ "java/lang/invoke/VarHandle" ∧ (parseMethodDescriptor y.desc).map (fun d => d.parameters.length) = some 0) (hRm : rm.frames + 1 ≤ R.frames ∧ 8 + (maxL + 11) + rm.locals ≤ R.locals) (hK : va_K D vwCl (cx_TY cs) s) (hN : cx_NW s) (hP : va_P D vwCl ((Xs ++ va_pl L E) ++ [(o, .inr (ci, fs))]) H) (hD : va_D A ((Xs ++ va_pl L E) ++ [(o, .inr (ci, fs))])) (hT : tw_ok cs kp L E) (hS : va_S A H0 H locs) (hA : ∀ q, H0.size ≤ q → A q)
    (hsize : ls.size = nL) (hstack : st0 = .ref o :: rest) (hW : (rest.map fun v => v.category).sum ≤ 8) (hdg : decode cc pc = .ok (.invokespecial index, 3)) (hf : cells + mc ≤ R.cells ∧ slots + ms ≤ R.slots)
    (kk : ∀ (kp1 : Nat → Nat) (L1 : List Nat) (E1 : Nat → va_E) (H1 : Heap) (locs1 : List Loc), (∀ a : Nat, a ∈ L → a ∈ L1 ∧ kp1 a = kp a ∧ E1 a = E a) → o ∈ L1 → kp1 o = ci → o ∉ L → post L1 E1 → va_P D vwCl (Xs ++ va_pl L1 E1) H1 → va_D A (Xs ++ va_pl L1 E1) → tw_ok cs kp1 L1 E1 → va_S A H0 H1 locs1 → W p l e R s m args below meth c H1 locs1 (cells + mc) (slots + ms) Q (F0 m (pc + 3) ls rest)) : W p l e R s m args below meth c H locs cells slots Q (F0 m pc ls st0) := by
  have hPc : va_P D vwCl ([(o, .inr (ci, fs))] ++ va_pl L E) H := tw_Pm.mpr (fun x hx => tw_Pm.mp hP x (by simp only [List.mem_append] at hx ⊢; exact hx.elim Or.inr (fun z => Or.inl (Or.inr z))))
  have hDc : va_D A ([(o, .inr (ci, fs))] ++ va_pl L E) := tw_Dsub hD
  exact tw_Icall (va_runIN (As := []) S (hM H.size) ⟨va_cnB 0 S.2.2.2.2 (cx_gC hcd) rfl hrc hrs (hN.1 _ hlk) (S.2.2.2.2 _ hini) hd hRm, hy1, S.2.2.2.2 _ him⟩ ⟨tw_Pi.blind, tw_Pi.at hPc hDc hT hK hN⟩ rfl rfl hsize hstack (lv_room hW) hdg hf) hP hD hS hA kk
theorem tw_ICI {Xs : va_W} {o ci : Nat} {fs : List Value} {post : List Nat → (Nat → va_E) → Prop} (S : CallFix p m c cc nL s args cx_big own) (hM : ∀ sz, Met l y (.code y bytes maxL none :: cx_big) rm (tw_Pi D cs kp L E (o, .inr (ci, fs)) sz) (tw_Qi D cs kp L E o ci post (va_A ([(o, .inr (ci, fs))] ++ va_pl L E) sz)) mc ms (va_A ([(o, .inr (ci, fs))] ++ va_pl L E) sz)) (hcd : Cond.code y bytes maxL none ∈ cx_big) (hini : Cond.initialized y.cls ∈ cx_big) (hlk : Cond.methodLink own index y ∈ cx_big) (him : Cond.instanceMethod y ∈ cx_big) (hrc : rm.cells = mc) (hrs : rm.slots = ms) (hy1 : y.name = "<init>")
    (hd : y.cls ≠ "java/lang/invoke/MethodHandle" ∧ y.cls ≠ "java/lang/invoke/VarHandle" ∧ (parseMethodDescriptor y.desc).map (fun d => d.parameters.length) = some 0) (hRm : rm.frames + 1 ≤ R.frames ∧ 8 + (maxL + 11) + rm.locals ≤ R.locals) (hK : va_K D vwCl (cx_TY cs) s) (hN : cx_NW s) (hP : va_P D vwCl ((Xs ++ va_pl L E) ++ [(o, .inr (ci, fs))]) H) (hD : va_D A ((Xs ++ va_pl L E) ++ [(o, .inr (ci, fs))])) (hT : tw_ok cs kp L E) (hS : va_S A H0 H locs) (hA : ∀ q, H0.size ≤ q → A q)
    (hsize : ls.size = nL) (hstack : st0 = .ref o :: rest) (hW : (rest.map fun v => v.category).sum ≤ 8) (hdg : decode cc pc = .ok (.invokespecial index, 3)) (hf : cells + mc ≤ R.cells ∧ slots + ms ≤ R.slots)
    (kk : ∀ (kp1 : Nat → Nat) (L1 : List Nat) (E1 : Nat → va_E) (H1 : Heap) (locs1 : List Loc), (∀ a : Nat, a ∈ L → a ∈ L1 ∧ kp1 a = kp a ∧ E1 a = E a) → o ∈ L1 → kp1 o = ci → o ∉ L → post L1 E1 → va_P D vwCl (Xs ++ va_pl L1 E1) H1 → va_D A (Xs ++ va_pl L1 E1) → tw_ok cs kp1 L1 E1 → va_S A H0 H1 locs1 → W p l e R s m args below meth c H1 locs1 (cells + mc) (slots + ms) Q (F0 m (pc + 3) ls rest)) : W p l e R s m args below meth c H locs cells slots Q (F0 m pc ls st0) := by
  have hPc : va_P D vwCl ([(o, .inr (ci, fs))] ++ va_pl L E) H := tw_Pm.mpr (fun x hx => tw_Pm.mp hP x (by simp only [List.mem_append] at hx ⊢; exact hx.elim Or.inr (fun z => Or.inl (Or.inr z))))
  have hDc : va_D A ([(o, .inr (ci, fs))] ++ va_pl L E) := tw_Dsub hD
  exact tw_Icall (va_runI (As := []) S (hM H.size) (cwI 0 S.2.2.2.2 (cx_gC hcd) rfl hrc hrs (S.2.2.2.2 _ hini) (S.2.2.2.2 _ hlk) (S.2.2.2.2 _ him) hy1 hd hRm) ⟨tw_Pi.blind, tw_Pi.at hPc hDc hT hK hN⟩ rfl rfl hsize hstack (lv_room hW) hdg hf) hP hD hS hA kk
end TWJ
theorem tw_rdo {cs : Nat → ClassId} {kp : Nat → Nat} {L : List Nat} {E : Nat → va_E} {a ci k : Nat} (hT : tw_ok cs kp L E) (ha : a ∈ L) (hk : kp a = ci) (hlt : ci < 100) (hN : k < tw_N ci) {lo hi : Int} (hf : tw_FT ci k = (0, lo, hi)) : ∃ x : Int32, tw_fv E a k = .int x := by
  obtain ⟨fs, he, hl, ht⟩ := tw_obj hT ha hk hlt
  have hlt2 : k < fs.length := by rw [hl]; exact hN
  have hv : fs[k]? = some (fs.getD k .null) := by
    rw [List.getD_eq_getElem?_getD, List.getElem?_eq_getElem hlt2]
    rfl
  have hfv : tw_fv E a k = fs.getD k .null := by unfold tw_fv; rw [he]
  have h := ht k _ hv
  rw [hf] at h
  obtain ⟨x, e1, -, -⟩ := h
  exact ⟨x, by rw [hfv]; exact e1⟩
theorem tw_rao {cs : Nat → ClassId} {kp : Nat → Nat} {L : List Nat} {E : Nat → va_E} {a ci k : Nat} (hT : tw_ok cs kp L E) (ha : a ∈ L) (hk : kp a = ci) (hlt : ci < 100) (hN : k < tw_N ci) {kd : Int} (hf : tw_FT ci k = (2, kd, 0)) : ∃ b : Nat, tw_fv E a k = .ref b ∧ b ∈ L := by
  obtain ⟨fs, he, hl, ht⟩ := tw_obj hT ha hk hlt
  have hlt2 : k < fs.length := by rw [hl]; exact hN
  have hv : fs[k]? = some (fs.getD k .null) := by
    rw [List.getD_eq_getElem?_getD, List.getElem?_eq_getElem hlt2]
    rfl
  have hfv : tw_fv E a k = fs.getD k .null := by unfold tw_fv; rw [he]
  have h := ht k _ hv
  rw [hf] at h
  obtain ⟨b, e1, e2, -⟩ := h
  exact ⟨b, by rw [hfv]; exact e1, e2⟩
theorem nw_zero {cs : Nat → ClassId} {kp : Nat → Nat} {L L1 : List Nat} {E : Nat → va_E} {a ci k : Nat} (hT : tw_ok cs kp L1 E) (ha : a ∈ L1) (hk : kp a = ci) (hlt : ci < 100) (hN : k < tw_N ci) {lo hi : Int} (hf : tw_FT ci k = (0, lo, hi)) (hn : nw_ok L a E) : tw_fv E a k = .int 0 := by
  obtain ⟨x, h⟩ := tw_rdo hT ha hk hlt hN hf
  rw [hn.2 k x h] at h
  exact h
theorem sp_ok_new {cs : Nat → ClassId} {kp kp1 : Nat → Nat} {L L1 : List Nat} {E E1 : Nat → va_E} {r1 r2 : Nat} (hTo : tw_ok cs kp L E) (h1 : r1 ∈ L) (k1 : kp r1 = 2) (hE : E1 r1 = E r1) (hn2 : nw_ok L r2 E1) (hr2 : r2 ∉ L) (T2 : tw_ok cs kp1 L1 E1) (m2 : r2 ∈ L1) (k2 : kp1 r2 = 2) : sp_ok E1 r2 r1 := by
  refine ⟨fun z => hr2 (z ▸ h1), fun j hj => ?_⟩
  have hj2 : j = 2 ∨ j = 3 ∨ j = 5 ∨ j = 6 := by simpa using hj
  have key : ∀ kd : Int, j < tw_N 2 → tw_FT 2 j = (2, kd, 0) → tw_fa E1 r2 j ≠ tw_fa E1 r1 j := fun kd hN hf => by
    obtain ⟨b1, e1, m1⟩ := tw_rao hTo h1 k1 (by decide) hN hf
    obtain ⟨b2, e2, -⟩ := tw_rao T2 m2 k2 (by decide) hN hf
    have e1' : tw_fv E1 r1 j = .ref b1 := by
      unfold tw_fv at e1 ⊢
      rw [hE]
      exact e1
    rw [tw_fa_of e1', tw_fa_of e2]
    exact fun z => hn2.1 j b2 e2 (z ▸ m1)
  rcases hj2 with h | h | h | h <;> subst h
  · exact key 130 (by decide) rfl
  · exact key 137 (by decide) rfl
  · exact key 136 (by decide) rfl
  · exact key 138 (by decide) rfl
theorem sp_ok_ext {E E1 : Nat → va_E} {r1 r2 : Nat} (e2 : E1 r2 = E r2) (e1 : E1 r1 = E r1) (q : sp_ok E r2 r1) : sp_ok E1 r2 r1 := by
  refine ⟨q.1, fun j hj => ?_⟩
  have := q.2 j hj
  unfold tw_fa tw_fv at this ⊢
  rw [e1, e2]
  exact this
theorem fv_ext {E E1 : Nat → va_E} {a k : Nat} {v : Value} (e : E1 a = E a) (q : tw_fv E a k = v) : tw_fv E1 a k = v := by
  unfold tw_fv at q ⊢
  rw [e]
  exact q
theorem tw_fr_ext {kp kp1 : Nat → Nat} {L L1 : List Nat} {E E1 : Nat → va_E} (h : ∀ a : Nat, a ∈ L → a ∈ L1 ∧ kp1 a = kp a ∧ E1 a = E a) : tw_fr kp L [] [] E E1 := ⟨fun b j hb _ => by unfold tw_fv; rw [(h b hb).2.2], fun b hb _ _ => (h b hb).2.2⟩
section TWK
variable {D : va_G} {A : Nat → Prop} {H : Heap} {cs : Nat → ClassId} {kp : Nat → Nat} {L : List Nat} {E E1 : Nat → va_E} {a ci k : Nat} {ms : List (Nat × Nat)} {ks : List Nat}
/-- elements along a frame, by the types of the world that was -/
theorem tw_el_fo (hT : tw_ok cs kp L E) (h : tw_fr kp L ms ks E E1) (ha : a ∈ L) (hk : kp a = ci) (hlt : ci < 100) (hN : k < tw_N ci) {kd : Int} (hf : tw_FT ci k = (2, kd, 0)) (hge : 100 ≤ kd) (h1 : (ci, k) ∉ ms) (h2 : kd.toNat ∉ ks) (j : Nat) : tw_el E1 a k j = tw_el E a k j := by
  obtain ⟨fs, he, hl, ht⟩ := tw_obj hT ha hk hlt
  have hlt2 : k < fs.length := by rw [hl]; exact hN
  have hv : fs[k]? = some (fs.getD k .null) := by
    rw [List.getD_eq_getElem?_getD, List.getElem?_eq_getElem hlt2]
    rfl
  have hfv : tw_fv E a k = fs.getD k .null := by unfold tw_fv; rw [he]
  have h9 := ht k _ hv
  rw [hf] at h9
  obtain ⟨b, e1, e2, e3⟩ := h9
  have e4 : tw_fv E a k = .ref b := by rw [hfv]; exact e1
  have e6 : tw_fv E1 a k = .ref b := (h.1 a k ha (by rw [hk]; exact h1)).trans e4
  rw [tw_el_of e6, tw_el_of e4]
  have e5 : E1 b = E b := h.2 b e2 (by rw [e3]; show 100 ≤ kd.toNat; omega) (by rw [e3]; exact h2)
  unfold tw_iv
  rw [e5]
theorem gm_ok_fo {g : Nat} (hT : tw_ok cs kp L E) (h : tw_fr kp L ms ks E E1) (hm : g ∈ L) (hk : kp g = 2) (h1 : ∀ x ∈ [(2, 1), (2, 2), (2, 3), (2, 5), (2, 6)], x ∉ ms) (h2 : ∀ x ∈ [130, 136, 137, 138], x ∉ ks) (q : gm_ok E g) : gm_ok E1 g := by
  intro k hk2
  rw [tw_fi_fr h hm hk (h1 _ (by decide))] at hk2
  rw [tw_el_fo hT h hm hk (k := 2) (by decide) (by decide) (kd := 130) rfl (by decide) (h1 _ (by decide)) (h2 _ (by decide)), tw_el_fo hT h hm hk (k := 3) (by decide) (by decide) (kd := 137) rfl (by decide) (h1 _ (by decide)) (h2 _ (by decide)), tw_el_fo hT h hm hk (k := 5) (by decide) (by decide) (kd := 136) rfl (by decide) (h1 _ (by decide)) (h2 _ (by decide)), tw_el_fo hT h hm hk (k := 6) (by decide) (by decide) (kd := 138) rfl (by decide) (h1 _ (by decide)) (h2 _ (by decide))]
  exact q k hk2
theorem tw_rak {cs : Nat → ClassId} {kp : Nat → Nat} {L : List Nat} {E : Nat → va_E} {a ci k : Nat} (hT : tw_ok cs kp L E) (ha : a ∈ L) (hk : kp a = ci) (hlt : ci < 100) (hN : k < tw_N ci) {kd : Int} (hf : tw_FT ci k = (2, kd, 0)) : ∃ b : Nat, tw_fv E a k = .ref b ∧ b ∈ L ∧ kp b = kd.toNat := by
  obtain ⟨fs, he, hl, ht⟩ := tw_obj hT ha hk hlt
  have hlt2 : k < fs.length := by rw [hl]; exact hN
  have hv : fs[k]? = some (fs.getD k .null) := by
    rw [List.getD_eq_getElem?_getD, List.getElem?_eq_getElem hlt2]
    rfl
  have hfv : tw_fv E a k = fs.getD k .null := by unfold tw_fv; rw [he]
  have h := ht k _ hv
  rw [hf] at h
  obtain ⟨b, e1, e2, e3⟩ := h
  exact ⟨b, by rw [hfv]; exact e1, e2, e3⟩
theorem gz_ok_fo {t : Nat} (hT : tw_ok cs kp L E) (h : tw_fr kp L ms ks E E1) (hm : t ∈ L) (hk : kp t = 11) (h1 : ∀ x ∈ [(11, 1), (2, 1), (2, 2), (2, 3), (2, 5), (2, 6)], x ∉ ms) (h2 : ∀ x ∈ [130, 136, 137, 138], x ∉ ks) (q : gz_ok E t) : gz_ok E1 t := by
  unfold gz_ok at q ⊢
  obtain ⟨b, e1, e2, e3⟩ := tw_rak hT hm hk (k := 1) (by decide) (by decide) rfl
  rw [tw_fa_fr h hm hk (k := 1) (h1 _ (by decide)), tw_fa_of e1]
  rw [tw_fa_of e1] at q
  exact gm_ok_fo hT h e2 e3 (fun x hx => h1 x (List.mem_cons_of_mem _ hx)) h2 q
theorem ss_ok_fo {t : Nat} (hT : tw_ok cs kp L E) (h : tw_fr kp L ms ks E E1) (hm : t ∈ L) (hk : kp t = 11) (h1 : ∀ x ∈ [(11, 1), (11, 2), (2, 2), (2, 3), (2, 5), (2, 6)], x ∉ ms) (_ : ∀ x ∈ ([] : List Nat), x ∉ ks) (q : ss_ok E t) : ss_ok E1 t := by
  unfold ss_ok at q ⊢
  obtain ⟨b1, e1, m1, k1⟩ := tw_rak hT hm hk (k := 1) (by decide) (by decide) rfl
  obtain ⟨b2, e2, m2, k2⟩ := tw_rak hT hm hk (k := 2) (by decide) (by decide) rfl
  rw [tw_fa_fr h hm hk (k := 1) (h1 _ (by decide)), tw_fa_fr h hm hk (k := 2) (h1 _ (by decide)), tw_fa_of e1, tw_fa_of e2]
  rw [tw_fa_of e1, tw_fa_of e2] at q
  refine ⟨q.1, fun j hj => ?_⟩
  have hj2 : (2, j) ∉ ms := h1 _ (by simp at hj ⊢; omega)
  rw [tw_fa_fr h m2 k2 hj2, tw_fa_fr h m1 k1 hj2]
  exact q.2 j hj
end TWK
section TWL2
variable {p : Program} {l : Launch} {e : Env} {R : Room} {s : State} {m : MethodId} {args : Array Value} {below : List Frame} {meth : Method} {c : Code} {H : Heap} {locs : List Loc} {cells slots : Nat} {Q : State → Prop} {cc : ByteArray} {pc : Nat} {ls : Array Slot} {rest : List Value} {D : va_G} {A : Nat → Prop} {H0 : Heap} {cs : Nat → ClassId} {kp : Nat → Nat} {L : List Nat} {E : Nat → va_E} {a : Nat}
/-- a tree into the row of trees -/
theorem tw_naast (hexec : p.tables.exec = Jvm.exec) (hb : c.code = cc) (hK : va_K D vwCl (cx_TY cs) s) (TH : tw_H D cs kp L E A H) (hS : va_S A H0 H locs) (ha : a ∈ L) {k n v : Nat} {hi : Int} (hk : kp a = k) (hge : 100 ≤ k) (hkd : tw_KD k = (3, 7, n, 10, hi)) (hv : v ∈ L) (hkv : kp v = 10) {i : Int32} (hin : vp_in i n) (hdg : decode cc pc = .ok (.aastore, 1))
    (kk : ∀ (H1 : Heap) (locs1 : List Loc) (E1 : Nat → va_E), tw_H D cs kp L E1 A H1 → va_S A H0 H1 locs1 → (∀ b j : Nat, tw_fv E1 b j = tw_fv E b j) → (∀ b : Nat, b ≠ a → E1 b = E b) → W p l e R s m args below meth c H1 locs1 cells slots Q (F0 m (pc + 1) ls rest)) : W p l e R s m args below meth c H locs cells slots Q (F0 m pc ls (.ref v :: .int i :: .ref a :: rest)) := by
  obtain ⟨⟨n2, y⟩, he, hl, hC⟩ := tw_arr TH.2.2 ha hk hge
  obtain ⟨q, hq⟩ := tw_at (E := E) ha
  obtain ⟨fs, hev, -, -⟩ := tw_obj TH.2.2 hv hkv (by decide)
  obtain ⟨qv, hqv⟩ := tw_at (E := E) hv
  rw [hev] at hqv
  rw [hkd] at he hl hC
  have hl : n2 = n := hl
  subst hl
  match y, he, hC with
  | .inr (.inr (.inr (.inr f))), he, hC =>
    have hq2 := hq
    rw [he] at hq2
    refine va_astq (r := (RX10, TX10, 8)) hexec hb hK TH.1 TH.2.1 hS q 7 qv 10 hq2 rfl hqv rfl hin hdg (fun H1 locs1 hP1 hD1 hS1 => ?_)
    have hne : tw_E cs kp L (kp a) (.inl (cs 7, n2, .inr (.inr (.inr (.inr (va_up f i.toNatClampNeg (some v))))))) := by
      refine ⟨by rw [hk]; exact hge, by rw [hk, hkd], by rw [hk, hkd], ?_⟩
      rw [hk, hkd]
      intro j b hj hb
      by_cases hji : j = i.toNatClampNeg
      · subst hji
        rw [va_up_self] at hb
        cases hb
        exact ⟨hv, hkv⟩
      · rw [va_up_ne f _ hji] at hb
        exact hC j b hj hb
    exact kk H1 locs1 _ (tw_write TH ha hq hne hP1 hD1) hS1 (fun b j => tw_fv_arr he _ b j) (fun b hba => va_up_ne E _ hba)
end TWL2
