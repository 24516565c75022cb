/-! new T[n][k]: the machine's loop over the rows, and the world behind it (my own: no row for this instruction stands among those that a round compiles over) -/
def va_AOA (t : FieldType) (U : State) : Prop := (Cond.arrayOver (.array t)).before #[] U = true
def mg_out (c : ClassId) (N h0 i : Nat) : Cell := arrV c N (fun j => va_rf (if j < i then some (h0 + 1 + j) else none))
def mg_in (comp : ClassId) (K : Nat) (dv : Value) : Cell := arrV comp K (fun _ => dv)
/-- the state when i rows are made and laid -/
def mg_st (T : State) (c comp : ClassId) (N K : Nat) (dv : Value) : Nat → State
  | 0 => T.pushCell (mg_out c N T.heap.size 0)
  | i + 1 => ((mg_st T c comp N K dv i).pushCell (mg_in comp K dv)).setCell T.heap.size (mg_out c N T.heap.size (i + 1))
theorem mg_out0 (c : ClassId) (N h0 : Nat) : ({ cls := c, slots := Array.replicate N .null, vm := .none } : Cell) = mg_out c N h0 0 := by
  rw [arrV_new]
  unfold mg_out
  refine congrArg (arrV c N) (funext fun j => ?_)
  simp [va_rf]
theorem mg_outS (c : ClassId) (N h0 i : Nat) : (mg_out c N h0 i).setSlot i (.ref (h0 + 1 + i)) = mg_out c N h0 (i + 1) := by
  unfold mg_out
  rw [arrV_store]
  refine congrArg (arrV c N) (funext fun j => ?_)
  rcases Nat.lt_trichotomy j i with h | h | h
  · simp [updV, h, Nat.lt_succ_of_lt h, Nat.ne_of_lt h]
  · subst h
    simp [updV, va_rf]
  · simp [updV, Nat.ne_of_gt h, show ¬ j < i by omega, show ¬ j < i + 1 by omega]
theorem mg_at (T : State) (c comp : ClassId) (N K : Nat) (dv : Value) : ∀ i : Nat, (mg_st T c comp N K dv i).heap.size = T.heap.size + 1 + i ∧ (mg_st T c comp N K dv i).heap[T.heap.size]? = some (mg_out c N T.heap.size i) ∧ (mg_st T c comp N K dv i).vm = T.vm ∧ (mg_st T c comp N K dv i).slotsUsed = T.slotsUsed + N + i * K ∧ (∀ a : Nat, a < T.heap.size → (mg_st T c comp N K dv i).heap[a]? = T.heap[a]?) ∧ (∀ j : Nat, j < i → (mg_st T c comp N K dv i).heap[T.heap.size + 1 + j]? = some (mg_in comp K dv)) := by
  intro i
  induction i with
  | zero =>
    refine ⟨by simp [mg_st], by simp [mg_st], rfl, ?_, fun a ha => State.heap_pushCell_of_lt _ _ ha, fun j hj => absurd hj (Nat.not_lt_zero j)⟩
    simp [mg_st, mg_out, arrV_size]
  | succ i ih =>
    obtain ⟨i1, i2, i3, i4, i5, i6⟩ := ih
    have hlt : T.heap.size < (mg_st T c comp N K dv i).heap.size := by omega
    have hp : ((mg_st T c comp N K dv i).pushCell (mg_in comp K dv)).heap[T.heap.size]? = some (mg_out c N T.heap.size i) := by
      rw [State.heap_pushCell_of_lt (h := hlt)]
      exact i2
    refine ⟨?_, State.heap_setCell_self hp, by simp [mg_st, i3], ?_, fun a ha => ?_, fun j hj => ?_⟩
    · simp [mg_st, State.setCell, i1]
      omega
    · simp [mg_st, i4, mg_in, arrV_size, Nat.succ_mul]
      omega
    · show (((mg_st T c comp N K dv i).pushCell (mg_in comp K dv)).setCell T.heap.size _).heap[a]? = _
      rw [State.heap_setCell_other (Nat.ne_of_gt ha), State.heap_pushCell_of_lt (h := show a < (mg_st T c comp N K dv i).heap.size by omega)]
      exact i5 a ha
    · show (((mg_st T c comp N K dv i).pushCell (mg_in comp K dv)).setCell T.heap.size _).heap[T.heap.size + 1 + j]? = _
      rw [State.heap_setCell_other (show T.heap.size ≠ T.heap.size + 1 + j by omega)]
      by_cases e : j = i
      · subst e
        rw [← i1]
        exact State.heap_pushCell_size _ _
      · rw [State.heap_pushCell_of_lt (h := show T.heap.size + 1 + j < (mg_st T c comp N K dv i).heap.size by omega)]
        exact i6 j (by omega)
theorem mg_top (T : State) (f : JFrame) (c comp : ClassId) (N K : Nat) (dv : Value) (i : Nat) : mg_st (T.setTop f) c comp N K dv i = (mg_st T c comp N K dv i).setTop f := by
  induction i with
  | zero => rfl
  | succ i ih => simp only [mg_st, ih, State.heap_setTop, State.pushCell_setTop, State.setCell_setTop]
section GRW
variable {E : CtlPost} {e : Env} {d : Bool} {acts : List Action} {s : State}
theorem mg_new {c comp : ClassId} {k : Class} {ty : FieldType} {n : Nat} {x : Value} (hk : s.vm.classes[c]? = some k) (hkind : k.kind = .array comp ty) (hn : n ≤ e.platform.arrayLengthLimit) (hb : n * componentBytes ty ≤ e.platform.maxHeapBytes) (hf : fits ty x = true) (hd : x.isDefault = true) (h1 : s.heap.size < e.platform.maxCells) (h2 : s.slotsUsed + n ≤ e.platform.maxSlots) {Q : Addr → Pre}
    (hq : Q s.heap.size d acts (s.pushCell (arrV c n (fun _ => x)))) : wp (Jvm.newArray c n x) Q E e d acts s := by
  have hs : ∀ i v, (Array.replicate n x)[i]? = some v → s.fitsSlot c .none i v = true := fun i v hv => by
    rw [Array.getElem?_replicate] at hv
    split at hv
    · cases hv
      simp [State.fitsSlot, State.slotType?, hk, hkind, hf]
    · cases hv
  have ha : allocActs (Array.replicate n x) s.heap.size acts = acts := by
    unfold allocActs
    refine if_pos ?_
    rw [Array.all_replicate]
    split <;> simp [hd]
  rw [← arrV_new] at hq
  simp only [Jvm.newArray, Jvm.arrayFits, wp_bind', W.ask, W.ite, Nat.not_lt.mpr hn, if_false, wp_pure', W.theClass, hk, hkind, Nat.not_lt.mpr hb, W.alloc, W.stop, Option.some.injEq, exists_eq_left', Array.size_replicate, ha, gt_iff_lt]
  rw [if_neg (by omega)]
  exact ⟨h1, h2, hs, hq⟩
theorem mg_make {c comp c2 : ClassId} {k kc : Class} {ty : FieldType} {n m : Int32} (hk : s.vm.classes[c]? = some k) (hkind : k.kind = .array comp (.array ty)) (hkc : s.vm.classes[comp]? = some kc) (hkindc : kc.kind = .array c2 ty) (hn : ¬ n < 0) (hm : ¬ m < 0)
    (a1 : n.toNatClampNeg ≤ e.platform.arrayLengthLimit) (a2 : n.toNatClampNeg * componentBytes (.array ty) ≤ e.platform.maxHeapBytes) (b1 : m.toNatClampNeg ≤ e.platform.arrayLengthLimit) (b2 : m.toNatClampNeg * componentBytes ty ≤ e.platform.maxHeapBytes) (hf : fits ty (defaultValue ty) = true) (hd : (defaultValue ty).isDefault = true)
    (h1 : s.heap.size + 1 + n.toNatClampNeg ≤ e.platform.maxCells) (h2 : s.slotsUsed + n.toNatClampNeg + n.toNatClampNeg * m.toNatClampNeg ≤ e.platform.maxSlots) {Q : Addr → Pre}
    (hq : ∀ d' acts', Q s.heap.size d' acts' (mg_st s c comp n.toNatClampNeg m.toNatClampNeg (defaultValue ty) n.toNatClampNeg)) : wp (multianewarray.make c [n, m]) Q E e d acts s := by
  generalize hN : n.toNatClampNeg = N at *
  generalize hM : m.toNatClampNeg = M at *
  rw [multianewarray.make]
  simp only [wp_bind', W.ite, hn, if_false, wp_pure', W.theClass, hk, hkind, Option.some.injEq, exists_eq_left', hN]
  refine mg_new hk hkind a1 a2 rfl rfl (by omega) (by omega) ?_
  rw [show (fun _ : Nat => Value.null) = fun j => va_rf (if j < 0 then some (s.heap.size + 1 + j) else none) from funext fun j => by simp [va_rf]]
  simp only [show ([m].find? (· < 0)) = none from by simp [hm]]
  rw [ite_self, wp_bind', Std.Legacy.Range.forIn_eq_forIn_range']
  rw [show ([:N] : Std.Legacy.Range).size = N from by simp [Std.Legacy.Range.size]]
  show wp (forIn (List.range' 0 N 1) PUnit.unit _) _ E e d acts _
  refine wp_forIn_inv (fun todo s' => ∃ i, i + todo.length = N ∧ todo = List.range' i (N - i) ∧ s' = mg_st s c comp N M (defaultValue ty) i) _ _ ⟨0, by simp, rfl, rfl⟩ ?_ ?_
  · rintro x todo s' d' acts' Q' ⟨i, hl, hr, rfl⟩ next
    have hi : i < N := by simp at hl; omega
    rw [show N - i = (N - (i + 1)) + 1 by omega, List.range'_succ] at hr
    obtain ⟨hxi, hto⟩ := List.cons.inj hr
    subst hxi
    obtain ⟨i1, i2, i3, i4, -, -⟩ := mg_at s c comp N M (defaultValue ty) x
    have hmul : x * M + M ≤ N * M := by
      have := Nat.mul_le_mul_right M (show x + 1 ≤ N from hi)
      rw [Nat.succ_mul] at this
      exact this
    have hlt : s.heap.size < (mg_st s c comp N M (defaultValue ty) x).heap.size := by omega
    simp only [wp_bind']
    rw [multianewarray.make]
    simp only [wp_bind', W.ite, hm, if_false, wp_pure', W.theClass, i3, hkc, hkindc, Option.some.injEq, exists_eq_left', hM]
    refine mg_new (k := kc) (comp := c2) (by rw [i3]; exact hkc) hkindc b1 b2 hf hd (by omega) (by omega) ?_
    simp only [wp_bind', W.writeLoc, wp_pure']
    refine ⟨mg_out c N s.heap.size x, by rw [State.heap_pushCell_of_lt (h := hlt)]; exact i2, (fun h => by cases h), by unfold mg_out; rw [arrV_size]; exact hi, ?_, next _ _ _ ⟨x + 1, by simp at hl; omega, hto, ?_⟩⟩
    · show State.fitsSlot _ c .none x _ = true
      simp [State.fitsSlot, State.slotType?, i3, hk, hkind]
      rfl
    · rw [i1, mg_outS]
      rfl
  · rintro s' d' acts' ⟨i, hl, -, rfl⟩
    have hi : i = N := by simpa using hl
    subst hi
    simp only [wp_pure']
    exact hq _ _
end GRW
section GRS
variable {p : Program} {l : Launch} {e : Env} {R : Room} {s : State} {m : MethodId} {args : Array Value} {below : List Frame} {meth : Method} {c : Code} {T : State} {locs : List Loc} {cells slots : Nat}
theorem mg_stand (X : Stand p l e R s m args below meth c T locs cells slots) (cA comp : ClassId) (N K : Nat) (dv : Value) : ∀ i : Nat, ∃ J : List Loc, (∀ x ∈ J, x.base = T.heap.size) ∧ Stand p l e R s m args below meth c (mg_st T cA comp N K dv i) (locs ++ J) (cells + 1 + i) (slots + N + i * K) := by
  intro i
  induction i with
  | zero =>
    refine ⟨[], (fun _ h => by cases h), ?_⟩
    have h := X.pushed (mg_out cA N T.heap.size 0)
    rw [show (mg_out cA N T.heap.size 0).slots.size = N from arrV_size _ _ _] at h
    simpa [mg_st] using h
  | succ i ih =>
    obtain ⟨J, hJ, Xi⟩ := ih
    obtain ⟨i1, i2, -⟩ := mg_at T cA comp N K dv i
    have hc : ((mg_st T cA comp N K dv i).pushCell (mg_in comp K dv)).heap[T.heap.size]? = some (mg_out cA N T.heap.size i) := by
      rw [State.heap_pushCell_of_lt (h := show T.heap.size < (mg_st T cA comp N K dv i).heap.size by omega)]
      exact i2
    have h := (Xi.pushed (mg_in comp K dv)).stored hc i (.ref (T.heap.size + 1 + i))
    rw [mg_outS, show (mg_in comp K dv).slots.size = K from arrV_size _ _ _, List.append_assoc] at h
    refine ⟨J ++ [⟨T.heap.size, i⟩], fun x hx => ?_, ?_⟩
    · rcases List.mem_append.mp hx with q | q
      · exact hJ x q
      · rw [List.mem_singleton.mp q]
    · rw [show slots + N + (i + 1) * K = slots + N + i * K + K by rw [Nat.succ_mul]; omega]
      exact h
theorem mg_spec {A : Array Value} {U : State} {t : FieldType} (h : (Cond.arrayOver (.array t)).before A U = true) : ∃ comp cA k, U.vm.findClass (FieldType.array t).toString = some comp ∧ (U.vm.classes.findIdx? fun x => match x.kind with | .array component _ => component == comp | _ => false) = some cA ∧ U.vm.classes[cA]? = some k ∧ k.kind = .array comp (.array t) ∧ U.vm.findClass ("[" ++ (FieldType.array t).toString) = some cA := by
  unfold Cond.before at h
  simp only [Cond.holds, Cond.value, beq_iff_eq, Option.bind_eq_some_iff, Option.map_eq_some_iff] at h
  obtain ⟨comp, hc, cA, hi, k, hk, hb⟩ := h
  obtain ⟨hlt, hp, -⟩ := Array.findIdx?_eq_some_iff_getElem.mp hi
  rw [(Array.getElem?_eq_some_iff.mp hk).2] at hp
  cases hkd : k.kind with
  | array c9 t9 =>
    rw [hkd] at hp hb
    simp at hp hb
    exact ⟨comp, cA, k, hc, hi, hk, by rw [hkd, hp, hb.1], hb.2⟩
  | _ => rw [hkd] at hp; simp at hp
end GRS
theorem va_AOA.moved {t : FieldType} {u U : State} (hvm : u.vm.Alike U.vm) (h : va_AOA t u) : va_AOA t U := by
  obtain ⟨comp, cA, k, h1, h2, h3, h4, h5⟩ := mg_spec h
  obtain ⟨k', hk', he⟩ := hvm.2.2 _ _ h3
  have hi : (U.vm.classes.findIdx? fun (x : Class) => match x.kind with | .array component _ => component == comp | _ => false) = some cA := by
    refine ((va_idx_bare U.vm comp).symm.trans ?_)
    have eb : U.vm.bare = u.vm.bare := by first | exact hvm.bare_eq | exact hvm.bare_eq.symm
    rw [eb]
    exact (va_idx_bare u.vm comp).trans h2
  have f1 : U.vm.findClass (FieldType.array t).toString = some comp := by rw [hvm.findClass]; exact h1
  have f2 : U.vm.findClass ("[" ++ (FieldType.array t).toString) = some cA := by rw [hvm.findClass]; exact h5
  have f3 : k'.kind = .array comp (.array t) := by rw [he]; exact h4
  unfold va_AOA Cond.before Cond.holds
  simp only [Cond.value]
  rw [f1, Option.bind_some]
  refine (congrArg (fun o : Option Nat => (o.bind (fun c => (U.vm.classes[c]?).map fun (k : Class) => match k.kind with | .array _ ty => decide (ty = FieldType.array t) && decide (U.vm.findClass ("[" ++ (FieldType.array t).toString) = some c) | _ => false) == some true)) hi).trans ?_
  simp [hk', f3, f2]
section GRI
variable {p : Program} {l : Launch} {e : Env} {R : Room} {s : State} {m : MethodId} {args : Array Value} {below : List Frame} {meth : Method} {c : Code} {T : State} {locs : List Loc} {cells slots : Nat}
theorem mg_step (X : Stand p l e R s m args below meth c T locs cells slots) (hexec : p.tables.exec = Jvm.exec) {own : String} {index : Nat} {ty : FieldType} (hown : s.vm.findClass own = some m.cls) (hlink : (Cond.classLink own index ("[" ++ (FieldType.array ty).toString)).before args s = true) (hover : va_AOA ty s) (harr : (Cond.arrayClass ty).before args s = true)
    {g : JFrame} (hg : g.method = m) (hdg : decode c.code g.pc = .ok (.multianewarray index 2, 4)) {n k : Int32} {rest : List Value} (hst : g.stack = .int k :: .int n :: rest) (hn : ¬ n < 0) (hk : ¬ k < 0) (b1 : n.toNatClampNeg * 4 ≤ 536870912) (b2 : k.toNatClampNeg * componentBytes ty ≤ 536870912) (b3 : k.toNatClampNeg ≤ 536870912) (hf : fits ty (defaultValue ty) = true) (hd : (defaultValue ty).isDefault = true)
    (hcells : cells + (1 + n.toNatClampNeg) ≤ R.cells) (hslots : slots + (n.toNatClampNeg + n.toNatClampNeg * k.toNatClampNeg) ≤ R.slots) :
    ∃ (v1 : Vm) (cA comp : ClassId) (kA : Class), s.vm.findClass ("[" ++ (FieldType.array ty).toString) = some cA ∧ s.vm.findClass (FieldType.array ty).toString = some comp ∧ s.vm.classes[cA]? = some kA ∧ kA.kind = .array comp (.array ty) ∧
      Stand p l e R s m args below meth c (mg_st (T.setVm v1) cA comp n.toNatClampNeg k.toNatClampNeg (defaultValue ty) n.toNatClampNeg) locs (cells + 1 + n.toNatClampNeg) (slots + n.toNatClampNeg + n.toNatClampNeg * k.toNatClampNeg) ∧
      ∀ target, Steps p.tables e below ((mg_st (T.setVm v1) cA comp n.toNatClampNeg k.toNatClampNeg (defaultValue ty) n.toNatClampNeg).setTop { g with pc := g.pc + 4, stack := .ref T.heap.size :: rest }) target → Steps p.tables e below (T.setTop g) target := by
  subst hg
  obtain ⟨comp, cA, kA, hcomp, -, hkA, hkdA, hnA⟩ := mg_spec hover
  obtain ⟨comp2, kC, c2, hcomp2, hkC, hkdC⟩ := Cond.arrayClass_spec harr
  have ec : comp2 = comp := Option.some.inj (hcomp2.symm.trans hcomp)
  subst ec
  obtain ⟨c0, hf0, hcl⟩ := Cond.classLink_spec hown hlink e.platform (by rw [X.admits.platform])
  cases hnA.symm.trans hf0
  obtain ⟨hres, hwarm, -⟩ := State.classEntry (e := e) X.warmed hcl
  generalize T.vm.noted g.method.cls index (.cls cA) = v1 at hres hwarm
  obtain ⟨kA1, hkA1, eA⟩ := hwarm.alike.2.2 _ _ hkA
  obtain ⟨kC1, hkC1, eC⟩ := hwarm.alike.2.2 _ _ hkC
  have X1 := X.noted hwarm
  obtain ⟨r1, r2⟩ := X.roomAbove hcells hslots
  obtain ⟨J, hJ, XF⟩ := mg_stand X1 cA comp2 n.toNatClampNeg k.toNatClampNeg (defaultValue ty) n.toNatClampNeg
  have XG := XF.dropFresh (fun x hx => by rw [hJ x hx]; exact X.heapGrown)
  refine ⟨v1, cA, comp2, kA, hnA, hcomp, hkA, hkdA, XG, fun target hrest => ?_⟩
  jvm_step X.here [hexec, hdg]
  simp only [multianewarray.sem, wp_bind', W.resolveClassAt_links (State.method?_setTop g X.here.top) hres]
  rw [W.popN, if_neg (by decide)]
  refine ⟨g, State.topJava?_setTop' (s := T.setVm v1) g X.here.top, [.int n, .int k], rest, rfl, hst, ?_⟩
  simp only [List.mapM_cons, List.mapM_nil, wp_bind', wp_pure']
  have q1 := Launch.admits_arrayLengthLimit X.admits
  have q2 := Launch.admits_maxHeapBytes X.admits
  refine mg_make (k := kA1) (kc := kC1) (comp := comp2) (c2 := c2) (ty := ty) hkA1 (by rw [eA]; exact hkdA) hkC1 (by rw [eC]; exact hkdC) hn hk (by rw [q1]; omega) (by rw [q2]; exact b1) (by rw [q1]; omega) (by rw [q2]; exact b2) hf hd (by show T.heap.size + 1 + _ ≤ _; omega) (by show T.slotsUsed + _ + _ ≤ _; omega) (fun d' acts' => ?_)
  rw [show ((T.setTop g).setVm v1).setTop { g with stack := rest } = (T.setVm v1).setTop { g with stack := rest } from by
    show ((T.setVm v1).setTop g).setTop _ = _
    rw [State.setTop_setTop], mg_top]
  simp only [wp_bind', W.mark, W.pushRef, State.topJava?_setTop' _ XG.here.top, Option.some.injEq, exists_eq_left', State.setTop_setTop, State.heap_setTop]
  intro acts
  simp [jvm, XG.here.top]
  exact hrest
end GRI
