/-! plain facts on numbers and arrays, to paste: each family by itself; over the kit's rows on nI and upd -/
/-! ===== order of ints, in all its forms, and through longs ===== -/
theorem fa_lt (a b : Int32) : a < b ↔ a.toInt < b.toInt := Int32.lt_iff_toInt_lt
theorem fa_le (a b : Int32) : a ≤ b ↔ a.toInt ≤ b.toInt := Int32.le_iff_toInt_le
theorem fa_eq (a b : Int32) : a = b ↔ a.toInt = b.toInt := Int32.toInt_inj.symm
theorem fa_lt64 (a b : Int64) : a < b ↔ a.toInt < b.toInt := Int64.lt_iff_toInt_lt
theorem fa_le64 (a b : Int64) : a ≤ b ↔ a.toInt ≤ b.toInt := Int64.le_iff_toInt_le
theorem fa_eq64 (a b : Int64) : a = b ↔ a.toInt = b.toInt := Int64.toInt_inj.symm
/-- a comparison of two ints taken as longs -/
theorem fa_wide_lt (a b : Int32) : a.toInt64 < b.toInt64 ↔ a < b := by rw [fa_lt64, fa_lt, Int32.toInt_toInt64, Int32.toInt_toInt64]
theorem fa_wide_le (a b : Int32) : a.toInt64 ≤ b.toInt64 ↔ a ≤ b := by rw [fa_le64, fa_le, Int32.toInt_toInt64, Int32.toInt_toInt64]
theorem fa_wide_eq (a b : Int32) : a.toInt64 = b.toInt64 ↔ a = b := by rw [fa_eq64, fa_eq, Int32.toInt_toInt64, Int32.toInt_toInt64]
/-- one strict comparison gives all the others -/
theorem fa_of_lt {a b : Int32} (h : a < b) : a ≤ b ∧ ¬ b ≤ a ∧ ¬ b < a ∧ a ≠ b ∧ b ≠ a := by
  rw [fa_lt] at h
  refine ⟨?_, ?_, ?_, ?_, ?_⟩
  · rw [fa_le]; omega
  · rw [fa_le]; omega
  · rw [fa_lt]; omega
  · intro e; rw [fa_eq] at e; omega
  · intro e; rw [fa_eq] at e; omega
theorem fa_of_nlt {a b : Int32} (h : ¬ a < b) : b ≤ a := by
  rw [fa_lt] at h
  rw [fa_le]
  omega
theorem fa_of_nle {a b : Int32} (h : ¬ a ≤ b) : b < a := by
  rw [fa_le] at h
  rw [fa_lt]
  omega
theorem fa_le_ne {a b : Int32} (h : a ≤ b) (h2 : a ≠ b) : a < b := by
  rw [fa_le] at h
  rw [fa_lt]
  have h3 : a.toInt ≠ b.toInt := fun e => h2 ((fa_eq a b).mpr e)
  omega
theorem fa_three (a b : Int32) : a < b ∨ a = b ∨ b < a := by
  rw [fa_lt, fa_lt, fa_eq]
  omega
theorem fa_trans {a b c : Int32} (h : a < b) (h2 : b ≤ c) : a < c := by
  rw [fa_lt] at *
  rw [fa_le] at h2
  omega
/-! THE BASE: one list of words for all contracts, one form of contract (the answer and the cells behind it said outright), one row a call. -/
def cx_big : List Cond := lw_tbl.filter goodWord
theorem cx_bigIn {w : Cond} (h : w ∈ lw_tbl) (g : goodWord w = true) : w ∈ cx_big := List.mem_filter.mpr ⟨h, g⟩
theorem cx_tb {w : Cond} (i : Nat) (h : tables_1[i]? = some w) (g : goodWord w = true) : w ∈ cx_big := cx_bigIn (List.mem_append_right _ (List.mem_of_getElem? h)) g
theorem cx_tp {w : Cond} (i : Nat) (h : (k2_sels lw_privs)[i]? = some w) (g : goodWord w = true) : w ∈ cx_big := cx_bigIn (List.mem_append_left _ (List.mem_of_getElem? h)) g
theorem cx_ok {w : Cond} (h : w ∈ cx_big) : (w.onTables && w.keeps) = true ∨ ∃ ty, w = .arrayClass ty := good_of_word (List.mem_filter.mp h).2
theorem cx_gB : GoodIn cx_big cx_big := fun _ h => ⟨h, cx_ok h⟩
theorem cx_gC {y : MethodName} {b : ByteArray} {n : Nat} {r : Option FieldType} (h : Cond.code y b n r ∈ cx_big) : GoodIn cx_big (Cond.code y b n r :: cx_big) := fun w hw => by
  rcases List.mem_cons.mp hw with e | h2
  · subst e; exact ⟨h, cx_ok h⟩
  · exact cx_gB w h2
theorem cx_gV {own C : String} {idx : Nat} {y : MethodName} {b : ByteArray} {n : Nat} {r : Option FieldType} (h1 : Cond.methodLink own idx y ∈ cx_big) (h2 : Cond.instanceMethod y ∈ cx_big) (h3 : Cond.selects C y y ∈ cx_big) (h4 : Cond.initialized C ∈ cx_big) (h5 : Cond.code y b n r ∈ cx_big) : GoodIn cx_big (wsV own idx C y (Cond.code y b n r :: cx_big)) := fun w hw => by
  unfold wsV at hw
  rcases List.mem_append.mp hw with h | h
  · simp only [List.mem_cons, List.not_mem_nil, or_false] at h
    rcases h with e | e | e | e <;> subst e
    · exact ⟨h1, cx_ok h1⟩
    · exact ⟨h2, cx_ok h2⟩
    · exact ⟨h3, cx_ok h3⟩
    · exact ⟨h4, cx_ok h4⟩
  · exact cx_gC h5 w h
theorem cx_gS {own : String} {idx : Nat} {y : MethodName} {b : ByteArray} {n : Nat} {r : Option FieldType} (h1 : Cond.methodLink own idx y ∈ cx_big) (h2 : Cond.static y ∈ cx_big) (h4 : Cond.initialized own ∈ cx_big) (h5 : Cond.code y b n r ∈ cx_big) : GoodIn cx_big (wsS own idx y (Cond.code y b n r :: cx_big)) := fun w hw => by
  unfold wsS at hw
  rcases List.mem_append.mp hw with h | h
  · simp only [List.mem_cons, List.not_mem_nil, or_false] at h
    rcases h with e | e | e <;> subst e
    · exact ⟨h1, cx_ok h1⟩
    · exact ⟨h2, cx_ok h2⟩
    · exact ⟨h4, cx_ok h4⟩
  · exact cx_gC h5 w h
/-- the words of nest mates (not such as a list of words may hold), and of the arrays over objects and arrays -/
def cx_NW (U : State) : Prop := (∀ q ∈ cx_nest, va_Nw (.methodLinkNest q.1 q.2.1 q.2.2 "TreeMerge") U) ∧ va_AO "TreeMerge$Tree" U ∧ va_AOA .int U ∧ va_AOA .boolean U ∧ va_AOA .long U
theorem cx_NW.warm {s U : State} (hW : s.WarmedH U.vm) (h : cx_NW s) : cx_NW U := ⟨fun q hq => va_Nw.warmM hW (h.1 q hq), va_AO.moved hW.alike h.2.1, va_AOA.moved hW.alike h.2.2.1, va_AOA.moved hW.alike h.2.2.2.1, va_AOA.moved hW.alike h.2.2.2.2⟩
theorem cx_NW.same {u U : State} (hvm : u.vm = U.vm) (h : cx_NW u) : cx_NW U := by
  have ha : u.vm.Alike U.vm := by rw [hvm]; exact Vm.Alike.refl _
  exact ⟨fun q hq => va_Nw.same rfl hvm (h.1 q hq), va_AO.moved ha h.2.1, va_AOA.moved ha h.2.2.1, va_AOA.moved ha h.2.2.2.1, va_AOA.moved ha h.2.2.2.2⟩
/-- the array classes, by their places -/
def cx_TY (cs : Nat → ClassId) : List (ClassId × FieldType) := [(cs 0, .int), (cs 1, .long), (cs 2, .byte), (cs 3, .boolean), (cs 4, .array .int), (cs 5, .array .boolean), (cs 6, .array .long), (cs 7, .object "TreeMerge$Tree")]
def cx_P (D : va_G) (cs : Nat → ClassId) (av : List Value) (wc : va_W) (sz : Nat) : Array Value → State → Prop := va_Pc av (fun U => U.heap.size = sz ∧ va_P D vwCl wc U.heap ∧ va_K D vwCl (cx_TY cs) U ∧ va_D (fun _ => True) wc ∧ cx_NW U)
def cx_Q (D : va_G) (v : Option Value) (w1 : (Nat → Nat) → (Nat → (Nat → Int32) × (Nat → Nat)) → va_W) (A : Nat → Prop) : Array Value → State → Outcome → State → Prop := fun _ st oc t => (∃ (u : Nat → Nat) (g : Nat → (Nat → Int32) × (Nat → Nat)), oc = .returned v ∧ va_P D vwCl (w1 u g) t.heap ∧ va_D A (w1 u g)) ∧ va_F A st t
theorem cx_P.blind {D : va_G} {cs : Nat → ClassId} {av : List Value} {wc : va_W} {sz : Nat} : FrameBlind (cx_P D cs av wc sz) := fun a U g mk q => by
  obtain ⟨q0, q1, qP, qK, qD, qN⟩ := q
  exact ⟨q0, q1, qP, va_K.moved (u := U) (U := U.calling g mk a) (Vm.Alike.refl U.vm) qK, qD, cx_NW.same (u := U) (U := U.calling g mk a) rfl qN⟩
theorem cx_P.at {D : va_G} {cs : Nat → ClassId} {av : List Value} {wc : va_W} {A : Nat → Prop} {s : State} {H : Heap} (hP : va_P D vwCl wc H) (hD : va_D A wc) (hK : va_K D vwCl (cx_TY cs) s) (hN : cx_NW s) : ∀ U : State, U.heap = H → s.WarmedH U.vm → cx_P D cs av wc H.size av.toArray U := fun U hU hW =>
  ⟨rfl, by rw [hU], by rw [hU]; exact hP, va_K.moved hW.alike hK, hD.weaken (fun _ _ _ _ => trivial), hN.warm hW⟩
theorem cx_sub {ws wc : va_W} {isC : List Nat} (h : isC.map (fun i => ws[i]?) = wc.map some) : isC.filterMap (fun i => ws[i]?) = wc := by
  have e : isC.filterMap (fun i => ws[i]?) = (isC.map (fun i => ws[i]?)).filterMap id := by rw [List.filterMap_map]; rfl
  rw [e, h, List.filterMap_map]
  simp
theorem cx_inT {C : String} {T : u_T} {N : Nat} (ix : List Nat) (h : ∀ k, k < N → tables_1[ix.getD k 0]? = some (u_lay C T k)) (g : ∀ k, k < N → goodWord (u_lay C T k) = true) : ∀ w ∈ u_ws C T N, w ∈ cx_big := fun w hw => by
  unfold u_ws at hw
  obtain ⟨k, hk, rfl⟩ := List.mem_map.mp hw
  have hk2 := List.mem_range.mp hk
  exact cx_tb _ (h k hk2) (g k hk2)
theorem cx_ra_int {s : State} (c1 c2 : ClassId) (h1 : va_RA s c1 .int) (h2 : va_RA s c2 .int) : c1 = c2 := Option.some.inj ((show s.vm.findClass _ = some c1 from h1).symm.trans (show s.vm.findClass _ = some c2 from h2))
theorem cx_ra_long {s : State} (c1 c2 : ClassId) (h1 : va_RA s c1 .long) (h2 : va_RA s c2 .long) : c1 = c2 := Option.some.inj ((show s.vm.findClass _ = some c1 from h1).symm.trans (show s.vm.findClass _ = some c2 from h2))
theorem cx_ra_byte {s : State} (c1 c2 : ClassId) (h1 : va_RA s c1 .byte) (h2 : va_RA s c2 .byte) : c1 = c2 := Option.some.inj ((show s.vm.findClass _ = some c1 from h1).symm.trans (show s.vm.findClass _ = some c2 from h2))
theorem cx_ra_boolean {s : State} (c1 c2 : ClassId) (h1 : va_RA s c1 .boolean) (h2 : va_RA s c2 .boolean) : c1 = c2 := Option.some.inj ((show s.vm.findClass _ = some c1 from h1).symm.trans (show s.vm.findClass _ = some c2 from h2))
def cx_uo (l : List Nat) : Nat → Nat := fun k => l.getD k 0
def cx_go (l : List ((Nat → Int32) × (Nat → Nat))) : Nat → (Nat → Int32) × (Nat → Nat) := fun k => l.getD k (fun _ => 0, fun _ => 0)
section CX
variable {p : Program} {l : Launch} {e : Env} {R : Room} {s : State} {m : MethodId} {args : Array Value} {below : List Frame} {meth : Method} {c : Code} {H : Heap} {locs : List Loc} {cells slots : Nat} {Q : State → Prop} {cc : ByteArray} {pc : Nat} {ls : Array Slot} {rest st0 : List Value} {D : va_G} {A : Nat → Prop} {ws : va_W} {H0 : Heap} {cs : Nat → ClassId}
variable {y : MethodName} {bytes : ByteArray} {maxL nL mc ms n index : Nat} {ret : Option FieldType} {rm : Room} {own : String} {wc wr : va_W} {v : Option Value} {w1 : (Nat → Nat) → (Nat → (Nat → Int32) × (Nat → Nat)) → va_W}
theorem cx_topi {x w : Int32} (h : x = w) (k : W p l e R s m args below meth c H locs cells slots Q (F0 m pc ls (.int w :: rest))) : W p l e R s m args below meth c H locs cells slots Q (F0 m pc ls (.int x :: rest)) := h ▸ k
theorem cx_topl {x w : Int64} (h : x = w) (k : W p l e R s m args below meth c H locs cells slots Q (F0 m pc ls (.long w :: rest))) : W p l e R s m args below meth c H locs cells slots Q (F0 m pc ls (.long x :: rest)) := h ▸ k
theorem cx_in {i : Int32} {k : Nat} (h : decide (¬ (i < 0 ∨ k ≤ i.toNatClampNeg)) = true) : vp_in i k := by
  unfold vp_in
  exact of_decide_eq_true h
theorem cx_lc0 (x y : Int64) : (x.toInt < y.toInt ∧ lg_cmp x y = -1) ∨ (x.toInt = y.toInt ∧ lg_cmp x y = 0) ∨ (y.toInt < x.toInt ∧ lg_cmp x y = 1) := by
  unfold lg_cmp
  rcases Int.lt_trichotomy x.toInt y.toInt with h | h | h
  · refine Or.inl ⟨h, ?_⟩
    rw [if_neg (fun q => by have := Int64.lt_iff_toInt_lt.mp q; omega), if_neg (fun q => by rw [q] at h; exact Int.lt_irrefl _ h)]
  · refine Or.inr (Or.inl ⟨h, ?_⟩)
    rw [if_neg (fun q => by have := Int64.lt_iff_toInt_lt.mp q; omega), if_pos (Int64.toInt_inj.mp h)]
  · refine Or.inr (Or.inr ⟨h, ?_⟩)
    rw [if_pos (Int64.lt_iff_toInt_lt.mpr h)]
theorem cx_lc1 (x y : Int64) : lg_cmp x y < 0 ↔ x.toInt < y.toInt := by
  rcases cx_lc0 x y with ⟨h, e⟩ | ⟨h, e⟩ | ⟨h, e⟩ <;> rw [e] <;> constructor <;> intro q <;> first | exact h | decide | (exfalso; revert q; decide) | omega
theorem cx_lc2 (x y : Int64) : 0 < lg_cmp x y ↔ y.toInt < x.toInt := by
  rcases cx_lc0 x y with ⟨h, e⟩ | ⟨h, e⟩ | ⟨h, e⟩ <;> rw [e] <;> constructor <;> intro q <;> first | exact h | decide | (exfalso; revert q; decide) | omega
theorem cx_lc3 (x y : Int64) : lg_cmp x y ≤ 0 ↔ x.toInt ≤ y.toInt := by
  rcases cx_lc0 x y with ⟨h, e⟩ | ⟨h, e⟩ | ⟨h, e⟩ <;> rw [e] <;> constructor <;> intro q <;> first | omega | decide | (exfalso; revert q; decide)
theorem cx_lc4 (x y : Int64) : 0 ≤ lg_cmp x y ↔ y.toInt ≤ x.toInt := by
  rcases cx_lc0 x y with ⟨h, e⟩ | ⟨h, e⟩ | ⟨h, e⟩ <;> rw [e] <;> constructor <;> intro q <;> first | omega | decide | (exfalso; revert q; decide)
theorem cx_lc5 (x y : Int64) : lg_cmp x y = 0 ↔ x.toInt = y.toInt := by
  rcases cx_lc0 x y with ⟨h, e⟩ | ⟨h, e⟩ | ⟨h, e⟩ <;> rw [e] <;> constructor <;> intro q <;> first | exact h | rfl | (exfalso; revert q; decide) | omega
/-- a method's contract, out of the walk of its body -/
theorem cx_ofW {av : List Value} {sz : Nat} (hy : plainName y.cls = true) (hlen : (lg_sl av).length ≤ maxL)
    (body : ∀ (p : Program) (e : Env) (s : State) (m : MethodId) (below : List Frame) (meth : Method) (c : Code) (A : Nat → Prop) (ls : Array Slot), p.tables.exec = Jvm.exec → c.code = bytes → meth.sig.returnType = ret → c.maxLocals = maxL → (∀ w ∈ cx_big, w.before av.toArray s = true) → s.vm.findClass y.cls = some m.cls → meth.locks = false → meth.name = y.name → va_K D vwCl (cx_TY cs) s → cx_NW s → (∀ q : Nat, s.heap.size ≤ q → A q) → va_P D vwCl wc s.heap → va_D A wc → va_S A s.heap s.heap [] → lv_has ls maxL (lv_args 0 av) →
      W p l e rm s m av.toArray below meth c s.heap [] 0 0 (MQ below (cx_Q D v w1 A) av.toArray s mc ms A) (F0 m 0 ls [])) :
    Met l y (.code y bytes maxL ret :: cx_big) rm (cx_P D cs av wc sz) (cx_Q D v w1 (va_A wc sz)) mc ms (va_A wc sz) := by
  refine Met.ofW (cc := bytes) (maxL := maxL) (ret := ret) hy rfl ?_
  intro p e s m args below meth c s₁ B hml hv
  obtain ⟨rfl, hsz, hP, hK, hD0, hN⟩ := hv
  have hts := atoms_spec (ws := .code y bytes maxL ret :: cx_big) B.pre
  subst hsz
  have hl := lv_entry av (n := maxL) hlen
  rw [lg_entry_eq]
  generalize (lg_sl av ++ List.replicate (maxL - (lg_sl av).length) Slot.unset).toArray = ls at hl ⊢
  exact body p e s m below meth c (va_A wc s.heap.size) ls B.exec B.bytes B.returns hml (fun w h => hts w (List.mem_cons_of_mem _ h)) (findClass_of_methodNamed B.named) B.notSynchronized (name_of_methodNamed B.named B.method).1 hK hN (fun q h => Or.inr h) hP (hD0.self (sz := s.heap.size)) va_S.rf hl
/-- behind a call -/
theorem cx_call {a : Array Value} (hr : va_Run p l e R s m args below meth c H locs cells slots mc ms (F0 m pc ls st0) rest (cx_Q D v w1 (va_A wc H.size) a) (va_A wc H.size)) (hP : va_P D vwCl ws H) (hD : va_D A ws) (hS : va_S A H0 H locs) (hA : ∀ q, H0.size ≤ q → A q) (isC isR : List Nat) (hC : isC.map (fun i => ws[i]?) = wc.map some) (hR : isR.map (fun i => ws[i]?) = wr.map some) (hn : va_nd isR = true) (hdis : ∀ i ∈ isR, i ∉ isC)
    (kk : ∀ (u : Nat → Nat) (g : Nat → (Nat → Int32) × (Nat → Nat)) (H1 : Heap) (locs1 : List Loc), va_P D vwCl (wr ++ w1 u g) H1 → va_D A (wr ++ w1 u g) → va_S A H0 H1 locs1 → W p l e R s m args below meth c H1 locs1 (cells + mc) (slots + ms) Q (F0 m (pc + 3) ls (v.toList ++ rest))) : W p l e R s m args below meth c H locs cells slots Q (F0 m pc ls st0) := by
  have hF := va_free (wc := wc) hD hS hA isC hC
  intro T hT X
  obtain ⟨v', st₀, t, T', L, h0, X', hL, e1, e2, ⟨⟨u, g, hv, hp, hd⟩, hz, hk⟩, st⟩ := hr T hT X
  cases hv
  rw [h0] at hz hk
  have hk1 : ∀ q : Nat, q < H.size → ¬ va_A wc H.size q → T'.heap[q]? = H[q]? := fun q h1 h2 => by rw [e1]; exact hk q h1 h2
  obtain ⟨hP1, hD1⟩ := va_join hP hD isC isR hC hR hn hdis hk1 hF (by rw [e1]; exact hp) hd
  obtain ⟨t2, a1, b1⟩ := kk u g T'.heap (locs ++ L) hP1 hD1 ⟨Nat.le_trans hS.1 (by rw [e1]; exact hz), fun q h1 h2 => (hk1 q (Nat.lt_of_lt_of_le h1 hS.1) (fun z => h2 (hF q z))).trans (hS.2.1 q h1 h2), fun q hq => by
      rcases List.mem_append.mp hq with h | h
      · exact hS.2.2 q h
      · exact hF _ (hL q h)⟩ T' rfl X'
  exact ⟨t2, st t2 a1, b1⟩
theorem cx_V {o ci q0 : Nat} {As : List Value} {qc : vw_C} {fs : List Value} (S : CallFix p m c cc nL s args cx_big own) (hM : ∀ sz, Met l y (.code y bytes maxL ret :: cx_big) rm (cx_P D cs (.ref o :: As) wc sz) (cx_Q D v w1 (va_A wc sz)) mc ms (va_A wc sz)) (hT : GoodIn cx_big (wsV own index qc.1 y (.code y bytes maxL ret :: cx_big))) (hrc : rm.cells = mc) (hrs : rm.slots = ms)
    (hd : y.cls = qc.1 ∧ y.cls ≠ "java/lang/invoke/MethodHandle" ∧ y.cls ≠ "java/lang/invoke/VarHandle" ∧ (parseMethodDescriptor y.desc).map (fun d => d.parameters.length) = some n) (hRm : rm.frames + 1 ≤ R.frames ∧ 8 + (maxL + 11) + rm.locals ≤ R.locals) (hK : va_K D vwCl (cx_TY cs) s) (hN : cx_NW s)
    (hP : va_P D vwCl ws H) (hD : va_D A ws) (hS : va_S A H0 H locs) (hA : ∀ q, H0.size ≤ q → A q) (isC isR : List Nat) (hC : isC.map (fun i => ws[i]?) = wc.map some) (hR : isR.map (fun i => ws[i]?) = wr.map some) (hnd : va_nd isC = true ∧ va_nd isR = true ∧ ∀ i ∈ isR, i ∉ isC)
    (hc : vwCl[ci]? = some qc) (he : wc[q0]? = some (o, .inr (ci, fs))) (hnA : As.length = n) (hsize : ls.size = nL) (hstack : st0 = As.reverse ++ .ref o :: rest) (hW : (rest.map fun v => v.category).sum ≤ 8) (hdg : decode cc pc = .ok (.invokevirtual index, 3)) (hf : cells + mc ≤ R.cells ∧ slots + ms ≤ R.slots)
    (kk : ∀ (u : Nat → Nat) (g : Nat → (Nat → Int32) × (Nat → Nat)) (H1 : Heap) (locs1 : List Loc), va_P D vwCl (wr ++ w1 u g) H1 → va_D A (wr ++ w1 u g) → va_S A H0 H1 locs1 → W p l e R s m args below meth c H1 locs1 (cells + mc) (slots + ms) Q (F0 m (pc + 3) ls (v.toList ++ rest))) : W p l e R s m args below meth c H locs cells slots Q (F0 m pc ls st0) := by
  have hPc : va_P D vwCl wc H := hP.sub isC (cx_sub hC)
  have hDc : va_D A wc := hD.sub isC hnd.1 hC
  exact cx_call (va_runV S (hM H.size) (cwV n S.2.2.2.2 hT rfl hrc hrs hd hRm) ⟨cx_P.blind, va_recv hK hPc hc he, cx_P.at hPc hDc hK hN⟩ rfl hnA hsize hstack (lv_room hW) hdg hf) hP hD hS hA isC isR hC hR hnd.2.1 hnd.2.2 kk
theorem cx_S {As : List Value} (S : CallFix p m c cc nL s args cx_big own) (hM : ∀ sz, Met l y (.code y bytes maxL ret :: cx_big) rm (cx_P D cs As wc sz) (cx_Q D v w1 (va_A wc sz)) mc ms (va_A wc sz)) (hT : GoodIn cx_big (wsS own index y (.code y bytes maxL ret :: cx_big))) (hrc : rm.cells = mc) (hrs : rm.slots = ms)
    (hd : y.cls = own ∧ y.cls ≠ "java/lang/invoke/MethodHandle" ∧ y.cls ≠ "java/lang/invoke/VarHandle" ∧ (parseMethodDescriptor y.desc).map (fun d => d.parameters.length) = some n) (hRm : rm.frames + 1 ≤ R.frames ∧ 8 + (maxL + 11) + rm.locals ≤ R.locals) (hK : va_K D vwCl (cx_TY cs) s) (hN : cx_NW s)
    (hP : va_P D vwCl ws H) (hD : va_D A ws) (hS : va_S A H0 H locs) (hA : ∀ q, H0.size ≤ q → A q) (isC isR : List Nat) (hC : isC.map (fun i => ws[i]?) = wc.map some) (hR : isR.map (fun i => ws[i]?) = wr.map some) (hnd : va_nd isC = true ∧ va_nd isR = true ∧ ∀ i ∈ isR, i ∉ isC)
    (hnA : As.length = n) (hsize : ls.size = nL) (hstack : st0 = As.reverse ++ rest) (hW : (rest.map fun v => v.category).sum ≤ 8) (hdg : decode cc pc = .ok (.invokestatic index, 3)) (hf : cells + mc ≤ R.cells ∧ slots + ms ≤ R.slots)
    (kk : ∀ (u : Nat → Nat) (g : Nat → (Nat → Int32) × (Nat → Nat)) (H1 : Heap) (locs1 : List Loc), va_P D vwCl (wr ++ w1 u g) H1 → va_D A (wr ++ w1 u g) → va_S A H0 H1 locs1 → W p l e R s m args below meth c H1 locs1 (cells + mc) (slots + ms) Q (F0 m (pc + 3) ls (v.toList ++ rest))) : W p l e R s m args below meth c H locs cells slots Q (F0 m pc ls st0) := by
  have hPc : va_P D vwCl wc H := hP.sub isC (cx_sub hC)
  have hDc : va_D A wc := hD.sub isC hnd.1 hC
  exact cx_call (va_runS S (hM H.size) (cwS n S.2.2.2.2 hT rfl hrc hrs hd hRm) ⟨cx_P.blind, cx_P.at hPc hDc hK hN⟩ rfl hnA hsize hstack (lv_room hW) hdg hf) hP hD hS hA isC isR hC hR hnd.2.1 hnd.2.2 kk
theorem cx_I {o : Nat} {As : List Value} (S : CallFix p m c cc nL s args cx_big own) (hM : ∀ sz, Met l y (.code y bytes maxL none :: cx_big) rm (cx_P D cs (.ref o :: As) wc sz) (cx_Q D v w1 (va_A wc sz)) mc ms (va_A wc sz)) (hcd : Cond.code y bytes maxL none ∈ cx_big) (hini : Cond.initialized y.cls ∈ cx_big) (hlk : Cond.methodLink own index y ∈ cx_big) (him : Cond.instanceMethod y ∈ cx_big) (hrc : rm.cells = mc) (hrs : rm.slots = ms) (hy1 : y.name = "<init>")
    (hd : y.cls ≠ "java/lang/invoke/MethodHandle" ∧ y.cls ≠ "java/lang/invoke/VarHandle" ∧ (parseMethodDescriptor y.desc).map (fun d => d.parameters.length) = some n) (hRm : rm.frames + 1 ≤ R.frames ∧ 8 + (maxL + 11) + rm.locals ≤ R.locals) (hK : va_K D vwCl (cx_TY cs) s) (hN : cx_NW s)
    (hP : va_P D vwCl ws H) (hD : va_D A ws) (hS : va_S A H0 H locs) (hA : ∀ q, H0.size ≤ q → A q) (isC isR : List Nat) (hC : isC.map (fun i => ws[i]?) = wc.map some) (hR : isR.map (fun i => ws[i]?) = wr.map some) (hnd : va_nd isC = true ∧ va_nd isR = true ∧ ∀ i ∈ isR, i ∉ isC)
    (hnA : As.length = n) (hsize : ls.size = nL) (hstack : st0 = As.reverse ++ .ref o :: rest) (hW : (rest.map fun v => v.category).sum ≤ 8) (hdg : decode cc pc = .ok (.invokespecial index, 3)) (hf : cells + mc ≤ R.cells ∧ slots + ms ≤ R.slots)
    (kk : ∀ (u : Nat → Nat) (g : Nat → (Nat → Int32) × (Nat → Nat)) (H1 : Heap) (locs1 : List Loc), va_P D vwCl (wr ++ w1 u g) H1 → va_D A (wr ++ w1 u g) → va_S A H0 H1 locs1 → W p l e R s m args below meth c H1 locs1 (cells + mc) (slots + ms) Q (F0 m (pc + 3) ls (v.toList ++ rest))) : W p l e R s m args below meth c H locs cells slots Q (F0 m pc ls st0) := by
  have hPc : va_P D vwCl wc H := hP.sub isC (cx_sub hC)
  have hDc : va_D A wc := hD.sub isC hnd.1 hC
  exact cx_call (va_runI S (hM H.size) (cwI n S.2.2.2.2 (cx_gC hcd) rfl hrc hrs (S.2.2.2.2 _ hini) (S.2.2.2.2 _ hlk) (S.2.2.2.2 _ him) hy1 hd hRm) ⟨cx_P.blind, cx_P.at hPc hDc hK hN⟩ rfl hnA hsize hstack (lv_room hW) hdg hf) hP hD hS hA isC isR hC hR hnd.2.1 hnd.2.2 kk
theorem cx_IN {o : Nat} {As : List Value} (S : CallFix p m c cc nL s args cx_big own) (hM : ∀ sz, Met l y (.code y bytes maxL none :: cx_big) rm (cx_P D cs (.ref o :: As) wc sz) (cx_Q D v w1 (va_A wc sz)) mc ms (va_A wc sz)) (hcd : Cond.code y bytes maxL none ∈ cx_big) (hini : Cond.initialized y.cls ∈ cx_big) (hlk : (own, index, y) ∈ cx_nest) (him : Cond.instanceMethod y ∈ cx_big) (hrc : rm.cells = mc) (hrs : rm.slots = ms) (hy1 : y.name = "<init>")
    (hd : y.cls ≠ "java/lang/invoke/MethodHandle" ∧ y.cls ≠ "java/lang/invoke/VarHandle" ∧ (parseMethodDescriptor y.desc).map (fun d => d.parameters.length) = some n) (hRm : rm.frames + 1 ≤ R.frames ∧ 8 + (maxL + 11) + rm.locals ≤ R.locals) (hK : va_K D vwCl (cx_TY cs) s) (hN : cx_NW s)
    (hP : va_P D vwCl ws H) (hD : va_D A ws) (hS : va_S A H0 H locs) (hA : ∀ q, H0.size ≤ q → A q) (isC isR : List Nat) (hC : isC.map (fun i => ws[i]?) = wc.map some) (hR : isR.map (fun i => ws[i]?) = wr.map some) (hnd : va_nd isC = true ∧ va_nd isR = true ∧ ∀ i ∈ isR, i ∉ isC)
    (hnA : As.length = n) (hsize : ls.size = nL) (hstack : st0 = As.reverse ++ .ref o :: rest) (hW : (rest.map fun v => v.category).sum ≤ 8) (hdg : decode cc pc = .ok (.invokespecial index, 3)) (hf : cells + mc ≤ R.cells ∧ slots + ms ≤ R.slots)
    (kk : ∀ (u : Nat → Nat) (g : Nat → (Nat → Int32) × (Nat → Nat)) (H1 : Heap) (locs1 : List Loc), va_P D vwCl (wr ++ w1 u g) H1 → va_D A (wr ++ w1 u g) → va_S A H0 H1 locs1 → W p l e R s m args below meth c H1 locs1 (cells + mc) (slots + ms) Q (F0 m (pc + 3) ls (v.toList ++ rest))) : W p l e R s m args below meth c H locs cells slots Q (F0 m pc ls st0) := by
  have hPc : va_P D vwCl wc H := hP.sub isC (cx_sub hC)
  have hDc : va_D A wc := hD.sub isC hnd.1 hC
  exact cx_call (va_runIN S (hM H.size) ⟨va_cnB n S.2.2.2.2 (cx_gC hcd) rfl hrc hrs (hN.1 _ hlk) (S.2.2.2.2 _ hini) hd hRm, hy1, S.2.2.2.2 _ him⟩ ⟨cx_P.blind, cx_P.at hPc hDc hK hN⟩ rfl hnA hsize hstack (lv_room hW) hdg hf) hP hD hS hA isC isR hC hR hnd.2.1 hnd.2.2 kk
/-- a new array of a small type, of the class that the list has for it -/
theorem cx_newa (hexec : p.tables.exec = Jvm.exec) (hb : c.code = cc) {atype : ArrayType} (hB : ∀ w ∈ cx_big, w.before args s = true) (harr : Cond.arrayClass (newarray.typeOf atype) ∈ cx_big) {ty : FieldType} (hty : newarray.typeOf atype = ty) (hu : ∀ c1 c2 : ClassId, va_RA s c1 ty → va_RA s c2 ty → c1 = c2) (t0 : Nat) {cA : ClassId} (ht : (cx_TY cs)[t0]? = some (cA, ty)) (hK : va_K D vwCl (cx_TY cs) s) (hP : va_P D vwCl ws H) (hD : va_D A ws) (hS : va_S A H0 H locs) (hA : ∀ q, H0.size ≤ q → A q)
    {k : Int32} {N' : Nat} {a0 : vp_A} (ha : ∀ cA : ClassId, vp_cell cA a0 = arrV cA N' (fun _ => defaultValue ty)) (hn : ¬ k < 0) (hN : k.toNatClampNeg = N') (hbytes : N' * componentBytes ty ≤ 536870912) (hcells : cells + 1 ≤ R.cells) (hslots : slots + N' ≤ R.slots) (hdg : decode cc pc = .ok (.newarray atype, 2))
    (kk : ∀ (q : Nat) (H1 : Heap), va_P D vwCl (ws ++ [(q, .inl (cA, a0))]) H1 → va_D A (ws ++ [(q, .inl (cA, a0))]) → va_S A H0 H1 locs → W p l e R s m args below meth c H1 locs (cells + 1) (slots + N') Q (F0 m (pc + 2) ls (.ref q :: rest))) : W p l e R s m args below meth c H locs cells slots Q (F0 m pc ls (.int k :: rest)) :=
  va_newa hexec hb (hB _ harr) hty hK hP hD hS hA ha hn hN hbytes hcells hslots hdg (fun q c1 H1 hK1 hP1 hD1 hS1 => by
    have e : c1 = cA := hu c1 cA (hK1.2 (cx_TY cs).length (c1, ty) (by rw [List.getElem?_append_right (Nat.le_refl _), Nat.sub_self]; rfl)).2 (hK.2 t0 _ ht).2
    subst e
    exact kk q H1 hP1 hD1 hS1)
theorem cx_drop (hP : va_P D vwCl ws H) (hD : va_D A ws) (is : List Nat) (h : is.map (fun i => ws[i]?) = wc.map some) (hn : va_nd is = true) : va_P D vwCl wc H ∧ va_D A wc := ⟨hP.sub is (cx_sub h), hD.sub is hn h⟩
theorem cx_vret (hx : p.tables.exec = Jvm.exec) (hb : c.code = cc) (hr : meth.sig.returnType = none) (hlocks : meth.locks = false) (hP : va_P D vwCl ws H) (hD : va_D A ws) (hS : va_S A s.heap H locs) (u : Nat → Nat) (g : Nat → (Nat → Int32) × (Nat → Nat)) (is : List Nat) (h : is.map (fun i => ws[i]?) = (w1 u g).map some) (hn : va_nd is = true) (hc : cells ≤ mc) (hs : slots ≤ ms) (hdg : decode cc pc = .ok (.return_, 1)) : W p l e R s m args below meth c H locs cells slots (MQ below (cx_Q D none w1 A) args s mc ms A) (F0 m pc ls []) := by
  obtain ⟨hP9, hD9⟩ := cx_drop hP hD is h hn
  refine W.widen hc hs ?_
  exact W.vret hx hb hr (fun t ht hW => ⟨⟨u, g, rfl, by rw [ht]; exact hP9, hD9⟩, hS.F ht⟩) hS.2.2 hdg hlocks
theorem cx_iret {x : Int32} (hx : p.tables.exec = Jvm.exec) (hb : c.code = cc) (hr : meth.sig.returnType = some .int) (hlocks : meth.locks = false) (hv : v = some (.int x)) (hP : va_P D vwCl ws H) (hD : va_D A ws) (hS : va_S A s.heap H locs) (u : Nat → Nat) (g : Nat → (Nat → Int32) × (Nat → Nat)) (is : List Nat) (h : is.map (fun i => ws[i]?) = (w1 u g).map some) (hn : va_nd is = true) (hc : cells ≤ mc) (hs : slots ≤ ms) (hdg : decode cc pc = .ok (.ireturn, 1)) : W p l e R s m args below meth c H locs cells slots (MQ below (cx_Q D v w1 A) args s mc ms A) (F0 m pc ls [.int x]) := by
  obtain ⟨hP9, hD9⟩ := cx_drop hP hD is h hn
  refine W.widen hc hs ?_
  exact W.iret hx hb hr (fun t ht hW => ⟨⟨u, g, by rw [hv], by rw [ht]; exact hP9, hD9⟩, hS.F ht⟩) hS.2.2 hdg hlocks
theorem cx_zret {x : Int32} (hx : p.tables.exec = Jvm.exec) (hb : c.code = cc) (hr : meth.sig.returnType = some .boolean) (hlocks : meth.locks = false) (hnar : narrow .boolean (.int x) = .int x) (hv : v = some (.int x)) (hP : va_P D vwCl ws H) (hD : va_D A ws) (hS : va_S A s.heap H locs) (u : Nat → Nat) (g : Nat → (Nat → Int32) × (Nat → Nat)) (is : List Nat) (h : is.map (fun i => ws[i]?) = (w1 u g).map some) (hn : va_nd is = true) (hc : cells ≤ mc) (hs : slots ≤ ms) (hdg : decode cc pc = .ok (.ireturn, 1)) : W p l e R s m args below meth c H locs cells slots (MQ below (cx_Q D v w1 A) args s mc ms A) (F0 m pc ls [.int x]) := by
  obtain ⟨hP9, hD9⟩ := cx_drop hP hD is h hn
  refine W.widen hc hs ?_
  exact W.zret hx hb hr hnar (fun t ht hW => ⟨⟨u, g, by rw [hv], by rw [ht]; exact hP9, hD9⟩, hS.F ht⟩) hS.2.2 hdg hlocks
theorem cx_lret {x : Int64} (hx : p.tables.exec = Jvm.exec) (hb : c.code = cc) (hr : meth.sig.returnType = some .long) (hlocks : meth.locks = false) (hv : v = some (.long x)) (hP : va_P D vwCl ws H) (hD : va_D A ws) (hS : va_S A s.heap H locs) (u : Nat → Nat) (g : Nat → (Nat → Int32) × (Nat → Nat)) (is : List Nat) (h : is.map (fun i => ws[i]?) = (w1 u g).map some) (hn : va_nd is = true) (hc : cells ≤ mc) (hs : slots ≤ ms) (hdg : decode cc pc = .ok (.lreturn, 1)) : W p l e R s m args below meth c H locs cells slots (MQ below (cx_Q D v w1 A) args s mc ms A) (F0 m pc ls [.long x]) := by
  obtain ⟨hP9, hD9⟩ := cx_drop hP hD is h hn
  refine W.widen hc hs ?_
  exact W.lret hx hb hr (fun t ht hW => ⟨⟨u, g, by rw [hv], by rw [ht]; exact hP9, hD9⟩, hS.F ht⟩) hS.2.2 hdg hlocks
theorem cx_nret {C : String} (hx : p.tables.exec = Jvm.exec) (hb : c.code = cc) (hr : meth.sig.returnType = some (.object C)) (hlocks : meth.locks = false) (hP : va_P D vwCl ws H) (hD : va_D A ws) (hS : va_S A s.heap H locs) (u : Nat → Nat) (g : Nat → (Nat → Int32) × (Nat → Nat)) (is : List Nat) (h : is.map (fun i => ws[i]?) = (w1 u g).map some) (hn : va_nd is = true) (hc : cells ≤ mc) (hs : slots ≤ ms) (hdg : decode cc pc = .ok (.areturn, 1)) : W p l e R s m args below meth c H locs cells slots (MQ below (cx_Q D (some .null) w1 A) args s mc ms A) (F0 m pc ls [.null]) := by
  obtain ⟨hP9, hD9⟩ := cx_drop hP hD is h hn
  refine W.widen hc hs ?_
  exact W.aret hx hb hr (Or.inl ⟨_, rfl⟩) (Or.inl rfl) (fun t ht hW => ⟨⟨u, g, rfl, by rw [ht]; exact hP9, hD9⟩, hS.F ht⟩) hS.2.2 hdg hlocks
end CX
