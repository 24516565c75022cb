/-! typed worlds: stores, contracts, calls, ends -/
theorem tw_fv_arr {E : Nat → va_E} {a : Nat} {x : ClassId × vp_A} (he : E a = .inl x) (y : ClassId × vp_A) (b k : Nat) : tw_fv (va_up E a (.inl y)) b k = tw_fv E b k := by
  by_cases hb : b = a
  · subst hb
    unfold tw_fv
    rw [va_up_self, he]
  · unfold tw_fv
    rw [va_up_ne E _ hb]
section TWC
variable {p : Program} {l : Launch} {e : Env} {R : Room} {s : State} {m : MethodId} {args : Array Value} {below : List Frame} {meth : Method} {c : Code} {H : Heap} {locs : List Loc} {cells slots : Nat} {Q : State → Prop} {cc : ByteArray} {pc : Nat} {ls : Array Slot} {rest : List Value} {D : va_G} {A : Nat → Prop} {H0 : Heap} {cs : Nat → ClassId} {kp : Nat → Nat} {L : List Nat} {E : Nat → va_E} {a : Nat}
theorem tw_iast (hexec : p.tables.exec = Jvm.exec) (hb : c.code = cc) (hK : va_K D vwCl (cx_TY cs) s) (TH : tw_H D cs kp L E A H) (hS : va_S A H0 H locs) (ha : a ∈ L) {k n : Nat} {lo hi : Int} (hk : kp a = k) (hge : 100 ≤ k) (hkd : tw_KD k = (0, 0, n, lo, hi)) {i x : Int32} (hin : vp_in i n) (h1 : lo ≤ x.toInt) (h2 : x.toInt ≤ hi) (hdg : decode cc pc = .ok (.iastore, 1))
    (kk : ∀ (H1 : Heap) (locs1 : List Loc) (E1 : Nat → va_E), tw_H D cs kp L E1 A H1 → va_S A H0 H1 locs1 → (∀ b j : Nat, tw_fv E1 b j = tw_fv E b j) → (∀ b : Nat, b ≠ a → E1 b = E b) → (∀ j : Nat, tw_iv E1 a j = if j = i.toNatClampNeg then x else tw_iv E a j) → W p l e R s m args below meth c H1 locs1 cells slots Q (F0 m (pc + 1) ls rest)) : W p l e R s m args below meth c H locs cells slots Q (F0 m pc ls (.int x :: .int i :: .ref a :: rest)) := by
  obtain ⟨⟨n2, y⟩, he, hl, hC⟩ := tw_arr TH.2.2 ha hk hge
  obtain ⟨q, hq⟩ := tw_at (E := E) ha
  rw [hkd] at he hl hC
  have hl : n2 = n := hl
  subst hl
  match y, he, hC with
  | .inl f, he, hC =>
    have hq2 := hq
    rw [he] at hq2
    refine va_iast hexec hb hK TH.1 TH.2.1 hS q 0 hq2 rfl hin hdg (fun H1 locs1 hP1 hD1 hS1 => ?_)
    have hne : tw_E cs kp L (kp a) (.inl (cs 0, n2, .inl (upd f i.toNatClampNeg x))) := by
      refine ⟨by rw [hk]; exact hge, by rw [hk, hkd], by rw [hk, hkd], ?_⟩
      rw [hk, hkd]
      intro j hj
      show lo ≤ (upd f i.toNatClampNeg x j).toInt ∧ (upd f i.toNatClampNeg x j).toInt ≤ hi
      by_cases hji : j = i.toNatClampNeg
      · subst hji
        rw [pk_us]
        exact ⟨h1, h2⟩
      · rw [pk_un hji]
        exact hC j hj
    refine kk H1 locs1 _ (tw_write TH ha hq hne hP1 hD1) hS1 (fun b j => tw_fv_arr he _ b j) (fun b hba => va_up_ne E _ hba) (fun j => ?_)
    unfold tw_iv
    rw [va_up_self, he]
    rfl
/-- a contract's start and end over typed worlds -/
def tw_P (D : va_G) (cs : Nat → ClassId) (kp : Nat → Nat) (L : List Nat) (E : Nat → va_E) (av : List Value) (sz : Nat) : Array Value → State → Prop := va_Pc av (fun U => U.heap.size = sz ∧ tw_H D cs kp L E (fun _ => True) U.heap ∧ va_K D vwCl (cx_TY cs) U ∧ tw_NZ D (va_A (va_pl L E) sz) U U.heap)
def tw_Q (D : va_G) (cs : Nat → ClassId) (kp : Nat → Nat) (L : List Nat) (post : Option Value → (Nat → Nat) → List Nat → (Nat → va_E) → Prop) (A : Nat → Prop) : Array Value → State → Outcome → State → Prop := fun _ st oc t => (∃ (v : Option Value) (kp1 : Nat → Nat) (L1 : List Nat) (E1 : Nat → va_E), oc = .returned v ∧ post v kp1 L1 E1 ∧ (∀ a : Nat, a ∈ L → a ∈ L1 ∧ kp1 a = kp a) ∧ tw_H D cs kp1 L1 E1 A t.heap) ∧ va_F A st t
theorem tw_P.blind {av : List Value} {sz : Nat} : FrameBlind (tw_P D cs kp L E av sz) := fun a U g mk q => by
  obtain ⟨q0, q1, qP, qK, qN, qZ⟩ := q
  exact ⟨q0, q1, qP, va_K.moved (u := U) (U := U.calling g mk a) (Vm.Alike.refl U.vm) qK, cx_NW.same (u := U) (U := U.calling g mk a) rfl qN, st_S.same (u := U) (U := U.calling g mk a) rfl qZ⟩
theorem tw_H.any (TH : tw_H D cs kp L E A H) : tw_H D cs kp L E (fun _ => True) H := ⟨TH.1, TH.2.1.weaken (fun _ _ _ _ => trivial), TH.2.2⟩
theorem tw_P.at {av : List Value} (TH : tw_H D cs kp L E A H) (hK : va_K D vwCl (cx_TY cs) s) (hN : tw_NZ D A s s.heap) (hS : va_S A s.heap H locs) (hA : ∀ q, s.heap.size ≤ q → A q) : ∀ U : State, U.heap = H → s.WarmedH U.vm → tw_P D cs kp L E av H.size av.toArray U := fun U hU hW =>
  ⟨rfl, by rw [hU], by rw [hU]; exact TH.any, va_K.moved hW.alike hK, hN.1.warm hW, by
    rw [hU]
    refine hN.2.to hW hS.2.1 (fun q h => ?_)
    rcases h with ⟨k, x, h⟩ | h
    · exact TH.2.1.2 k _ h
    · exact hA q (Nat.le_trans hS.1 h)⟩
variable {y : MethodName} {bytes : ByteArray} {maxL nL mc ms n index : Nat} {ret : Option FieldType} {rm : Room} {own : String} {post : Option Value → (Nat → Nat) → List Nat → (Nat → va_E) → Prop} {st0 : List Value}
theorem tw_ofW {av : List Value} {sz : Nat} (hy : plainName y.cls = true) (hlen : (lg_sl av).length ≤ maxL)
    (body : ∀ (p : Program) (e : Env) (s : State) (m : MethodId) (below : List Frame) (meth : Method) (c : Code) (A : Nat → Prop) (ls : Array Slot), p.tables.exec = Jvm.exec → c.code = bytes → meth.sig.returnType = ret → c.maxLocals = maxL → (∀ w ∈ cx_big, w.before av.toArray s = true) → s.vm.findClass y.cls = some m.cls → meth.locks = false → va_K D vwCl (cx_TY cs) s → tw_NZ D A s s.heap → (∀ q : Nat, s.heap.size ≤ q → A q) → tw_H D cs kp L E A s.heap → va_S A s.heap s.heap [] → lv_has ls maxL (lv_args 0 av) →
      W p l e rm s m av.toArray below meth c s.heap [] 0 0 (MQ below (tw_Q D cs kp L post A) av.toArray s mc ms A) (F0 m 0 ls [])) :
    Met l y (.code y bytes maxL ret :: cx_big) rm (tw_P D cs kp L E av sz) (tw_Q D cs kp L post (va_A (va_pl L E) sz)) mc ms (va_A (va_pl L E) sz) := by
  refine Met.ofW (cc := bytes) (maxL := maxL) (ret := ret) hy rfl ?_
  intro p e s m args below meth c s₁ B hml hv
  obtain ⟨rfl, hsz, TH, hK, hN⟩ := hv
  have hts := atoms_spec (ws := .code y bytes maxL ret :: cx_big) B.pre
  subst hsz
  have hl := lv_entry av (n := maxL) hlen
  rw [lg_entry_eq]
  generalize (lg_sl av ++ List.replicate (maxL - (lg_sl av).length) Slot.unset).toArray = ls at hl ⊢
  exact body p e s m below meth c (va_A (va_pl L E) s.heap.size) ls B.exec B.bytes B.returns hml (fun w h => hts w (List.mem_cons_of_mem _ h)) (findClass_of_methodNamed B.named) B.notSynchronized hK hN (fun q h => Or.inr h) ⟨TH.1, TH.2.1.self (sz := s.heap.size), TH.2.2⟩ va_S.rf hl
theorem tw_call {v0 : Array Value} (hr : va_Run p l e R s m args below meth c H locs cells slots mc ms (F0 m pc ls st0) rest (tw_Q D cs kp L post (va_A (va_pl L E) H.size) v0) (va_A (va_pl L E) H.size)) (TH : tw_H D cs kp L E A H) (hS : va_S A H0 H locs) (hA : ∀ q, H0.size ≤ q → A q)
    (kk : ∀ (v : Option Value) (kp1 : Nat → Nat) (L1 : List Nat) (E1 : Nat → va_E) (H1 : Heap) (locs1 : List Loc), post v kp1 L1 E1 → (∀ a : Nat, a ∈ L → a ∈ L1 ∧ kp1 a = kp a) → tw_H D cs kp1 L1 E1 A H1 → va_S A H0 H1 locs1 → W p l e R s m args below meth c H1 locs1 (cells + mc) (slots + ms) Q (F0 m (pc + 3) ls (v.toList ++ rest))) : W p l e R s m args below meth c H locs cells slots Q (F0 m pc ls st0) := by
  have hF : ∀ q, va_A (va_pl L E) H.size q → A q := fun q h => by
    rcases h with ⟨k, x, h⟩ | h
    · exact TH.2.1.2 k _ h
    · exact hA q (Nat.le_trans hS.1 h)
  intro T hT X
  obtain ⟨v', st₀, t, T', J, h0, X', hJ, e1, e2, ⟨⟨v, kp1, L1, E1, hv, hp, hx, hh⟩, hz, hk⟩, st⟩ := hr T hT X
  cases hv
  rw [h0] at hz hk
  have hk1 : ∀ q : Nat, q < H.size → ¬ va_A (va_pl L E) H.size q → T'.heap[q]? = H[q]? := fun q h1 h2 => by rw [e1]; exact hk q h1 h2
  rw [← e1] at hh
  obtain ⟨t2, a1, b1⟩ := kk v' kp1 L1 E1 T'.heap (locs ++ J) hp hx ⟨hh.1, hh.2.1.weaken (fun _ q _ h => hF q.1 h), hh.2.2⟩ ⟨Nat.le_trans hS.1 (by rw [e1]; exact hz), fun q h1 h2 => (hk1 q (Nat.lt_of_lt_of_le h1 hS.1) (fun z => h2 (hF q z))).trans (hS.2.1 q h1 h2), fun q hq => by
      rcases List.mem_append.mp hq with h | h
      · exact hS.2.2 q h
      · exact hF _ (hJ q h)⟩ T' rfl X'
  exact ⟨t2, st t2 a1, b1⟩
theorem tw_Vc {o ci : Nat} {As : List Value} {qc : vw_C} (S : CallFix p m c cc nL s args cx_big own) (hM : ∀ sz, Met l y (.code y bytes maxL ret :: cx_big) rm (tw_P D cs kp L E (.ref o :: As) sz) (tw_Q D cs kp L post (va_A (va_pl L E) sz)) mc ms (va_A (va_pl L E) sz)) (hT : GoodIn cx_big (wsV own index qc.1 y (.code y bytes maxL ret :: cx_big))) (hrc : rm.cells = mc) (hrs : rm.slots = ms)
    (hd : y.cls = qc.1 ∧ y.cls ≠ "java/lang/invoke/MethodHandle" ∧ y.cls ≠ "java/lang/invoke/VarHandle" ∧ (parseMethodDescriptor y.desc).map (fun d => d.parameters.length) = some n) (hRm : rm.frames + 1 ≤ R.frames ∧ 8 + (maxL + 11) + rm.locals ≤ R.locals) (hK : va_K D vwCl (cx_TY cs) s) (hN : tw_NZ D A s s.heap) (TH : tw_H D cs kp L E A H) (hS : va_S A s.heap H locs) (hA : ∀ q, s.heap.size ≤ q → A q)
    (hc : vwCl[ci]? = some qc) (ho : o ∈ L) (hk : kp o = ci) (hci : ci < 100) (hnA : As.length = n) (hsize : ls.size = nL) (hstack : st0 = As.reverse ++ .ref o :: rest) (hW : (rest.map fun v => v.category).sum ≤ 8) (hdg : decode cc pc = .ok (.invokevirtual index, 3)) (hf : cells + mc ≤ R.cells ∧ slots + ms ≤ R.slots)
    (kk : ∀ (v : Option Value) (kp1 : Nat → Nat) (L1 : List Nat) (E1 : Nat → va_E) (H1 : Heap) (locs1 : List Loc), post v kp1 L1 E1 → (∀ a : Nat, a ∈ L → a ∈ L1 ∧ kp1 a = kp a) → tw_H D cs kp1 L1 E1 A H1 → va_S A s.heap H1 locs1 → W p l e R s m args below meth c H1 locs1 (cells + mc) (slots + ms) Q (F0 m (pc + 3) ls (v.toList ++ rest))) : W p l e R s m args below meth c H locs cells slots Q (F0 m pc ls st0) := by
  obtain ⟨fs, he, -, -⟩ := tw_obj TH.2.2 ho hk hci
  obtain ⟨q, hq⟩ := tw_at (E := E) ho
  rw [he] at hq
  exact tw_call (va_runV S (hM H.size) (cwV n S.2.2.2.2 hT rfl hrc hrs hd hRm) ⟨tw_P.blind, va_recv hK TH.1 hc hq, tw_P.at TH hK hN hS hA⟩ rfl hnA hsize hstack (lv_room hW) hdg hf) TH hS hA kk
theorem tw_vret {kp0 : Nat → Nat} {L0 : List Nat} (hx : p.tables.exec = Jvm.exec) (hb : c.code = cc) (hr : meth.sig.returnType = none) (hlocks : meth.locks = false) (TH : tw_H D cs kp L E A H) (hS : va_S A s.heap H locs) (hext : ∀ a : Nat, a ∈ L0 → a ∈ L ∧ kp a = kp0 a) (hp : post none kp L E) (hc : cells ≤ mc) (hs : slots ≤ ms) (hdg : decode cc pc = .ok (.return_, 1)) : W p l e R s m args below meth c H locs cells slots (MQ below (tw_Q D cs kp0 L0 post A) args s mc ms A) (F0 m pc ls []) := by
  refine W.widen hc hs ?_
  exact W.vret hx hb hr (fun t ht hW => ⟨⟨none, kp, L, E, rfl, hp, hext, by rw [ht]; exact TH⟩, hS.F ht⟩) hS.2.2 hdg hlocks
theorem tw_iret {kp0 : Nat → Nat} {L0 : List Nat} {x : Int32} (hx : p.tables.exec = Jvm.exec) (hb : c.code = cc) (hr : meth.sig.returnType = some .int) (hlocks : meth.locks = false) (TH : tw_H D cs kp L E A H) (hS : va_S A s.heap H locs) (hext : ∀ a : Nat, a ∈ L0 → a ∈ L ∧ kp a = kp0 a) (hp : post (some (.int x)) kp L E) (hc : cells ≤ mc) (hs : slots ≤ ms) (hdg : decode cc pc = .ok (.ireturn, 1)) : W p l e R s m args below meth c H locs cells slots (MQ below (tw_Q D cs kp0 L0 post A) args s mc ms A) (F0 m pc ls [.int x]) := by
  refine W.widen hc hs ?_
  exact W.iret hx hb hr (fun t ht hW => ⟨⟨some (.int x), kp, L, E, rfl, hp, hext, by rw [ht]; exact TH⟩, hS.F ht⟩) hS.2.2 hdg hlocks
theorem tw_bret {kp0 : Nat → Nat} {L0 : List Nat} {x : Int32} {ty : FieldType} (hx : p.tables.exec = Jvm.exec) (hb : c.code = cc) (hr : meth.sig.returnType = some ty) (hlocks : meth.locks = false) (hnar : narrow ty (.int x) = .int x) (TH : tw_H D cs kp L E A H) (hS : va_S A s.heap H locs) (hext : ∀ a : Nat, a ∈ L0 → a ∈ L ∧ kp a = kp0 a) (hp : post (some (.int x)) kp L E) (hc : cells ≤ mc) (hs : slots ≤ ms) (hdg : decode cc pc = .ok (.ireturn, 1)) : W p l e R s m args below meth c H locs cells slots (MQ below (tw_Q D cs kp0 L0 post A) args s mc ms A) (F0 m pc ls [.int x]) := by
  refine W.widen hc hs ?_
  exact W.zret hx hb hr hnar (fun t ht hW => ⟨⟨some (.int x), kp, L, E, rfl, hp, hext, by rw [ht]; exact TH⟩, hS.F ht⟩) hS.2.2 hdg hlocks
theorem tw_zret {kp0 : Nat → Nat} {L0 : List Nat} {x : Int32} (hx : p.tables.exec = Jvm.exec) (hb : c.code = cc) (hr : meth.sig.returnType = some .boolean) (hlocks : meth.locks = false) (hnar : narrow .boolean (.int x) = .int x) (TH : tw_H D cs kp L E A H) (hS : va_S A s.heap H locs) (hext : ∀ a : Nat, a ∈ L0 → a ∈ L ∧ kp a = kp0 a) (hp : post (some (.int x)) kp L E) (hc : cells ≤ mc) (hs : slots ≤ ms) (hdg : decode cc pc = .ok (.ireturn, 1)) : W p l e R s m args below meth c H locs cells slots (MQ below (tw_Q D cs kp0 L0 post A) args s mc ms A) (F0 m pc ls [.int x]) := by
  refine W.widen hc hs ?_
  exact W.zret hx hb hr hnar (fun t ht hW => ⟨⟨some (.int x), kp, L, E, rfl, hp, hext, by rw [ht]; exact TH⟩, hS.F ht⟩) hS.2.2 hdg hlocks
end TWC
