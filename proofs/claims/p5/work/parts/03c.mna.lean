section CXM
variable {p : Program} {l : Launch} {e : Env} {R : Room} {s : State} {m : MethodId} {args : Array Value} {below : List Frame} {meth : Method} {c : Code} {H : Heap} {locs : List Loc} {cells slots : Nat} {Q : State → Prop} {cc : ByteArray} {pc : Nat} {ls : Array Slot} {rest : List Value} {D : va_G} {A : Nat → Prop} {ws : va_W} {H0 : Heap} {cs : Nat → ClassId}
/-- new T[n][k]: the outer array, and those of its rows that are wanted -/
theorem cx_mna (hexec : p.tables.exec = Jvm.exec) (hb : c.code = cc) (hB : ∀ w ∈ cx_big, w.before args s = true) {own nm : String} {index : Nat} {ty : FieldType} (hown : s.vm.findClass own = some m.cls) (hcl : Cond.classLink own index nm ∈ cx_big) (hnm : nm = "[" ++ (FieldType.array ty).toString) (harr : Cond.arrayClass ty ∈ cx_big) (hover : va_AOA ty s) (hra : ∀ c1 : ClassId, va_RA s c1 ty → s.vm.findClass (FieldType.array ty).toString = some c1)
    (t0 tA : Nat) {cA cy : ClassId} (ht : (cx_TY cs)[t0]? = some (cy, ty)) (htA : (cx_TY cs)[tA]? = some (cA, .array ty)) (hK : va_K D vwCl (cx_TY cs) s) (hP : va_P D vwCl ws H) (hD : va_D A ws) (hS : va_S A H0 H locs) (hA : ∀ q, H0.size ≤ q → A q) {n k : Int32} {N K : Nat} {z : vp_A}
    (hn : ¬ n < 0) (hk : ¬ k < 0) (hN : n.toNatClampNeg = N) (hM : k.toNatClampNeg = K) (b1 : N * 4 ≤ 536870912) (b2 : K * componentBytes ty ≤ 536870912) (b3 : K ≤ 536870912) (hf : fits ty (defaultValue ty) = true) (hd : (defaultValue ty).isDefault = true) (hcells : cells + (1 + N) ≤ R.cells) (hslots : slots + (N + N * K) ≤ R.slots) (hz : ∀ c : ClassId, mg_in c K (defaultValue ty) = vp_cell c z)
    (J : List Nat) (hJ : ∀ j ∈ J, j < N) (hJn : va_nd J = true) (hdg : decode cc pc = .ok (.multianewarray index 2, 4))
    (kk : ∀ (q : Nat) (r : Nat → Nat) (H1 : Heap), va_P D vwCl (ws ++ (q, .inl (cA, N, .inr (.inr (.inr (.inr (fun i => if i < N then some (r i) else none)))))) :: J.map (fun j => (r j, .inl (cy, z)))) H1 → va_D A (ws ++ (q, .inl (cA, N, .inr (.inr (.inr (.inr (fun i => if i < N then some (r i) else none)))))) :: J.map (fun j => (r j, .inl (cy, z)))) → va_S A H0 H1 locs → W p l e R s m args below meth c H1 locs (cells + 1 + N) (slots + N + N * K) Q (F0 m (pc + 4) ls (.ref q :: rest))) :
    W p l e R s m args below meth c H locs cells slots Q (F0 m pc ls (.int k :: .int n :: rest)) := by
  subst hN
  subst hM
  intro T hT X
  obtain ⟨v1, c1, c2, kA, e1, e2, e3, e4, XG, step⟩ := mg_step X hexec hown (by rw [← hnm]; exact hB _ hcl) hover (hB _ harr) (g := F0 m pc ls (.int k :: .int n :: rest)) rfl (by rw [hb]; exact hdg) rfl hn hk b1 b2 b3 hf hd hcells hslots
  have ea : c1 = cA := Option.some.inj (e1.symm.trans (show s.vm.findClass _ = some cA from (hK.2 tA _ htA).2))
  have ey : c2 = cy := Option.some.inj (e2.symm.trans (hra cy (hK.2 t0 _ ht).2))
  subst ea
  subst ey
  obtain ⟨i1, i2, -, -, i5, i6⟩ := mg_at (T.setVm v1) c1 c2 n.toNatClampNeg k.toNatClampNeg (defaultValue ty) n.toNatClampNeg
  have hTh : (T.setVm v1).heap = H := hT
  rw [hTh] at i1 i2 i5 i6
  generalize hF : mg_st (T.setVm v1) c1 c2 n.toNatClampNeg k.toNatClampNeg (defaultValue ty) n.toNatClampNeg = F at *
  have hP2 : va_P D vwCl (((H.size, .inl (c1, n.toNatClampNeg, .inr (.inr (.inr (.inr (fun i => if i < n.toNatClampNeg then some ((fun i => H.size + 1 + i) i) else none)))))) : Nat × va_E) :: J.map (fun j => (((fun i => H.size + 1 + i) j, .inl (c2, z)) : Nat × va_E))) F.heap := by
    intro x q hx
    cases x with
    | zero =>
      rw [List.getElem?_cons_zero] at hx
      cases hx
      exact i2
    | succ x =>
      rw [List.getElem?_cons_succ] at hx
      obtain ⟨j, hj, rfl⟩ := List.mem_map.mp (List.mem_of_getElem? hx)
      show F.heap[H.size + 1 + j]? = some (vp_cell c2 z)
      rw [← hz]
      exact i6 j (hJ j hj)
  have hge : ∀ (x : Nat) (q : Nat × va_E), (((H.size, .inl (c1, n.toNatClampNeg, .inr (.inr (.inr (.inr (fun i => if i < n.toNatClampNeg then some ((fun i => H.size + 1 + i) i) else none)))))) : Nat × va_E) :: J.map (fun j => (((fun i => H.size + 1 + i) j, .inl (c2, z)) : Nat × va_E)))[x]? = some q → H.size ≤ q.1 := by
    intro x q hx
    cases x with
    | zero =>
      rw [List.getElem?_cons_zero] at hx
      cases hx
      exact Nat.le_refl _
    | succ x =>
      rw [List.getElem?_cons_succ] at hx
      obtain ⟨j, hj, rfl⟩ := List.mem_map.mp (List.mem_of_getElem? hx)
      show H.size ≤ H.size + 1 + j
      omega
  have hD2 : va_D A (((H.size, .inl (c1, n.toNatClampNeg, .inr (.inr (.inr (.inr (fun i => if i < n.toNatClampNeg then some ((fun i => H.size + 1 + i) i) else none)))))) : Nat × va_E) :: J.map (fun j => (((fun i => H.size + 1 + i) j, .inl (c2, z)) : Nat × va_E))) := by
    refine ⟨fun i j a b hi hj hab => ?_, fun x q hx => hA _ (Nat.le_trans hS.1 (hge x q hx))⟩
    cases i with
    | zero =>
      rw [List.getElem?_cons_zero] at hi
      cases hi
      cases j with
      | zero => rfl
      | succ j =>
        rw [List.getElem?_cons_succ, List.getElem?_map] at hj
        cases hj2 : J[j]? with
        | none => rw [hj2] at hj; cases hj
        | some y =>
          rw [hj2] at hj
          cases hj
          have : H.size = H.size + 1 + y := hab
          omega
    | succ i =>
      rw [List.getElem?_cons_succ, List.getElem?_map] at hi
      cases hi2 : J[i]? with
      | none => rw [hi2] at hi; cases hi
      | some x =>
        rw [hi2] at hi
        cases hi
        cases j with
        | zero =>
          rw [List.getElem?_cons_zero] at hj
          cases hj
          have : H.size + 1 + x = H.size := hab
          omega
        | succ j =>
          rw [List.getElem?_cons_succ, List.getElem?_map] at hj
          cases hj2 : J[j]? with
          | none => rw [hj2] at hj; cases hj
          | some y =>
            rw [hj2] at hj
            cases hj
            have hxy : H.size + 1 + x = H.size + 1 + y := hab
            have hxy2 : y = x := by omega
            subst hxy2
            rw [va_nd_inj J hJn i j y hi2 hj2]
  obtain ⟨t, a1, b9⟩ := kk H.size (fun i => H.size + 1 + i) F.heap ((hP.kept (fun x q hx => i5 q.1 ((hP x q hx).lt))).app hP2) (hD.app hD2 (fun i j x y hx hy hxy => by
      have q1 := (hP i x hx).lt
      have q2 := hge j y hy
      omega)) ⟨by rw [i1]; have := hS.1; omega, fun x h1 h2 => (i5 x (Nat.lt_of_lt_of_le h1 hS.1)).trans (hS.2.1 x h1 h2), hS.2.2⟩ F rfl XG
  refine ⟨t, step t ?_, b9⟩
  rw [show T.heap.size = H.size by rw [hT]]
  exact a1
theorem cx_alda (hexec : p.tables.exec = Jvm.exec) (hb : c.code = cc) {tys : List (ClassId × FieldType)} (hK : va_K D vwCl tys s) (hP : va_P D vwCl ws H) (q0 t0 : Nat) {cA : ClassId} {ty : FieldType} {n a b : Nat} {f : Nat → Option Nat} (ha : ws[q0]? = some (a, .inl (cA, n, .inr (.inr (.inr (.inr f)))))) (ht : tys[t0]? = some (cA, .array ty)) {i : Int32} (hin : vp_in i n) (hv : f i.toNatClampNeg = some b) (hdg : decode cc pc = .ok (.aaload, 1))
    (kk : W p l e R s m args below meth c H locs cells slots Q (F0 m (pc + 1) ls (.ref b :: rest))) : W p l e R s m args below meth c H locs cells slots Q (F0 m pc ls (.int i :: .ref a :: rest)) := by
  have hlt : i.toNatClampNeg < n := Nat.not_le.mp fun q => hin (Or.inr q)
  exact W.aald (v := .ref b) (ty := .array ty) hexec hb (hP q0 _ ha) ((hK.2 t0 _ ht).1 n (fun j => va_rf (f j))) rfl (fun q => by cases q) (by show ¬ (i < 0 ∨ (arrV _ _ _).slots.size ≤ _); rw [arrV_size]; exact hin) (by show (arrV _ _ _).slots[_]? = _; rw [arrV_read _ _ hlt, hv]; rfl) rfl rfl hdg kk
end CXM
