section TWL
variable {p : Program} {l : Launch} {e : Env} {R : Room} {s : State} {m : MethodId} {args : Array Value} {below : List Frame} {meth : Method} {c : Code} {H : Heap} {locs : List Loc} {cells slots : Nat} {Q : State → Prop} {cc : ByteArray} {pc : Nat} {ls : Array Slot} {rest : List Value} {D : va_G} {A : Nat → Prop} {H0 : Heap} {cs : Nat → ClassId} {kp : Nat → Nat} {L : List Nat} {E : Nat → va_E} {a : Nat}
theorem tw_lald (hexec : p.tables.exec = Jvm.exec) (hb : c.code = cc) (hK : va_K D vwCl (cx_TY cs) s) (TH : tw_H D cs kp L E A H) (ha : a ∈ L) {k n : Nat} {lo hi : Int} (hk : kp a = k) (hge : 100 ≤ k) (hkd : tw_KD k = (1, 1, n, lo, hi)) {i : Int32} (hin : vp_in i n) (hdg : decode cc pc = .ok (.laload, 1))
    (kk : ∀ x : Int64, W p l e R s m args below meth c H locs cells slots Q (F0 m (pc + 1) ls (.long x :: rest))) : W p l e R s m args below meth c H locs cells slots Q (F0 m pc ls (.int i :: .ref a :: rest)) := by
  obtain ⟨⟨n2, x⟩, he, hl, hC⟩ := tw_arr TH.2.2 ha hk hge
  obtain ⟨q, hq⟩ := tw_at (E := E) ha
  rw [hkd] at he hl hC
  have hl : n2 = n := hl
  subst hl
  match x, he, hC with
  | .inr (.inl f), he, hC =>
    rw [he] at hq
    exact va_lald hexec hb hK TH.1 q 1 hq rfl hin hdg (kk _)
theorem tw_last (hexec : p.tables.exec = Jvm.exec) (hb : c.code = cc) (hK : va_K D vwCl (cx_TY cs) s) (TH : tw_H D cs kp L E A H) (hS : va_S A H0 H locs) (ha : a ∈ L) {k n : Nat} {lo hi : Int} (hk : kp a = k) (hge : 100 ≤ k) (hkd : tw_KD k = (1, 1, n, lo, hi)) {i : Int32} {x : Int64} (hin : vp_in i n) (hdg : decode cc pc = .ok (.lastore, 1))
    (kk : ∀ (H1 : Heap) (locs1 : List Loc) (E1 : Nat → va_E), tw_H D cs kp L E1 A H1 → va_S A H0 H1 locs1 → (∀ b j : Nat, tw_fv E1 b j = tw_fv E b j) → (∀ b : Nat, b ≠ a → E1 b = E b) → W p l e R s m args below meth c H1 locs1 cells slots Q (F0 m (pc + 1) ls rest)) : W p l e R s m args below meth c H locs cells slots Q (F0 m pc ls (.long x :: .int i :: .ref a :: rest)) := by
  obtain ⟨⟨n2, y⟩, he, hl, hC⟩ := tw_arr TH.2.2 ha hk hge
  obtain ⟨q, hq⟩ := tw_at (E := E) ha
  rw [hkd] at he hl hC
  have hl : n2 = n := hl
  subst hl
  match y, he, hC with
  | .inr (.inl f), he, hC =>
    have hq2 := hq
    rw [he] at hq2
    refine va_last hexec hb hK TH.1 TH.2.1 hS q 1 hq2 rfl hin hdg (fun H1 locs1 hP1 hD1 hS1 => ?_)
    have hne : tw_E cs kp L (kp a) (.inl (cs 1, n2, .inr (.inl (vp_updL f i.toNatClampNeg x)))) := by
      refine ⟨by rw [hk]; exact hge, by rw [hk, hkd], by rw [hk, hkd], ?_⟩
      rw [hk, hkd]
      exact trivial
    exact kk H1 locs1 _ (tw_write TH ha hq hne hP1 hD1) hS1 (fun b j => tw_fv_arr he _ b j) (fun b hba => va_up_ne E _ hba)
end TWL
