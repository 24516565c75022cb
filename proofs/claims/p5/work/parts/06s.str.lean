/-! strings and statics that String's own methods read: they lie outside of what may change; their places are D.2 100 (the strings) and D.2 101 (their bytes) -/
def st_S (D : va_G) (A : Nat → Prop) (U : State) (H : Heap) : Prop := vk_S 2 [4, 3] [[108, 101, 97, 102], [115, 101, 116]] (D.2 100) (D.2 101) A U H ∧ va_Z "java/lang/String" "COMPACT_STRINGS" "Z" (.int 1) A U H ∧ va_Zq "jdk/internal/util/Preconditions" "SIOOBE_FORMATTER" "Ljava/util/function/BiFunction;" A U H ∧ vk_R "TreeMerge$Text" 41 "leaf" (D.2 100 0) U ∧ vk_R "TreeMerge$Text" 47 "set" (D.2 100 1) U ∧ vk_R "TreeMergeModel" 213 "leaf" (D.2 100 0) U ∧ vk_R "TreeMergeModel" 219 "set" (D.2 100 1) U
theorem st_S.same {D : va_G} {A : Nat → Prop} {u U : State} {H : Heap} (hv : U.vm = u.vm) (h : st_S D A u H) : st_S D A U H := by
  have ha : u.vm.Alike U.vm := by rw [hv]; exact Vm.Alike.refl _
  exact ⟨h.1.moved ha, h.2.1.moved ha, h.2.2.1.moved ha, h.2.2.2.1.same hv, h.2.2.2.2.1.same hv, h.2.2.2.2.2.1.same hv, h.2.2.2.2.2.2.same hv⟩
theorem st_S.to {D : va_G} {A B : Nat → Prop} {s U : State} {H H1 : Heap} (h : st_S D A s H) (hW : s.WarmedH U.vm) (hk : ∀ a : Nat, a < H.size → ¬ A a → H1[a]? = H[a]?) (hAB : ∀ q, B q → A q) : st_S D B U H1 :=
  ⟨((h.1.moved hW.alike).kept hk).narrow hAB, ((h.2.1.moved hW.alike).kept hk).narrow hAB, ((h.2.2.1.moved hW.alike).kept hk).narrow hAB, h.2.2.2.1.warm hW, h.2.2.2.2.1.warm hW, h.2.2.2.2.2.1.warm hW, h.2.2.2.2.2.2.warm hW⟩
def tw_NZ (D : va_G) (A : Nat → Prop) (U : State) (H : Heap) : Prop := cx_NW U ∧ st_S D A U H
