set_option maxHeartbeats 4000000 in
set_option maxRecDepth 100000 in
theorem law_exit {p : Program} {l : Launch} {e : Env} {s : State} {m : MethodId} {below : List Frame} {meth : Method} {c : Code} {D : va_G} {cs : Nat → ClassId} {A : Nat → Prop} {b : Nat} {xs : Nat → Int32} (mq xq : Nat) {cells slots : Nat} (hc : cells ≤ 600000) (hs : slots ≤ 7302250) (hx : p.tables.exec = Jvm.exec) (hb : c.code = cL_law) (hr : meth.sig.returnType = ret) (hml : c.maxLocals = 4) (hB : ∀ w ∈ cx_big, w.before #[Value.ref b] s = true) (hown : s.vm.findClass "TreeMergeLaw" = some m.cls) (hlocks : meth.locks = false) (hK : va_K D vwCl (cx_TY cs) s) (hN : cx_NW s) (hA : ∀ q : Nat, s.heap.size ≤ q → A q) (hA2 : ∀ q : Nat, A q → s.heap.size ≤ q) (hbA : ¬ A b) (hbl : b < s.heap.size) (hX : va_X b 6 xs s s.heap) (H : Heap) (locs : List Loc) (hS : va_S A s.heap H locs) (ls : Array Slot) (hl : lv_has ls 4 [(3, .int 0), (2, .ref mq), (1, .ref xq), (0, .ref b)]) : W p l e room_1 s m #[Value.ref b] below meth c H locs cells slots (lw_Z below #[Value.ref b] s) (F0 m 1179 ls []) := by
  refine lv_iinc (v := 6) (lv' := [(3, .int 6), (2, .ref mq), (1, .ref xq), (0, .ref b)]) hx hb dL_law_1179 hl (k := 0) rfl (by decide) (by decide) rfl (fun ls hl => ?_)
  refine lv_goto (tgt := 18) hx hb dL_law_1182 (by decide) ?_
  refine lv_iload_n hx hb dL_law_18 rfl (lv_at hl 0 rfl) ?_
  refine lv_aload_n hx hb dL_law_19 rfl (lv_at hl 3 rfl) ?_
  refine va_slen hx hb hX hbl hbA hS dL_law_20 ?_
  refine cx_topi (w := 6) (by decide) ?_
  refine lv_bipush (v := 6) hx hb dL_law_21 (by decide) ?_
  refine lv_isub hx hb dL_law_23 ?_
  refine cx_topi (w := 0) (by decide) ?_
  refine lv_icmp_gt (tgt := 1185) hx hb dL_law_24 (by decide) (fun _ => ?_) (fun hq => absurd (by decide) hq)
  refine lv_iconst (v := 1) hx hb dL_law_1185 (by decide) ?_
  refine va_forget (fun q hq => hA2 _ (hS.2.2 q hq)) ?_
  refine W.widen (k := 600000) (n := 7302250) hc hs ?_
  exact lw_ret hx hb hr hlocks dL_law_1186
set_option maxHeartbeats 4000000 in
set_option maxRecDepth 100000 in
theorem law_short0 {p : Program} {l : Launch} {e : Env} {s : State} {m : MethodId} {below : List Frame} {meth : Method} {c : Code} {D : va_G} {cs : Nat → ClassId} {A : Nat → Prop} {b : Nat} {xs : Nat → Int32} (mq xq : Nat) {cells slots : Nat} (hc : cells ≤ 600000) (hs : slots ≤ 7302250) (hx : p.tables.exec = Jvm.exec) (hb : c.code = cL_law) (hr : meth.sig.returnType = ret) (hml : c.maxLocals = 4) (hB : ∀ w ∈ cx_big, w.before #[Value.ref b] s = true) (hown : s.vm.findClass "TreeMergeLaw" = some m.cls) (hlocks : meth.locks = false) (hK : va_K D vwCl (cx_TY cs) s) (hN : cx_NW s) (hA : ∀ q : Nat, s.heap.size ≤ q → A q) (hA2 : ∀ q : Nat, A q → s.heap.size ≤ q) (hbA : ¬ A b) (hbl : b < s.heap.size) (hX : va_X b 0 xs s s.heap) (H : Heap) (locs : List Loc) (hS : va_S A s.heap H locs) (ls : Array Slot) (hl : lv_has ls 4 [(3, .int 0), (2, .ref mq), (1, .ref xq), (0, .ref b)]) : W p l e room_1 s m #[Value.ref b] below meth c H locs cells slots (lw_Z below #[Value.ref b] s) (F0 m 18 ls []) := by
  refine lv_iload_n hx hb dL_law_18 rfl (lv_at hl 0 rfl) ?_
  refine lv_aload_n hx hb dL_law_19 rfl (lv_at hl 3 rfl) ?_
  refine va_slen hx hb hX hbl hbA hS dL_law_20 ?_
  refine cx_topi (w := 0) (by decide) ?_
  refine lv_bipush (v := 6) hx hb dL_law_21 (by decide) ?_
  refine lv_isub hx hb dL_law_23 ?_
  refine cx_topi (w := (-6)) (by decide) ?_
  refine lv_icmp_gt (tgt := 1185) hx hb dL_law_24 (by decide) (fun _ => ?_) (fun hq => absurd (by decide) hq)
  refine lv_iconst (v := 1) hx hb dL_law_1185 (by decide) ?_
  refine va_forget (fun q hq => hA2 _ (hS.2.2 q hq)) ?_
  refine W.widen (k := 600000) (n := 7302250) hc hs ?_
  exact lw_ret hx hb hr hlocks dL_law_1186
set_option maxHeartbeats 4000000 in
set_option maxRecDepth 100000 in
theorem law_short1 {p : Program} {l : Launch} {e : Env} {s : State} {m : MethodId} {below : List Frame} {meth : Method} {c : Code} {D : va_G} {cs : Nat → ClassId} {A : Nat → Prop} {b : Nat} {xs : Nat → Int32} (mq xq : Nat) {cells slots : Nat} (hc : cells ≤ 600000) (hs : slots ≤ 7302250) (hx : p.tables.exec = Jvm.exec) (hb : c.code = cL_law) (hr : meth.sig.returnType = ret) (hml : c.maxLocals = 4) (hB : ∀ w ∈ cx_big, w.before #[Value.ref b] s = true) (hown : s.vm.findClass "TreeMergeLaw" = some m.cls) (hlocks : meth.locks = false) (hK : va_K D vwCl (cx_TY cs) s) (hN : cx_NW s) (hA : ∀ q : Nat, s.heap.size ≤ q → A q) (hA2 : ∀ q : Nat, A q → s.heap.size ≤ q) (hbA : ¬ A b) (hbl : b < s.heap.size) (hX : va_X b 1 xs s s.heap) (H : Heap) (locs : List Loc) (hS : va_S A s.heap H locs) (ls : Array Slot) (hl : lv_has ls 4 [(3, .int 0), (2, .ref mq), (1, .ref xq), (0, .ref b)]) : W p l e room_1 s m #[Value.ref b] below meth c H locs cells slots (lw_Z below #[Value.ref b] s) (F0 m 18 ls []) := by
  refine lv_iload_n hx hb dL_law_18 rfl (lv_at hl 0 rfl) ?_
  refine lv_aload_n hx hb dL_law_19 rfl (lv_at hl 3 rfl) ?_
  refine va_slen hx hb hX hbl hbA hS dL_law_20 ?_
  refine cx_topi (w := 1) (by decide) ?_
  refine lv_bipush (v := 6) hx hb dL_law_21 (by decide) ?_
  refine lv_isub hx hb dL_law_23 ?_
  refine cx_topi (w := (-5)) (by decide) ?_
  refine lv_icmp_gt (tgt := 1185) hx hb dL_law_24 (by decide) (fun _ => ?_) (fun hq => absurd (by decide) hq)
  refine lv_iconst (v := 1) hx hb dL_law_1185 (by decide) ?_
  refine va_forget (fun q hq => hA2 _ (hS.2.2 q hq)) ?_
  refine W.widen (k := 600000) (n := 7302250) hc hs ?_
  exact lw_ret hx hb hr hlocks dL_law_1186
set_option maxHeartbeats 4000000 in
set_option maxRecDepth 100000 in
theorem law_short2 {p : Program} {l : Launch} {e : Env} {s : State} {m : MethodId} {below : List Frame} {meth : Method} {c : Code} {D : va_G} {cs : Nat → ClassId} {A : Nat → Prop} {b : Nat} {xs : Nat → Int32} (mq xq : Nat) {cells slots : Nat} (hc : cells ≤ 600000) (hs : slots ≤ 7302250) (hx : p.tables.exec = Jvm.exec) (hb : c.code = cL_law) (hr : meth.sig.returnType = ret) (hml : c.maxLocals = 4) (hB : ∀ w ∈ cx_big, w.before #[Value.ref b] s = true) (hown : s.vm.findClass "TreeMergeLaw" = some m.cls) (hlocks : meth.locks = false) (hK : va_K D vwCl (cx_TY cs) s) (hN : cx_NW s) (hA : ∀ q : Nat, s.heap.size ≤ q → A q) (hA2 : ∀ q : Nat, A q → s.heap.size ≤ q) (hbA : ¬ A b) (hbl : b < s.heap.size) (hX : va_X b 2 xs s s.heap) (H : Heap) (locs : List Loc) (hS : va_S A s.heap H locs) (ls : Array Slot) (hl : lv_has ls 4 [(3, .int 0), (2, .ref mq), (1, .ref xq), (0, .ref b)]) : W p l e room_1 s m #[Value.ref b] below meth c H locs cells slots (lw_Z below #[Value.ref b] s) (F0 m 18 ls []) := by
  refine lv_iload_n hx hb dL_law_18 rfl (lv_at hl 0 rfl) ?_
  refine lv_aload_n hx hb dL_law_19 rfl (lv_at hl 3 rfl) ?_
  refine va_slen hx hb hX hbl hbA hS dL_law_20 ?_
  refine cx_topi (w := 2) (by decide) ?_
  refine lv_bipush (v := 6) hx hb dL_law_21 (by decide) ?_
  refine lv_isub hx hb dL_law_23 ?_
  refine cx_topi (w := (-4)) (by decide) ?_
  refine lv_icmp_gt (tgt := 1185) hx hb dL_law_24 (by decide) (fun _ => ?_) (fun hq => absurd (by decide) hq)
  refine lv_iconst (v := 1) hx hb dL_law_1185 (by decide) ?_
  refine va_forget (fun q hq => hA2 _ (hS.2.2 q hq)) ?_
  refine W.widen (k := 600000) (n := 7302250) hc hs ?_
  exact lw_ret hx hb hr hlocks dL_law_1186
set_option maxHeartbeats 4000000 in
set_option maxRecDepth 100000 in
theorem law_short3 {p : Program} {l : Launch} {e : Env} {s : State} {m : MethodId} {below : List Frame} {meth : Method} {c : Code} {D : va_G} {cs : Nat → ClassId} {A : Nat → Prop} {b : Nat} {xs : Nat → Int32} (mq xq : Nat) {cells slots : Nat} (hc : cells ≤ 600000) (hs : slots ≤ 7302250) (hx : p.tables.exec = Jvm.exec) (hb : c.code = cL_law) (hr : meth.sig.returnType = ret) (hml : c.maxLocals = 4) (hB : ∀ w ∈ cx_big, w.before #[Value.ref b] s = true) (hown : s.vm.findClass "TreeMergeLaw" = some m.cls) (hlocks : meth.locks = false) (hK : va_K D vwCl (cx_TY cs) s) (hN : cx_NW s) (hA : ∀ q : Nat, s.heap.size ≤ q → A q) (hA2 : ∀ q : Nat, A q → s.heap.size ≤ q) (hbA : ¬ A b) (hbl : b < s.heap.size) (hX : va_X b 3 xs s s.heap) (H : Heap) (locs : List Loc) (hS : va_S A s.heap H locs) (ls : Array Slot) (hl : lv_has ls 4 [(3, .int 0), (2, .ref mq), (1, .ref xq), (0, .ref b)]) : W p l e room_1 s m #[Value.ref b] below meth c H locs cells slots (lw_Z below #[Value.ref b] s) (F0 m 18 ls []) := by
  refine lv_iload_n hx hb dL_law_18 rfl (lv_at hl 0 rfl) ?_
  refine lv_aload_n hx hb dL_law_19 rfl (lv_at hl 3 rfl) ?_
  refine va_slen hx hb hX hbl hbA hS dL_law_20 ?_
  refine cx_topi (w := 3) (by decide) ?_
  refine lv_bipush (v := 6) hx hb dL_law_21 (by decide) ?_
  refine lv_isub hx hb dL_law_23 ?_
  refine cx_topi (w := (-3)) (by decide) ?_
  refine lv_icmp_gt (tgt := 1185) hx hb dL_law_24 (by decide) (fun _ => ?_) (fun hq => absurd (by decide) hq)
  refine lv_iconst (v := 1) hx hb dL_law_1185 (by decide) ?_
  refine va_forget (fun q hq => hA2 _ (hS.2.2 q hq)) ?_
  refine W.widen (k := 600000) (n := 7302250) hc hs ?_
  exact lw_ret hx hb hr hlocks dL_law_1186
set_option maxHeartbeats 4000000 in
set_option maxRecDepth 100000 in
theorem law_short4 {p : Program} {l : Launch} {e : Env} {s : State} {m : MethodId} {below : List Frame} {meth : Method} {c : Code} {D : va_G} {cs : Nat → ClassId} {A : Nat → Prop} {b : Nat} {xs : Nat → Int32} (mq xq : Nat) {cells slots : Nat} (hc : cells ≤ 600000) (hs : slots ≤ 7302250) (hx : p.tables.exec = Jvm.exec) (hb : c.code = cL_law) (hr : meth.sig.returnType = ret) (hml : c.maxLocals = 4) (hB : ∀ w ∈ cx_big, w.before #[Value.ref b] s = true) (hown : s.vm.findClass "TreeMergeLaw" = some m.cls) (hlocks : meth.locks = false) (hK : va_K D vwCl (cx_TY cs) s) (hN : cx_NW s) (hA : ∀ q : Nat, s.heap.size ≤ q → A q) (hA2 : ∀ q : Nat, A q → s.heap.size ≤ q) (hbA : ¬ A b) (hbl : b < s.heap.size) (hX : va_X b 4 xs s s.heap) (H : Heap) (locs : List Loc) (hS : va_S A s.heap H locs) (ls : Array Slot) (hl : lv_has ls 4 [(3, .int 0), (2, .ref mq), (1, .ref xq), (0, .ref b)]) : W p l e room_1 s m #[Value.ref b] below meth c H locs cells slots (lw_Z below #[Value.ref b] s) (F0 m 18 ls []) := by
  refine lv_iload_n hx hb dL_law_18 rfl (lv_at hl 0 rfl) ?_
  refine lv_aload_n hx hb dL_law_19 rfl (lv_at hl 3 rfl) ?_
  refine va_slen hx hb hX hbl hbA hS dL_law_20 ?_
  refine cx_topi (w := 4) (by decide) ?_
  refine lv_bipush (v := 6) hx hb dL_law_21 (by decide) ?_
  refine lv_isub hx hb dL_law_23 ?_
  refine cx_topi (w := (-2)) (by decide) ?_
  refine lv_icmp_gt (tgt := 1185) hx hb dL_law_24 (by decide) (fun _ => ?_) (fun hq => absurd (by decide) hq)
  refine lv_iconst (v := 1) hx hb dL_law_1185 (by decide) ?_
  refine va_forget (fun q hq => hA2 _ (hS.2.2 q hq)) ?_
  refine W.widen (k := 600000) (n := 7302250) hc hs ?_
  exact lw_ret hx hb hr hlocks dL_law_1186
set_option maxHeartbeats 4000000 in
set_option maxRecDepth 100000 in
theorem law_short5 {p : Program} {l : Launch} {e : Env} {s : State} {m : MethodId} {below : List Frame} {meth : Method} {c : Code} {D : va_G} {cs : Nat → ClassId} {A : Nat → Prop} {b : Nat} {xs : Nat → Int32} (mq xq : Nat) {cells slots : Nat} (hc : cells ≤ 600000) (hs : slots ≤ 7302250) (hx : p.tables.exec = Jvm.exec) (hb : c.code = cL_law) (hr : meth.sig.returnType = ret) (hml : c.maxLocals = 4) (hB : ∀ w ∈ cx_big, w.before #[Value.ref b] s = true) (hown : s.vm.findClass "TreeMergeLaw" = some m.cls) (hlocks : meth.locks = false) (hK : va_K D vwCl (cx_TY cs) s) (hN : cx_NW s) (hA : ∀ q : Nat, s.heap.size ≤ q → A q) (hA2 : ∀ q : Nat, A q → s.heap.size ≤ q) (hbA : ¬ A b) (hbl : b < s.heap.size) (hX : va_X b 5 xs s s.heap) (H : Heap) (locs : List Loc) (hS : va_S A s.heap H locs) (ls : Array Slot) (hl : lv_has ls 4 [(3, .int 0), (2, .ref mq), (1, .ref xq), (0, .ref b)]) : W p l e room_1 s m #[Value.ref b] below meth c H locs cells slots (lw_Z below #[Value.ref b] s) (F0 m 18 ls []) := by
  refine lv_iload_n hx hb dL_law_18 rfl (lv_at hl 0 rfl) ?_
  refine lv_aload_n hx hb dL_law_19 rfl (lv_at hl 3 rfl) ?_
  refine va_slen hx hb hX hbl hbA hS dL_law_20 ?_
  refine cx_topi (w := 5) (by decide) ?_
  refine lv_bipush (v := 6) hx hb dL_law_21 (by decide) ?_
  refine lv_isub hx hb dL_law_23 ?_
  refine cx_topi (w := (-1)) (by decide) ?_
  refine lv_icmp_gt (tgt := 1185) hx hb dL_law_24 (by decide) (fun _ => ?_) (fun hq => absurd (by decide) hq)
  refine lv_iconst (v := 1) hx hb dL_law_1185 (by decide) ?_
  refine va_forget (fun q hq => hA2 _ (hS.2.2 q hq)) ?_
  refine W.widen (k := 600000) (n := 7302250) hc hs ?_
  exact lw_ret hx hb hr hlocks dL_law_1186
