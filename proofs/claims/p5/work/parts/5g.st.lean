set_option maxHeartbeats 4000000 in
set_option maxRecDepth 100000 in
theorem whole_start {p : Program} {e : Env} {s : State} {m : MethodId} {below : List Frame} {meth : Method} {c : Code} (l : Launch) {b Len : Nat} {xs : Nat → Int32} (hLen : Len ≤ 3072) (C0 : lw_At p s m meth c b Len xs) : W p l e room_1 s m #[Value.ref b] below meth c s.heap [] 0 0 (lw_Z below #[Value.ref b] s) (entryFrame m ([Value.ref b] : List Value).toArray 4) := by
  obtain ⟨hx, hb, hr, hml, hown, hts, hX, hbl, hlocks, hgv⟩ := id C0
  have hb : c.code = cL_law := hb
  have hown : s.vm.findClass "TreeMergeLaw" = some m.cls := hown
  have hB : ∀ w ∈ cx_big, w.before #[Value.ref b] s = true := fun w h => hts w (List.mem_filter.mp h).1
  have hNW : cx_NW s := cx_NW_start hts
  obtain ⟨c0, iS0, hKn0⟩ := u_known (C := RX0) (T := TX0) (N := 4) (n := 4) hB cx_inX0 (hB _ cw_249)
  obtain ⟨c1, iS1, hKn1⟩ := u_known (C := RX1) (T := TX1) (N := 5) (n := 5) hB cx_inX1 (hB _ cw_222)
  obtain ⟨c2, iS2, hKn2⟩ := u_known (C := RX2) (T := TX2) (N := 13) (n := 13) hB cx_inX2 (hB _ cw_61)
  obtain ⟨c3, iS3, hKn3⟩ := u_known (C := RX3) (T := TX3) (N := 3) (n := 3) hB cx_inX3 (hB _ cw_172)
  obtain ⟨c4, iS4, hKn4⟩ := u_known (C := RX4) (T := TX4) (N := 7) (n := 7) hB cx_inX4 (hB _ cw_190)
  obtain ⟨c5, iS5, hKn5⟩ := u_known (C := RX5) (T := TX5) (N := 15) (n := 15) hB cx_inX5 (hB _ cw_286)
  obtain ⟨c6, iS6, hKn6⟩ := u_known (C := RX6) (T := TX6) (N := 3) (n := 3) hB cx_inX6 (hB _ cw_366)
  obtain ⟨c7, iS7, hKn7⟩ := u_known (C := RX7) (T := TX7) (N := 2) (n := 2) hB cx_inX7 (hB _ cw_272)
  obtain ⟨c8, iS8, hKn8⟩ := u_known (C := RX8) (T := TX8) (N := 4) (n := 4) hB cx_inX8 (hB _ cw_292)
  obtain ⟨c9, iS9, hKn9⟩ := u_known (C := RX9) (T := TX9) (N := 5) (n := 5) hB cx_inX9 (hB _ cw_29)
  obtain ⟨c10, iS10, hKn10⟩ := u_known (C := RX10) (T := TX10) (N := 8) (n := 8) hB cx_inX10 (hB _ cw_111)
  obtain ⟨c11, iS11, hKn11⟩ := u_known (C := RX11) (T := TX11) (N := 19) (n := 19) hB cx_inX11 (hB _ cw_21)
  obtain ⟨c12, iS12, hKn12⟩ := u_known (C := RX12) (T := TX12) (N := 64) (n := 64) hB cx_inX12 (hB _ cw_1182)
  obtain ⟨d0, kd0, ke0, f0a, f0b, f0c⟩ := Cond.arrayClass_spec (hB _ cw_59)
  obtain ⟨d1, kd1, ke1, f1a, f1b, f1c⟩ := Cond.arrayClass_spec (hB _ cw_170)
  obtain ⟨d2, kd2, ke2, f2a, f2b, f2c⟩ := Cond.arrayClass_spec (hB _ cw_622)
  obtain ⟨d3, kd3, ke3, f3a, f3b, f3c⟩ := Cond.arrayClass_spec (hB _ cw_1386)
  obtain ⟨ke4, d4, kd4, -, -, f4b, f4c, f4a⟩ := mg_spec hNW.2.2.1
  obtain ⟨ke5, d5, kd5, -, -, f5b, f5c, f5a⟩ := mg_spec hNW.2.2.2.1
  obtain ⟨ke6, d6, kd6, -, -, f6b, f6c, f6a⟩ := mg_spec hNW.2.2.2.2
  obtain ⟨d7, kd7, ke7, f7b, f7c, f7a⟩ := ao_spec hNW.2.1
  generalize hAe : (fun q : Nat => s.heap.size ≤ q) = A
  have hA : ∀ q : Nat, s.heap.size ≤ q → A q := fun q h => by rw [← hAe]; exact h
  have hA2 : ∀ q : Nat, A q → s.heap.size ≤ q := fun q h => by rw [← hAe] at h; exact h
  have hbA : ¬ A b := fun h => Nat.not_le.mpr hbl (hA2 b h)
  obtain ⟨adK, adV, hst0⟩ := st_start hts hgv hA2
  obtain ⟨D, hKc, hD0, hD1⟩ : ∃ D : va_G, (∀ (k : Nat) (q : vw_C), vwCl[k]? = some q → u_Kn s q.1 q.2.1 q.2.2 (D.1 k) (D.2 k)) ∧ D.2 100 = adK ∧ D.2 101 = adV := by
    refine ⟨(fun k => [c0, c1, c2, c3, c4, c5, c6, c7, c8, c9, c10, c11, c12].getD k c0, fun k => match k with | 100 => adK | 101 => adV | k => [iS0, iS1, iS2, iS3, iS4, iS5, iS6, iS7, iS8, iS9, iS10, iS11, iS12].getD k iS0), ?_, rfl, rfl⟩
    intro k q hq
    match k, hq with
    | 0, hq => cases hq; exact hKn0
    | 1, hq => cases hq; exact hKn1
    | 2, hq => cases hq; exact hKn2
    | 3, hq => cases hq; exact hKn3
    | 4, hq => cases hq; exact hKn4
    | 5, hq => cases hq; exact hKn5
    | 6, hq => cases hq; exact hKn6
    | 7, hq => cases hq; exact hKn7
    | 8, hq => cases hq; exact hKn8
    | 9, hq => cases hq; exact hKn9
    | 10, hq => cases hq; exact hKn10
    | 11, hq => cases hq; exact hKn11
    | 12, hq => cases hq; exact hKn12
    | k + 13, hq => simp [vwCl] at hq
  obtain ⟨cs, hK⟩ : ∃ cs : Nat → ClassId, va_K D vwCl (cx_TY cs) s := by
    refine ⟨fun k => [d0, d1, d2, d3, d4, d5, d6, d7].getD k d0, hKc, ?_⟩
    intro k q hq
    match k, hq with
    | 0, hq => cases hq; exact ⟨fun n z => ⟨(fun k h => by cases h), kd0, f0b, ke0, f0c⟩, f0a⟩
    | 1, hq => cases hq; exact ⟨fun n z => ⟨(fun k h => by cases h), kd1, f1b, ke1, f1c⟩, f1a⟩
    | 2, hq => cases hq; exact ⟨fun n z => ⟨(fun k h => by cases h), kd2, f2b, ke2, f2c⟩, f2a⟩
    | 3, hq => cases hq; exact ⟨fun n z => ⟨(fun k h => by cases h), kd3, f3b, ke3, f3c⟩, f3a⟩
    | 4, hq => cases hq; exact ⟨fun n z => ⟨(fun k h => by cases h), kd4, f4b, ke4, f4c⟩, f4a⟩
    | 5, hq => cases hq; exact ⟨fun n z => ⟨(fun k h => by cases h), kd5, f5b, ke5, f5c⟩, f5a⟩
    | 6, hq => cases hq; exact ⟨fun n z => ⟨(fun k h => by cases h), kd6, f6b, ke6, f6c⟩, f6a⟩
    | 7, hq => cases hq; exact ⟨fun n z => ⟨(fun k h => by cases h), kd7, f7b, ke7, f7c⟩, f7a⟩
    | k + 8, hq => simp [cx_TY] at hq
  have hN : tw_NZ D A s s.heap := ⟨hNW, hst0 D hD0 hD1⟩
  have hS : va_S A s.heap s.heap [] := va_S.rf
  obtain ⟨E0, -⟩ : ∃ E : Nat → va_E, True := ⟨fun _ => .inr (0, []), trivial⟩
  obtain ⟨kp0, -⟩ : ∃ kp : Nat → Nat, True := ⟨fun _ => 0, trivial⟩
  have hP : va_P D vwCl ([] ++ va_pl [] E0) s.heap := fun k q h => by simp [va_pl] at h
  have hD : va_D A ([] ++ va_pl [] E0) := ⟨fun i j p q h => by simp [va_pl] at h, fun k q h => by simp [va_pl] at h⟩
  have hT : tw_ok cs kp0 [] E0 := fun a h => by simp at h
  have hl := lv_entry ([.ref b]) (n := 4) (Nat.le_of_ble_eq_true rfl)
  rw [lg_entry_eq]
  generalize (lg_sl ([.ref b]) ++ List.replicate (4 - (lg_sl ([.ref b])).length) Slot.unset).toArray = ls at hl ⊢
  have hl : lv_has ls 4 [(0, .ref b)] := hl
  refine va_new (ci := 11) (fs := [.null, .null, .null, .null, .null, .null, .null, .null, .null, .null, .null, .null, .null, .null, .null, .int 0, .null, .int 0, .null]) (C := RX11) (T := TX11) (N := 19) hx hb hB cx_inX11 tyX11 tyX11_ok hown (hB _ cw_20) (hB _ cw_21) (hB _ cw_1) hK hP hD hS hA rfl cx_fsX11 (Nat.le_of_ble_eq_true rfl) (Nat.le_of_ble_eq_true rfl) dL_law_0 (fun xq H hP hD hS => ?_)
  refine lv_dup hx hb dL_law_3 rfl ?_
  refine tw_ICI (Xs := []) (o := xq) (ci := 11) (fs := [.null, .null, .null, .null, .null, .null, .null, .null, .null, .null, .null, .null, .null, .null, .null, .int 0, .null, .int 0, .null]) (kp := kp0) (rest := [.ref xq]) ⟨hx, hb, hml, hown, hB⟩ (fun sz => tI_X11b l D cs xq sz) cw_24 cw_1 cw_22 cw_23 rfl rfl rfl (by decide +kernel) ⟨Nat.le_of_ble_eq_true rfl, Nat.le_of_ble_eq_true rfl⟩ hK hNW hP hD hT hS hA hl.1 rfl (Nat.le_of_ble_eq_true rfl) dL_law_4 ⟨Nat.le_of_ble_eq_true rfl, Nat.le_of_ble_eq_true rfl⟩ (fun kp1 L1 E1 H locs hx1 hm1 hk1 hn1 hp1 hP hD hT hS => ?_)
  have hT1 := hT
  refine W.eq (g2 := F0 m 7 ls [.ref xq]) rfl ?_
  refine lv_astore_n (lv' := [(1, .ref xq), (0, .ref b)]) hx hb dL_law_7 rfl hl (by decide) rfl (fun ls hl => ?_)
  refine va_new (ci := 12) (fs := [.null, .int 0, .int 0, .int 0, .int 0, .null, .null, .null, .null, .null, .null, .null, .null, .null, .int 0, .int 0, .null, .null, .null, .null, .null, .null, .null, .null, .null, .null, .int 0, .int 0, .int 0, .int 0, .null, .null, .null, .null, .null, .null, .null, .null, .null, .null, .null, .null, .null, .null, .null, .null, .null, .null, .null, .null, .int 0, .int 0, .int 0, .null, .null, .null, .null, .int 0, .int 0, .null, .null, .null, .null, .int 0]) (C := RX12) (T := TX12) (N := 64) hx hb hB cx_inX12 tyX12 tyX12_ok hown (hB _ cw_1181) (hB _ cw_1182) (hB _ cw_13) hK hP hD hS hA rfl cx_fsX12 (Nat.le_of_ble_eq_true rfl) (Nat.le_of_ble_eq_true rfl) dL_law_8 (fun mq H hP hD hS => ?_)
  refine lv_dup hx hb dL_law_11 rfl ?_
  refine tw_ICI (Xs := []) (o := mq) (ci := 12) (fs := [.null, .int 0, .int 0, .int 0, .int 0, .null, .null, .null, .null, .null, .null, .null, .null, .null, .int 0, .int 0, .null, .null, .null, .null, .null, .null, .null, .null, .null, .null, .int 0, .int 0, .int 0, .int 0, .null, .null, .null, .null, .null, .null, .null, .null, .null, .null, .null, .null, .null, .null, .null, .null, .null, .null, .null, .null, .int 0, .int 0, .int 0, .null, .null, .null, .null, .int 0, .int 0, .null, .null, .null, .null, .int 0]) (kp := kp1) (rest := [.ref mq]) ⟨hx, hb, hml, hown, hB⟩ (fun sz => tI_X12 l D cs mq sz) cw_1185 cw_13 cw_1183 cw_1184 rfl rfl rfl (by decide +kernel) ⟨Nat.le_of_ble_eq_true rfl, Nat.le_of_ble_eq_true rfl⟩ hK hNW hP hD hT hS hA hl.1 rfl (Nat.le_of_ble_eq_true rfl) dL_law_12 ⟨Nat.le_of_ble_eq_true rfl, Nat.le_of_ble_eq_true rfl⟩ (fun kp2 L2 E2 H locs hx2 hm2 hk2 hn2 hp2 hP hD hT hS => ?_)
  refine W.eq (g2 := F0 m 15 ls [.ref mq]) rfl ?_
  refine lv_astore_n (lv' := [(2, .ref mq), (1, .ref xq), (0, .ref b)]) hx hb dL_law_15 rfl hl (by decide) rfl (fun ls hl => ?_)
  refine lv_iconst (v := 0) hx hb dL_law_16 (by decide) ?_
  refine lv_istore_n (lv' := [(3, .int 0), (2, .ref mq), (1, .ref xq), (0, .ref b)]) hx hb dL_law_17 rfl hl (by decide) rfl (fun ls hl => ?_)
  exact law_loop hx hb hr hml hB hown hlocks hK hN hA hA2 hbA hbl hX hLen 3078 kp2 L2 E2 0 _ _ _ _ ls (by decide) (by decide) (by decide) (by decide) (by decide) (lv_start hT1 hm1 hk1 hx2 hm2 hk2 hp1 hp2) ⟨hP, hD, hT⟩ hS hl
theorem lw_walk (l : Launch) (b : Addr) (xs : List Int32) : MetFree l x (headSpec (Jvm.Cond.code x code maxLocals ret :: tables_1) room_1) (lw_P b xs) (fun _ _ _ _ _ => True) lw_Q := by
  refine MetFree.of_bodyS (code := code) (maxLocals := maxLocals) (ret := ret) (by decide) ?_ ?_
  · intro args s m h hn
    obtain ⟨meth, c, h1, h2, h3, h4, h5, h6, -, -⟩ := Cond.code_spec hn (atoms_spec (ws := Jvm.Cond.code x code maxLocals ret :: tables_1) h _ List.mem_cons_self)
    exact ⟨meth, c, h1, h2, h3, h4, h5, h6⟩
  · intro p e s m args below meth c s₁ B hml0 hP _
    obtain ⟨rfl, hx, hbd, hgv⟩ := hP
    obtain ⟨scr, harrAt, hlist, hof, hsmall⟩ := hx
    obtain ⟨hcb, hkn, -, -⟩ := State.arrayAt?_spec harrAt
    have hown : s.vm.findClass R_law = some m.cls := findClass_of_methodNamed B.named
    have hts0 : ∀ c ∈ (Jvm.Cond.code x code maxLocals ret :: tables_1), c.before #[Value.ref b] s = true := atoms_spec (ws := Jvm.Cond.code x code maxLocals ret :: tables_1) B.pre
    have hts : ∀ w ∈ lw_tbl, w.before #[Value.ref b] s = true := k2_hts_sels lw_privs (fun w hw => hts0 w (List.mem_cons_of_mem _ hw)) lw_privs_ok
    have hml : c.maxLocals = 4 := B.maxLocals_eq (hts0 _ List.mem_cons_self)
    have X₀ : Stand p l e room_1 s m #[Value.ref b] below meth c s₁ [] 0 0 := Stand.of_body B
    have hh0 : s₁.heap = s.heap := by rw [B.state]; rfl
    have hsz : scr.slots.size = xs.length := by rw [← Array.length_toList, hlist, List.length_map]
    have hval : ∀ j : Nat, j < xs.length → scr.slots[j]? = some (.int (xs.getD j 0)) := fun j hj => by
      rw [← Array.getElem?_toList, hlist]
      simp [hj]
    have hbl : b < s.heap.size := (Array.getElem?_eq_some_iff.mp hcb).1
    have hX : va_X b xs.length (fun j => xs.getD j 0) s s.heap := ⟨scr, hcb, hof, hkn, hsz, hval⟩
    have K : W p l e room_1 s m #[Value.ref b] below meth c s₁.heap [] 0 0 (lw_Z below #[Value.ref b] s) (entryFrame m ([Value.ref b] : List Value).toArray 4) := by
      rw [hh0]
      exact whole_start l hbd ⟨B.exec, B.bytes, B.returns, hml, hown, hts, hX, hbl, B.notSynchronized, hgv⟩
    obtain ⟨t, a1, o, b1, b2, b3⟩ := K s₁ rfl X₀
    exact ⟨t, o, a1, b1, b2, b3⟩
theorem lw_pre_spec {args : Array Value} {s : State} (h : (Jvm.Cond.and given_1 narrow_1).before args s = true) (hr : rest_1_c.before args s = true) : ∃ (b : Addr) (xs : List Int32), lw_P b xs args s := by
  have hs := flat_of_before _ h
  have hq := flat_of_before _ hr
  have hc : (Cond.count 1).before args s = true := hs _ (by decide +kernel)
  have harr : (Cond.arrayOf (.arg 0) .int).before args s = true := hs _ (by decide +kernel)
  have hle : (Cond.le (.length (.arg 0)) (.int 3072)).before args s = true := hs _ (by decide +kernel)
  have hlen : (Cond.isInt (.length (.arg 0))).before args s = true := hq _ (by decide +kernel)
  have hall : (Cond.all (.arg 0) (.isInt (.elem (.arg 0) (.index 0)))).before args s = true := hq _ (by decide +kernel)
  obtain ⟨b, xs, hb, hx⟩ := State.ints_of_pre rfl harr hlen hall
  have hsm : xs.length < 2 ^ 31 := hx.choose_spec.2.2.2
  have hev : (Term.length (.arg 0)).eval args s none [] s = some (.int xs.length.toInt32) := hx.length_eval hb
  have hv := Cond.le_ints hev (show (Term.int 3072).eval args s none [] s = some (.int 3072) from rfl)
  have hd : xs.length.toInt32 ≤ 3072 := by
    simpa [Cond.before, Cond.holds, hv] using hle
  have hN : xs.length ≤ 3072 := (Int32.ofNat_le_ofNat hsm (by decide)).mp (show Int32.ofNat xs.length ≤ Int32.ofNat 3072 from hd)
  exact ⟨b, xs, Cond.one_arg hc (show args[0]? = some (.ref b) from hb), hx, hN, h⟩
theorem lw_comes (l : Launch) : Comes l x (Jvm.Cond.code x code maxLocals ret :: tables_1) room_1 (fun tb e args s => Calls_1 tb e args s ∧ rest_1 tb e args s ∧ Pre_1 tb e args s)
    (fun _ _ args s o t => lw_Q args s o t) := by
  intro p e ha hc hk s m args below hf hfit hheap happ hpre
  obtain ⟨b, xs, hP⟩ := lw_pre_spec hpre.2.2 hpre.2.1
  obtain ⟨k, o, h1, h2, h3, hQ⟩ := lw_walk l b xs p e ha hc hk s m args below hf ((Spec.applies_iff_loose hf).mp happ).1 hP trivial
  exact ⟨k, o, h1, h2, h3, hQ⟩
theorem lw_frame {s t : State} {o : Outcome} {args : Array Value} (h : Framed s o t [] 600000 7302250) :
    Framed s o t (fieldLocs frame_1_writes args s ++ arrayLocs frame_1_arrays args s ++ staticLocs frame_1_statics s) 600000 7302250 := h
theorem lw_limb (L : Cond) (hL : ∀ (args : Array Value) (s t : State), L.after args s (.returned (some (.int 1))) t = true) :
    ArmFor flags0 classFile x code maxLocals ret World_1 tables_1 room_1 Calls_1 rest_1 Pre_1
      (fun tb e a s o t => postC L tb e a s o t ∧ Framed s o t (fieldLocs frame_1_writes a s ++ arrayLocs frame_1_arrays a s ++ staticLocs frame_1_statics s) 600000 7302250) := by
  intro l _ _ _ p e ha hc hk s m args below hf hfit hheap happ hpre
  obtain ⟨k, o, h1, h2, h3, rfl, hF⟩ := lw_comes l p e ha hc hk s m args below hf hfit hheap happ hpre
  exact ⟨k, _, h1, h2, h3, hL args s _, lw_frame hF⟩
theorem i_vc : Claimed_1_1 ∧ Claimed_1_2 := ⟨lw_limb limb_1_1 (fun args s t => by simp [limb_1_1, Cond.after, Cond.holds, Cond.value]), lw_limb limb_1_2 (fun args s t => Cond.after_iff.mpr (by
  first | (rw [show limb_1_2 = Cond.eq .result (.int 1) from rfl, Cond.eq_ints (x := 1) (y := 1) rfl rfl]; simp; done) | (simp [limb_1_2, Cond.value, Term.eval]; done)))⟩
