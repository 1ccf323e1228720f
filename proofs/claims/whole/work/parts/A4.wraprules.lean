/-! The law's wrappers: methods with a table of handlers. -/
def wCx (C : gC) (y : gY) (hh : List (Nat × Nat × Nat × Nat)) (X : gX) (ls : gL) (p : Program) (s : State) (m : MethodId) (meth : Method) (c : Code) (H : Heap) (locs : List Loc) (la : Array Slot) : Prop :=
  p.tables.exec = Jvm.exec ∧ c.code = y.2.1 ∧ meth.sig.returnType = y.2.2.2.1 ∧ c.maxLocals = y.2.2.1 ∧ s.vm.findClass y.1.cls = some m.cls ∧ meth.locks = false ∧ c.exceptionTable.toList = tableOf hh ∧ C.1.WarmedH s.vm ∧ (g_b C ≤ s.heap.size ∧ ∀ q, q < g_b C → s.heap[q]? = C.1.heap[q]?) ∧ s.heap.size ≤ H.size ∧ g_at C X H ∧ (∀ q ∈ locs, g_F C q.base) ∧ lv_has la y.2.2.1 (ls.map (fun q => (q.1, g_up C q.2)))
def WW (l : Launch) (C : gC) (y : gY) (hh : List (Nat × Nat × Nat × Nat)) (d : Nat) (Q : Option Value → gX → Prop) (kc ks : Nat) (pc : Nat) (ls : gL) (st : List Value) (X : gX) : Prop :=
  ∀ (p : Program) (e : Env) (s : State) (m : MethodId) (args : Array Value) (below : List Frame) (meth : Method) (c : Code) (H : Heap) (locs : List Loc) (la : Array Slot), wCx C y hh X ls p s m meth c H locs la →
    W p l e (g_rm y d) s m args below meth c H locs kc ks (vx_MQ below (g_Qc C Q) (g_Qx C gN) args s y.2.2.2.2.1 y.2.2.2.2.2.1 (g_F C)) (F0 m pc la (st.map (g_up C)))
/-- at a handler, an exception on the stack -/
def WX (l : Launch) (C : gC) (y : gY) (hh : List (Nat × Nat × Nat × Nat)) (d : Nat) (Q : Option Value → gX → Prop) (kc ks : Nat) (pc : Nat) (ls : gL) (X : gX) : Prop :=
  ∀ (p : Program) (e : Env) (s : State) (m : MethodId) (args : Array Value) (below : List Frame) (meth : Method) (c : Code) (H : Heap) (locs : List Loc) (la : Array Slot) (q : Addr), wCx C y hh X ls p s m meth c H locs la →
    W p l e (g_rm y d) s m args below meth c H locs kc ks (vx_MQ below (g_Qc C Q) (g_Qx C gN) args s y.2.2.2.2.1 y.2.2.2.2.2.1 (g_F C)) (F0 m pc la [.ref q])
section GWW
variable {l : Launch} {C : gC} {y z : gY} {hh : List (Nat × Nat × Nat × Nat)} {d d' : Nat} {Q Qz : Option Value → gX → Prop} {kc ks pc idx nargs : Nat} {ls : gL} {st rest av : List Value} {X : gX} {n sz : Nat} {S : Nat → gT} {M : gM} {L : Nat} {xs : Nat → Int32}
variable {p : Program} {s : State} {m : MethodId} {meth : Method} {c : Code} {H : Heap} {locs : List Loc} {la : Array Slot}
theorem wCx.lv (h : wCx C y hh X ls p s m meth c H locs la) : lv_has la y.2.2.1 (ls.map (fun q => (q.1, g_up C q.2))) := h.2.2.2.2.2.2.2.2.2.2.2.2
theorem wCx.at (h : wCx C y hh X ls p s m meth c H locs la) : g_at C X H := h.2.2.2.2.2.2.2.2.2.2.1
theorem wCx.lc (h : wCx C y hh X ls p s m meth c H locs la) : ∀ q ∈ locs, g_F C q.base := h.2.2.2.2.2.2.2.2.2.2.2.1
theorem wCx.siz (h : wCx C y hh X ls p s m meth c H locs la) : s.heap.size ≤ H.size := h.2.2.2.2.2.2.2.2.2.1
theorem wCx.warm (h : wCx C y hh X ls p s m meth c H locs la) : C.1.WarmedH s.vm := h.2.2.2.2.2.2.2.1
theorem wCx.own (h : wCx C y hh X ls p s m meth c H locs la) : s.vm.findClass y.1.cls = some m.cls := h.2.2.2.2.1
theorem wCx.setH {X' : gX} {H' : Heap} {locs' : List Loc} (h : wCx C y hh X ls p s m meth c H locs la) (hz : H.size ≤ H'.size) (ha : g_at C X' H') (hl : ∀ q ∈ locs', g_F C q.base) : wCx C y hh X' ls p s m meth c H' locs' la := by
  obtain ⟨h1, h2, h3, h4, h5, h6, h7, h8, h9, h10, h11, h12, h13⟩ := h
  exact ⟨h1, h2, h3, h4, h5, h6, h7, h8, h9, Nat.le_trans h10 hz, ha, hl, h13⟩
theorem ww_aload_n {k : Fin 4} {i x : Nat} (hd : decode y.2.1 pc = .ok (.aload_n k, 1)) (hi : (k : Nat) = i) (hl : g_lk ls i = some (.ref x)) (kk : WW l C y hh d Q kc ks (pc + 1) ls (.ref x :: st) X) : WW l C y hh d Q kc ks pc ls st X :=
  fun p e s m args below meth c H locs la h => lv_aload_n h.1 h.2.1 hd hi (g_la h.lv hl) (kk p e s m args below meth c H locs la h)
theorem ww_aload {i x : Nat} (hd : decode y.2.1 pc = .ok (.aload i, 2)) (hl : g_lk ls i = some (.ref x)) (kk : WW l C y hh d Q kc ks (pc + 2) ls (.ref x :: st) X) : WW l C y hh d Q kc ks pc ls st X :=
  fun p e s m args below meth c H locs la h => lv_aload h.1 h.2.1 hd (g_la h.lv hl) (kk p e s m args below meth c H locs la h)
theorem ww_iload_n {k : Fin 4} {i : Nat} {x : Int32} (hd : decode y.2.1 pc = .ok (.iload_n k, 1)) (hi : (k : Nat) = i) (hl : g_lk ls i = some (.int x)) (kk : WW l C y hh d Q kc ks (pc + 1) ls (.int x :: st) X) : WW l C y hh d Q kc ks pc ls st X :=
  fun p e s m args below meth c H locs la h => lv_iload_n h.1 h.2.1 hd hi (g_la h.lv hl) (kk p e s m args below meth c H locs la h)
theorem ww_iload {i : Nat} {x : Int32} (hd : decode y.2.1 pc = .ok (.iload i, 2)) (hl : g_lk ls i = some (.int x)) (kk : WW l C y hh d Q kc ks (pc + 2) ls (.int x :: st) X) : WW l C y hh d Q kc ks pc ls st X :=
  fun p e s m args below meth c H locs la h => lv_iload h.1 h.2.1 hd (g_la h.lv hl) (kk p e s m args below meth c H locs la h)
theorem ww_iconst {n : Int} {v : Int32} (hd : decode y.2.1 pc = .ok (.iconst n, 1)) (hv : Int32.ofInt n = v) (kk : WW l C y hh d Q kc ks (pc + 1) ls (.int v :: st) X) : WW l C y hh d Q kc ks pc ls st X :=
  fun p e s m args below meth c H locs la h => lv_iconst h.1 h.2.1 hd hv (kk p e s m args below meth c H locs la h)
theorem ww_i2l {x : Int32} (hd : decode y.2.1 pc = .ok (.i2l, 1)) (kk : WW l C y hh d Q kc ks (pc + 1) ls (.long x.toInt64 :: st) X) : WW l C y hh d Q kc ks pc ls (.int x :: st) X :=
  fun p e s m args below meth c H locs la h => lv_i2l h.1 h.2.1 hd rfl (kk p e s m args below meth c H locs la h)
theorem ww_goto {off : Int} {tgt : Nat} (hd : decode y.2.1 pc = .ok (.goto off, 3)) (ht : (pc : Int) + off = (tgt : Int)) (kk : WW l C y hh d Q kc ks tgt ls st X) : WW l C y hh d Q kc ks pc ls st X :=
  fun p e s m args below meth c H locs la h => lv_goto h.1 h.2.1 hd ht (kk p e s m args below meth c H locs la h)
theorem ww_iret {x : Int32} (hd : decode y.2.1 pc = .ok (.ireturn, 1)) (hr : y.2.2.2.1 = some .int) (hc : kc ≤ y.2.2.2.2.1) (hs : ks ≤ y.2.2.2.2.2.1) (hq : Q (some (.int x)) X) : WW l C y hh d Q kc ks pc ls [.int x] X :=
  fun p e s m args below meth c H locs la h => vx_ret (W.widen hc hs (W.iret h.1 h.2.1 (h.2.2.1.trans hr) (fun t ht _ => ⟨some (.int x), X, rfl, hq, by rw [ht]; exact h.at, by rw [ht]; exact h.siz⟩) h.lc hd h.2.2.2.2.2.1))
/-- a handler: the exception is laid away, a number goes back -/
theorem wx_n {k : Fin 4} {i : Nat} {j : Int} {v : Int32} (h1 : decode y.2.1 pc = .ok (.astore_n k, 1)) (hi : (k : Nat) = i) (hn : i < y.2.2.1) (h2 : decode y.2.1 (pc + 1) = .ok (.iconst j, 1)) (hv : Int32.ofInt j = v) (h3 : decode y.2.1 (pc + 1 + 1) = .ok (.ireturn, 1)) (hr : y.2.2.2.1 = some .int) (hc : kc ≤ y.2.2.2.2.1) (hs : ks ≤ y.2.2.2.2.2.1) (hq : Q (some (.int v)) X) : WX l C y hh d Q kc ks pc ls X :=
  fun p e s m args below meth c H locs la q h => lv_astore_n h.1 h.2.1 h1 hi h.lv hn rfl (fun la' _ => lv_iconst h.1 h.2.1 h2 hv (vx_ret (W.widen hc hs (W.iret h.1 h.2.1 (h.2.2.1.trans hr) (fun t ht _ => ⟨some (.int v), X, rfl, hq, by rw [ht]; exact h.at, by rw [ht]; exact h.siz⟩) h.lc h3 h.2.2.2.2.2.1))))
theorem wx_w {i : Nat} {j : Int} {v : Int32} (h1 : decode y.2.1 pc = .ok (.astore i, 2)) (hn : i < y.2.2.1) (h2 : decode y.2.1 (pc + 2) = .ok (.iconst j, 1)) (hv : Int32.ofInt j = v) (h3 : decode y.2.1 (pc + 2 + 1) = .ok (.ireturn, 1)) (hr : y.2.2.2.1 = some .int) (hc : kc ≤ y.2.2.2.2.1) (hs : ks ≤ y.2.2.2.2.2.1) (hq : Q (some (.int v)) X) : WX l C y hh d Q kc ks pc ls X :=
  fun p e s m args below meth c H locs la q h => lv_astore h.1 h.2.1 h1 h.lv hn rfl (fun la' _ => lv_iconst h.1 h.2.1 h2 hv (vx_ret (W.widen hc hs (W.iret h.1 h.2.1 (h.2.2.1.trans hr) (fun t ht _ => ⟨some (.int v), X, rfl, hq, by rw [ht]; exact h.at, by rw [ht]; exact h.siz⟩) h.lc h3 h.2.2.2.2.2.1))))
theorem ww_lastore {x : Int64} (hL : g_cl C L xs) (h2 : M 956 2 = 1) (hd : decode y.2.1 pc = .ok (.lastore, 1)) (kk : WW l C y hh d Q kc ks (pc + 1) ls st (n, S, g_up1 M 956 (g_en x), sz)) : WW l C y hh d Q kc ks pc ls (.long x :: .int 0 :: .ref 956 :: st) (n, S, M, sz) := by
  intro p e s m args below meth c H locs la h
  have hA := h.at
  have hK := va_K.moved h.warm.alike hL.2.2.1
  have hP := g_lw hA.2.2.1.2.2 h2
  have hn : n ≤ 956 := hA.2.2.1.2.1
  refine W.last h.1 h.2.1 (hP 0 _ rfl) ((hK.2 0 _ rfl).1 1 (fun j => .long ((fun _ => g_lg (M 956)) j))) (fun q => by cases q) (by show ¬ ((0 : Int32) < 0 ∨ (arrV _ _ _).slots.size ≤ _); rw [arrV_size]; exact vp_in_nI (n := 0) (N := 1) (by decide) (by decide)) rfl rfl hd fun H1 e1 z1 oq => ?_
  refine kk p e s m args below meth c H1 _ la (h.setH (Nat.le_of_eq z1.symm) ⟨g_at_of fun i hi => ?_, by rw [z1]; exact hA.2.1, ⟨hA.2.2.1.1, hn, fun _ => ?_⟩, fun q hq => by rw [oq q (by show q ≠ g_b C + 956; omega)]; exact hA.2.2.2 q hq⟩ (fun q hq => (List.mem_append.mp hq).elim (h.lc q) (fun w => by rw [List.mem_singleton.mp w]; exact Nat.le_add_right _ _)))
  · rw [g_up1_ne (by omega)]
    exact g_at_keep (g_at_get hA hi) (oq _ (by show g_b C + i ≠ g_b C + 956; omega))
  · show H1[g_b C + 956]? = some (g_lc C (g_up1 M 956 (g_en x) 956))
    rw [g_up1_at, e1]
    unfold g_lc
    rw [g_lg_en, vp_cell_l, arrV_store]
    refine congrArg some (g_arrV _ _ fun j hj => ?_)
    rw [show j = 0 by omega]
    rfl
/-- a call of the class, some of whose exceptions are caught here -/
theorem ww_call {i1 j1 k1 : Nat} {Qy : Option Value → gM → Prop} {QE : String → gM → Prop} (hC : g_ctx l C) (hM : gPt l C z d' (.ref 0 :: av) M sz Qy QE) (hd : decode y.2.1 pc = .ok (.invokevirtual idx, 3)) (hlk : Cond.methodLink y.1.cls idx z.1 ∈ lw_tbl) (hk : g_kI z i1 j1 k1 nargs) (hse : g_sel z) (hcz : z.1.cls = RX11) (hdd : d' + 1 ≤ d) (hlen : av.length = nargs) (hst : st = av.reverse ++ .ref 0 :: rest) (hrest : (rest.map fun v => v.category).sum ≤ 8) (hcost : kc + z.2.2.2.2.1 ≤ y.2.2.2.2.1 ∧ ks + z.2.2.2.2.2.1 ≤ y.2.2.2.2.2.1)
    (kk : ∀ r M2 sz2, Qy r M2 → WW l C y hh d Q (kc + z.2.2.2.2.1) (ks + z.2.2.2.2.2.1) (pc + 3) ls (r.toList ++ rest) (956, g_S0, M2, sz2))
    (kx : ∀ E M2 sz2, QE E M2 → ∃ (pre : List ExceptionTableEntry) (x : ExceptionTableEntry) (suf : List ExceptionTableEntry) (name : String), tableOf hh = pre ++ x :: suf ∧ (∀ w ∈ pre, covers w pc = false ∨ (w.catchType ≠ 0 ∧ ∃ nm : String, Cond.classLink y.1.cls w.catchType nm ∈ lw_tbl ∧ ∀ u : State, C.1.WarmedH u.vm → va_Nc E nm u)) ∧ covers x pc = true ∧ x.catchType ≠ 0 ∧ Cond.classLink y.1.cls x.catchType name ∈ lw_tbl ∧ Cond.castable E name ∈ lw_tbl ∧ WX l C y hh d Q (kc + z.2.2.2.2.1) (ks + z.2.2.2.2.2.1) x.handlerPc ls (956, g_S0, M2, sz2)) : WW l C y hh d Q kc ks pc ls st (956, g_S0, M, sz) := by
  intro p e s m args below meth c H locs la h
  subst hst
  have hr := vx_runV (l := l) (e := e) (below := below) (meth := meth) (H := H) (locs := locs) (cells := kc) (slots := ks) (As := av.map (g_up C)) (b := g_b C + 0) (n := nargs) (Ts := []) (C := z.1.cls) (rest := rest.map (g_up C)) (g := F0 m pc la ((av.reverse ++ .ref 0 :: rest).map (g_up C))) ⟨h.1, h.2.1, h.2.2.2.1, h.own, fun _ q => nomatch q⟩ hM ⟨g_callB (y := y) hC h.warm args hlk (g_mem_tb hk.2.1) (g_mem_tb hk.2.2.1) hk.2.2.2.1 hdd hk.2.2.2.2, g_word hC h.warm (g_mem_tb hk.1) rfl args, g_word hC h.warm hse rfl args⟩
    ⟨g_blind C _ _, va_recv (q := (RX11, TX11, 18)) (g_K hC h.warm) h.at.1 (ci := 11) rfl ((g_wsk C (956, g_S0, M, sz) (a := 0) (by show 0 < 956; decide)).trans (congrArg (fun e => some (g_b C + 0, e)) (g_cell_obj (ci := 11) (n := 18) rfl (by decide)))) |> fun w => by rw [hcz]; exact w, fun U hU hW => ⟨rfl, h.warm.trans hW, by rw [hU]; exact Nat.le_trans h.2.2.2.2.2.2.2.2.1.1 h.siz, by rw [hU]; exact h.at⟩⟩ rfl (by rw [List.length_map]; exact hlen) h.lv.1 (by simp [g_up]) (lv_room (by rw [g_rest_cat]; exact hrest)) hd hcost
  intro T hT Xs
  have hlo : ∀ {L : List Loc}, (∀ q ∈ L, g_F C q.base) → ∀ q ∈ locs ++ L, g_F C q.base := fun hL q hq => (List.mem_append.mp hq).elim (h.lc q) (hL q)
  rcases hr T hT Xs with ⟨v, st₀, t, T', L, h0, X', hL, e1, e2, ⟨r, X2, hv, ⟨M2, sz2, rfl, hq⟩, hat, hsz⟩, go⟩ | ⟨q, st₀, t, T', L, E, ce, h0, X', hL, e1, e2, ⟨X2, ⟨M2, sz2, rfl, hq⟩, hat, hsz⟩, hce, hcv, hcl, go⟩
  · have hv2 : v = r.map (g_up C) := by
      injection hv
    subst hv2
    have hh2 := kk r M2 sz2 hq p e s m args below meth c T'.heap (locs ++ L) la (h.setH (by rw [e1, ← h0]; exact hsz) (by rw [e1]; exact hat) (hlo hL)) T' rfl X'
    obtain ⟨t2, a1, b1⟩ := hh2
    refine ⟨t2, go t2 ?_, b1⟩
    have es : (r.toList ++ rest).map (g_up C) = (r.map (g_up C)).toList ++ rest.map (g_up C) := by cases r <;> simp
    rw [es] at a1
    exact a1
  · obtain ⟨pre, x, suf, name, k1, k2, k3, k4, k5, k6, k7⟩ := kx E M2 sz2 hq
    have hcx := h.setH (X' := (956, g_S0, M2, sz2)) (H' := T'.heap) (locs' := locs ++ L) (by rw [e1, ← h0]; exact hsz) (by rw [e1]; exact hat) (hlo hL)
    have hh2 := vx_catch (rest := rest.map (g_up C)) (pc := pc) h.own pre x suf (h.2.2.2.2.2.2.1.trans k1) (fun w hw => (k2 w hw).elim Or.inl (fun ⟨a, nm, b1, b2⟩ => Or.inr ⟨a, nm, g_word hC h.warm b1 rfl args, b2 s h.warm⟩)) k3 k4 (g_word hC h.warm k5 rfl args) (g_word2 hC h.warm k6 rfl args) (H := T'.heap) (by rw [e1]; exact hce) hcv hcl (k7 p e s m args below meth c T'.heap (locs ++ L) la q hcx)
    obtain ⟨t2, a1, b1⟩ := hh2 T' rfl X'
    exact ⟨t2, go.trans a1, b1⟩
def g_wH (y : gY) (hh : List (Nat × Nat × Nat × Nat)) : Cond := .codeWith y.1 y.2.1 y.2.2.1 y.2.2.2.1 hh
/-- the contract of a wrapper -/
def gMetH (l : Launch) (C : gC) (y : gY) (hh : List (Nat × Nat × Nat × Nat)) (d : Nat) (av : List Value) (X : gX) (Q : Option Value → gX → Prop) : Prop :=
  vx_Met l y.1 [g_wH y hh] (g_rm y d) (g_Pc C av X) (g_Qc C Q) (g_Qx C gN) y.2.2.2.2.1 y.2.2.2.2.2.1 (g_F C)
theorem gMetH.of (hy : plainName y.1.cls = true) (hl : (lg_sl (av.map (g_up C))).length ≤ y.2.2.1) (hls : lv_args 0 (av.map (g_up C)) = ls.map (fun q => (q.1, g_up C q.2))) (k : WW l C y hh d Q 0 0 0 ls [] X) : gMetH l C y hh d av X Q := by
  refine vx_ofWH (cc := y.2.1) (maxL := y.2.2.1) (ret := y.2.2.2.1) (hh := hh) (ws' := []) hy rfl ?_
  intro p e s m args below meth c s₁ B hml hv
  obtain ⟨rfl, hw, hsz, hat⟩ := hv
  have hlv := lv_entry (av.map (g_up C)) hl
  rw [hls] at hlv
  rw [lg_entry_eq]
  exact k p e s m _ below meth c s.heap [] _ ⟨B.exec, B.bytes, B.returns, hml, findClass_of_methodNamed B.named, B.notSynchronized, vx_table (x := y.1) B (atoms_spec (ws := [g_wH y hh]) B.pre _ (List.mem_singleton.mpr rfl)), hw, ⟨hsz, hat.2.2.2⟩, Nat.le_refl _, hat, (fun _ q => absurd q List.not_mem_nil), hlv⟩
theorem gMetH.toMet (h : gMetH l C y hh d av X Q) : Met l y.1 [g_wH y hh] (g_rm y d) (g_Pc C av X) (g_Qc C Q) y.2.2.2.2.1 y.2.2.2.2.2.1 (g_F C) := by
  refine MetFree.conv h (fun a s o t hq => ?_)
  rcases hq with hq | ⟨q, -, E, ce, L, ⟨X', h1, -⟩, -⟩
  · exact hq
  · exact h1.elim
theorem gw_invSH {QX : String → gX → Prop} (hC : g_ctx l C) (hM : gMetH l C z hh d' av X Qz) (hd : decode y.2.1 pc = .ok (.invokestatic idx, 3)) (hlk : Cond.methodLink y.1.cls idx z.1 ∈ lw_tbl) (hin : Cond.static z.1 ∈ lw_tbl) (hini : Cond.initialized z.1.cls ∈ lw_tbl) (hco : g_wH z hh ∈ lw_tbl)
    (hdesc : z.1.cls ≠ "java/lang/invoke/MethodHandle" ∧ z.1.cls ≠ "java/lang/invoke/VarHandle" ∧ (parseMethodDescriptor z.1.desc).map (fun q => q.parameters.length) = some nargs) (hdd : d' + 1 ≤ d) (hmx : z.2.2.1 ≤ 21)
    (hlen : av.length = nargs) (hst : st = av.reverse ++ rest) (hrest : (rest.map fun v => v.category).sum ≤ 8) (hcost : kc + z.2.2.2.2.1 ≤ y.2.2.2.2.1 ∧ ks + z.2.2.2.2.2.1 ≤ y.2.2.2.2.2.1)
    (kk : ∀ r X', Qz r X' → GW l C y d Q QX (kc + z.2.2.2.2.1) (ks + z.2.2.2.2.2.1) (pc + 3) ls (r.toList ++ rest) X') : GW l C y d Q QX kc ks pc ls st X := by
  intro p e s m args below meth c H locs la h
  subst hst
  have cw : vx_CSW (g_rm y d) s args y.1.cls idx z.1 z.2.1 z.2.2.1 z.2.2.2.1 hh [g_wH z hh] (g_rm z d') z.2.2.2.2.1 z.2.2.2.2.2.1 nargs := by
    refine ⟨⟨rfl, rfl, hdd, ?_, fun w hw a' U hU => ?_, List.mem_singleton.mpr rfl⟩, g_word hC h.warm hco rfl args, g_word hC h.warm hini rfl args, ⟨hdesc.1, hdesc.2.1⟩, fun sig h9 => ?_, g_word hC h.warm hlk rfl args, g_word hC h.warm hin rfl args⟩
    · show 8 + (z.2.2.1 + 11) + 40 * d' ≤ 40 * d
      omega
    · rw [List.mem_singleton.mp hw]
      exact g_word hC (h.warm.trans hU) hco rfl a'
    · have h2 := hdesc.2.2
      rw [h9] at h2
      exact (Option.some.inj h2).symm
  have hr := vx_runSW (l := l) (e := e) (below := below) (meth := meth) (H := H) (locs := locs) (cells := kc) (slots := ks) (As := av.map (g_up C)) (n := nargs) (Ts := []) (rest := rest.map (g_up C)) (g := F0 m pc la ((av.reverse ++ rest).map (g_up C))) ⟨h.1, h.2.1, h.2.2.2.1, h.own, fun _ q => nomatch q⟩ hM.toMet cw
    ⟨g_blind C _ X, fun U hU hW => ⟨rfl, h.warm.trans hW, by rw [hU]; exact Nat.le_trans h.2.2.2.2.2.2.2.2.2.1.1 h.siz, by rw [hU]; exact h.at⟩⟩ rfl (by rw [List.length_map]; exact hlen) h.lv.1 (by simp) (lv_room (by rw [g_rest_cat]; exact hrest)) hd hcost
  exact gw_fin (z := z) (QXz := gN) h (fun T hT Xs => Or.inl (hr T hT Xs)) hcost (fun E X' q => q.elim) kk
end GWW
