/-! Calls, and the way into a method. -/
theorem MetFree.conv {l : Launch} {x : MethodName} {S : Spec} {P : Array Value → State → Prop} {K : Program → Env → List Frame → State → Array Value → Prop} {Q Q' : Array Value → State → Outcome → State → Prop} (h : MetFree l x S P K Q) (hq : ∀ a s o t, Q a s o t → Q' a s o t) : MetFree l x S P K Q' := by
  intro p e ha hc hk s m args below h1 h2 h3 h4
  obtain ⟨t, o, a1, a2, a3, a4⟩ := h p e ha hc hk s m args below h1 h2 h3 h4
  exact ⟨t, o, a1, a2, a3, hq _ _ _ _ a4⟩
theorem gMet.toMet {l : Launch} {C : gC} {y : gY} {d : Nat} {av : List Value} {X : gX} {Q : Option Value → gX → Prop} {QX : String → gX → Prop} (h : gMet l C y d av X Q QX) (hx : ∀ E X', ¬ QX E X') : Met l y.1 [g_w y] (g_rm y d) (g_Pc C av X) (g_Qc C Q) y.2.2.2.2.1 y.2.2.2.2.2.1 (g_F C) := by
  refine MetFree.conv h (fun a s o t hq => ?_)
  rcases hq with hq | ⟨q, -, E, ce, L, ⟨X', h1, -⟩, -⟩
  · exact hq
  · exact absurd h1 (hx E X')
theorem g_blind (C : gC) (av : List Value) (X : gX) : FrameBlind (g_Pc C av X) := fun _ _ _ _ h => h
theorem g_code_good (y : gY) : goodWord (g_w y) = true := rfl
theorem g_callB {l : Launch} {C : gC} (hC : g_ctx l C) {y z : gY} {s : State} (hw : C.1.WarmedH s.vm) (args : Array Value) {idx nargs d d' : Nat} (hlk : Cond.methodLink y.1.cls idx z.1 ∈ lw_tbl) (hini : Cond.initialized z.1.cls ∈ lw_tbl) (hco : g_w z ∈ lw_tbl)
    (hdesc : z.1.cls ≠ "java/lang/invoke/MethodHandle" ∧ z.1.cls ≠ "java/lang/invoke/VarHandle" ∧ (parseMethodDescriptor z.1.desc).map (fun q => q.parameters.length) = some nargs) (hdd : d' + 1 ≤ d) (hmx : z.2.2.1 ≤ 21) :
    CallB (g_rm y d) s args y.1.cls idx z.1 z.2.1 z.2.2.1 z.2.2.2.1 [g_w z] (g_rm z d') z.2.2.2.2.1 z.2.2.2.2.2.1 nargs := by
  refine ⟨rfl, rfl, hdd, ?_, fun w h a' U hU => ?_, List.mem_singleton.mpr rfl, g_word hC hw hco (g_code_good z) args, g_word hC hw hini rfl args, ⟨hdesc.1, hdesc.2.1⟩, fun sig h => ?_, g_word hC hw hlk rfl args⟩
  · show 8 + (z.2.2.1 + 11) + 40 * d' ≤ 40 * d
    omega
  · rw [List.mem_singleton.mp h]
    exact g_word hC (hw.trans hU) hco (g_code_good z) a'
  · have h2 := hdesc.2.2
    rw [h] at h2
    exact (Option.some.inj h2).symm
section GCALL
variable {l : Launch} {C : gC} {y z : gY} {d d' : Nat} {Q Qz : Option Value → gX → Prop} {QX QXz : String → gX → Prop} {kc ks pc idx nargs : Nat} {ls : gL} {st rest av : List Value} {X : gX}
theorem g_rest_cat (C : gC) (rest : List Value) : ((rest.map (g_up C)).map fun v => v.category) = rest.map fun v => v.category := by
  rw [List.map_map]
  exact List.map_congr_left fun v _ => g_up_cat C v
/-- what a call that has run gives -/
theorem gw_fin {p : Program} {e : Env} {s : State} {m : MethodId} {args : Array Value} {below : List Frame} {meth : Method} {c : Code} {H : Heap} {locs : List Loc} {la : Array Slot} (h : gCx C y X ls p s m meth c H locs la) {Qa : Array Value}
    (hr : vx_Run p l e (g_rm y d) s m args below meth c H locs kc ks z.2.2.2.2.1 z.2.2.2.2.2.1 (F0 m pc la (st.map (g_up C))) (rest.map (g_up C)) (g_Qc C Qz Qa) (g_Qx C QXz) (g_F C)) (hcost : kc + z.2.2.2.2.1 ≤ y.2.2.2.2.1 ∧ ks + z.2.2.2.2.2.1 ≤ y.2.2.2.2.2.1)
    (kx : ∀ E X', QXz E X' → QX E X') (kk : ∀ r X', Qz r X' → GW l C y d Q QX (kc + z.2.2.2.2.1) (ks + z.2.2.2.2.2.1) (pc + 3) ls (r.toList ++ rest) X') :
    W p l e (g_rm y d) s m args below meth c H locs kc ks (vx_MQ below (g_Qc C Q) (g_Qx C QX) args s y.2.2.2.2.1 y.2.2.2.2.2.1 (g_F C)) (F0 m pc la (st.map (g_up C))) := by
  intro T hT Xs
  have hlo : ∀ {L : List Loc}, (∀ q ∈ L, g_F C q.base) → ∀ q ∈ locs ++ L, g_F C q.base := fun hL q hq => (List.mem_append.mp hq).elim (h.lc q) (hL q)
  rcases hr T hT Xs with ⟨v, st₀, t, T', L, h0, X', hL, e1, e2, ⟨r, X2, hv, hq, hat, hsz⟩, go⟩ | ⟨q, st₀, t, T', L, E, ce, h0, X', hL, e1, e2, ⟨X2, hq, hat, hsz⟩, hce, hcv, hcl, go⟩
  · have hv2 : v = r.map (g_up C) := by
      injection hv
    subst hv2
    have hh := kk r X2 hq p e s m args below meth c T'.heap (locs ++ L) la (h.setH (by rw [e1, ← h0]; exact hsz) (by rw [e1]; exact hat) (hlo hL)) T' rfl X'
    obtain ⟨t2, a1, b1⟩ := hh
    refine ⟨t2, go t2 ?_, b1⟩
    have es : (r.toList ++ rest).map (g_up C) = (r.map (g_up C)).toList ++ rest.map (g_up C) := by cases r <;> simp
    rw [es] at a1
    exact a1
  · have hh : vx_W p l e (g_rm y d) s m args below meth c T'.heap (locs ++ L) (kc + z.2.2.2.2.1) (ks + z.2.2.2.2.2.1) (vx_MQ below (g_Qc C Q) (g_Qx C QX) args s y.2.2.2.2.1 y.2.2.2.2.2.1 (g_F C)) (F0 m pc la (rest.map (g_up C))) q :=
      vx_out (fun x hx => (h.2.2.2.2.2.2.2.1 x hx).elim) h.2.2.2.2.2.1 (by rw [e1]; exact hce) hcv hcl (fun t' ht' _ => ⟨X2, kx E X2 hq, by rw [ht', e1]; exact hat, by rw [ht', e1]; exact Nat.le_trans h.siz (by rw [← h0]; exact hsz)⟩) (hlo hL) hcost.1 hcost.2
    obtain ⟨t2, a1, b1⟩ := hh T' rfl X'
    exact ⟨t2, go.trans a1, b1⟩
theorem gw_invV {a ci N : Nat} {T : u_T} {rf : Nat → Nat} (hC : g_ctx l C) (hM : gMet l C z d' (.ref a :: av) X Qz QXz) (hd : decode y.2.1 pc = .ok (.invokevirtual idx, 3)) (hlk : Cond.methodLink y.1.cls idx z.1 ∈ lw_tbl) (hin : Cond.instanceMethod z.1 ∈ lw_tbl) (hse : Cond.selects z.1.cls z.1 z.1 ∈ lw_tbl) (hini : Cond.initialized z.1.cls ∈ lw_tbl) (hco : g_w z ∈ lw_tbl)
    (hdesc : z.1.cls ≠ "java/lang/invoke/MethodHandle" ∧ z.1.cls ≠ "java/lang/invoke/VarHandle" ∧ (parseMethodDescriptor z.1.desc).map (fun q => q.parameters.length) = some nargs) (hdd : d' + 1 ≤ d) (hmx : z.2.2.1 ≤ 21)
    (hcl : vwCl[ci]? = some (z.1.cls, T, N)) (hci : ci < 20) (ha : a < X.1) (hS : X.2.1 a = (ci, N, rf)) (hlen : av.length = nargs) (hst : st = av.reverse ++ .ref a :: rest) (hrest : (rest.map fun v => v.category).sum ≤ 8) (hcost : kc + z.2.2.2.2.1 ≤ y.2.2.2.2.1 ∧ ks + z.2.2.2.2.2.1 ≤ y.2.2.2.2.2.1)
    (kx : ∀ E X', QXz E X' → QX E X') (kk : ∀ r X', Qz r X' → GW l C y d Q QX (kc + z.2.2.2.2.1) (ks + z.2.2.2.2.2.1) (pc + 3) ls (r.toList ++ rest) X') : GW l C y d Q QX kc ks pc ls st X := by
  intro p e s m args below meth c H locs la h
  subst hst
  refine gw_fin (z := z) h (vx_runV (As := av.map (g_up C)) (b := g_b C + a) (n := nargs) (Ts := []) (C := z.1.cls) ⟨h.1, h.2.1, h.2.2.2.1, h.own, fun _ q => nomatch q⟩ hM ⟨g_callB hC h.warm args hlk hini hco hdesc hdd hmx, g_word hC h.warm hin rfl args, g_word hC h.warm hse rfl args⟩
    ⟨g_blind C _ X, ?_, fun U hU hW => ⟨rfl, h.warm.trans hW, by rw [hU]; exact Nat.le_trans h.2.2.2.2.2.2.2.2.2.1.1 h.siz, by rw [hU]; exact h.at⟩⟩ rfl (by rw [List.length_map]; exact hlen) h.lv.1 (by simp [g_up]) (lv_room (by rw [g_rest_cat]; exact hrest)) hd hcost) hcost kx kk
  exact va_recv (q := (z.1.cls, T, N)) (g_K hC h.warm) h.at.1 hcl ((g_wsk C X ha).trans (congrArg (fun e => some (g_b C + a, e)) (g_cell_obj hS hci)))
theorem gw_invS (hC : g_ctx l C) (hM : gMet l C z d' av X Qz QXz) (hd : decode y.2.1 pc = .ok (.invokestatic idx, 3)) (hlk : Cond.methodLink y.1.cls idx z.1 ∈ lw_tbl) (hin : Cond.static z.1 ∈ lw_tbl) (hini : Cond.initialized z.1.cls ∈ lw_tbl) (hco : g_w z ∈ lw_tbl)
    (hdesc : z.1.cls ≠ "java/lang/invoke/MethodHandle" ∧ z.1.cls ≠ "java/lang/invoke/VarHandle" ∧ (parseMethodDescriptor z.1.desc).map (fun q => q.parameters.length) = some nargs) (hdd : d' + 1 ≤ d) (hmx : z.2.2.1 ≤ 21)
    (hlen : av.length = nargs) (hst : st = av.reverse ++ rest) (hrest : (rest.map fun v => v.category).sum ≤ 8) (hcost : kc + z.2.2.2.2.1 ≤ y.2.2.2.2.1 ∧ ks + z.2.2.2.2.2.1 ≤ y.2.2.2.2.2.1)
    (kx : ∀ E X', QXz E X' → QX E X') (kk : ∀ r X', Qz r X' → GW l C y d Q QX (kc + z.2.2.2.2.1) (ks + z.2.2.2.2.2.1) (pc + 3) ls (r.toList ++ rest) X') : GW l C y d Q QX kc ks pc ls st X := by
  intro p e s m args below meth c H locs la h
  subst hst
  exact gw_fin (z := z) h (vx_runS (As := av.map (g_up C)) (n := nargs) (Ts := []) ⟨h.1, h.2.1, h.2.2.2.1, h.own, fun _ q => nomatch q⟩ hM ⟨g_callB hC h.warm args hlk hini hco hdesc hdd hmx, g_word hC h.warm hin rfl args⟩
    ⟨g_blind C _ X, fun U hU hW => ⟨rfl, h.warm.trans hW, by rw [hU]; exact Nat.le_trans h.2.2.2.2.2.2.2.2.2.1.1 h.siz, by rw [hU]; exact h.at⟩⟩ rfl (by rw [List.length_map]; exact hlen) h.lv.1 (by simp [g_up]) (lv_room (by rw [g_rest_cat]; exact hrest)) hd hcost) hcost kx kk
end GCALL
/-- the way in -/
theorem gMet.of {l : Launch} {C : gC} {y : gY} {d : Nat} {av : List Value} {X : gX} {Q : Option Value → gX → Prop} {QX : String → gX → Prop} (hy : plainName y.1.cls = true) (hl : (lg_sl (av.map (g_up C))).length ≤ y.2.2.1) {ls : gL} (hls : lv_args 0 (av.map (g_up C)) = ls.map (fun q => (q.1, g_up C q.2)))
    (k : GW l C y d Q QX 0 0 0 ls [] X) : gMet l C y d av X Q QX := by
  refine vx_ofW (cc := y.2.1) (maxL := y.2.2.1) (ret := y.2.2.2.1) (ws' := []) hy rfl ?_
  intro p e s m args below meth c s₁ B hml htb hv
  obtain ⟨rfl, hw, hsz, hat⟩ := hv
  have hlv := lv_entry (av.map (g_up C)) hl
  rw [hls] at hlv
  rw [lg_entry_eq]
  exact k p e s m _ below meth c s.heap [] _ ⟨B.exec, B.bytes, B.returns, hml, findClass_of_methodNamed B.named, B.notSynchronized, (name_of_methodNamed B.named B.method).1, htb, hw, ⟨hsz, hat.2.2.2⟩, Nat.le_refl _, hat, (fun _ q => absurd q List.not_mem_nil), hlv⟩
