/-! Calls of nest mates' private methods, of constructors; a throw. -/
def g_w2 : Cond → Bool
  | .castable _ _ => true
  | .declares _ => true
  | .methodLinkNest .. => true
  | w => goodWord w
theorem g_word2 {l : Launch} {C : gC} (hC : g_ctx l C) {s : State} (hw : C.1.WarmedH s.vm) {w : Cond} (hm : w ∈ lw_tbl) (hg : g_w2 w = true) (args : Array Value) : w.before args s = true := by
  obtain ⟨a0, h⟩ := hC.2.1
  have h1 := h w hm
  cases w with
  | castable a b => exact va_Nw.use rfl (va_Nw.warmC hw (va_Nw.of rfl h1))
  | declares a => exact va_Nw.use rfl (va_Nw.warmD hw (va_Nw.of rfl h1))
  | methodLinkNest a i x h0 => exact va_Nw.use rfl (va_Nw.warmM hw (va_Nw.of rfl h1))
  | _ => exact g_word hC hw hm hg args
section GCALL2
variable {l : Launch} {C : gC} {y z : gY} {d d' : Nat} {Q Qz : Option Value → gX → Prop} {QX QXz : String → gX → Prop} {kc ks pc idx nargs : Nat} {ls : gL} {st rest av : List Value} {X : gX} {host : String}
theorem g_callN (hC : g_ctx l C) {s : State} (hw : C.1.WarmedH s.vm) (args : Array Value) (hlk : Cond.methodLinkNest y.1.cls idx z.1 host ∈ lw_tbl) (hini : Cond.initialized z.1.cls ∈ lw_tbl) (hco : g_w z ∈ lw_tbl)
    (hdesc : z.1.cls ≠ "java/lang/invoke/MethodHandle" ∧ z.1.cls ≠ "java/lang/invoke/VarHandle" ∧ (parseMethodDescriptor z.1.desc).map (fun q => q.parameters.length) = some nargs) (hdd : d' + 1 ≤ d) (hmx : z.2.2.1 ≤ 21) :
    va_CN (g_rm y d) s args y.1.cls idx z.1 host z.2.1 z.2.2.1 z.2.2.2.1 [g_w z] (g_rm z d') z.2.2.2.2.1 z.2.2.2.2.2.1 nargs := by
  refine ⟨⟨rfl, rfl, hdd, ?_, fun w h a' U hU => ?_, List.mem_singleton.mpr rfl⟩, g_word hC hw hco (g_code_good z) args, g_word hC hw hini rfl args, ⟨hdesc.1, hdesc.2.1⟩, fun sig h => ?_, g_word2 hC hw hlk rfl args⟩
  · show 8 + (z.2.2.1 + 11) + 40 * d' ≤ 40 * d
    omega
  · rw [List.mem_singleton.mp h]
    exact g_word hC (hw.trans hU) hco (g_code_good z) a'
  · have h2 := hdesc.2.2
    rw [h] at h2
    exact (Option.some.inj h2).symm
theorem gw_invSN (hC : g_ctx l C) (hM : gMet l C z d' av X Qz QXz) (hx : ∀ E X', ¬ QXz E X') (hd : decode y.2.1 pc = .ok (.invokestatic idx, 3)) (hlk : Cond.methodLinkNest y.1.cls idx z.1 host ∈ lw_tbl) (hin : Cond.static z.1 ∈ lw_tbl) (hini : Cond.initialized z.1.cls ∈ lw_tbl) (hco : g_w z ∈ lw_tbl)
    (hdesc : z.1.cls ≠ "java/lang/invoke/MethodHandle" ∧ z.1.cls ≠ "java/lang/invoke/VarHandle" ∧ (parseMethodDescriptor z.1.desc).map (fun q => q.parameters.length) = some nargs) (hdd : d' + 1 ≤ d) (hmx : z.2.2.1 ≤ 21)
    (hlen : av.length = nargs) (hst : st = av.reverse ++ rest) (hrest : (rest.map fun v => v.category).sum ≤ 8) (hcost : kc + z.2.2.2.2.1 ≤ y.2.2.2.2.1 ∧ ks + z.2.2.2.2.2.1 ≤ y.2.2.2.2.2.1)
    (kk : ∀ r X', Qz r X' → GW l C y d Q QX (kc + z.2.2.2.2.1) (ks + z.2.2.2.2.2.1) (pc + 3) ls (r.toList ++ rest) X') : GW l C y d Q QX kc ks pc ls st X := by
  intro p e s m args below meth c H locs la h
  subst hst
  have hr := va_runSN (l := l) (e := e) (below := below) (meth := meth) (H := H) (locs := locs) (cells := kc) (slots := ks) (As := av.map (g_up C)) (n := nargs) (Ts := []) (rest := rest.map (g_up C)) (g := F0 m pc la ((av.reverse ++ rest).map (g_up C))) ⟨h.1, h.2.1, h.2.2.2.1, h.own, fun _ q => nomatch q⟩ (hM.toMet hx) ⟨g_callN hC h.warm args hlk hini hco hdesc hdd hmx, g_word hC h.warm hin rfl args, trivial⟩
    ⟨g_blind C _ X, fun U hU hW => ⟨rfl, h.warm.trans hW, by rw [hU]; exact Nat.le_trans h.2.2.2.2.2.2.2.2.2.1.1 h.siz, by rw [hU]; exact h.at⟩⟩ rfl (by rw [List.length_map]; exact hlen) h.lv.1 (by simp) (lv_room (by rw [g_rest_cat]; exact hrest)) hd hcost
  exact gw_fin (z := z) (QXz := QXz) h (fun T hT Xs => Or.inl (hr T hT Xs)) hcost (fun E X' q => absurd q (hx E X')) kk
theorem gw_invVN {a ci N : Nat} {T : u_T} {rf : Nat → Nat} (hC : g_ctx l C) (hM : gMet l C z d' (.ref a :: av) X Qz QXz) (hx : ∀ E X', ¬ QXz E X') (hd : decode y.2.1 pc = .ok (.invokevirtual idx, 3)) (hlk : Cond.methodLinkNest y.1.cls idx z.1 host ∈ lw_tbl) (hin : Cond.instanceMethod z.1 ∈ lw_tbl) (hse : Cond.selects z.1.cls z.1 z.1 ∈ lw_tbl) (hini : Cond.initialized z.1.cls ∈ lw_tbl) (hco : g_w z ∈ lw_tbl)
    (hdesc : z.1.cls ≠ "java/lang/invoke/MethodHandle" ∧ z.1.cls ≠ "java/lang/invoke/VarHandle" ∧ (parseMethodDescriptor z.1.desc).map (fun q => q.parameters.length) = some nargs) (hdd : d' + 1 ≤ d) (hmx : z.2.2.1 ≤ 21)
    (hcl : vwCl[ci]? = some (z.1.cls, T, N)) (hci : ci < 20) (ha : a < X.1) (hS : X.2.1 a = (ci, N, rf)) (hlen : av.length = nargs) (hst : st = av.reverse ++ .ref a :: rest) (hrest : (rest.map fun v => v.category).sum ≤ 8) (hcost : kc + z.2.2.2.2.1 ≤ y.2.2.2.2.1 ∧ ks + z.2.2.2.2.2.1 ≤ y.2.2.2.2.2.1)
    (kk : ∀ r X', Qz r X' → GW l C y d Q QX (kc + z.2.2.2.2.1) (ks + z.2.2.2.2.2.1) (pc + 3) ls (r.toList ++ rest) X') : GW l C y d Q QX kc ks pc ls st X := by
  intro p e s m args below meth c H locs la h
  subst hst
  have hrc := va_recv (q := (z.1.cls, T, N)) (g_K hC h.warm) h.at.1 hcl ((g_wsk C X ha).trans (congrArg (fun e => some (g_b C + a, e)) (g_cell_obj hS hci)))
  have hr := va_runVN (l := l) (e := e) (below := below) (meth := meth) (H := H) (locs := locs) (cells := kc) (slots := ks) (As := av.map (g_up C)) (b := g_b C + a) (C := z.1.cls) (n := nargs) (Ts := []) (rest := rest.map (g_up C)) (g := F0 m pc la ((av.reverse ++ .ref a :: rest).map (g_up C))) ⟨h.1, h.2.1, h.2.2.2.1, h.own, fun _ q => nomatch q⟩ (hM.toMet hx) ⟨g_callN hC h.warm args hlk hini hco hdesc hdd hmx, g_word hC h.warm hin rfl args, g_word hC h.warm hse rfl args⟩
    ⟨g_blind C _ X, hrc, fun U hU hW => ⟨rfl, h.warm.trans hW, by rw [hU]; exact Nat.le_trans h.2.2.2.2.2.2.2.2.2.1.1 h.siz, by rw [hU]; exact h.at⟩⟩ rfl (by rw [List.length_map]; exact hlen) h.lv.1 (by simp [g_up]) (lv_room (by rw [g_rest_cat]; exact hrest)) hd hcost
  exact gw_fin (z := z) (QXz := QXz) h (fun T hT Xs => Or.inl (hr T hT Xs)) hcost (fun E X' q => absurd q (hx E X')) kk
theorem gw_invI {a : Nat} (hC : g_ctx l C) (hM : gMet l C z d' (.ref a :: av) X Qz QXz) (hx : ∀ E X', ¬ QXz E X') (hd : decode y.2.1 pc = .ok (.invokespecial idx, 3)) (hlk : Cond.methodLink y.1.cls idx z.1 ∈ lw_tbl) (hnm : z.1.name = "<init>") (hret : z.2.2.2.1 = none) (hin : Cond.instanceMethod z.1 ∈ lw_tbl) (hini : Cond.initialized z.1.cls ∈ lw_tbl) (hco : g_w z ∈ lw_tbl)
    (hdesc : z.1.cls ≠ "java/lang/invoke/MethodHandle" ∧ z.1.cls ≠ "java/lang/invoke/VarHandle" ∧ (parseMethodDescriptor z.1.desc).map (fun q => q.parameters.length) = some nargs) (hdd : d' + 1 ≤ d) (hmx : z.2.2.1 ≤ 21)
    (hlen : av.length = nargs) (hst : st = av.reverse ++ .ref a :: rest) (hrest : (rest.map fun v => v.category).sum ≤ 8) (hcost : kc + z.2.2.2.2.1 ≤ y.2.2.2.2.1 ∧ ks + z.2.2.2.2.2.1 ≤ y.2.2.2.2.2.1)
    (kk : ∀ r X', Qz r X' → GW l C y d Q QX (kc + z.2.2.2.2.1) (ks + z.2.2.2.2.2.1) (pc + 3) ls (r.toList ++ rest) X') : GW l C y d Q QX kc ks pc ls st X := by
  intro p e s m args below meth c H locs la h
  subst hst
  have hcb := g_callB (z := z) hC h.warm args hlk hini hco hdesc hdd hmx
  rw [hret] at hcb
  have hr := va_runI (l := l) (e := e) (below := below) (meth := meth) (H := H) (locs := locs) (cells := kc) (slots := ks) (As := av.map (g_up C)) (b := g_b C + a) (n := nargs) (Ts := []) (rest := rest.map (g_up C)) (g := F0 m pc la ((av.reverse ++ .ref a :: rest).map (g_up C))) ⟨h.1, h.2.1, h.2.2.2.1, h.own, fun _ q => nomatch q⟩ (hM.toMet hx) ⟨hcb, hnm, g_word hC h.warm hin rfl args⟩
    ⟨g_blind C _ X, fun U hU hW => ⟨rfl, h.warm.trans hW, by rw [hU]; exact Nat.le_trans h.2.2.2.2.2.2.2.2.2.1.1 h.siz, by rw [hU]; exact h.at⟩⟩ rfl (by rw [List.length_map]; exact hlen) h.lv.1 (by simp [g_up]) (lv_room (by rw [g_rest_cat]; exact hrest)) hd hcost
  exact gw_fin (z := z) (QXz := QXz) h (fun T hT Xs => Or.inl (hr T hT Xs)) hcost (fun E X' q => absurd q (hx E X')) kk
theorem gw_invIN {a : Nat} (hC : g_ctx l C) (hM : gMet l C z d' (.ref a :: av) X Qz QXz) (hx : ∀ E X', ¬ QXz E X') (hd : decode y.2.1 pc = .ok (.invokespecial idx, 3)) (hlk : Cond.methodLinkNest y.1.cls idx z.1 host ∈ lw_tbl) (hnm : z.1.name = "<init>") (hret : z.2.2.2.1 = none) (hin : Cond.instanceMethod z.1 ∈ lw_tbl) (hini : Cond.initialized z.1.cls ∈ lw_tbl) (hco : g_w z ∈ lw_tbl)
    (hdesc : z.1.cls ≠ "java/lang/invoke/MethodHandle" ∧ z.1.cls ≠ "java/lang/invoke/VarHandle" ∧ (parseMethodDescriptor z.1.desc).map (fun q => q.parameters.length) = some nargs) (hdd : d' + 1 ≤ d) (hmx : z.2.2.1 ≤ 21)
    (hlen : av.length = nargs) (hst : st = av.reverse ++ .ref a :: rest) (hrest : (rest.map fun v => v.category).sum ≤ 8) (hcost : kc + z.2.2.2.2.1 ≤ y.2.2.2.2.1 ∧ ks + z.2.2.2.2.2.1 ≤ y.2.2.2.2.2.1)
    (kk : ∀ r X', Qz r X' → GW l C y d Q QX (kc + z.2.2.2.2.1) (ks + z.2.2.2.2.2.1) (pc + 3) ls (r.toList ++ rest) X') : GW l C y d Q QX kc ks pc ls st X := by
  intro p e s m args below meth c H locs la h
  subst hst
  have hcb := g_callN (z := z) hC h.warm args hlk hini hco hdesc hdd hmx
  rw [hret] at hcb
  have hr := va_runIN (l := l) (e := e) (below := below) (meth := meth) (H := H) (locs := locs) (cells := kc) (slots := ks) (As := av.map (g_up C)) (b := g_b C + a) (n := nargs) (Ts := []) (rest := rest.map (g_up C)) (g := F0 m pc la ((av.reverse ++ .ref a :: rest).map (g_up C))) ⟨h.1, h.2.1, h.2.2.2.1, h.own, fun _ q => nomatch q⟩ (hM.toMet hx) ⟨hcb, hnm, g_word hC h.warm hin rfl args⟩
    ⟨g_blind C _ X, fun U hU hW => ⟨rfl, h.warm.trans hW, by rw [hU]; exact Nat.le_trans h.2.2.2.2.2.2.2.2.2.1.1 h.siz, by rw [hU]; exact h.at⟩⟩ rfl (by rw [List.length_map]; exact hlen) h.lv.1 (by simp [g_up]) (lv_room (by rw [g_rest_cat]; exact hrest)) hd hcost
  exact gw_fin (z := z) (QXz := QXz) h (fun T hT Xs => Or.inl (hr T hT Xs)) hcost (fun E X' q => absurd q (hx E X')) kk
theorem gw_objInit {a : Nat} (hC : g_ctx l C) (hd : decode y.2.1 pc = .ok (.invokespecial idx, 3)) (hlk : Cond.methodLink y.1.cls idx objectInit ∈ lw_tbl) (h1 : Cond.instanceMethod objectInit ∈ lw_tbl) (h2 : Cond.code objectInit ⟨#[0xb1]⟩ 1 none ∈ lw_tbl) (hst : (rest.map fun v => v.category).sum ≤ 8) (hdd : 1 ≤ d)
    (kk : GW l C y d Q QX kc ks (pc + 3) ls rest X) : GW l C y d Q QX kc ks pc ls (.ref a :: rest) X := by
  intro p e s m args below meth c H locs la h
  refine W.objInit h.1 h.2.1 h.own (g_word hC h.warm hlk rfl args) (g_word hC h.warm h1 rfl args) (g_word hC h.warm h2 rfl args) rfl (by rw [h.2.2.2.1]; exact h.lv.1) rfl hd hdd ?_ (kk p e s m args below meth c H locs la h)
  have := lv_room (pc := pc) (m := m) (ls := la) (rest := (Value.ref a :: rest).map (g_up C)) (st := rest.map (g_up C)) (by rw [g_rest_cat]; exact hst)
  show _ + 12 ≤ 40 * d
  have h3 : 2 * (F0 m pc la (List.map (g_up C) (Value.ref a :: rest))).monitorRoom + (List.map (fun v => v.category) (List.map (g_up C) rest)).sum ≤ 8 := this
  omega
end GCALL2
