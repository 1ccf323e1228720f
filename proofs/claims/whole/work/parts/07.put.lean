/-! Writing: fields, rows; reading rows. -/
section GP0
variable {p : Program} {l : Launch} {e : Env} {R : Room} {s : State} {m : MethodId} {args : Array Value} {below : List Frame} {meth : Method} {c : Code} {H : Heap} {locs : List Loc} {cells slots : Nat} {Q : State → Prop}
variable {cc : ByteArray} {pc : Nat} {ls : Array Slot} {rest : List Value} {D : va_G} {cl : List vw_C} {A : Nat → Prop} {a : Nat} {tys : List (ClassId × FieldType)} {ws : va_W}
/-- as va_put, with the heap's size -/
theorem g_W_put (hexec : p.tables.exec = Jvm.exec) (hb : c.code = cc) {own C : String} {T : u_T} {N ci index : Nat} {Ts : List Cond} (hts : ∀ w ∈ Ts, w.before args s = true) (hin : ∀ w ∈ u_ws C T N, w ∈ Ts) (ty0 : Nat → FieldType) (hty : ∀ k, k < N → parseFieldDescriptor (T k).2.2.1 = some (ty0 k)) (hnm : ∀ a, a < N → ∀ b, b < N → a ≠ b → (T a).2.1 ≠ (T b).2.1) (hown : s.vm.findClass own = some m.cls) (hK : va_K D cl tys s) (hP : va_P D cl ws H) (hD : va_D A ws) (q0 : Nat) {fs : List Value} (he : ws[q0]? = some (a, .inr (ci, fs))) (hc : cl[ci]? = some (C, T, N)) (k : Nat) (hk : k < N) (hlink : (Cond.fieldLink own index (T k).1 (T k).2.1 (T k).2.2.1).before args s = true)
    (hfin : (T k).2.2.2 = false ∨ ((T k).2.2.2 = true ∧ meth.name = "<init>" ∧ (T k).1 = own)) {ty : FieldType} {v : Value} (hd : parseFieldDescriptor (T k).2.2.1 = some ty) (hn : narrow ty v = v) (hfit : fits ty v = true) (hl : k < fs.length)
    (hdg : decode cc pc = .ok (.putfield index, 3)) (kk : ∀ (H1 : Heap) (locs1 : List Loc), va_P D cl (ws.set q0 (a, .inr (ci, fs.set k v))) H1 → H1.size = H.size → (∀ q : Nat, q ≠ a → H1[q]? = H[q]?) → (∀ z ∈ locs1, z ∈ locs ∨ z.base = a) → W p l e R s m args below meth c H1 locs1 cells slots Q (F0 m (pc + 3) ls rest)) : W p l e R s m args below meth c H locs cells slots Q (F0 m pc ls (v :: .ref a :: rest)) := by
  have hap := va_apart (own := own) hts hin ty0 hty hnm hK hc
  obtain ⟨r, h1, cell, q1, q2, q3, q4⟩ := hP q0 _ he
  have hr : r = (C, T, N) := Option.some.inj (h1.symm.trans hc)
  subst hr
  obtain ⟨hS, hfc, kC, hkC, hkind⟩ := hK.1 ci _ hc
  obtain ⟨cf, kf, fi, f, hi, hsl⟩ := hS k hk
  have hlay := hts _ (hin _ (u_in_lay hk))
  unfold u_lay at hlay
  have hst := (u_facts hfc hkC (u_lays hts hin hk) hi).1
  have hloc : ∀ (j : Nat), ∀ z ∈ locs ++ [(⟨a, j⟩ : Loc)], z ∈ locs ∨ z.base = a := fun j z hz => (List.mem_append.mp hz).elim Or.inl (fun h => Or.inr (by rw [List.mem_singleton.mp h]))
  rcases hfin with hfin | ⟨hfin, hin2, hdecl⟩
  · rw [if_neg (by rw [hfin]; decide)] at hlay
    have h6 := u_store hfc hkC hkind hlay hi hd hn hfit
    refine W.putK hexec hb (f := f) ⟨hown, hlink, ⟨_, _, _, hi⟩, hst⟩ (by rw [q2]; exact h6) q1 q3 (by rw [hsl]; exact k2_hasslot (q4 k hk)) rfl rfl hdg fun H' e1 e2 e3 => ?_
    rw [hsl] at e1 ⊢
    exact kk H' _ (hP.set hD he ⟨_, hc, t_OB.to (V := updV (vp_V fs) k v) ⟨_, e1, q2, q3, t_set q4 hap hk v⟩ (fun j _ => vp_updV_set hl v j)⟩ e3) e2 e3 (hloc _)
  · rw [if_pos hfin] at hlay
    have hcf : m.cls = cf := by
      obtain ⟨_, _, c', _, _, _, -, -, hf', -, -, -, hown2, -⟩ := Cond.laysFinal_spec hlay
      have e1 : c' = cf := by have := hi.symm.trans hf'; simp at this; exact this.1.symm
      rw [hdecl] at hown2
      rw [← e1]; exact Option.some.inj (hown.symm.trans hown2)
    have h6 := u_fits hfc hkC hkind (Or.inr hlay) hi hd hn hfit
    refine W.putFinK hexec hb hown hlink hi hst hcf hin2 (by rw [q2]; exact h6) q1 q3 (by rw [hsl]; exact k2_hasslot (q4 k hk)) rfl rfl hdg fun H' e1 e2 e3 => ?_
    rw [hsl] at e1 ⊢
    exact kk H' _ (hP.set hD he ⟨_, hc, t_OB.to (V := updV (vp_V fs) k v) ⟨_, e1, q2, q3, t_set q4 hap hk v⟩ (fun j _ => vp_updV_set hl v j)⟩ e3) e2 e3 (hloc _)
theorem g_W_iast (hexec : p.tables.exec = Jvm.exec) (hb : c.code = cc) (hK : va_K D cl tys s) (hP : va_P D cl ws H) (hD : va_D A ws) (q0 t0 : Nat) {cA : ClassId} {n : Nat} {f : Nat → Int32} (ha : ws[q0]? = some (a, .inl (cA, n, .inl f))) (ht : tys[t0]? = some (cA, .int)) {i : Int32} {x : Int32} (hin : vp_in i n) (hdg : decode cc pc = .ok (.iastore, 1))
    (kk : ∀ (H1 : Heap) (locs1 : List Loc), va_P D cl (ws.set q0 (a, .inl (cA, n, .inl (upd f i.toNatClampNeg x)))) H1 → H1.size = H.size → (∀ q : Nat, q ≠ a → H1[q]? = H[q]?) → (∀ z ∈ locs1, z ∈ locs ∨ z.base = a) → W p l e R s m args below meth c H1 locs1 cells slots Q (F0 m (pc + 1) ls rest)) : W p l e R s m args below meth c H locs cells slots Q (F0 m pc ls (.int x :: .int i :: .ref a :: rest)) := by
  refine W.iast hexec hb (hP q0 _ ha) ((hK.2 t0 _ ht).1 n (fun j => .int (f j))) (fun q => by cases q) (by show ¬ (i < 0 ∨ (arrV _ _ _).slots.size ≤ _); rw [arrV_size]; exact hin) rfl rfl hdg fun H1 e z oq => ?_
  refine kk H1 _ (hP.set hD ha ?_ oq) z oq (fun z hz => (List.mem_append.mp hz).elim Or.inl (fun h => Or.inr (by rw [List.mem_singleton.mp h])))
  show H1[a]? = some (vp_cell _ _)
  rw [e]
  rw [vp_cell_i, vp_cell_i, arrV_store]
  congr 2
  funext q
  by_cases hq : q = i.toNatClampNeg
  · subst hq
    simp [updV, upd]
  · simp [updV, upd, hq]
theorem g_W_aldA (hexec : p.tables.exec = Jvm.exec) (hb : c.code = cc) (hK : va_K D cl tys s) (hP : va_P D cl ws H) (q0 t0 : Nat) {cA : ClassId} {ty : FieldType} (hty : ty.isReference = true) {n : Nat} {f : Nat → Option Nat} (ha : ws[q0]? = some (a, .inl (cA, n, .inr (.inr (.inr (.inr f)))))) (ht : tys[t0]? = some (cA, ty)) {i : Int32} (hin : vp_in i n) (hdg : decode cc pc = .ok (.aaload, 1))
    (kk : W p l e R s m args below meth c H locs cells slots Q (F0 m (pc + 1) ls (va_rf (f i.toNatClampNeg) :: rest))) : W p l e R s m args below meth c H locs cells slots Q (F0 m pc ls (.int i :: .ref a :: rest)) := by
  have hlt : i.toNatClampNeg < n := Nat.not_le.mp fun q => hin (Or.inr q)
  exact W.aald (v := va_rf (f i.toNatClampNeg)) (ty := ty) hexec hb (hP q0 _ ha) ((hK.2 t0 _ ht).1 n (fun j => va_rf (f j))) hty (fun q => by cases q) (by show ¬ (i < 0 ∨ (arrV _ _ _).slots.size ≤ _); rw [arrV_size]; exact hin) (by show (arrV _ _ _).slots[_]? = _; rw [arrV_read _ _ hlt]) rfl rfl hdg kk
end GP0
theorem g_locs {C : gC} {locs locs1 : List Loc} {a : Nat} (ha : a < 956) (h : ∀ q ∈ locs, g_F C q.base) (h1 : ∀ z ∈ locs1, z ∈ locs ∨ z.base = g_b C + a) : ∀ q ∈ locs1, g_F C q.base := fun q hq => (h1 q hq).elim (h q) (fun e => by unfold g_F; rw [e]; exact Nat.le_add_right _ _)
theorem g_cell_row {C : gC} {t : gT} {m : Nat → Int32} {n : Nat} {rf : Nat → Nat} (h : t = (20, n, rf)) : g_cell C t m = .inl (C.2.2.1.1, n, .inl m) := by subst h; rfl
theorem g_cell_obj {C : gC} {t : gT} {m : Nat → Int32} {ci n : Nat} {rf : Nat → Nat} (h : t = (ci, n, rf)) (hc : ci < 20) : g_cell C t m = .inr (ci, (List.range n).map (fun j => g_up C (g_rv (rf j) (m j)))) := by subst h; unfold g_cell; simp [hc]
theorem g_set_ne {M : gM} {a k b : Nat} {x : Int32} (h : b ≠ a) : g_set M a k x b = M b := by unfold g_set; rw [if_neg h]
theorem g_set_at (M : gM) (a k : Nat) (x : Int32) : g_set M a k x a = upd (M a) k x := by unfold g_set; rw [if_pos rfl]; funext j; rfl
theorem g_setS_ne {S : Nat → gT} {a k r b : Nat} (h : b ≠ a) : g_setS S a k r b = S b := by unfold g_setS; rw [if_neg h]
section GH2
variable {l : Launch} {C : gC} {y : gY} {d : Nat} {Q : Option Value → gX → Prop} {QX : String → gX → Prop} {kc ks pc : Nat} {ls : gL} {st : List Value} {n sz : Nat} {S : Nat → gT} {M : gM}
theorem g_tyq {q : vw_C} (hq : q ∈ vwCl) : ∃ ty : Nat → FieldType, ∀ k, k < q.2.2 → parseFieldDescriptor (q.2.1 k).2.2.1 = some (ty k) :=
  ⟨fun k => (parseFieldDescriptor (q.2.1 k).2.2.1).getD .int, fun k hk => by have := g_tyU q hq k hk; rw [Option.isSome_iff_exists] at this; obtain ⟨t, ht⟩ := this; show _ = some (Option.getD _ _); rw [ht]; rfl⟩
/-- a number goes into a field -/
theorem gw_putfield {a idx ci k N : Nat} {Cn : String} {T : u_T} {rf : Nat → Nat} {x : Int32} {ty : FieldType} (hC : g_ctx l C) (hd : decode y.2.1 pc = .ok (.putfield idx, 3)) (hcl : vwCl[ci]? = some (Cn, T, N)) (hci : ci < 20) (hk : k < N) (hlk : Cond.fieldLink y.1.cls idx (T k).1 (T k).2.1 (T k).2.2.1 ∈ lw_tbl)
    (hfin : (T k).2.2.2 = false) (hty : parseFieldDescriptor (T k).2.2.1 = some ty) (hn : narrow ty (.int x) = .int x) (hfit : fits ty (.int x) = true) (ha : a < n) (hS : S a = (ci, N, rf)) (hr : rf k = 0)
    (kk : GW l C y d Q QX kc ks (pc + 3) ls st (n, S, g_set M a k x, sz)) : GW l C y d Q QX kc ks pc ls (.int x :: .ref a :: st) (n, S, M, sz) := by
  intro p e s m args below meth c H locs la h
  have hq : (Cn, T, N) ∈ vwCl := List.mem_of_getElem? hcl
  have hws := g_wsk C (n, S, M, sz) ha
  obtain ⟨ty0, hty0⟩ := g_tyq hq
  refine g_W_put (D := C.2.1) (C := Cn) (T := T) (N := N) h.1 h.2.1 (g_Us_at hC h.warm args) (g_Us_in hq) ty0 hty0 (g_nmU _ hq) h.own (g_K hC h.warm) h.at.1 (g_wsD C _) a (hws.trans (congrArg (fun e => some (g_b C + a, e)) (g_cell_obj hS hci))) hcl k hk (g_word hC h.warm hlk (g_fl_good _ _ _ _ _) args) (Or.inl hfin) hty hn hfit (by simpa using hk) hd
    (fun H1 locs1 hP hz oq hl => kk p e s m args below meth c H1 locs1 la (h.setH (Nat.le_of_eq hz.symm) (g_at_set h.at ha hz oq hP ?_ (fun j hj => by rw [g_set_ne hj]) (g_set_ne (by have := h.at.2.2.1.2.1; have : n ≤ 956 := this; omega))) (g_locs (Nat.lt_of_lt_of_le ha h.at.2.2.1.2.1) h.lc hl)))
  rw [g_cell_obj hS hci]
  congr 2
  refine (g_rs (F' := fun j => g_up C (g_rv (rf j) (g_set M a k x a j))) ?_ (fun j hj => ?_)).symm
  · rw [g_set_at, hr]
    simp [upd, g_rv, g_up]
  · rw [g_set_at]
    simp [upd, hj]
/-- a reference goes into a final field, in a constructor -/
theorem gw_putref {a idx ci k N r : Nat} {Cn : String} {T : u_T} {rf : Nat → Nat} {ty : FieldType} (hC : g_ctx l C) (hd : decode y.2.1 pc = .ok (.putfield idx, 3)) (hcl : vwCl[ci]? = some (Cn, T, N)) (hci : ci < 20) (hk : k < N) (hlk : Cond.fieldLink y.1.cls idx (T k).1 (T k).2.1 (T k).2.2.1 ∈ lw_tbl)
    (hfin : (T k).2.2.2 = true) (hin : y.1.name = "<init>") (hdecl : (T k).1 = y.1.cls) (hty : parseFieldDescriptor (T k).2.2.1 = some ty) (hn : ∀ q : Nat, narrow ty (.ref q) = .ref q) (hfit : ∀ q : Nat, fits ty (.ref q) = true) (ha : a < n) (hS : S a = (ci, N, rf))
    (kk : GW l C y d Q QX kc ks (pc + 3) ls st (n, g_setS S a k (r + 2), M, sz)) : GW l C y d Q QX kc ks pc ls (.ref r :: .ref a :: st) (n, S, M, sz) := by
  intro p e s m args below meth c H locs la h
  have hq : (Cn, T, N) ∈ vwCl := List.mem_of_getElem? hcl
  have hws := g_wsk C (n, S, M, sz) ha
  obtain ⟨ty0, hty0⟩ := g_tyq hq
  refine g_W_put (D := C.2.1) (C := Cn) (T := T) (N := N) h.1 h.2.1 (g_Us_at hC h.warm args) (g_Us_in hq) ty0 hty0 (g_nmU _ hq) h.own (g_K hC h.warm) h.at.1 (g_wsD C _) a (hws.trans (congrArg (fun e => some (g_b C + a, e)) (g_cell_obj hS hci))) hcl k hk (g_word hC h.warm hlk (g_fl_good _ _ _ _ _) args) (Or.inr ⟨hfin, h.2.2.2.2.2.2.1.trans hin, hdecl⟩) hty (hn _) (hfit _) (by simpa using hk) hd
    (fun H1 locs1 hP hz oq hl => kk p e s m args below meth c H1 locs1 la (h.setH (Nat.le_of_eq hz.symm) (g_at_set h.at ha hz oq hP ?_ (fun j hj => by rw [g_setS_ne hj]) rfl) (g_locs (Nat.lt_of_lt_of_le ha h.at.2.2.1.2.1) h.lc hl)))
  rw [g_cell_obj (ci := ci) (n := N) (rf := fun j => if j = k then r + 2 else rf j) (by unfold g_setS; rw [if_pos rfl, hS]) hci]
  congr 2
  refine (g_rs (F' := fun j => g_up C (g_rv (if j = k then r + 2 else rf j) (M a j))) ?_ (fun j hj => ?_)).symm
  · simp [g_rv, g_up]
  · simp [hj]
theorem gw_iaload {a nn : Nat} {rf : Nat → Nat} {i : Int32} (hC : g_ctx l C) (hd : decode y.2.1 pc = .ok (.iaload, 1)) (ha : a < n) (hS : S a = (20, nn, rf)) (hin : vp_in i nn)
    (kk : GW l C y d Q QX kc ks (pc + 1) ls (.int (M a i.toNatClampNeg) :: st) (n, S, M, sz)) : GW l C y d Q QX kc ks pc ls (.int i :: .ref a :: st) (n, S, M, sz) := by
  intro p e s m args below meth c H locs la h
  exact va_iald (D := C.2.1) h.1 h.2.1 (g_K hC h.warm) h.at.1 a 0 ((g_wsk C (n, S, M, sz) ha).trans (congrArg (fun e => some (g_b C + a, e)) (g_cell_row hS))) rfl hin hd (kk p e s m args below meth c H locs la h)
theorem gw_iastore {a nn : Nat} {rf : Nat → Nat} {i x : Int32} (hC : g_ctx l C) (hd : decode y.2.1 pc = .ok (.iastore, 1)) (ha : a < n) (hS : S a = (20, nn, rf)) (hin : vp_in i nn)
    (kk : GW l C y d Q QX kc ks (pc + 1) ls st (n, S, g_set M a i.toNatClampNeg x, sz)) : GW l C y d Q QX kc ks pc ls (.int x :: .int i :: .ref a :: st) (n, S, M, sz) := by
  intro p e s m args below meth c H locs la h
  refine g_W_iast (D := C.2.1) h.1 h.2.1 (g_K hC h.warm) h.at.1 (g_wsD C _) a 0 ((g_wsk C (n, S, M, sz) ha).trans (congrArg (fun e => some (g_b C + a, e)) (g_cell_row hS))) rfl hin hd
    (fun H1 locs1 hP hz oq hl => kk p e s m args below meth c H1 locs1 la (h.setH (Nat.le_of_eq hz.symm) (g_at_set h.at ha hz oq hP ?_ (fun j hj => by rw [g_set_ne hj]) (g_set_ne (by have := h.at.2.2.1.2.1; have : n ≤ 956 := this; omega))) (g_locs (Nat.lt_of_lt_of_le ha h.at.2.2.1.2.1) h.lc hl)))
  rw [g_cell_row hS, g_set_at]
theorem g_cell_q {C : gC} {t : gT} {m : Nat → Int32} {k n : Nat} {rf : Nat → Nat} (h : t = (21 + k, n, rf)) : g_cell C t m = .inl (if k = 0 then C.2.2.1.2.1 else if k = 1 then C.2.2.1.2.2.1 else C.2.2.1.2.2.2, n, .inr (.inr (.inr (.inr (fun j => g_rf C (rf j)))))) := by
  subst h
  unfold g_cell
  rw [if_neg (by show ¬ 21 + k < 20; omega), if_neg (by show ¬ 21 + k = 20; omega)]
  have e0 : (21 + k = 21) = (k = 0) := by rw [eq_iff_iff]; omega
  have e1 : (21 + k = 22) = (k = 1) := by rw [eq_iff_iff]; omega
  simp only [e0, e1]
theorem g_rfv (C : gC) {q : Nat} : va_rf (g_rf C (q + 2)) = g_up C (.ref q) := rfl
theorem gw_aaload {a nn k q : Nat} {rf : Nat → Nat} {i : Int32} (hC : g_ctx l C) (hd : decode y.2.1 pc = .ok (.aaload, 1)) (ha : a < n) (hS : S a = (21 + k, nn, rf)) (hk : k < 3) (hin : vp_in i nn) (hq : rf i.toNatClampNeg = q + 2)
    (kk : GW l C y d Q QX kc ks (pc + 1) ls (.ref q :: st) (n, S, M, sz)) : GW l C y d Q QX kc ks pc ls (.int i :: .ref a :: st) (n, S, M, sz) := by
  intro p e s m args below meth c H locs la h
  have e1 := (g_wsk C (n, S, M, sz) ha).trans (congrArg (fun e => some (g_b C + a, e)) (g_cell_q (m := M a) hS))
  have kk' := kk p e s m args below meth c H locs la h
  have e2 : va_rf (g_rf C (rf i.toNatClampNeg)) = g_up C (.ref q) := by rw [hq]; rfl
  rw [List.map_cons, ← e2] at kk'
  rcases (show k = 0 ∨ k = 1 ∨ k = 2 by omega) with rfl | rfl | rfl
  · exact g_W_aldA (D := C.2.1) h.1 h.2.1 (g_K hC h.warm) h.at.1 a 1 rfl e1 rfl hin hd kk'
  · exact g_W_aldA (D := C.2.1) h.1 h.2.1 (g_K hC h.warm) h.at.1 a 2 rfl e1 rfl hin hd kk'
  · exact g_W_aldA (D := C.2.1) h.1 h.2.1 (g_K hC h.warm) h.at.1 a 3 rfl e1 rfl hin hd kk'
theorem gw_alen {a nn : Nat} {rf : Nat → Nat} (hC : g_ctx l C) (hd : decode y.2.1 pc = .ok (.arraylength, 1)) (ha : a < n) (hS : S a = (20, nn, rf)) {v : Int32} (hv : Int32.ofNat nn = v)
    (kk : GW l C y d Q QX kc ks (pc + 1) ls (.int v :: st) (n, S, M, sz)) : GW l C y d Q QX kc ks pc ls (.ref a :: st) (n, S, M, sz) := by
  intro p e s m args below meth c H locs la h
  exact va_alen (D := C.2.1) h.1 h.2.1 (g_K hC h.warm) h.at.1 a 0 ((g_wsk C (n, S, M, sz) ha).trans (congrArg (fun e => some (g_b C + a, e)) (g_cell_row hS))) rfl hv hd (kk p e s m args below meth c H locs la h)
theorem gw_alenq {a nn k : Nat} {rf : Nat → Nat} (hC : g_ctx l C) (hd : decode y.2.1 pc = .ok (.arraylength, 1)) (ha : a < n) (hS : S a = (21 + k, nn, rf)) (hk : k < 3) {v : Int32} (hv : Int32.ofNat nn = v)
    (kk : GW l C y d Q QX kc ks (pc + 1) ls (.int v :: st) (n, S, M, sz)) : GW l C y d Q QX kc ks pc ls (.ref a :: st) (n, S, M, sz) := by
  intro p e s m args below meth c H locs la h
  have e1 := (g_wsk C (n, S, M, sz) ha).trans (congrArg (fun e => some (g_b C + a, e)) (g_cell_q (m := M a) hS))
  have kk' := kk p e s m args below meth c H locs la h
  rcases (show k = 0 ∨ k = 1 ∨ k = 2 by omega) with rfl | rfl | rfl
  · exact va_alen (D := C.2.1) h.1 h.2.1 (g_K hC h.warm) h.at.1 a 1 e1 rfl hv hd kk'
  · exact va_alen (D := C.2.1) h.1 h.2.1 (g_K hC h.warm) h.at.1 a 2 e1 rfl hv hd kk'
  · exact va_alen (D := C.2.1) h.1 h.2.1 (g_K hC h.warm) h.at.1 a 3 e1 rfl hv hd kk'
end GH2
