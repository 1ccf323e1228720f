/-! Rows of rows made at once; a reference stored in a row; a throw. -/
def g_upS (S : Nat → gT) (n N K : Nat) : Nat → gT := fun b => if b = n then (23, N, fun j => n + 1 + j + 2) else if n < b ∧ b ≤ n + N then (20, K, fun _ => 0) else S b
def g_upM (M : gM) (n N : Nat) : gM := fun b => if n ≤ b ∧ b ≤ n + N then (fun _ => 0) else M b
section GMN
variable {l : Launch} {C : gC} {y : gY} {d : Nat} {Q : Option Value → gX → Prop} {QX : String → gX → Prop} {kc ks pc : Nat} {ls : gL} {st : List Value} {n sz : Nat} {S : Nat → gT} {M : gM}
theorem g_inner (c : ClassId) (K : Nat) : Jvm.Free.Multi.innerC c K (defaultValue .int) = vp_cell c (K, .inl (fun _ => 0)) := by
  unfold Jvm.Free.Multi.innerC
  rw [vp_cell_i]
  exact arrV_new c K (.int 0)
theorem g_arrV (c : ClassId) (N : Nat) {f f' : Nat → Value} (h : ∀ j, j < N → f j = f' j) : arrV c N f = arrV c N f' := by
  unfold arrV
  have e : (Array.ofFn (n := N) fun j => f j.val) = Array.ofFn (n := N) fun j => f' j.val := congrArg Array.ofFn (funext fun j => h j.val j.isLt)
  rw [e]
theorem va_AOA.moved {u U : State} (hvm : u.vm.Alike U.vm) (h : va_AOA .int u) : va_AOA .int U := by
  unfold va_AOA Cond.before Cond.holds at h ⊢
  simp only [Cond.value, beq_iff_eq] at h
  cases hc : u.vm.findClass (FieldType.array .int).toString with
  | none => simp [hc] at h
  | some comp =>
    simp only [hc, Option.bind_some, Option.bind_eq_some_iff, Option.map_eq_some_iff] at h
    obtain ⟨c, hi, k, hk, hb⟩ := h
    obtain ⟨k', hk', he⟩ := hvm.2.2 _ _ hk
    have hkk : k'.kind = k.kind := by rw [he]
    have hi2 : (U.vm.classes.findIdx? fun (x : Class) => match x.kind with | .array component _ => component == comp | _ => false) = some c := by
      have e1 := va_idx_bare U.vm comp
      have e2 := va_idx_bare u.vm comp
      have e3 : U.vm.bare = u.vm.bare := hvm.bare_eq
      rw [e3] at e1
      exact e1.symm.trans (e2.trans hi)
    have f1 : U.vm.findClass (FieldType.array .int).toString = some comp := by rw [hvm.findClass]; exact hc
    have f3 : U.vm.findClass ("[" ++ (FieldType.array .int).toString) = u.vm.findClass ("[" ++ (FieldType.array .int).toString) := hvm.findClass ..
    simp only [Cond.value, f1, Option.bind_some]
    refine (congrArg (fun o : Option Nat => (o.bind (fun c => (U.vm.classes[c]?).map fun (k : Class) => match k.kind with | .array _ ty => decide (ty = FieldType.array .int) && decide (U.vm.findClass ("[" ++ (FieldType.array .int).toString) = some c) | _ => false) == some true)) hi2).trans ?_
    simp only [Option.bind_some, hk', Option.map_some, hkk, f3]
    exact beq_iff_eq.mpr (congrArg some hb)
theorem gw_mna {idx N K : Nat} {i k : Int32} (hC : g_ctx l C) (hd : decode y.2.1 pc = .ok (.multianewarray idx 2, 4)) (hlk : Cond.classLink y.1.cls idx "[[I" ∈ lw_tbl) (harr : Cond.arrayClass .int ∈ lw_tbl) (hi : ¬ i < 0) (hk : ¬ k < 0) (hN : i.toNatClampNeg = N) (hK0 : k.toNatClampNeg = K) (hb1 : N ≤ 100000) (hb2 : K ≤ 100000) (h9 : n + 1 + N ≤ 956) (hz : sz = g_b C + n) (hc : kc + (1 + N) ≤ y.2.2.2.2.1) (hs : ks + (N + N * K) ≤ y.2.2.2.2.2.1)
    (kk : GW l C y d Q QX (kc + (1 + N)) (ks + (N + N * K)) (pc + 4) ls (.ref n :: st) (n + 1 + N, g_upS S n N K, g_upM M n N, sz + 1 + N)) : GW l C y d Q QX kc ks pc ls (.int k :: .int i :: st) (n, S, M, sz) := by
  intro p e s m args below meth c H locs la h
  have hHs : H.size = sz := h.at.2.1
  have hK := g_K hC h.warm
  have hao : va_AOA .int s := va_AOA.moved h.warm.alike hC.2.2.2.1.2.2
  subst hN
  subst hK0
  intro T hT Xs
  obtain ⟨vm₁, cA, comp, -, fA, fC, hO, -, X', step⟩ := Xs.multianewarray2F h.1 (ty := .int) h.own (g_word hC h.warm hlk rfl args) (va_AOA.use hao) (g_word hC h.warm harr rfl args) (g := F0 m pc la ((Value.int k :: Value.int i :: st).map (g_up C))) rfl (by rw [h.2.1]; exact hd) rfl hi hk (Nat.le_trans (Nat.mul_le_mul_right 4 hb1) (Nat.le_of_ble_eq_true rfl)) (Nat.le_trans (Nat.mul_le_mul_right 4 hb2) (Nat.le_of_ble_eq_true rfl)) (Nat.le_trans hb2 (Nat.le_of_ble_eq_true rfl)) rfl rfl hc hs
  have hcI : comp = C.2.2.1.1 := Option.some.inj (fC.symm.trans ((hK.2 0 _ rfl).2 : s.vm.findClass ("[" ++ (FieldType.int).toString) = some C.2.2.1.1))
  have hcA : cA = C.2.2.1.2.2.2 := Option.some.inj (fA.symm.trans ((hK.2 3 _ rfl).2 : s.vm.findClass ("[" ++ (FieldType.array .int).toString) = some C.2.2.1.2.2.2))
  subst hcI
  subst hcA
  generalize hF : Jvm.Free.Multi.fill (T.setVm vm₁) C.2.2.1.2.2.2 C.2.2.1.1 i.toNatClampNeg k.toNatClampNeg (defaultValue .int) i.toNatClampNeg = F at X' step
  have hTh : (T.setVm vm₁).heap = H := hT
  obtain ⟨f1, f2, -, -⟩ := Jvm.Free.Multi.fill_facts (T.setVm vm₁) C.2.2.1.2.2.2 C.2.2.1.1 i.toNatClampNeg k.toNatClampNeg (defaultValue .int) i.toNatClampNeg
  rw [hF, hTh] at f1 f2
  have hold : ∀ x : Nat, x < H.size → F.heap[x]? = H[x]? := fun x hx => by
    have := Jvm.Free.Multi.fill_old (T.setVm vm₁) C.2.2.1.2.2.2 C.2.2.1.1 i.toNatClampNeg k.toNatClampNeg (defaultValue .int) (a := x) (by rw [hTh]; exact hx) i.toNatClampNeg
    rw [hF, hTh] at this
    exact this
  have hrow : ∀ j : Nat, j < i.toNatClampNeg → F.heap[H.size + 1 + j]? = some (vp_cell C.2.2.1.1 (k.toNatClampNeg, .inl (fun _ => 0))) := fun j hj => by
    have := Jvm.Free.Multi.fill_inner (T.setVm vm₁) C.2.2.1.2.2.2 C.2.2.1.1 i.toNatClampNeg k.toNatClampNeg (defaultValue .int) i.toNatClampNeg j hj
    rw [hF, hTh, g_inner] at this
    exact this
  have hout : Jvm.Free.Multi.outerC C.2.2.1.2.2.2 i.toNatClampNeg H.size i.toNatClampNeg = vp_cell C.2.2.1.2.2.2 (i.toNatClampNeg, .inr (.inr (.inr (.inr (fun j => if j < i.toNatClampNeg then some (H.size + 1 + j) else none))))) := by
    rw [vp_cell_q]
    exact vr_outer C.2.2.1.2.2.2 i.toNatClampNeg H.size i.toNatClampNeg
  rw [hout] at f2
  have e3 : H.size = g_b C + n := by rw [hHs, hz]
  have hsz : F.heap.size = H.size + 1 + i.toNatClampNeg := f1
  have hat : g_at C (n + 1 + i.toNatClampNeg, g_upS S n i.toNatClampNeg k.toNatClampNeg, g_upM M n i.toNatClampNeg, sz + 1 + i.toNatClampNeg) F.heap := by
    refine ⟨g_at_of fun q hq => ?_, by rw [hsz, hHs], ⟨by show g_b C + (n + 1 + i.toNatClampNeg) ≤ sz + 1 + i.toNatClampNeg; omega, h9, g_lo_k (show (if n ≤ (956 : Nat) ∧ (956 : Nat) ≤ n + i.toNatClampNeg then (fun _ => (0 : Int32)) else M 956) = M 956 from if_neg (by omega)) (fun q hq => hold q hq) h.at.2.2.1.2.2⟩, fun q hq => by rw [hold q (by omega)]; exact h.at.2.2.2 q hq⟩
    by_cases q1 : q < n
    · have eS : g_upS S n i.toNatClampNeg k.toNatClampNeg q = S q := by unfold g_upS; rw [if_neg (by omega), if_neg (by omega)]
      have eM : g_upM M n i.toNatClampNeg q = M q := by unfold g_upM; rw [if_neg (by omega)]
      rw [eS, eM]
      exact g_at_keep (g_at_get h.at q1) (hold _ (by omega))
    · by_cases q2 : q = n
      · subst q2
        have eS : g_upS S q i.toNatClampNeg k.toNatClampNeg q = (21 + 2, i.toNatClampNeg, fun j => q + 1 + j + 2) := by unfold g_upS; rw [if_pos rfl]
        rw [g_cell_q eS, ← e3]
        show F.heap[H.size]? = some (vp_cell _ _)
        rw [f2, vp_cell_q, vp_cell_q]
        refine congrArg some (g_arrV _ _ fun j hj => ?_)
        rw [if_pos hj]
        exact congrArg Value.ref (show H.size + 1 + j = g_b C + (q + 1 + j) by omega)
      · have eS : g_upS S n i.toNatClampNeg k.toNatClampNeg q = (20, k.toNatClampNeg, fun _ => 0) := by unfold g_upS; rw [if_neg q2, if_pos (by omega)]
        have eM : g_upM M n i.toNatClampNeg q = (fun _ => 0) := by unfold g_upM; rw [if_pos (by omega)]
        rw [g_cell_row eS, eM]
        have := hrow (q - n - 1) (by omega)
        rw [show H.size + 1 + (q - n - 1) = g_b C + q by omega] at this
        exact this
  have k2 := kk p e s m args below meth c F.heap locs la (h.setH (by omega) hat h.lc)
  have e4 : T.heap.size = g_b C + n := by rw [hT]; exact e3
  rw [e4] at step
  obtain ⟨t, a1, b1⟩ := k2 F rfl (by rw [← Nat.add_assoc, ← Nat.add_assoc]; exact X')
  exact ⟨t, step t a1, b1⟩
end GMN
