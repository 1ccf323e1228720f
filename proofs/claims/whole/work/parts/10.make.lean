/-! Making: objects, rows, rows of rows; storing a reference in a row. -/
def g_up1 {α : Type} (f : Nat → α) (i : Nat) (v : α) : Nat → α := fun b => if b = i then v else f b
theorem g_at_of {C : gC} {n sz : Nat} {S : Nat → gT} {M : gM} {H : Heap} (h : ∀ i, i < n → va_at C.2.1 vwCl (g_b C + i, g_cell C (S i) (M i)) H) : va_P C.2.1 vwCl (g_ws C (n, S, M, sz)) H := by
  intro k q hq
  unfold g_ws at hq
  rw [List.getElem?_map] at hq
  by_cases hl : k < n
  · rw [List.getElem?_range hl] at hq
    cases hq
    exact h k hl
  · rw [List.getElem?_eq_none (by simpa using hl)] at hq
    cases hq
theorem g_at_get {C : gC} {n sz : Nat} {S : Nat → gT} {M : gM} {H : Heap} (h : g_at C (n, S, M, sz) H) {i : Nat} (hi : i < n) : va_at C.2.1 vwCl (g_b C + i, g_cell C (S i) (M i)) H := h.1 i _ (g_wsk C (n, S, M, sz) hi)
theorem g_at_keep {C : gC} {i : Nat} {e : va_E} {H H1 : Heap} (h : va_at C.2.1 vwCl (g_b C + i, e) H) (hq : H1[g_b C + i]? = H[g_b C + i]?) : va_at C.2.1 vwCl (g_b C + i, e) H1 := h.kept hq
theorem g_at_push {C : gC} {n sz : Nat} {S : Nat → gT} {M : gM} {H H1 : Heap} {t : gT} {m0 : Nat → Int32} (h9 : n + 1 ≤ 956) (h : g_at C (n, S, M, sz) H) (hz : sz = g_b C + n) (h1 : H1.size = H.size + 1) (ho : ∀ q, q < H.size → H1[q]? = H[q]?) (hc : va_at C.2.1 vwCl (H.size, g_cell C t m0) H1) : g_at C (n + 1, g_up1 S n t, g_up1 M n m0, sz + 1) H1 := by
  have hs : H.size = sz := h.2.1
  refine ⟨g_at_of fun i hi => ?_, by rw [h1, hs], ⟨by show g_b C + (n + 1) ≤ sz + 1; omega, h9, g_lo_k (show (if (956 : Nat) = n then m0 else M 956) = M 956 from if_neg (by omega)) ho h.2.2.1.2.2⟩, fun q hq => by rw [ho q (by omega)]; exact h.2.2.2 q hq⟩
  unfold g_up1
  by_cases e : i = n
  · subst e
    simp only [if_true]
    rw [← hz, ← hs]
    exact hc
  · simp only [e, if_false]
    exact g_at_keep (g_at_get h (by omega)) (ho _ (by omega))
def g_fs (T : u_T) : Nat → Nat := fun j => match parseFieldDescriptor (T j).2.2.1 with
  | some .int => 0
  | some .boolean => 0
  | _ => 1
section GMK
variable {l : Launch} {C : gC} {y : gY} {d : Nat} {Q : Option Value → gX → Prop} {QX : String → gX → Prop} {kc ks pc : Nat} {ls : gL} {st : List Value} {n sz : Nat} {S : Nat → gT} {M : gM}
theorem g_dfl : ∀ q ∈ vwCl, ∀ j, j < q.2.2 → ∀ ty, parseFieldDescriptor (q.2.1 j).2.2.1 = some ty → defaultValue ty = g_rv (g_fs q.2.1 j) 0 := by
  have h : vwCl.all (fun q => (List.range q.2.2).all (fun j => match parseFieldDescriptor (q.2.1 j).2.2.1 with | some ty => decide (defaultValue ty = g_rv (g_fs q.2.1 j) 0) | none => true)) = true := by decide +kernel
  intro q hq j hj ty ht
  have h1 := List.all_eq_true.mp (List.all_eq_true.mp h q hq) j (List.mem_range.mpr hj)
  rw [ht] at h1
  exact of_decide_eq_true h1
theorem g_dflU : ∀ q ∈ vwCl, ∀ j, j < q.2.2 → (g_fs q.2.1 j = 0 ∨ g_fs q.2.1 j = 1) := by
  intro q _ j _
  unfold g_fs
  split
  · exact Or.inl rfl
  · exact Or.inl rfl
  · exact Or.inr rfl
theorem gw_new {idx ci N : Nat} {Cn : String} {T : u_T} (hC : g_ctx l C) (hd : decode y.2.1 pc = .ok (.new idx, 3)) (hcl : vwCl[ci]? = some (Cn, T, N)) (hci : ci < 20) (hlk : Cond.classLink y.1.cls idx Cn ∈ lw_tbl) (hins : Cond.instantiable Cn N ∈ lw_tbl) (hini : Cond.initialized Cn ∈ lw_tbl) (h9 : n + 1 ≤ 956) (hz : sz = g_b C + n) (hc : kc + 1 ≤ y.2.2.2.2.1) (hs : ks + N ≤ y.2.2.2.2.2.1)
    (kk : GW l C y d Q QX (kc + 1) (ks + N) (pc + 3) ls (.ref n :: st) (n + 1, g_up1 S n (ci, N, g_fs T), g_up1 M n (fun _ => 0), sz + 1)) : GW l C y d Q QX kc ks pc ls st (n, S, M, sz) := by
  intro p e s m args below meth c H locs la h
  have hq : (Cn, T, N) ∈ vwCl := List.mem_of_getElem? hcl
  have hK := g_K hC h.warm
  have hKn := hK.1 ci _ hcl
  obtain ⟨ty0, hty0⟩ := g_tyq hq
  have hHs : H.size = sz := h.at.2.1
  refine W.newcK h.1 h.2.1 h.own (g_word hC h.warm hlk rfl args) (g_word hC h.warm hins rfl args) (g_word hC h.warm hini rfl args) rfl hd hc hs hKn.2.1 rfl fun H1 kC hkC e1 z1 o1 => ?_
  have k2 := kk p e s m args below meth c H1 locs la (h.setH (by omega) (g_at_push h9 h.at hz z1 o1 ?_) h.lc)
  · have e3 : H.size = g_b C + n := by rw [hHs, hz]
    rw [e3]
    exact k2
  · rw [g_cell_obj (ci := ci) rfl hci]
    exact ⟨_, hcl, (u_born ty0 (g_Us_at hC h.warm args) (g_Us_in hq) hKn hkC e1 hty0).to (fun j hj => by
      rw [g_dfl _ hq j hj _ (hty0 j hj)]
      show _ = ((List.range N).map _).getD j Value.null
      simp only [List.getD_eq_getElem?_getD, List.getElem?_map, List.getElem?_range hj, Option.map_some, Option.getD_some]
      rcases g_dflU _ hq j hj with e | e <;> rw [e] <;> rfl)⟩
theorem gw_newint {i : Int32} {N : Nat} (hC : g_ctx l C) (hd : decode y.2.1 pc = .ok (.newarray .int, 2)) (harr : Cond.arrayClass .int ∈ lw_tbl) (hi : ¬ i < 0) (hN : i.toNatClampNeg = N) (hb : N ≤ 100000) (h9 : n + 1 ≤ 956) (hz : sz = g_b C + n) (hc : kc + 1 ≤ y.2.2.2.2.1) (hs : ks + N ≤ y.2.2.2.2.2.1)
    (kk : GW l C y d Q QX (kc + 1) (ks + N) (pc + 2) ls (.ref n :: st) (n + 1, g_up1 S n (20, N, fun _ => 0), g_up1 M n (fun _ => 0), sz + 1)) : GW l C y d Q QX kc ks pc ls (.int i :: st) (n, S, M, sz) := by
  intro p e s m args below meth c H locs la h
  have hHs : H.size = sz := h.at.2.1
  refine va_newaK (atype := .int) (N := N) h.1 h.2.1 (g_word hC h.warm harr rfl args) rfl hd rfl hi hN (Nat.le_trans (Nat.mul_le_mul_right 4 hb) (Nat.le_of_ble_eq_true rfl)) hc hs rfl fun H1 cA e1 z1 o1 hAr hNm => ?_
  have hca : cA = C.2.2.1.1 := by
    have h2 : s.vm.findClass ("[" ++ (FieldType.int).toString) = some C.2.2.1.1 := ((g_K hC h.warm).2 0 _ rfl).2
    exact Option.some.inj (hNm.symm.trans h2)
  have k2 := kk p e s m args below meth c H1 locs la (h.setH (by omega) (g_at_push h9 h.at hz z1 o1 ?_) h.lc)
  · have e3 : H.size = g_b C + n := by rw [hHs, hz]
    rw [e3]
    exact k2
  · rw [g_cell_row rfl]
    show H1[H.size]? = some (vp_cell _ _)
    rw [e1, hca]
    rfl
theorem gw_newref {i : Int32} {idx N k : Nat} {Cn : String} (hC : g_ctx l C) (hd : decode y.2.1 pc = .ok (.anewarray idx, 3)) (hk : (k = 0 ∧ Cn = "HoopHours$History") ∨ (k = 1 ∧ Cn = "HoopHours$State")) (hlk : Cond.classLink y.1.cls idx Cn ∈ lw_tbl) (hi : ¬ i < 0) (hN : i.toNatClampNeg = N) (hb : N ≤ 100000) (h9 : n + 1 ≤ 956) (hz : sz = g_b C + n) (hc : kc + 1 ≤ y.2.2.2.2.1) (hs : ks + N ≤ y.2.2.2.2.2.1)
    (kk : GW l C y d Q QX (kc + 1) (ks + N) (pc + 3) ls (.ref n :: st) (n + 1, g_up1 S n (21 + k, N, fun _ => 1), g_up1 M n (fun _ => 0), sz + 1)) : GW l C y d Q QX kc ks pc ls (.int i :: st) (n, S, M, sz) := by
  intro p e s m args below meth c H locs la h
  have hHs : H.size = sz := h.at.2.1
  have hK := g_K hC h.warm
  have hao : va_AO Cn s := by
    rcases hk with ⟨-, rfl⟩ | ⟨-, rfl⟩
    · exact va_AO.moved h.warm.alike hC.2.2.2.1.1
    · exact va_AO.moved h.warm.alike hC.2.2.2.1.2.1
  subst hN
  refine W.anew h.1 h.2.1 h.own (g_word hC h.warm hlk rfl args) (va_AO.use hao) rfl hd rfl hi (Nat.le_trans (Nat.mul_le_mul_right 4 hb) (Nat.le_of_ble_eq_true rfl)) hc hs fun cA kA comp f1 f2 f3 f4 => ?_
  generalize hH1 : H.push ({ cls := cA, slots := Array.replicate i.toNatClampNeg .null, vm := .none } : Cell) = H1
  have z1 : H1.size = H.size + 1 := by rw [← hH1, Array.size_push]
  have e1 : H1[H.size]? = some (arrV cA i.toNatClampNeg (fun _ => .null)) := by rw [← hH1, Array.getElem?_push_size, ← arrV_new]
  have o1 : ∀ q : Nat, q < H.size → H1[q]? = H[q]? := fun q hq => by rw [← hH1, Array.getElem?_push, if_neg (Nat.ne_of_lt hq)]
  have hca : cA = (if k = 0 then C.2.2.1.2.1 else if k = 1 then C.2.2.1.2.2.1 else C.2.2.1.2.2.2) := by
    rcases hk with ⟨rfl, rfl⟩ | ⟨rfl, rfl⟩
    · obtain ⟨-, -, -, -, -, h2⟩ := (hK.2 1 _ rfl).2
      exact Option.some.inj (f1.symm.trans h2)
    · obtain ⟨-, -, -, -, -, h2⟩ := (hK.2 2 _ rfl).2
      exact Option.some.inj (f1.symm.trans h2)
  have k2 := kk p e s m args below meth c H1 locs la (h.setH (by omega) (g_at_push h9 h.at hz z1 o1 ?_) h.lc)
  · have e3 : H.size = g_b C + n := by rw [hHs, hz]
    rw [e3]
    exact k2
  · rw [g_cell_q rfl]
    show H1[H.size]? = some (vp_cell _ _)
    rw [e1, hca]
    rfl
end GMK
