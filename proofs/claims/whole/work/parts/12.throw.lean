/-! A reference stored in a row; constants; a throw. -/
section GTH
variable {l : Launch} {C : gC} {y : gY} {d : Nat} {Q : Option Value → gX → Prop} {QX : String → gX → Prop} {kc ks pc : Nat} {ls : gL} {st : List Value} {n sz : Nat} {S : Nat → gT} {M : gM} {X : gX}
theorem gw_aastore {a nn k r ci N : Nat} {rf rf2 : Nat → Nat} {i : Int32} {T : u_T} {Cn : String} (hC : g_ctx l C) (hd : decode y.2.1 pc = .ok (.aastore, 1)) (ha : a < n) (hS : S a = (21 + k, nn, rf)) (hk : (k = 0 ∧ Cn = "HoopHours$History") ∨ (k = 1 ∧ Cn = "HoopHours$State")) (hr : r < n) (hSr : S r = (ci, N, rf2)) (hci : ci < 20) (hcl : vwCl[ci]? = some (Cn, T, N)) (hin : vp_in i nn)
    (kk : GW l C y d Q QX kc ks (pc + 1) ls st (n, g_setS S a i.toNatClampNeg (r + 2), M, sz)) : GW l C y d Q QX kc ks pc ls (.ref r :: .int i :: .ref a :: st) (n, S, M, sz) := by
  intro p e s m args below meth c H locs la h
  have hlt : i.toNatClampNeg < nn := Nat.not_le.mp fun q => hin (Or.inr q)
  have h0 : ¬ i < 0 := fun q => hin (Or.inl q)
  have hK := g_K hC h.warm
  have hP := h.at.1
  have ew := (g_wsk C (n, S, M, sz) ha).trans (congrArg (fun e => some (g_b C + a, e)) (g_cell_q (m := M a) hS))
  have ev := (g_wsk C (n, S, M, sz) hr).trans (congrArg (fun e => some (g_b C + r, e)) (g_cell_obj (m := M r) hSr hci))
  obtain ⟨r', hr', cellV, g1, g2, g3, -⟩ := hP r _ ev
  have hcls := (hK.1 ci _ hcl).2
  have hRA : ∃ (kA : Class) (comp : ClassId), s.vm.classes[(if k = 0 then C.2.2.1.2.1 else if k = 1 then C.2.2.1.2.2.1 else C.2.2.1.2.2.2)]? = some kA ∧ kA.kind = .array comp (.object Cn) ∧ s.vm.findClass Cn = some comp := by
    rcases hk with ⟨rfl, rfl⟩ | ⟨rfl, rfl⟩
    · obtain ⟨kA, comp, k1, k2, k3, -⟩ := (hK.2 1 _ rfl).2
      exact ⟨kA, comp, k1, k2, k3⟩
    · obtain ⟨kA, comp, k1, k2, k3, -⟩ := (hK.2 2 _ rfl).2
      exact ⟨kA, comp, k1, k2, k3⟩
  obtain ⟨kA, comp, k1, k2, k3⟩ := hRA
  have hcomp : comp = C.2.1.1 ci := Option.some.inj (k3.symm.trans hcls.1)
  subst hcomp
  obtain ⟨kC, hkC, -⟩ := hcls.2
  have hat : H[g_b C + a]? = some (vp_cell (if k = 0 then C.2.2.1.2.1 else if k = 1 then C.2.2.1.2.2.1 else C.2.2.1.2.2.2) (nn, .inr (.inr (.inr (.inr (fun j => g_rf C (rf j))))))) := hP a _ ew
  refine W.aast h.1 h.2.1 hat (fun q h => by cases h) (fun h => by cases h) k1 k2 rfl hkC ⟨h0, by show _ < (arrV _ _ _).slots.size; rw [arrV_size]; exact hlt⟩ g1 (fun q h => by rw [g3] at h; cases h) (by rw [g2]; exact hkC) (by rw [g2]; exact va_assign hcls) rfl rfl hd fun H1 e z oq => ?_
  refine kk p _ s m args below meth c H1 _ la (h.setH (Nat.le_of_eq z.symm) (g_at_set (e := .inl (if k = 0 then C.2.2.1.2.1 else if k = 1 then C.2.2.1.2.2.1 else C.2.2.1.2.2.2, nn, .inr (.inr (.inr (.inr (fun j => g_rf C (if j = i.toNatClampNeg then r + 2 else rf j))))))) h.at ha z oq (hP.set (g_wsD C _) ew ?_ oq) ?_ (fun j hj => by rw [g_setS_ne hj]) rfl) (g_locs (Nat.lt_of_lt_of_le ha h.at.2.2.1.2.1) h.lc (fun z hz => (List.mem_append.mp hz).elim Or.inl (fun h => Or.inr (by rw [List.mem_singleton.mp h])))))
  · show H1[g_b C + a]? = some (vp_cell _ _)
    rw [e]
    rw [vp_cell_q, vp_cell_q, arrV_store]
    refine congrArg some (g_arrV _ _ fun j hj => ?_)
    by_cases hq : j = i.toNatClampNeg
    · subst hq
      simp [updV, g_rf, va_rf]
    · simp [updV, hq]
  · rw [g_cell_q (k := k) (n := nn) (rf := fun j => if j = i.toNatClampNeg then r + 2 else rf j) (by unfold g_setS; rw [if_pos rfl, hS])]
theorem gw_ldc {idx : Nat} {v : Int32} (hC : g_ctx l C) (hd : decode y.2.1 pc = .ok (.ldc idx, 2)) (hc : Cond.constant y.1.cls idx v ∈ lw_tbl) (kk : GW l C y d Q QX kc ks (pc + 2) ls (.int v :: st) X) : GW l C y d Q QX kc ks pc ls st X :=
  fun p e s m args below meth c H locs la h => lv_ldc h.1 h.2.1 h.own (g_word hC h.warm hc rfl args) hd (kk p e s m args below meth c H locs la h)
theorem gw_ldcw {idx : Nat} {v : Int32} (hC : g_ctx l C) (hd : decode y.2.1 pc = .ok (.ldc_w idx, 3)) (hc : Cond.constant y.1.cls idx v ∈ lw_tbl) (kk : GW l C y d Q QX kc ks (pc + 3) ls (.int v :: st) X) : GW l C y d Q QX kc ks pc ls st X :=
  fun p e s m args below meth c H locs la h => lv_ldcw h.1 h.2.1 h.own (g_word hC h.warm hc rfl args) hd (kk p e s m args below meth c H locs la h)
theorem gw_ldc2 {idx : Nat} {v : Int64} (hC : g_ctx l C) (hd : decode y.2.1 pc = .ok (.ldc2_w idx, 3)) (hc : Cond.constantLong y.1.cls idx v ∈ lw_tbl) (kk : GW l C y d Q QX kc ks (pc + 3) ls (.long v :: st) X) : GW l C y d Q QX kc ks pc ls st X :=
  fun p e s m args below meth c H locs la h => lv_ldc2 h.1 h.2.1 h.own (g_word hC h.warm hc rfl args) hd (kk p e s m args below meth c H locs la h)
theorem gw_ldcS {idx k : Nat} {tx : String} (hC : g_ctx l C) (hd : decode y.2.1 pc = .ok (.ldc idx, 2)) (hc : (y.1.cls, idx, tx, k) ∈ g_strs) (kk : GW l C y d Q QX kc ks (pc + 2) ls (.retAddr k :: st) X) : GW l C y d Q QX kc ks pc ls st X :=
  fun p e s m args below meth c H locs la h => va_ldcS h.1 h.2.1 h.own (vk_R.warm h.warm (hC.2.2.2.2.2.1 _ hc)) hd (kk p e s m args below meth c H locs la h)
theorem g_vS {p : Program} {s : State} {m : MethodId} {meth : Method} {c : Code} {H : Heap} {locs : List Loc} {la : Array Slot} (h : gCx C y X ls p s m meth c H locs la) : va_S (g_A C) s.heap H locs := by
  refine ⟨h.siz, fun q hq hn => ?_, fun z hz => h.lc z hz⟩
  have hq2 : q < g_b C := Nat.lt_of_not_le hn
  rw [h.at.2.2.2 q hq2, h.2.2.2.2.2.2.2.2.2.1.2 q hq2]
theorem g_zq {p : Program} {s : State} {m : MethodId} {meth : Method} {c : Code} {H : Heap} {locs : List Loc} {la : Array Slot} (h : gCx C y X ls p s m meth c H locs la) {Cn nn dd : String} (hz : vx_Zq Cn nn dd (g_A C) C.1 C.1.heap) : vx_Zq Cn nn dd (g_A C) s s.heap :=
  vx_Zq.moved h.warm.alike (hz.kept (fun a ha _ => h.2.2.2.2.2.2.2.2.2.1.2 a ha))
/-- throw new IllegalArgumentException(text) -/
theorem gw_throwI {ik is ic k : Nat} {text : String} (hC : g_ctx l C) (hy : y.1.cls = "HoopHours") (d0 : decode y.2.1 pc = .ok (.new ik, 3)) (d3 : decode y.2.1 (pc + 3) = .ok (.dup, 1)) (d4 : decode y.2.1 (pc + 4) = .ok (.ldc_w is, 3)) (d7 : decode y.2.1 (pc + 7) = .ok (.invokespecial ic, 3)) (d10 : decode y.2.1 (pc + 10) = .ok (.athrow, 1))
    (hk : Cond.classLink "HoopHours" ik "java/lang/IllegalArgumentException" ∈ lw_tbl) (hini : Cond.initialized "java/lang/IllegalArgumentException" ∈ lw_tbl) (hstr : ("HoopHours", is, text, k) ∈ g_strs) (hat : ∀ w ∈ vx_atS "HoopHours" ic "java/lang/IllegalArgumentException" ["java/lang/RuntimeException", "java/lang/Exception"], w ∈ lw_tbl ∧ g_w2 w = true ∧ vx_ot w = true)
    (hd7 : 7 ≤ d) (hcc : kc + 1 ≤ y.2.2.2.2.1) (hss : ks + 6 ≤ y.2.2.2.2.2.1) (hq : ∀ sz2, sz ≤ sz2 → QX "java/lang/IllegalArgumentException" (n, S, M, sz2)) : GW l C y d Q QX kc ks pc ls [] (n, S, M, sz) := by
  intro p e s m args below meth c H locs la h
  have hown := h.own
  rw [hy] at hown
  refine vx_throwSW (A := g_A C) (names := ["java/lang/RuntimeException", "java/lang/Exception"]) (rest := []) h.1 h.2.1 hC.1 hown (by decide +kernel) (by decide +kernel) (g_word hC h.warm hk rfl args) (g_word hC h.warm hini rfl args) (vk_R.warm h.warm (hC.2.2.2.2.2.1 _ hstr)) (fun w hw => g_word2 hC h.warm (hat w hw).1 (hat w hw).2.1 args)
    (fun w hw => ?_) (g_zq h hC.2.2.2.2.1.1) (g_zq h hC.2.2.2.2.1.2) (g_vS h) (by rw [h.2.2.2.1]; exact h.lv.1) d0 d3 d4 d7 d10 (fun x hx => (h.2.2.2.2.2.2.2.1 x hx).elim) (by show 2 + 3 < d; omega) (by show 0 + (13 * 3 + 43) ≤ 40 * d; omega) (by show kc + 1 ≤ y.2.2.2.2.1; exact hcc) (by show ks + 6 ≤ y.2.2.2.2.2.1; exact hss) h.2.2.2.2.2.1 (fun t ha hz ho => ?_) h.lc hcc hss
  · rcases List.mem_cons.mp hw with rfl | hw
    · rfl
    · rcases List.mem_cons.mp hw with rfl | hw
      · rfl
      · exact (hat w hw).2.2
  · have hHs : H.size = sz := h.at.2.1
    have hb : g_b C + n ≤ sz := h.at.2.2.1.1
    refine ⟨(n, S, M, t.heap.size), hq _ (by omega), ⟨g_at_of fun i hi => g_at_keep (g_at_get h.at hi) (ho _ (by omega)), rfl, ⟨by show g_b C + n ≤ t.heap.size; omega, h.at.2.2.1.2.1, g_lo_k rfl ho h.at.2.2.1.2.2⟩, fun q hq2 => by rw [ho q (by omega)]; exact h.at.2.2.2 q hq2⟩, Nat.le_trans h.siz hz⟩
end GTH
