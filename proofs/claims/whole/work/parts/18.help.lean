/-! Small helpers of the class and of the JDK. -/
def gQg (n : Nat) (S : Nat → gT) (Q : Option Value → gM → Prop) (sz : Nat) : Option Value → gX → Prop := fun r X => ∃ M' : gM, X = (n, S, M', sz) ∧ Q r M'
def gPg (l : Launch) (C : gC) (y : gY) (d : Nat) (av : List Value) (n : Nat) (S : Nat → gT) (M : gM) (sz : Nat) (Q : Option Value → gM → Prop) : Prop := gMet l C y d av (n, S, M, sz) (gQg n S Q sz) gN
def m_min (x y : Int32) : Int32 := if y < x then y else x
def m_max (x y : Int32) : Int32 := if x < y then y else x
def m_abs (x : Int32) : Int32 := if 0 ≤ x then x else 0 - x
section GB18
variable {l : Launch} {C : gC} {y : gY} {d : Nat} {Q : Option Value → gX → Prop} {QX : String → gX → Prop} {kc ks pc : Nat} {ls : gL} {st : List Value} {X : gX} {a1 a2 a3 : Nat}
theorem gPg.of {n sz : Nat} {S : Nat → gT} {M : gM} {av : List Value} {Q : Option Value → gM → Prop} (hy : plainName y.1.cls = true) (hl : (lg_sl (av.map (g_up C))).length ≤ y.2.2.1) (hls : lv_args 0 (av.map (g_up C)) = ls.map (fun q => (q.1, g_up C q.2))) (k : GW l C y d (gQg n S Q sz) gN 0 0 0 ls [] (n, S, M, sz)) : gPg l C y d av n S M sz Q := gMet.of hy hl hls k
theorem g_mathI : Cond.initialized "java/lang/Math" ∈ lw_tbl := g_mem_tb (i := 14) (by decide +kernel)
theorem g_minS : Cond.static Lib.Math.min.name ∈ lw_tbl := g_mem_tb (i := 593) (by decide +kernel)
theorem g_minC : Cond.code Lib.Math.min.name Lib.Math.min.code 2 (some .int) ∈ lw_tbl := g_mem_tb (i := 594) (by decide +kernel)
theorem g_maxS : Cond.static Lib.Math.max.name ∈ lw_tbl := g_mem_tb (i := 1234) (by decide +kernel)
theorem g_maxC : Cond.code Lib.Math.max.name Lib.Math.max.code 2 (some .int) ∈ lw_tbl := g_mem_tb (i := 1235) (by decide +kernel)
theorem g_absS : Cond.static Lib.Math.abs.name ∈ lw_tbl := g_mem_tb (i := 1163) (by decide +kernel)
theorem g_absC : Cond.code Lib.Math.abs.name Lib.Math.abs.code 1 (some .int) ∈ lw_tbl := g_mem_tb (i := 1164) (by decide +kernel)
theorem gb_min {x z : Int32} {idx pl : Nat} (hC : g_ctx l C) (hy : g_yok y) (hq : g_cd y.2.2.2.2.2.2 pc = some (.invokestatic idx, a1, a2, a3)) (hlk : tables_1[pl]? = some (.methodLink y.1.cls idx Lib.Math.min.name)) (hst : (st.map fun v => v.category).sum ≤ 8) (h1 : 1 ≤ d) (hc : kc ≤ y.2.2.2.2.1) (hs : ks ≤ y.2.2.2.2.2.1) (k : GW l C y d Q QX kc ks (pc + 3) ls (.int (m_min x z) :: st) X) : GW l C y d Q QX kc ks pc ls (.int z :: .int x :: st) X := by
  intro p e s m args below meth c H locs la h
  exact va_mmin h.1 h.2.1 (by rw [h.2.2.2.1]; exact h.lv.1.symm) h.own (g_word hC h.warm (g_mem_tb hlk) rfl args) (g_word hC h.warm g_minS rfl args) (g_word hC h.warm g_mathI rfl args) (g_word hC h.warm g_minC rfl args) h1 (by rw [g_rest_cat]; show _ ≤ 40 * d; omega) hc hs (g_dec hy hq).1 (k p e s m args below meth c H locs la h)
theorem gb_max {x z : Int32} {idx pl : Nat} (hC : g_ctx l C) (hy : g_yok y) (hq : g_cd y.2.2.2.2.2.2 pc = some (.invokestatic idx, a1, a2, a3)) (hlk : tables_1[pl]? = some (.methodLink y.1.cls idx Lib.Math.max.name)) (hst : (st.map fun v => v.category).sum ≤ 8) (h1 : 1 ≤ d) (hc : kc ≤ y.2.2.2.2.1) (hs : ks ≤ y.2.2.2.2.2.1) (k : GW l C y d Q QX kc ks (pc + 3) ls (.int (m_max x z) :: st) X) : GW l C y d Q QX kc ks pc ls (.int z :: .int x :: st) X := by
  intro p e s m args below meth c H locs la h
  exact va_mmax h.1 h.2.1 (by rw [h.2.2.2.1]; exact h.lv.1.symm) h.own (g_word hC h.warm (g_mem_tb hlk) rfl args) (g_word hC h.warm g_maxS rfl args) (g_word hC h.warm g_mathI rfl args) (g_word hC h.warm g_maxC rfl args) h1 (by rw [g_rest_cat]; show _ ≤ 40 * d; omega) hc hs (g_dec hy hq).1 (k p e s m args below meth c H locs la h)
theorem gb_abs {x : Int32} {idx pl : Nat} (hC : g_ctx l C) (hy : g_yok y) (hq : g_cd y.2.2.2.2.2.2 pc = some (.invokestatic idx, a1, a2, a3)) (hlk : tables_1[pl]? = some (.methodLink y.1.cls idx Lib.Math.abs.name)) (hst : (st.map fun v => v.category).sum ≤ 8) (h1 : 1 ≤ d) (hc : kc ≤ y.2.2.2.2.1) (hs : ks ≤ y.2.2.2.2.2.1) (k : GW l C y d Q QX kc ks (pc + 3) ls (.int (m_abs x) :: st) X) : GW l C y d Q QX kc ks pc ls (.int x :: st) X := by
  intro p e s m args below meth c H locs la h
  exact va_mabs h.1 h.2.1 (by rw [h.2.2.2.1]; exact h.lv.1.symm) h.own (g_word hC h.warm (g_mem_tb hlk) rfl args) (g_word hC h.warm g_absS rfl args) (g_word hC h.warm g_mathI rfl args) (g_word hC h.warm g_absC rfl args) h1 (by rw [g_rest_cat]; show _ ≤ 40 * d; omega) hc hs (g_dec hy hq).1 (k p e s m args below meth c H locs la h)
end GB18
/-- a row's number at a place, 0 where there is none -/
def r_at (m : Nat → Int32) (n : Nat) (i : Int32) : Int32 := if i < 0 ∨ n ≤ i.toNatClampNeg then 0 else m i.toNatClampNeg
def r_put (M : gM) (a n : Nat) (i v : Int32) : gM := if i < 0 ∨ n ≤ i.toNatClampNeg then M else g_set M a i.toNatClampNeg v
def r_fill (M : gM) (a n : Nat) (v : Int32) : gM := fun b => if b = a then (fun j => if j < n then v else M a j) else M b
def r_copy (M : gM) (f t n : Nat) : gM := fun b => if b = t then (fun j => if j < n then M f j else M t j) else M b
theorem nI_leC {n : Nat} {i : Int32} (hn : n < 2 ^ 31) (h0 : ¬ i < 0) : nI n ≤ i ↔ n ≤ i.toNatClampNeg := by
  obtain ⟨j, hj, rfl⟩ := nI_of h0
  rw [nI_leI hn hj, nI_clamp hj]
theorem r_at_in (m : Nat → Int32) {n j : Nat} (h : j < n) (hn : n < 2 ^ 31) : r_at m n (nI j) = m j := by
  unfold r_at
  rw [if_neg (nI_in h hn), nI_clamp (by omega)]
theorem r_put_in (M : gM) (a : Nat) {n j : Nat} (v : Int32) (h : j < n) (hn : n < 2 ^ 31) : r_put M a n (nI j) v = g_set M a j v := by
  unfold r_put
  rw [if_neg (nI_in h hn), nI_clamp (by omega)]
theorem r_put_ne {M : gM} {a n b : Nat} {i v : Int32} (h : b ≠ a) : r_put M a n i v b = M b := by
  unfold r_put
  split
  · rfl
  · exact g_set_ne h
theorem r_fill_0 (M : gM) (a : Nat) (v : Int32) : r_fill M a 0 v = M := by
  funext b
  unfold r_fill
  split
  · rename_i h; subst h; funext j; simp
  · rfl
theorem r_fill_s (M : gM) (a j : Nat) (v : Int32) : g_set (r_fill M a j v) a j v = r_fill M a (j + 1) v := by
  funext b k
  unfold g_set r_fill
  by_cases hb : b = a
  · simp only [hb, if_true]
    by_cases h1 : k = j
    · simp [h1]
    · by_cases h2 : k < j
      · simp [h1, h2, Nat.lt_succ_of_lt h2]
      · simp [h1, h2, show ¬ k < j + 1 by omega]
  · simp [hb]
theorem r_copy_0 (M : gM) (f t : Nat) : r_copy M f t 0 = M := by
  funext b
  unfold r_copy
  split
  · rename_i h; subst h; funext j; simp
  · rfl
theorem r_copy_s (M : gM) {f t : Nat} (h : f ≠ t) (j : Nat) : g_set (r_copy M f t j) t j (r_copy M f t j f j) = r_copy M f t (j + 1) := by
  have e : r_copy M f t j f j = M f j := by unfold r_copy; rw [if_neg h]
  rw [e]
  funext b k
  unfold g_set r_copy
  by_cases hb : b = t
  · simp only [hb, if_true]
    by_cases h1 : k = j
    · simp [h1]
    · by_cases h2 : k < j
      · simp [h1, h2, Nat.lt_succ_of_lt h2]
      · simp [h1, h2, show ¬ k < j + 1 by omega]
  · simp [hb]
set_option maxRecDepth 20000 in
theorem c_at {l : Launch} {C : gC} (hC : g_ctx l C) (a n : Nat) (rf : Nat → Nat) (i : Int32) (M : gM) (sz d : Nat) (hd : 1 ≤ d) (ha : a < 956) (hS : g_S0 a = (20, n, rf)) (hn : n < 2 ^ 31) : gP l C qX11_at d [.ref (a), .int (i)] (M) sz (fun r M2 => r = some (.int (r_at (M a) n i)) ∧ M2 = M) := by
  refine gP.of (ls := [(0, .ref (a)), (1, .int (i))]) (by decide +kernel) (Nat.le_of_ble_eq_true rfl) rfl ?_
  refine gb_run 1 (pc2 := 1) (ls2 := [(0, .ref (a)), (1, .int (i))]) (st2 := [.int (i)]) (M2 := M) hC hqX11_at rfl ?_
  refine gb_if_lt hqX11_at rfl (fun h1 => ?_) (fun h1 => ?_)
  ·
    refine gb_run 1 (pc2 := 17) (ls2 := [(0, .ref (a)), (1, .int (i))]) (st2 := [.int (0)]) (M2 := M) hC hqX11_at rfl ?_
    refine gb_iret hqX11_at rfl rfl (Nat.le_of_ble_eq_true rfl) (Nat.le_of_ble_eq_true rfl) ?_
    exact ⟨_, rfl, by unfold r_at; rw [if_pos (Or.inl h1)], rfl⟩
  ·
    refine gb_run 2 (pc2 := 6) (ls2 := [(0, .ref (a)), (1, .int (i))]) (st2 := [.ref (a), .int (i)]) (M2 := M) hC hqX11_at rfl ?_
    refine gb_alen hC hqX11_at rfl ha hS ?_
    refine gb_icmp_ge hqX11_at rfl (fun h2 => ?_) (fun h2 => ?_)
    ·
      refine gb_run 1 (pc2 := 17) (ls2 := [(0, .ref (a)), (1, .int (i))]) (st2 := [.int (0)]) (M2 := M) hC hqX11_at rfl ?_
      refine gb_iret hqX11_at rfl rfl (Nat.le_of_ble_eq_true rfl) (Nat.le_of_ble_eq_true rfl) ?_
      exact ⟨_, rfl, by unfold r_at; rw [if_pos (Or.inr ((nI_leC hn h1).mp h2))], rfl⟩
    ·
      refine gb_run 2 (pc2 := 12) (ls2 := [(0, .ref (a)), (1, .int (i))]) (st2 := [.int (i), .ref (a)]) (M2 := M) hC hqX11_at rfl ?_
      refine gb_iaload hC hqX11_at rfl ha hS (fun q => q.elim h1 (fun q => h2 ((nI_leC hn h1).mpr q))) ?_
      refine gb_run 1 (pc2 := 17) (ls2 := [(0, .ref (a)), (1, .int (i))]) (st2 := [.int (M a (i).toNatClampNeg)]) (M2 := M) hC hqX11_at rfl ?_
      refine gb_iret hqX11_at rfl rfl (Nat.le_of_ble_eq_true rfl) (Nat.le_of_ble_eq_true rfl) ?_
      exact ⟨_, rfl, by unfold r_at; rw [if_neg (fun q => q.elim h1 (fun q => h2 ((nI_leC hn h1).mpr q)))], rfl⟩
set_option maxRecDepth 20000 in
theorem c_put {l : Launch} {C : gC} (hC : g_ctx l C) (a n : Nat) (rf : Nat → Nat) (i v : Int32) (M : gM) (sz d : Nat) (hd : 1 ≤ d) (ha : a < 956) (hS : g_S0 a = (20, n, rf)) (hn : n < 2 ^ 31) : gP l C qX11_put d [.ref (a), .int (i), .int (v)] (M) sz (fun r M2 => r = none ∧ M2 = r_put M a n i v) := by
  refine gP.of (ls := [(0, .ref (a)), (1, .int (i)), (2, .int (v))]) (by decide +kernel) (Nat.le_of_ble_eq_true rfl) rfl ?_
  refine gb_run 1 (pc2 := 1) (ls2 := [(0, .ref (a)), (1, .int (i)), (2, .int (v))]) (st2 := [.int (i)]) (M2 := M) hC hqX11_put rfl ?_
  refine gb_if_lt hqX11_put rfl (fun h1 => ?_) (fun h1 => ?_)
  ·
    refine gb_vret hqX11_put rfl rfl (Nat.le_of_ble_eq_true rfl) (Nat.le_of_ble_eq_true rfl) ?_
    exact ⟨_, rfl, rfl, by unfold r_put; rw [if_pos (Or.inl h1)]⟩
  ·
    refine gb_run 2 (pc2 := 6) (ls2 := [(0, .ref (a)), (1, .int (i)), (2, .int (v))]) (st2 := [.ref (a), .int (i)]) (M2 := M) hC hqX11_put rfl ?_
    refine gb_alen hC hqX11_put rfl ha hS ?_
    refine gb_icmp_ge hqX11_put rfl (fun h2 => ?_) (fun h2 => ?_)
    ·
      refine gb_vret hqX11_put rfl rfl (Nat.le_of_ble_eq_true rfl) (Nat.le_of_ble_eq_true rfl) ?_
      exact ⟨_, rfl, rfl, by unfold r_put; rw [if_pos (Or.inr ((nI_leC hn h1).mp h2))]⟩
    ·
      refine gb_run 3 (pc2 := 13) (ls2 := [(0, .ref (a)), (1, .int (i)), (2, .int (v))]) (st2 := [.int (v), .int (i), .ref (a)]) (M2 := M) hC hqX11_put rfl ?_
      refine gb_iastore hC hqX11_put rfl ha hS (fun q => q.elim h1 (fun q => h2 ((nI_leC hn h1).mpr q))) ?_
      refine gb_vret hqX11_put rfl rfl (Nat.le_of_ble_eq_true rfl) (Nat.le_of_ble_eq_true rfl) ?_
      exact ⟨_, rfl, rfl, by unfold r_put; rw [if_neg (fun q => q.elim h1 (fun q => h2 ((nI_leC hn h1).mpr q)))]⟩
set_option maxRecDepth 20000 in
theorem c_fill {l : Launch} {C : gC} (hC : g_ctx l C) (m : Nat) (S : Nat → gT) (a n : Nat) (rf : Nat → Nat) (v : Int32) (M : gM) (sz d : Nat) (hd : 1 ≤ d) (ha : a < m) (hS : S a = (20, n, rf)) (hn : n < 2 ^ 31) : gPg l C qX11_fill d [.ref (a), .int (v)] m S (M) sz (fun r M2 => r = none ∧ M2 = r_fill M a n v) := by
  refine gPg.of (ls := [(0, .ref (a)), (1, .int (v))]) (by decide +kernel) (Nat.le_of_ble_eq_true rfl) rfl ?_
  refine gb_run 2 (pc2 := 2) (ls2 := [(2, .int (0)), (0, .ref (a)), (1, .int (v))]) (st2 := []) (M2 := M) hC hqX11_fill rfl ?_
  have L2 : ∀ (k : Nat) (j : Nat), (j + k = n) → GW l C qX11_fill d (gQg m S (fun r M2 => r = none ∧ M2 = r_fill M a n v) sz) (gN) 0 0 2 [(2, .int (nI j)), (0, .ref (a)), (1, .int (v))] [] (m, S, r_fill M a j v, sz) := by
    intro k
    induction k with
    | zero =>
      intro j hj
      have hj2 : j = n := by omega
      subst hj2
      refine gb_run 2 (pc2 := 4) (ls2 := [(2, .int (nI j)), (0, .ref (a)), (1, .int (v))]) (st2 := [.ref (a), .int (nI j)]) (M2 := r_fill M a j v) hC hqX11_fill rfl ?_
      refine gb_alen hC hqX11_fill rfl ha hS ?_
      refine gb_icmp_ge hqX11_fill rfl (fun h1 => ?_) (fun h1 => ?_)
      ·
        refine gb_vret hqX11_fill rfl rfl (Nat.le_of_ble_eq_true rfl) (Nat.le_of_ble_eq_true rfl) ?_
        exact ⟨_, rfl, rfl, rfl⟩
      · exact absurd (Int32.le_refl _) h1
    | succ k ih =>
      intro j hj
      refine gb_run 2 (pc2 := 4) (ls2 := [(2, .int (nI j)), (0, .ref (a)), (1, .int (v))]) (st2 := [.ref (a), .int (nI j)]) (M2 := r_fill M a j v) hC hqX11_fill rfl ?_
      refine gb_alen hC hqX11_fill rfl ha hS ?_
      refine gb_icmp_ge hqX11_fill rfl (fun h2 => ?_) (fun h2 => ?_)
      · exact absurd h2 (nI_ge (by omega) (by omega))
      ·
        refine gb_run 3 (pc2 := 11) (ls2 := [(2, .int (nI j)), (0, .ref (a)), (1, .int (v))]) (st2 := [.int (v), .int (nI j), .ref (a)]) (M2 := r_fill M a j v) hC hqX11_fill rfl ?_
        refine gb_iastore hC hqX11_fill rfl ha hS (vp_in_nI (by omega) (by omega)) ?_
        refine gb_run 2 (pc2 := 2) (ls2 := [(2, .int (nI j + 1)), (0, .ref (a)), (1, .int (v))]) (st2 := []) (M2 := g_set (r_fill M a j v) a (nI j).toNatClampNeg v) hC hqX11_fill rfl ?_
        rw [nI_1 j]
        rw [nI_clamp (by omega), r_fill_s]
        exact ih (j + 1) (by omega)
  have L := L2 n 0 (by omega); rw [r_fill_0] at L; exact L
set_option maxRecDepth 20000 in
theorem c_copyRow {l : Launch} {C : gC} (hC : g_ctx l C) (f t n : Nat) (rf rt : Nat → Nat) (M : gM) (sz d : Nat) (hd : 1 ≤ d) (ha : f < 956) (hS : g_S0 f = (20, n, rf)) (hb : t < 956) (hT : g_S0 t = (20, n, rt)) (hn : n < 2 ^ 31) (hne : f ≠ t) : gP l C qX11_copyRow d [.ref (f), .ref (t)] (M) sz (fun r M2 => r = none ∧ M2 = r_copy M f t n) := by
  refine gP.of (ls := [(0, .ref (f)), (1, .ref (t))]) (by decide +kernel) (Nat.le_of_ble_eq_true rfl) rfl ?_
  refine gb_run 2 (pc2 := 2) (ls2 := [(2, .int (0)), (0, .ref (f)), (1, .ref (t))]) (st2 := []) (M2 := M) hC hqX11_copyRow rfl ?_
  have L2 : ∀ (k : Nat) (j : Nat), (j + k = n) → GW l C qX11_copyRow d (gQ (fun r M2 => r = none ∧ M2 = r_copy M f t n) sz) (gN) 0 0 2 [(2, .int (nI j)), (0, .ref (f)), (1, .ref (t))] [] (956, g_S0, r_copy M f t j, sz) := by
    intro k
    induction k with
    | zero =>
      intro j hj
      have hj2 : j = n := by omega
      subst hj2
      refine gb_run 2 (pc2 := 4) (ls2 := [(2, .int (nI j)), (0, .ref (f)), (1, .ref (t))]) (st2 := [.ref (f), .int (nI j)]) (M2 := r_copy M f t j) hC hqX11_copyRow rfl ?_
      refine gb_alen hC hqX11_copyRow rfl ha hS ?_
      refine gb_icmp_ge hqX11_copyRow rfl (fun h1 => ?_) (fun h1 => ?_)
      ·
        refine gb_vret hqX11_copyRow rfl rfl (Nat.le_of_ble_eq_true rfl) (Nat.le_of_ble_eq_true rfl) ?_
        exact ⟨_, rfl, rfl, rfl⟩
      · exact absurd (Int32.le_refl _) h1
    | succ k ih =>
      intro j hj
      refine gb_run 2 (pc2 := 4) (ls2 := [(2, .int (nI j)), (0, .ref (f)), (1, .ref (t))]) (st2 := [.ref (f), .int (nI j)]) (M2 := r_copy M f t j) hC hqX11_copyRow rfl ?_
      refine gb_alen hC hqX11_copyRow rfl ha hS ?_
      refine gb_icmp_ge hqX11_copyRow rfl (fun h2 => ?_) (fun h2 => ?_)
      · exact absurd h2 (nI_ge (by omega) (by omega))
      ·
        refine gb_run 2 (pc2 := 10) (ls2 := [(2, .int (nI j)), (0, .ref (f)), (1, .ref (t))]) (st2 := [.ref (t), .int (nI j)]) (M2 := r_copy M f t j) hC hqX11_copyRow rfl ?_
        refine gb_alen hC hqX11_copyRow rfl hb hT ?_
        refine gb_icmp_ge hqX11_copyRow rfl (fun h3 => ?_) (fun h3 => ?_)
        · exact absurd h3 (nI_ge (by omega) (by omega))
        ·
          refine gb_run 4 (pc2 := 18) (ls2 := [(2, .int (nI j)), (0, .ref (f)), (1, .ref (t))]) (st2 := [.int (nI j), .ref (f), .int (nI j), .ref (t)]) (M2 := r_copy M f t j) hC hqX11_copyRow rfl ?_
          refine gb_iaload hC hqX11_copyRow rfl ha hS (vp_in_nI (by omega) (by omega)) ?_
          refine gb_iastore hC hqX11_copyRow rfl hb hT (vp_in_nI (by omega) (by omega)) ?_
          refine gb_run 2 (pc2 := 2) (ls2 := [(2, .int (nI j + 1)), (0, .ref (f)), (1, .ref (t))]) (st2 := []) (M2 := g_set (r_copy M f t j) t (nI j).toNatClampNeg ((r_copy M f t j) f (nI j).toNatClampNeg)) hC hqX11_copyRow rfl ?_
          rw [nI_1 j]
          rw [nI_clamp (by omega), r_copy_s M hne]
          exact ih (j + 1) (by omega)
  have L := L2 n 0 (by omega); rw [r_copy_0] at L; exact L
set_option maxRecDepth 20000 in
theorem c_allOf {l : Launch} {C : gC} (hC : g_ctx l C) (x : Int32) (M : gM) (sz d : Nat) (hd : 1 ≤ d)  : gP l C qX11_allOf d [.int (x)] (M) sz (fun r M2 => r = some (.int ((1 : Int32) <<< (x &&& 31) - 1)) ∧ M2 = M) := by
  refine gP.of (ls := [(0, .int (x))]) (by decide +kernel) (Nat.le_of_ble_eq_true rfl) rfl ?_
  refine gb_run 5 (pc2 := 5) (ls2 := [(0, .int (x))]) (st2 := [.int ((1 <<< (x &&& 31)) - 1)]) (M2 := M) hC hqX11_allOf rfl ?_
  refine gb_iret hqX11_allOf rfl rfl (Nat.le_of_ble_eq_true rfl) (Nat.le_of_ble_eq_true rfl) ?_
  exact ⟨_, rfl, rfl, rfl⟩
def m_bit (b k : Int32) : Int32 := if (b >>> (k &&& 31)) &&& 1 = 1 then 1 else 0
set_option maxRecDepth 20000 in
theorem c_hasBit {l : Launch} {C : gC} (hC : g_ctx l C) (x z : Int32) (M : gM) (sz d : Nat) (hd : 1 ≤ d)  : gP l C qX11_hasBit d [.int (x), .int (z)] (M) sz (fun r M2 => r = some (.int (m_bit x z)) ∧ M2 = M) := by
  refine gP.of (ls := [(0, .int (x)), (1, .int (z))]) (by decide +kernel) (Nat.le_of_ble_eq_true rfl) rfl ?_
  refine gb_run 6 (pc2 := 6) (ls2 := [(0, .int (x)), (1, .int (z))]) (st2 := [.int (1), .int ((x >>> (z &&& 31)) &&& 1)]) (M2 := M) hC hqX11_hasBit rfl ?_
  refine gb_icmp_ne hqX11_hasBit rfl (fun h1 => ?_) (fun h1 => ?_)
  ·
    refine gb_run 1 (pc2 := 14) (ls2 := [(0, .int (x)), (1, .int (z))]) (st2 := [.int (0)]) (M2 := M) hC hqX11_hasBit rfl ?_
    refine gb_zret hqX11_hasBit rfl rfl (Nat.le_of_ble_eq_true rfl) (Nat.le_of_ble_eq_true rfl) (by first | exact Or.inl rfl | exact Or.inr rfl | simp) ?_
    exact ⟨_, rfl, by unfold m_bit; rw [if_neg h1], rfl⟩
  ·
    refine gb_run 2 (pc2 := 14) (ls2 := [(0, .int (x)), (1, .int (z))]) (st2 := [.int (1)]) (M2 := M) hC hqX11_hasBit rfl ?_
    refine gb_zret hqX11_hasBit rfl rfl (Nat.le_of_ble_eq_true rfl) (Nat.le_of_ble_eq_true rfl) (by first | exact Or.inl rfl | exact Or.inr rfl | simp) ?_
    exact ⟨_, rfl, by unfold m_bit; rw [if_pos h1], rfl⟩
