/-! The law's entry: what is known there. -/
def e_F : List Cond := flatC (Jvm.Cond.and given_1 narrow_1)
def e_ps : List Nat := [0, 1, 2, 3, 4, 5, 6, 7, 8, 9, 10, 11, 14, 15, 16, 17, 18, 20, 22, 23]
def e_os : List Nat := [39, 69, 78, 89, 100, 112, 125, 141, 156, 171, 190, 209, 228, 248, 269, 292, 316, 340, 365, 391, 418, 446, 476, 507]
def e_st (p : Nat) : Term := match g_strs[p]? with
  | some q => .string q.1 q.2.1
  | none => .int 0
def e_tm (i : Nat) : Term := e_st (e_ps.getD i 0)
def e_o (i : Nat) : Nat := e_os.getD (e_ps.getD i 0) 0
theorem e_1 : ∀ i, i < 20 → e_F[e_o i]? = some (Cond.exactly (e_tm i) "java/lang/String") := by decide +kernel
theorem e_2 : ∀ i, i < 20 → e_F[e_o i + 1]? = some (Cond.eq (.field (e_tm i) "java/lang/String" "coder" "B") (.int 0)) := by decide +kernel
theorem e_3 : ∀ i, i < 20 → e_F[e_o i + 2]? = some (Cond.arrayOf (.field (e_tm i) "java/lang/String" "value" "[B") .byte) := by decide +kernel
theorem e_4 : ∀ i, i < 20 → e_F[e_o i + 3]? = some (Cond.eq (.length (.field (e_tm i) "java/lang/String" "value" "[B")) (.int (Int32.ofNat (g_len.getD i 0)))) := by decide +kernel
theorem e_5 : ∀ i, i < 20 → ∀ j, j < g_len.getD i 0 → e_F[e_o i + 4 + j]? = some (Cond.eq (.elem (.field (e_tm i) "java/lang/String" "value" "[B") (.int (Int32.ofNat j))) (.int ((g_byt.getD i []).getD j 0))) := by decide +kernel
theorem e_6 : ∀ i, i < 20 → ∀ j, j < i → e_F[e_o i + 4 + g_len.getD i 0 + e_ps.getD j 0]? = some (Cond.not (Cond.eq (e_tm j) (e_tm i))) := by decide +kernel
theorem e_7 : ∀ i, i < 20 → g_len.getD i 0 < 2 ^ 31 := by decide +kernel
/-- what all else is said of: the words of the tables, what the Statement gives -/
def e_In (b : Nat) (s : State) : Prop := (∀ w ∈ lw_tbl, w.before #[Value.ref b] s = true) ∧ ∀ w ∈ e_F, w.before #[Value.ref b] s = true
theorem e_txt {b : Nat} {s : State} (h : e_In b s) {A : Nat → Prop} (hA : ∀ a : Nat, a < s.heap.size → ¬ A a) : ∃ adK adV : Nat → Nat, vk_S 20 g_len g_byt adK adV A s s.heap ∧ ∀ i : Nat, i < 20 → (e_tm i).eval #[Value.ref b] s none [] s = some (.ref (adK i)) := by
  have m : ∀ {k : Nat} {w : Cond}, e_F[k]? = some w → w.before #[Value.ref b] s = true := fun hk => h.2 _ (List.mem_of_getElem? hk)
  refine vk_Sof (args := #[Value.ref b]) e_7 (fun i hi => m (e_1 i hi)) (fun i hi => m (e_2 i hi)) (fun i hi => m (e_3 i hi)) (fun i hi => m (e_4 i hi)) (fun i hi j hj => m (e_5 i hi j hj)) (fun i j hi hj hij => ?_) hA
  by_cases q : j < i
  · exact Or.inr (m (e_6 i hi j q))
  · exact Or.inl (m (e_6 j hj i (by omega)))
theorem e_eqR {args : Array Value} {s : State} {t u : Term} {a : Nat} (h : (Cond.eq t u).before args s = true) (ht : t.eval args s none [] s = some (.ref a)) : u.eval args s none [] s = some (.ref a) := by
  cases hu : u.eval args s none [] s with
  | none => simp [Cond.before, Cond.holds, Cond.value, ht, hu] at h
  | some w =>
    cases w <;> simp [Cond.before, Cond.holds, Cond.value, ht, hu] at h
    all_goals first | (rw [h]; done) | (cases h; rfl)
theorem e_d1 : e_F[e_os.getD 12 0 + 4 + 4 + 1]? = some (Cond.eq (e_st 1) (e_st 12)) := by decide +kernel
theorem e_d2 : e_F[e_os.getD 13 0 + 4 + 4 + 3]? = some (Cond.eq (e_st 3) (e_st 13)) := by decide +kernel
theorem e_d3 : e_F[e_os.getD 19 0 + 4 + 4 + 11]? = some (Cond.eq (e_st 11) (e_st 19)) := by decide +kernel
theorem e_d4 : e_F[e_os.getD 21 0 + 4 + 5 + 14]? = some (Cond.eq (e_st 14) (e_st 21)) := by decide +kernel
/-- the string of each place is the text of its number -/
theorem e_all {b : Nat} {s : State} (h : e_In b s) {adK : Nat → Nat} (hk : ∀ i : Nat, i < 20 → (e_tm i).eval #[Value.ref b] s none [] s = some (.ref (adK i))) : ∀ p, p < 24 → (e_st p).eval #[Value.ref b] s none [] s = some (.ref (adK ((g_strs.getD p ("", 0, "", 0)).2.2.2))) := by
  have m : ∀ {k : Nat} {w : Cond}, e_F[k]? = some w → w.before #[Value.ref b] s = true := fun hk => h.2 _ (List.mem_of_getElem? hk)
  intro p hp
  rcases (show p = 0 ∨ p = 1 ∨ p = 2 ∨ p = 3 ∨ p = 4 ∨ p = 5 ∨ p = 6 ∨ p = 7 ∨ p = 8 ∨ p = 9 ∨ p = 10 ∨ p = 11 ∨ p = 12 ∨ p = 13 ∨ p = 14 ∨ p = 15 ∨ p = 16 ∨ p = 17 ∨ p = 18 ∨ p = 19 ∨ p = 20 ∨ p = 21 ∨ p = 22 ∨ p = 23 by omega) with rfl | rfl | rfl | rfl | rfl | rfl | rfl | rfl | rfl | rfl | rfl | rfl | rfl | rfl | rfl | rfl | rfl | rfl | rfl | rfl | rfl | rfl | rfl | rfl
  · exact hk 0 (by decide)
  · exact hk 1 (by decide)
  · exact hk 2 (by decide)
  · exact hk 3 (by decide)
  · exact hk 4 (by decide)
  · exact hk 5 (by decide)
  · exact hk 6 (by decide)
  · exact hk 7 (by decide)
  · exact hk 8 (by decide)
  · exact hk 9 (by decide)
  · exact hk 10 (by decide)
  · exact hk 11 (by decide)
  · exact e_eqR (m e_d1) (hk 1 (by decide))
  · exact e_eqR (m e_d2) (hk 3 (by decide))
  · exact hk 12 (by decide)
  · exact hk 13 (by decide)
  · exact hk 14 (by decide)
  · exact hk 15 (by decide)
  · exact hk 16 (by decide)
  · exact e_eqR (m e_d3) (hk 11 (by decide))
  · exact hk 17 (by decide)
  · exact e_eqR (m e_d4) (hk 12 (by decide))
  · exact hk 18 (by decide)
  · exact hk 19 (by decide)
def e_ss : List Nat := [702, 765, 818, 819, 820, 821, 905, 907, 908, 909, 910, 911, 912, 913, 914, 915, 920, 948, 956, 957, 958, 959, 960, 1055]
theorem e_wS : ∀ p : Nat, p < 24 → tables_1[e_ss.getD p 0]? = some (Cond.stringRef (g_strs.getD p ("", 0, "", 0)).1 (g_strs.getD p ("", 0, "", 0)).2.1 (g_strs.getD p ("", 0, "", 0)).2.2.1) := by decide +kernel
theorem e_strs {b : Nat} {s : State} (h : e_In b s) {adK : Nat → Nat} (hk : ∀ i : Nat, i < 20 → (e_tm i).eval #[Value.ref b] s none [] s = some (.ref (adK i))) : ∀ e ∈ g_strs, vk_R e.1 e.2.1 e.2.2.1 (adK e.2.2.2) s := by
  intro e he
  obtain ⟨p, hp⟩ := List.getElem?_of_mem he
  have hp24 : p < 24 := (List.getElem?_eq_some_iff.mp hp).1
  have e1 : g_strs.getD p ("", 0, "", 0) = e := by rw [List.getD_eq_getElem?_getD, hp]; rfl
  have hi := e_wS p hp24
  have h2 := e_all h hk p hp24
  rw [e1] at hi h2
  unfold e_st at h2
  rw [hp] at h2
  exact vk_R.of (h.1 _ (List.mem_append_right _ (List.mem_of_getElem? hi))) h2
/-- the classes -/
def e_ic : List Nat := [221, 271, 420, 458, 132, 387, 71, 199, 277, 234, 34, 26, 1376]
theorem e_wC : ∀ c : Nat, c < 13 → tables_1[e_ic.getD c 0]? = (vwCl[c]?).map (fun q => Cond.instantiable q.1 q.2.2) := by decide +kernel
theorem e_cls {b : Nat} {s : State} (h : e_In b s) : ∃ D : va_G, ∀ (c : Nat) (q : vw_C), vwCl[c]? = some q → u_Kn s q.1 q.2.1 q.2.2 (D.1 c) (D.2 c) := by
  have h0 : ∀ c : Nat, ∃ z : ClassId × (Nat → Nat), ∀ q : vw_C, vwCl[c]? = some q → u_Kn s q.1 q.2.1 q.2.2 z.1 z.2 := by
    intro c
    cases hq : vwCl[c]? with
    | none => exact ⟨(0, fun _ => 0), fun q hh => by cases hh⟩
    | some q =>
      have hm := List.mem_of_getElem? hq
      have hc : c < 13 := (List.getElem?_eq_some_iff.mp hq).1
      have hn := e_wC c hc
      rw [hq] at hn
      have hn2 : Cond.instantiable q.1 q.2.2 ∈ tables_1 := List.mem_of_getElem? hn
      obtain ⟨cC, iS, hK⟩ := u_known (N := q.2.2) (T := q.2.1) h.1 (fun w hw => (g_inU q hm w hw).1) (h.1 _ (List.mem_append_right _ hn2))
      refine ⟨(cC, iS), fun q2 hh => ?_⟩
      cases hh
      exact hK
  obtain ⟨f, hf⟩ := Classical.axiomOfChoice h0
  exact ⟨(fun c => (f c).1, fun c => (f c).2), hf⟩
theorem e_prim {args : Array Value} {s : State} {ty : FieldType} (ht : ∀ C, ty ≠ .object C) (h : (Cond.arrayClass ty).before args s = true) : ∃ cA : ClassId, s.vm.findClass ("[" ++ ty.toString) = some cA ∧ ArrOfT s cA ty ∧ va_RA s cA ty := by
  obtain ⟨c, k, comp, h1, h2, h3⟩ := Cond.arrayClass_spec (args := args) (first := s) (o := none) (idx := []) h
  refine ⟨c, h1, fun N z => ⟨(fun q hq => by cases hq), k, h2, comp, h3⟩, ?_⟩
  cases ty with
  | object C => exact absurd rfl (ht C)
  | _ => exact h1
theorem e_obj {args : Array Value} {s : State} {C : String} (h : (Cond.arrayOver (.object C)).before args s = true) : ∃ cA : ClassId, ArrOfT s cA (.object C) ∧ va_RA s cA (.object C) := by
  obtain ⟨comp, c, k, h1, -, h2, h3, h4⟩ := Cond.arrayOver_spec (args := args) (first := s) (o := none) (idx := []) h
  exact ⟨c, fun N z => ⟨(fun q hq => by cases hq), k, h2, comp, h3⟩, k, comp, h2, h3, h1, h4⟩
theorem e_arr {args : Array Value} {s : State} {t : FieldType} (h : (Cond.arrayOver (.array t)).before args s = true) : ∃ cA : ClassId, ArrOfT s cA (.array t) ∧ va_RA s cA (.array t) := by
  obtain ⟨comp, c, k, h1, h2, h3, h4⟩ := Cond.arrayOver_specA (args := args) (first := s) (o := none) (idx := []) h
  exact ⟨c, fun N z => ⟨(fun q hq => by cases hq), k, h2, comp, h3⟩, h4⟩
theorem e_entry {l : Launch} (hflags : l.flags = flags0) {b L : Nat} {xs : Nat → Int32} {s : State} (h : e_In b s) (hX : va_X b L xs s s.heap) (hb : b < s.heap.size) : ∃ C : gC, C.1 = s ∧ C.2.2.2 3000 = b ∧ g_ctx l C ∧ g_cl C L xs := by
  obtain ⟨D, hD⟩ := e_cls h
  obtain ⟨cI, i1, i2, i3⟩ := e_prim (ty := .int) (fun C q => by cases q) (h.1 (Cond.arrayClass .int) (g_mem_tb (i := 69) (by decide +kernel)))
  obtain ⟨cL, l1, l2, l3⟩ := e_prim (ty := .long) (fun C q => by cases q) (h.1 (Cond.arrayClass .long) (g_mem_tb (i := 1960) (by decide +kernel)))
  have wH : (Cond.arrayOver (.object "HoopHours$History")).before #[Value.ref b] s = true := h.1 _ (g_mem_tb (i := 478) (by decide +kernel))
  have wS : (Cond.arrayOver (.object "HoopHours$State")).before #[Value.ref b] s = true := h.1 _ (g_mem_tb (i := 465) (by decide +kernel))
  have wA : (Cond.arrayOver (.array .int)).before #[Value.ref b] s = true := h.1 _ (g_mem_tb (i := 1382) (by decide +kernel))
  obtain ⟨cH, j1, j2⟩ := e_obj wH
  obtain ⟨cS, j3, j4⟩ := e_obj wS
  obtain ⟨cA, j5, j6⟩ := e_arr wA
  have hA : ∀ a : Nat, a < s.heap.size → ¬ s.heap.size ≤ a := fun a ha => Nat.not_le.mpr ha
  obtain ⟨adK, adV, hS, hk⟩ := e_txt h (A := fun q => s.heap.size ≤ q) hA
  have m : ∀ {k : Nat} {w : Cond}, e_F[k]? = some w → w.before #[Value.ref b] s = true := fun hk => h.2 _ (List.mem_of_getElem? hk)
  have f1 : (Cond.laysStatic "java/lang/Throwable" "UNASSIGNED_STACK" "[Ljava/lang/StackTraceElement;").before #[Value.ref b] s = true := h.1 _ (g_mem_tb (i := 689) (by decide +kernel))
  have f2 : (Cond.laysStatic "java/lang/Throwable" "SUPPRESSED_SENTINEL" "Ljava/util/List;").before #[Value.ref b] s = true := h.1 _ (g_mem_tb (i := 691) (by decide +kernel))
  have f3 : (Cond.initialized "java/lang/Throwable").before #[Value.ref b] s = true := h.1 _ (g_mem_tb (i := 15) (by decide +kernel))
  have f4 : (Cond.laysStatic "java/lang/String" "COMPACT_STRINGS" "Z").before #[Value.ref b] s = true := h.1 _ (g_mem_tb (i := 779) (by decide +kernel))
  have f5 : (Cond.initialized "java/lang/String").before #[Value.ref b] s = true := h.1 _ (g_mem_tb (i := 19) (by decide +kernel))
  have f6 : (Cond.laysStatic "jdk/internal/util/Preconditions" "SIOOBE_FORMATTER" "Ljava/util/function/BiFunction;").before #[Value.ref b] s = true := h.1 _ (g_mem_tb (i := 795) (by decide +kernel))
  have f7 : (Cond.initialized "jdk/internal/util/Preconditions").before #[Value.ref b] s = true := h.1 _ (g_mem_tb (i := 21) (by decide +kernel))
  have s1 : (Cond.isRef (.static "java/lang/Throwable" "UNASSIGNED_STACK" "[Ljava/lang/StackTraceElement;")).before #[Value.ref b] s = true := m (k := 4) (by decide +kernel)
  have s2 : (Cond.isRef (.static "java/lang/Throwable" "SUPPRESSED_SENTINEL" "Ljava/util/List;")).before #[Value.ref b] s = true := m (k := 5) (by decide +kernel)
  have s3 : (Cond.eq (.static "java/lang/String" "COMPACT_STRINGS" "Z") (.int 1)).before #[Value.ref b] s = true := m (k := 6) (by decide +kernel)
  have s4 : (Cond.isRef (.static "jdk/internal/util/Preconditions" "SIOOBE_FORMATTER" "Ljava/util/function/BiFunction;")).before #[Value.ref b] s = true := m (k := 7) (by decide +kernel)
  have s5 : (Cond.not (.castable "java/lang/IllegalArgumentException" "java/util/NoSuchElementException")).before #[Value.ref b] s = true := m (k := 38) (by decide +kernel)
  have hZ : ∃ a : Nat, va_Z "jdk/internal/util/Preconditions" "SIOOBE_FORMATTER" "Ljava/util/function/BiFunction;" .null (fun q => s.heap.size ≤ q) s s.heap ∨ va_Z "jdk/internal/util/Preconditions" "SIOOBE_FORMATTER" "Ljava/util/function/BiFunction;" (.ref a) (fun q => s.heap.size ≤ q) s s.heap := by
    rcases va_Zqof f6 f7 s4 hA with q | ⟨a, q⟩
    · exact ⟨0, Or.inl q⟩
    · exact ⟨a, Or.inr q⟩
  obtain ⟨aF, hZ⟩ := hZ
  obtain ⟨tx, htx⟩ : ∃ t : Nat → Nat, t = fun k => if k < 1000 then adK k else if k < 2000 then adV (k - 1000) else if k = 2000 then aF else if k = 3000 then b else cL := ⟨_, rfl⟩
  have t0 : ∀ k, k < 1000 → tx k = adK k := fun k hk => by rw [htx]; exact if_pos hk
  have t1 : ∀ k, k < 1000 → tx (1000 + k) = adV k := fun k hk => by
    rw [htx]
    show (if 1000 + k < 1000 then _ else _) = _
    rw [if_neg (by omega), if_pos (by omega), show 1000 + k - 1000 = k by omega]
  have t2 : tx 2000 = aF := by rw [htx]; rfl
  have t3 : tx 3000 = b := by rw [htx]; rfl
  have t5 : tx 5000 = cL := by rw [htx]; rfl
  refine ⟨(s, D, (cI, cH, cS, cA), tx), rfl, t3, ⟨?_, ⟨_, h.1⟩, ⟨hD, ?_⟩, ⟨va_AO.of wH, va_AO.of wS, va_AOA.of wA⟩, ⟨vx_Zqof f1 f3 s1 hA, vx_Zqof f2 f3 s2 hA⟩, ?_, ?_, va_Zof f4 f5 (va_eqt s3) hA, ?_⟩, ?_⟩
  · show (!l.flags.contains noTraceFlag) = false
    rw [hflags]
    decide +kernel
  · intro k q hq
    match k, hq with
    | 0, hq => cases hq; exact ⟨i2, i3⟩
    | 1, hq => cases hq; exact ⟨j1, j2⟩
    | 2, hq => cases hq; exact ⟨j3, j4⟩
    | 3, hq => cases hq; exact ⟨j5, j6⟩
    | k + 4, hq => simp [g_tys] at hq
  · intro e he
    have := e_strs h hk e he
    have h20 : e.2.2.2 < 1000 := (by decide : ∀ e ∈ g_strs, e.2.2.2 < 1000) e he
    show vk_R e.1 e.2.1 e.2.2.1 (tx e.2.2.2) s
    rw [t0 _ h20]
    exact this
  · show vk_S 20 g_len g_byt tx (fun i => tx (1000 + i)) (fun q => s.heap.size ≤ q) s s.heap
    refine ⟨fun i hi => ?_, fun i j hi hj e => ?_⟩
    · show va_O "java/lang/String" (tx i) _ s s.heap ∧ va_OF "java/lang/String" "coder" "B" (.int 0) (tx i) _ s s.heap ∧ va_OF "java/lang/String" "value" "[B" (.ref (tx (1000 + i))) (tx i) _ s s.heap ∧ va_T .byte (tx (1000 + i)) (g_len.getD i 0) _ _ s s.heap
      rw [t0 i (by omega), t1 i (by omega)]
      exact hS.1 i hi
    · rw [t0 i (by omega), t0 j (by omega)] at e
      exact hS.2 i j hi hj e
  · show va_Z _ _ _ .null (fun q => s.heap.size ≤ q) s s.heap ∨ va_Z _ _ _ (.ref (tx 2000)) (fun q => s.heap.size ≤ q) s s.heap
    rw [t2]
    exact hZ
  · refine ⟨?_, ?_, ⟨hD, ?_⟩, ?_, fun u hu => va_Nc.moved hu.alike (va_Nc.of s5)⟩
    · show tx 3000 < s.heap.size
      rw [t3]; exact hb
    · show va_X (tx 3000) L xs s s.heap
      rw [t3]; exact hX
    · show ∀ (k : Nat) (q : ClassId × FieldType), [(tx 5000, FieldType.long)][k]? = some q → _
      rw [t5]
      intro k q hq
      match k, hq with
      | 0, hq => cases hq; exact ⟨l2, l3⟩
      | k + 1, hq => simp at hq
    · show s.vm.findClass "[J" = some (tx 5000)
      rw [t5]
      exact l1
