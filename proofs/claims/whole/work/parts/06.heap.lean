/-! What is known at the law's entry; rules of GW that read and write the memory. -/
def g_strs : List (String × Nat × String × Nat) := [("HoopHours", 418, "a number out of its bounds", 0), ("HoopHours$Park", 89, "walk", 1), ("HoopHours$Park", 95, "child", 2), ("HoopHours$Park", 97, "hoop", 3), ("HoopHours$Park", 99, "long", 4), ("HoopHours$Park", 101, "fine", 5), ("HoopHours$Law", 100, "length", 6), ("HoopHours$Law", 102, "pace", 7), ("HoopHours$Law", 104, "age", 8), ("HoopHours$Law", 106, "weight", 9), ("HoopHours$Law", 108, "tired", 10), ("HoopHours$Law", 110, "rain", 11), ("HoopHours$Law", 112, "walk", 1), ("HoopHours$Law", 114, "hoop", 3), ("HoopHours$Law", 116, "bribe", 12), ("HoopHours$Law", 85, "least", 13), ("HoopHours$Law", 95, "most", 14), ("HoopHours$Steps", 57, "give", 15), ("HoopHours$Steps", 79, "roll", 16), ("HoopHours$Steps", 81, "rain", 11), ("HoopHours$Steps", 83, "rest", 17), ("HoopHours$Steps", 85, "bribe", 12), ("HoopHours$Steps", 87, "again", 18), ("HoopHours", 411, "there is none of this number", 19)]
def g_len : List Nat := [26, 4, 5, 4, 4, 4, 6, 4, 3, 6, 5, 4, 5, 5, 4, 4, 4, 4, 5, 28]
def g_byt : List (List Int32) := [[97, 32, 110, 117, 109, 98, 101, 114, 32, 111, 117, 116, 32, 111, 102, 32, 105, 116, 115, 32, 98, 111, 117, 110, 100, 115], [119, 97, 108, 107], [99, 104, 105, 108, 100], [104, 111, 111, 112], [108, 111, 110, 103], [102, 105, 110, 101], [108, 101, 110, 103, 116, 104], [112, 97, 99, 101], [97, 103, 101], [119, 101, 105, 103, 104, 116], [116, 105, 114, 101, 100], [114, 97, 105, 110], [98, 114, 105, 98, 101], [108, 101, 97, 115, 116], [109, 111, 115, 116], [103, 105, 118, 101], [114, 111, 108, 108], [114, 101, 115, 116], [97, 103, 97, 105, 110], [116, 104, 101, 114, 101, 32, 105, 115, 32, 110, 111, 110, 101, 32, 111, 102, 32, 116, 104, 105, 115, 32, 110, 117, 109, 98, 101, 114]]
def g_ctx (l : Launch) (C : gC) : Prop :=
  l.stackTraces = false ∧ (∃ a0 : Array Value, ∀ w ∈ lw_tbl, w.before a0 C.1 = true) ∧ va_K C.2.1 vwCl (g_tys C) C.1 ∧ (va_AO "HoopHours$History" C.1 ∧ va_AO "HoopHours$State" C.1 ∧ va_AOA .int C.1) ∧
  (vx_Zq Bundle.tN "UNASSIGNED_STACK" Bundle.steD (g_A C) C.1 C.1.heap ∧ vx_Zq Bundle.tN "SUPPRESSED_SENTINEL" Bundle.listD (g_A C) C.1 C.1.heap) ∧
  (∀ e ∈ g_strs, vk_R e.1 e.2.1 e.2.2.1 (C.2.2.2 e.2.2.2) C.1) ∧ vk_S 20 g_len g_byt C.2.2.2 (fun i => C.2.2.2 (1000 + i)) (g_A C) C.1 C.1.heap ∧
  va_Z "java/lang/String" "COMPACT_STRINGS" "Z" (.int 1) (g_A C) C.1 C.1.heap ∧
  (va_Z "jdk/internal/util/Preconditions" "SIOOBE_FORMATTER" "Ljava/util/function/BiFunction;" .null (g_A C) C.1 C.1.heap ∨ va_Z "jdk/internal/util/Preconditions" "SIOOBE_FORMATTER" "Ljava/util/function/BiFunction;" (.ref (C.2.2.2 2000)) (g_A C) C.1 C.1.heap)
theorem g_fl_good (a : String) (i : Nat) (b n d : String) : goodWord (.fieldLink a i b n d) = true := rfl
theorem g_word {l : Launch} {C : gC} (hC : g_ctx l C) {s : State} (hw : C.1.WarmedH s.vm) {w : Cond} (hm : w ∈ lw_tbl) (hg : goodWord w = true) (args : Array Value) : w.before args s = true := by
  obtain ⟨-, ⟨a0, h⟩, -⟩ := hC
  exact word_at hw (good_of_word hg) (h w hm)
theorem g_K {l : Launch} {C : gC} (hC : g_ctx l C) {s : State} (hw : C.1.WarmedH s.vm) : va_K C.2.1 vwCl (g_tys C) s := va_K.moved hw.alike hC.2.2.1
theorem g_inU : ∀ q ∈ vwCl, ∀ w ∈ u_ws q.1 q.2.1 q.2.2, w ∈ lw_tbl ∧ goodWord w = true := by
  have h : vwCl.all (fun q => (u_ws q.1 q.2.1 q.2.2).all (fun w => decide (w ∈ tables_1) && goodWord w)) = true := by decide +kernel
  intro q hq w hw
  have h1 := List.all_eq_true.mp (List.all_eq_true.mp h q hq) w hw
  simp only [Bool.and_eq_true, decide_eq_true_eq] at h1
  exact ⟨List.mem_append_right _ h1.1, h1.2⟩
theorem g_nmU : ∀ q ∈ vwCl, ∀ a, a < q.2.2 → ∀ b, b < q.2.2 → a ≠ b → (q.2.1 a).2.1 ≠ (q.2.1 b).2.1 := by decide +kernel
theorem g_tyU : ∀ q ∈ vwCl, ∀ k, k < q.2.2 → ((parseFieldDescriptor (q.2.1 k).2.2.1).isSome = true) := by decide +kernel
/-- the words of the classes, as a list of their own, true at every state of the walk -/
def g_Us : List Cond := vwCl.flatMap fun q => u_ws q.1 q.2.1 q.2.2
theorem g_Us_in {q : vw_C} (hq : q ∈ vwCl) : ∀ w ∈ u_ws q.1 q.2.1 q.2.2, w ∈ g_Us := fun w hw => List.mem_flatMap.mpr ⟨q, hq, hw⟩
theorem g_Us_at {l : Launch} {C : gC} (hC : g_ctx l C) {s : State} (hw : C.1.WarmedH s.vm) (args : Array Value) : ∀ w ∈ g_Us, w.before args s = true := by
  intro w h
  obtain ⟨q, hq, h2⟩ := List.mem_flatMap.mp h
  exact g_word hC hw (g_inU q hq w h2).1 (g_inU q hq w h2).2 args
theorem g_rs {α : Type} {n i : Nat} {F F' : Nat → α} {v : α} (h1 : F' i = v) (h2 : ∀ j, j ≠ i → F' j = F j) : ((List.range n).map F).set i v = (List.range n).map F' := by
  apply List.ext_getElem?
  intro j
  rw [List.getElem?_set]
  by_cases h : i = j
  · subst h
    by_cases hl : i < n
    · simp [hl, h1]
    · simp [hl]
  · simp only [h, if_false, List.getElem?_map]
    by_cases hl : j < n
    · simp [hl, h2 j (fun e => h e.symm)]
    · simp [hl]
theorem g_wsk (C : gC) (X : gX) {a : Nat} (ha : a < X.1) : (g_ws C X)[a]? = some (g_b C + a, g_cell C (X.2.1 a) (X.2.2.1 a)) := by
  unfold g_ws
  rw [List.getElem?_map, List.getElem?_range ha]
  rfl
theorem g_wsD (C : gC) (X : gX) : va_D (g_A C) (g_ws C X) := by
  have key : ∀ (k : Nat) (q : Nat × va_E), (g_ws C X)[k]? = some q → q.1 = g_b C + k := by
    intro k q h
    unfold g_ws at h
    rw [List.getElem?_map] at h
    by_cases hl : k < X.1
    · rw [List.getElem?_range hl] at h
      cases h
      rfl
    · rw [List.getElem?_eq_none (by simpa using hl)] at h
      cases h
  refine ⟨fun i j p q hp hq e => ?_, fun k q h => ?_⟩
  · have h1 := key i p hp
    have h2 := key j q hq
    omega
  · have h1 := key k q h
    show g_b C ≤ q.1
    omega
theorem g_lo_e {C : gC} {M M2 : gM} {H H2 : Heap} (hM : M2 956 = M 956) (hq : H2[g_b C + 956]? = H[g_b C + 956]?) (h : g_lo C M H) : g_lo C M2 H2 := by
  unfold g_lo at h ⊢
  rw [hM, hq]
  exact h
theorem g_lo_k {C : gC} {M M2 : gM} {H H2 : Heap} (hM : M2 956 = M 956) (hq : ∀ q, q < H.size → H2[q]? = H[q]?) (h : g_lo C M H) : g_lo C M2 H2 := by
  unfold g_lo at h ⊢
  rw [hM]
  intro e
  have h2 := h e
  rw [hq _ (Array.getElem?_eq_some_iff.mp h2).1]
  exact h2
/-- one cell of the world is another: the rest stays -/
theorem g_at_set {C : gC} {n sz a : Nat} {S S' : Nat → gT} {M M' : gM} {H H1 : Heap} {e : va_E} (h : g_at C (n, S, M, sz) H) (ha : a < n) (hz : H1.size = H.size) (oq : ∀ q, q ≠ g_b C + a → H1[q]? = H[q]?)
    (hP : va_P C.2.1 vwCl ((g_ws C (n, S, M, sz)).set a (g_b C + a, e)) H1) (he : g_cell C (S' a) (M' a) = e) (ho : ∀ j, j ≠ a → g_cell C (S' j) (M' j) = g_cell C (S j) (M j)) (hM : M' 956 = M 956) : g_at C (n, S', M', sz) H1 := by
  obtain ⟨h1, h2, h3, h4⟩ := h
  have ha9 : a < 956 := Nat.lt_of_lt_of_le ha h3.2.1
  refine ⟨?_, by rw [hz]; exact h2, ⟨h3.1, h3.2.1, g_lo_e hM (oq _ (by omega)) h3.2.2⟩, fun q hq => by rw [oq q (by omega)]; exact h4 q hq⟩
  rw [show g_ws C (n, S', M', sz) = (g_ws C (n, S, M, sz)).set a (g_b C + a, e) from (g_rs (F' := fun i => (g_b C + i, g_cell C (S' i) (M' i))) (by rw [he]) (fun j hj => by rw [ho j hj])).symm]
  exact hP
def g_set (M : gM) (a k : Nat) (x : Int32) : gM := fun b => if b = a then (fun j => if j = k then x else M a j) else M b
def g_setS (S : Nat → gT) (a k r : Nat) : Nat → gT := fun b => if b = a then ((S a).1, (S a).2.1, fun j => if j = k then r else (S a).2.2 j) else S b
theorem g_rv_fit (C : gC) (x : Int32) : g_up C (g_rv 0 x) = .int x := rfl
section GH
variable {l : Launch} {C : gC} {y : gY} {d : Nat} {Q : Option Value → gX → Prop} {QX : String → gX → Prop} {kc ks pc : Nat} {ls : gL} {st : List Value} {n sz : Nat} {S : Nat → gT} {M : gM}
theorem gw_getfield {a idx ci k N : Nat} {Cn : String} {T : u_T} {rf : Nat → Nat} (hC : g_ctx l C) (hd : decode y.2.1 pc = .ok (.getfield idx, 3)) (hcl : vwCl[ci]? = some (Cn, T, N)) (hci : ci < 20) (hk : k < N) (hlk : Cond.fieldLink y.1.cls idx (T k).1 (T k).2.1 (T k).2.2.1 ∈ lw_tbl) (ha : a < n) (hS : S a = (ci, N, rf))
    (kk : GW l C y d Q QX kc ks (pc + 3) ls (g_rv (rf k) (M a k) :: st) (n, S, M, sz)) : GW l C y d Q QX kc ks pc ls (.ref a :: st) (n, S, M, sz) := by
  intro p e s m args below meth c H locs la h
  have hq : (Cn, T, N) ∈ vwCl := List.mem_of_getElem? hcl
  have hws := g_wsk C (n, S, M, sz) ha
  have hce : g_cell C (S a) (M a) = .inr (ci, (List.range N).map (fun j => g_up C (g_rv (rf j) (M a j)))) := by
    rw [hS]; unfold g_cell; simp [hci]
  exact va_get (D := C.2.1) (C := Cn) (T := T) (N := N) h.1 h.2.1 (g_Us_at hC h.warm args) (g_Us_in hq) h.own (g_K hC h.warm) h.at.1 a (hws.trans (congrArg (fun e => some (g_b C + a, e)) hce)) hcl k hk (g_word hC h.warm hlk (g_fl_good _ _ _ _ _) args) (fun _ h9 => h9)
    (by rw [List.getElem?_map, List.getElem?_range hk]; rfl) hd (kk p e s m args below meth c H locs la h)
end GH
