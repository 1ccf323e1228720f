/-! THE ABSTRACT MACHINE: a flat memory of numbers over a fixed shape of objects; a judgement GW, which is W under all contexts that hold it; rules for it, and a run of simple instructions by evaluation. -/
abbrev gM : Type := Nat → Nat → Int32
abbrev gT : Type := Nat × Nat × (Nat → Nat)
abbrev gX : Type := Nat × (Nat → gT) × gM × Nat
abbrev gC : Type := State × va_G × (ClassId × ClassId × ClassId × ClassId) × (Nat → Nat)
abbrev gK : Type := List (Nat × Instr × Nat × Nat × Nat)
abbrev gY : Type := MethodName × ByteArray × Nat × Option FieldType × Nat × Nat × gK
abbrev gL : Type := List (Nat × Value)
abbrev gF : Type := Nat × gL × List Value × gM
abbrev g_b (C : gC) : Nat := C.1.heap.size
def g_up (C : gC) : Value → Value
  | .ref r => .ref (g_b C + r)
  | .retAddr k => .ref (C.2.2.2 k)
  | v => v
def g_rv (r : Nat) (x : Int32) : Value := match r with
  | 0 => .int x
  | 1 => .null
  | q + 2 => .ref q
def g_rf (C : gC) (r : Nat) : Option Nat := match r with
  | 0 => none
  | 1 => none
  | q + 2 => some (g_b C + q)
def g_cell (C : gC) (t : gT) (m : Nat → Int32) : va_E :=
  if t.1 < 20 then .inr (t.1, (List.range t.2.1).map (fun j => g_up C (g_rv (t.2.2 j) (m j))))
  else if t.1 = 20 then .inl (C.2.2.1.1, t.2.1, .inl m)
  else .inl (if t.1 = 21 then C.2.2.1.2.1 else if t.1 = 22 then C.2.2.1.2.2.1 else C.2.2.1.2.2.2, t.2.1, .inr (.inr (.inr (.inr (fun j => g_rf C (t.2.2 j))))))
def g_ws (C : gC) (X : gX) : va_W := (List.range X.1).map fun i => (g_b C + i, g_cell C (X.2.1 i) (X.2.2.1 i))
def g_tys (C : gC) : List (ClassId × FieldType) := [(C.2.2.1.1, .int), (C.2.2.1.2.1, .object "HoopHours$History"), (C.2.2.1.2.2.1, .object "HoopHours$State"), (C.2.2.1.2.2.2, .array .int)]
/-- the law's row of one long: its number is kept in two cells of the memory, its class in the texts -/
def g_lg (m : Nat → Int32) : Int64 := Int64.ofInt ((m 0).toInt * 4294967296 + ((m 1).toInt + 2147483648))
def g_lc (C : gC) (m : Nat → Int32) : Cell := arrV (C.2.2.2 5000) 1 (fun _ => .long (g_lg m))
def g_lo (C : gC) (M : gM) (H : Heap) : Prop := M 956 2 = 1 → H[g_b C + 956]? = some (g_lc C (M 956))
def g_at (C : gC) (X : gX) (H : Heap) : Prop := va_P C.2.1 vwCl (g_ws C X) H ∧ H.size = X.2.2.2 ∧ (g_b C + X.1 ≤ X.2.2.2 ∧ X.1 ≤ 956 ∧ g_lo C X.2.2.1 H) ∧ ∀ q, q < g_b C → H[q]? = C.1.heap[q]?
def g_A (C : gC) : Nat → Prop := fun q => g_b C ≤ q
/-- what a method may write: what is made behind the law's entry -/
def g_F (C : gC) : Nat → Prop := fun q => g_b C ≤ q
def g_Pc (C : gC) (av : List Value) (X : gX) : Array Value → State → Prop := fun v U => v = (av.map (g_up C)).toArray ∧ C.1.WarmedH U.vm ∧ g_b C ≤ U.heap.size ∧ g_at C X U.heap
def g_Qc (C : gC) (Q : Option Value → gX → Prop) : Array Value → State → Outcome → State → Prop := fun _ st o t => ∃ (r : Option Value) (X : gX), o = .returned (r.map (g_up C)) ∧ Q r X ∧ g_at C X t.heap ∧ st.heap.size ≤ t.heap.size
def g_Qx (C : gC) (QX : String → gX → Prop) : String → State → State → Prop := fun E st t => ∃ X : gX, QX E X ∧ g_at C X t.heap ∧ st.heap.size ≤ t.heap.size
def g_rm (y : gY) (d : Nat) : Room := { frames := d, cells := y.2.2.2.2.1, slots := y.2.2.2.2.2.1, locals := 40 * d }
def g_w (y : gY) : Cond := .code y.1 y.2.1 y.2.2.1 y.2.2.2.1
/-- the contract of a method -/
def gMet (l : Launch) (C : gC) (y : gY) (d : Nat) (av : List Value) (X : gX) (Q : Option Value → gX → Prop) (QX : String → gX → Prop) : Prop :=
  vx_Met l y.1 [g_w y] (g_rm y d) (g_Pc C av X) (g_Qc C Q) (g_Qx C QX) y.2.2.2.2.1 y.2.2.2.2.2.1 (g_F C)
/-- what holds inside a method -/
def gCx (C : gC) (y : gY) (X : gX) (ls : gL) (p : Program) (s : State) (m : MethodId) (meth : Method) (c : Code) (H : Heap) (locs : List Loc) (la : Array Slot) : Prop :=
  p.tables.exec = Jvm.exec ∧ c.code = y.2.1 ∧ meth.sig.returnType = y.2.2.2.1 ∧ c.maxLocals = y.2.2.1 ∧ s.vm.findClass y.1.cls = some m.cls ∧ meth.locks = false ∧ meth.name = y.1.name ∧ (∀ x ∈ c.exceptionTable.toList, False) ∧ C.1.WarmedH s.vm ∧ (g_b C ≤ s.heap.size ∧ ∀ q, q < g_b C → s.heap[q]? = C.1.heap[q]?) ∧ s.heap.size ≤ H.size ∧
  g_at C X H ∧ (∀ q ∈ locs, g_F C q.base) ∧ lv_has la y.2.2.1 (ls.map (fun q => (q.1, g_up C q.2)))
def GW (l : Launch) (C : gC) (y : gY) (d : Nat) (Q : Option Value → gX → Prop) (QX : String → gX → Prop) (kc ks : Nat) (pc : Nat) (ls : gL) (st : List Value) (X : gX) : Prop :=
  ∀ (p : Program) (e : Env) (s : State) (m : MethodId) (args : Array Value) (below : List Frame) (meth : Method) (c : Code) (H : Heap) (locs : List Loc) (la : Array Slot), gCx C y X ls p s m meth c H locs la →
    W p l e (g_rm y d) s m args below meth c H locs kc ks (vx_MQ below (g_Qc C Q) (g_Qx C QX) args s y.2.2.2.2.1 y.2.2.2.2.2.1 (g_F C)) (F0 m pc la (st.map (g_up C)))
theorem g_up_cat (C : gC) (v : Value) : (g_up C v).category = v.category := by cases v <;> rfl
def g_lk (ls : gL) (i : Nat) : Option Value := match ls with
  | [] => none
  | q :: r => if q.1 = i then some q.2 else g_lk r i
theorem g_lk_mem {ls : gL} {i : Nat} {v : Value} (h : g_lk ls i = some v) : (i, v) ∈ ls := by
  induction ls with
  | nil => cases h
  | cons q r ih =>
    unfold g_lk at h
    split at h
    · rename_i e
      cases h
      subst e
      exact List.mem_cons_self
    · exact List.mem_cons_of_mem _ (ih h)
def g_st1 (ls : gL) (i : Nat) (v : Value) : gL := (i, v) :: ls.filter (fun q => !(q.1 == i) && !(q.1 + 1 == i && q.2.category == 2))
def g_st2 (ls : gL) (i : Nat) (v : Value) : gL := (i, v) :: ls.filter (fun q => !(q.1 == i) && (!(q.1 == i + 1) && !(q.1 + 1 == i && q.2.category == 2)))
theorem g_st1_up (C : gC) (ls : gL) (i : Nat) (v : Value) : (i, g_up C v) :: (ls.map (fun q => (q.1, g_up C q.2))).filter (fun q => !(q.1 == i) && !(q.1 + 1 == i && q.2.category == 2)) = (g_st1 ls i v).map (fun q => (q.1, g_up C q.2)) := by
  unfold g_st1
  rw [List.map_cons, List.filter_map]
  congr 2
  apply List.filter_congr
  intro q _
  simp [g_up_cat]
theorem g_st2_up (C : gC) (ls : gL) (i : Nat) (v : Value) : (i, g_up C v) :: (ls.map (fun q => (q.1, g_up C q.2))).filter (fun q => !(q.1 == i) && (!(q.1 == i + 1) && !(q.1 + 1 == i && q.2.category == 2))) = (g_st2 ls i v).map (fun q => (q.1, g_up C q.2)) := by
  unfold g_st2
  rw [List.map_cons, List.filter_map]
  congr 2
  apply List.filter_congr
  intro q _
  simp [g_up_cat]
theorem g_la {C : gC} {la : Array Slot} {n : Nat} {ls : gL} (h : lv_has la n (ls.map (fun q => (q.1, g_up C q.2)))) {i : Nat} {v : Value} (hk : g_lk ls i = some v) : la[i]? = some (.val (g_up C v)) :=
  h.2.2 (i, g_up C v) (List.mem_map.mpr ⟨(i, v), g_lk_mem hk, rfl⟩)
section GR
variable {l : Launch} {C : gC} {y : gY} {d : Nat} {Q : Option Value → gX → Prop} {QX : String → gX → Prop} {kc ks pc : Nat} {ls : gL} {st : List Value} {X : gX}
theorem gw_iconst {n : Int} {v : Int32} (hd : decode y.2.1 pc = .ok (.iconst n, 1)) (hv : Int32.ofInt n = v) (k : GW l C y d Q QX kc ks (pc + 1) ls (.int v :: st) X) : GW l C y d Q QX kc ks pc ls st X :=
  fun p e s m args below meth c H locs la h => lv_iconst h.1 h.2.1 hd hv (k p e s m args below meth c H locs la h)
theorem gw_bipush {n : Int} {v : Int32} (hd : decode y.2.1 pc = .ok (.bipush n, 2)) (hv : (Int8.ofInt n).toInt32 = v) (k : GW l C y d Q QX kc ks (pc + 2) ls (.int v :: st) X) : GW l C y d Q QX kc ks pc ls st X :=
  fun p e s m args below meth c H locs la h => lv_bipush h.1 h.2.1 hd hv (k p e s m args below meth c H locs la h)
theorem gw_sipush {n : Int} {v : Int32} (hd : decode y.2.1 pc = .ok (.sipush n, 3)) (hv : (Int16.ofInt n).toInt32 = v) (k : GW l C y d Q QX kc ks (pc + 3) ls (.int v :: st) X) : GW l C y d Q QX kc ks pc ls st X :=
  fun p e s m args below meth c H locs la h => lv_sipush h.1 h.2.1 hd hv (k p e s m args below meth c H locs la h)
theorem gw_lconst {n : Fin 2} {v : Int64} (hd : decode y.2.1 pc = .ok (.lconst n, 1)) (hv : Int64.ofNat (n : Nat) = v) (k : GW l C y d Q QX kc ks (pc + 1) ls (.long v :: st) X) : GW l C y d Q QX kc ks pc ls st X :=
  fun p e s m args below meth c H locs la h => lv_lconst h.1 h.2.1 hd hv (k p e s m args below meth c H locs la h)
theorem gw_iload_n {k : Fin 4} {i : Nat} {x : Int32} (hd : decode y.2.1 pc = .ok (.iload_n k, 1)) (hi : (k : Nat) = i) (hl : g_lk ls i = some (.int x)) (kk : GW l C y d Q QX kc ks (pc + 1) ls (.int x :: st) X) : GW l C y d Q QX kc ks pc ls st X :=
  fun p e s m args below meth c H locs la h => lv_iload_n h.1 h.2.1 hd hi (g_la h.2.2.2.2.2.2.2.2.2.2.2.2.2 hl) (kk p e s m args below meth c H locs la h)
theorem gw_iload {i : Nat} {x : Int32} (hd : decode y.2.1 pc = .ok (.iload i, 2)) (hl : g_lk ls i = some (.int x)) (kk : GW l C y d Q QX kc ks (pc + 2) ls (.int x :: st) X) : GW l C y d Q QX kc ks pc ls st X :=
  fun p e s m args below meth c H locs la h => lv_iload h.1 h.2.1 hd (g_la h.2.2.2.2.2.2.2.2.2.2.2.2.2 hl) (kk p e s m args below meth c H locs la h)
theorem gw_lload_n {k : Fin 4} {i : Nat} {x : Int64} (hd : decode y.2.1 pc = .ok (.lload_n k, 1)) (hi : (k : Nat) = i) (hl : g_lk ls i = some (.long x)) (kk : GW l C y d Q QX kc ks (pc + 1) ls (.long x :: st) X) : GW l C y d Q QX kc ks pc ls st X :=
  fun p e s m args below meth c H locs la h => lv_lload_n h.1 h.2.1 hd hi (g_la h.2.2.2.2.2.2.2.2.2.2.2.2.2 hl) (kk p e s m args below meth c H locs la h)
theorem gw_lload {i : Nat} {x : Int64} (hd : decode y.2.1 pc = .ok (.lload i, 2)) (hl : g_lk ls i = some (.long x)) (kk : GW l C y d Q QX kc ks (pc + 2) ls (.long x :: st) X) : GW l C y d Q QX kc ks pc ls st X :=
  fun p e s m args below meth c H locs la h => lv_lload h.1 h.2.1 hd (g_la h.2.2.2.2.2.2.2.2.2.2.2.2.2 hl) (kk p e s m args below meth c H locs la h)
theorem gw_aload_n {k : Fin 4} {i : Nat} {x : Nat} (hd : decode y.2.1 pc = .ok (.aload_n k, 1)) (hi : (k : Nat) = i) (hl : g_lk ls i = some (.ref x)) (kk : GW l C y d Q QX kc ks (pc + 1) ls (.ref x :: st) X) : GW l C y d Q QX kc ks pc ls st X :=
  fun p e s m args below meth c H locs la h => lv_aload_n h.1 h.2.1 hd hi (g_la h.2.2.2.2.2.2.2.2.2.2.2.2.2 hl) (kk p e s m args below meth c H locs la h)
theorem gw_aload {i : Nat} {x : Nat} (hd : decode y.2.1 pc = .ok (.aload i, 2)) (hl : g_lk ls i = some (.ref x)) (kk : GW l C y d Q QX kc ks (pc + 2) ls (.ref x :: st) X) : GW l C y d Q QX kc ks pc ls st X :=
  fun p e s m args below meth c H locs la h => lv_aload h.1 h.2.1 hd (g_la h.2.2.2.2.2.2.2.2.2.2.2.2.2 hl) (kk p e s m args below meth c H locs la h)
theorem gw_aload_nS {k : Fin 4} {i : Nat} {x : Nat} (hd : decode y.2.1 pc = .ok (.aload_n k, 1)) (hi : (k : Nat) = i) (hl : g_lk ls i = some (.retAddr x)) (kk : GW l C y d Q QX kc ks (pc + 1) ls (.retAddr x :: st) X) : GW l C y d Q QX kc ks pc ls st X :=
  fun p e s m args below meth c H locs la h => lv_aload_n h.1 h.2.1 hd hi (g_la h.2.2.2.2.2.2.2.2.2.2.2.2.2 hl) (kk p e s m args below meth c H locs la h)
end GR
