/-! The run of simple instructions by evaluation: a method's instructions as a table, checked once against its bytes. -/
def g_ii (n : Int) : Int32 := match n with
  | .ofNat k => Int32.ofNat k
  | .negSucc k => - Int32.ofNat (k + 1)
def g_il (i : Instr) (a : Nat) : Nat := match i with
  | .iload _ => 2 | .lload _ => 2 | .aload _ => 2 | .istore _ => 2 | .lstore _ => 2 | .astore _ => 2 | .bipush _ => 2 | .ldc _ => 2 | .newarray _ => 2
  | .sipush _ => 3 | .iinc _ _ => 3 | .getfield _ => 3 | .putfield _ => 3 | .invokevirtual _ => 3 | .invokestatic _ => 3 | .invokespecial _ => 3 | .goto _ => 3
  | .ifCond _ _ => 3 | .if_icmp _ _ => 3 | .if_acmp _ _ => 3 | .ifnull _ => 3 | .ifnonnull _ => 3 | .ldc_w _ => 3 | .ldc2_w _ => 3 | .new _ => 3 | .anewarray _ => 3 | .getstatic _ => 3 | .checkcast _ => 3
  | .multianewarray _ _ => 4
  | .tableswitch _ _ _ _ => a
  | .lookupswitch _ _ => a
  | _ => 1
/-- a field link: class, place of the field, place of the word * 4 + kind (0 a number, 1 a truth value, 2 a reference) -/
def g_okF (own : String) (idx ci k a3 : Nat) : Bool := match vwCl[ci]? with
  | some q => decide (ci < 20) && decide (k < q.2.2) && decide (tables_1[a3 / 4]? = some (.fieldLink own idx (q.2.1 k).1 (q.2.1 k).2.1 (q.2.1 k).2.2.1)) &&
      (match a3 % 4 with
       | 0 => decide (parseFieldDescriptor (q.2.1 k).2.2.1 = some .int) && decide ((q.2.1 k).2.2.2 = false)
       | 1 => decide (parseFieldDescriptor (q.2.1 k).2.2.1 = some .boolean) && decide ((q.2.1 k).2.2.2 = false)
       | _ => true)
  | none => false
def g_aux (own : String) (pc : Nat) (i : Instr) (a1 a2 a3 : Nat) : Bool := match i with
  | .getfield x => g_okF own x a1 a2 a3
  | .putfield x => g_okF own x a1 a2 a3
  | .iconst x => decide (Int32.ofInt x = g_ii x)
  | .bipush x => decide ((Int8.ofInt x).toInt32 = g_ii x)
  | .sipush x => decide ((Int16.ofInt x).toInt32 = g_ii x)
  | .iinc _ x => decide (Int32.ofInt x = g_ii x)
  | .goto x => decide ((pc : Int) + x = (a1 : Int))
  | .ifCond _ x => decide ((pc : Int) + x = (a1 : Int))
  | .if_icmp _ x => decide ((pc : Int) + x = (a1 : Int))
  | .ifnull x => decide ((pc : Int) + x = (a1 : Int))
  | .ifnonnull x => decide ((pc : Int) + x = (a1 : Int))
  | .ldc x => if a2 = 1 then decide ((g_strs[a3]?).map (fun e => (e.1, e.2.1, e.2.2.2)) = some (own, x, a1)) else decide (tables_1[a3]? = some (.constant own x (Int32.ofNat a1)))
  | .ldc_w x => if a2 = 1 then decide ((g_strs[a3]?).map (fun e => (e.1, e.2.1, e.2.2.2)) = some (own, x, a1)) else decide (tables_1[a3]? = some (.constant own x (Int32.ofNat a1)))
  | .ldc2_w x => decide (tables_1[a3]? = some (.constantLong own x (Int64.ofNat a1)))
  | _ => true
def g_chk (y : gY) (e : Nat × Instr × Nat × Nat × Nat) : Bool := decide (decode y.2.1 e.1 = .ok (e.2.1, g_il e.2.1 e.2.2.1)) && g_aux y.1.cls e.1 e.2.1 e.2.2.1 e.2.2.2.1 e.2.2.2.2
def g_yok (y : gY) : Prop := y.2.2.2.2.2.2.all (g_chk y) = true
def g_cd (k : gK) (pc : Nat) : Option (Instr × Nat × Nat × Nat) := match k with
  | [] => none
  | e :: r => if e.1 = pc then some e.2 else g_cd r pc
theorem g_cd_mem {k : gK} {pc : Nat} {q : Instr × Nat × Nat × Nat} (h : g_cd k pc = some q) : (pc, q) ∈ k := by
  induction k with
  | nil => cases h
  | cons e r ih =>
    unfold g_cd at h
    split at h
    · rename_i e1
      cases h
      subst e1
      exact List.mem_cons_self
    · exact List.mem_cons_of_mem _ (ih h)
theorem g_dec {y : gY} (hy : g_yok y) {pc : Nat} {q : Instr × Nat × Nat × Nat} (h : g_cd y.2.2.2.2.2.2 pc = some q) : decode y.2.1 pc = .ok (q.1, g_il q.1 q.2.1) ∧ g_aux y.1.cls pc q.1 q.2.1 q.2.2.1 q.2.2.2 = true := by
  have h1 := List.all_eq_true.mp hy _ (g_cd_mem h)
  unfold g_chk at h1
  simp only [Bool.and_eq_true, decide_eq_true_eq] at h1
  exact h1

def g_num (ci : Nat) : Nat := match ci with
  | 0 => 2
  | 1 => 8
  | 2 => 9
  | 3 => 3
  | 4 => 14
  | 5 => 8
  | 6 => 10
  | 7 => 2
  | 8 => 12
  | 9 => 9
  | 10 => 7
  | 11 => 18
  | 12 => 47
  | _ => 0
theorem g_num_ok : ∀ ci, ci < 13 → ∀ q, vwCl[ci]? = some q → q.2.2 = g_num ci := by
  intro ci h q hq
  match ci, h, hq with
  | 0, _, hq => cases hq; rfl
  | 1, _, hq => cases hq; rfl
  | 2, _, hq => cases hq; rfl
  | 3, _, hq => cases hq; rfl
  | 4, _, hq => cases hq; rfl
  | 5, _, hq => cases hq; rfl
  | 6, _, hq => cases hq; rfl
  | 7, _, hq => cases hq; rfl
  | 8, _, hq => cases hq; rfl
  | 9, _, hq => cases hq; rfl
  | 10, _, hq => cases hq; rfl
  | 11, _, hq => cases hq; rfl
  | 12, _, hq => cases hq; rfl
  | k + 13, h, _ => omega
def g_step (mL : Nat) (S : Nat → gT) (n : Nat) (i : Instr) (a1 a2 a3 : Nat) (pc : Nat) (ls : gL) (st : List Value) (M : gM) : Option gF := match i with
  | .iconst x => some (pc + 1, ls, .int (g_ii x) :: st, M)
  | .bipush x => some (pc + 2, ls, .int (g_ii x) :: st, M)
  | .sipush x => some (pc + 3, ls, .int (g_ii x) :: st, M)
  | .lconst x => some (pc + 1, ls, .long (Int64.ofNat x) :: st, M)
  | .iload_n k => (match g_lk ls k with | some (.int x) => some (pc + 1, ls, .int x :: st, M) | _ => none)
  | .iload k => (match g_lk ls k with | some (.int x) => some (pc + 2, ls, .int x :: st, M) | _ => none)
  | .lload_n k => (match g_lk ls k with | some (.long x) => some (pc + 1, ls, .long x :: st, M) | _ => none)
  | .lload k => (match g_lk ls k with | some (.long x) => some (pc + 2, ls, .long x :: st, M) | _ => none)
  | .aload_n k => (match g_lk ls k with | some (.ref x) => some (pc + 1, ls, .ref x :: st, M) | some (.retAddr x) => some (pc + 1, ls, .retAddr x :: st, M) | _ => none)
  | .aload k => (match g_lk ls k with | some (.ref x) => some (pc + 2, ls, .ref x :: st, M) | some (.retAddr x) => some (pc + 2, ls, .retAddr x :: st, M) | _ => none)
  | .istore_n k => (match st with | .int x :: st => if ((k : Nat) < mL) then some (pc + 1, g_st1 ls k (.int x), st, M) else none | _ => none)
  | .istore k => (match st with | .int x :: st => if (k < mL) then some (pc + 2, g_st1 ls k (.int x), st, M) else none | _ => none)
  | .lstore_n k => (match st with | .long x :: st => if ((k : Nat) + 1 < mL) then some (pc + 1, g_st2 ls k (.long x), st, M) else none | _ => none)
  | .lstore k => (match st with | .long x :: st => if (k + 1 < mL) then some (pc + 2, g_st2 ls k (.long x), st, M) else none | _ => none)
  | .astore_n k => (match st with | .ref x :: st => if ((k : Nat) < mL) then some (pc + 1, g_st1 ls k (.ref x), st, M) else none | _ => none)
  | .astore k => (match st with | .ref x :: st => if (k < mL) then some (pc + 2, g_st1 ls k (.ref x), st, M) else none | _ => none)
  | .iinc k x => (match g_lk ls k with | some (.int v) => if k < mL then some (pc + 3, g_st1 ls k (.int (v + g_ii x)), st, M) else none | _ => none)
  | .iadd => (match st with | .int z :: .int x :: st => some (pc + 1, ls, .int (x + z) :: st, M) | _ => none)
  | .isub => (match st with | .int z :: .int x :: st => some (pc + 1, ls, .int (x - z) :: st, M) | _ => none)
  | .imul => (match st with | .int z :: .int x :: st => some (pc + 1, ls, .int (x * z) :: st, M) | _ => none)
  | .iand => (match st with | .int z :: .int x :: st => some (pc + 1, ls, .int (x &&& z) :: st, M) | _ => none)
  | .ior => (match st with | .int z :: .int x :: st => some (pc + 1, ls, .int (x ||| z) :: st, M) | _ => none)
  | .ixor => (match st with | .int z :: .int x :: st => some (pc + 1, ls, .int (x ^^^ z) :: st, M) | _ => none)
  | .ishl => (match st with | .int z :: .int x :: st => some (pc + 1, ls, .int (x <<< (z &&& 31)) :: st, M) | _ => none)
  | .ishr => (match st with | .int z :: .int x :: st => some (pc + 1, ls, .int (x >>> (z &&& 31)) :: st, M) | _ => none)
  | .iushr => (match st with | .int z :: .int x :: st => some (pc + 1, ls, .int ((x.toUInt32 >>> (z.toUInt32 &&& Int32.toUInt32 31)).toInt32) :: st, M) | _ => none)
  | .ladd => (match st with | .long z :: .long x :: st => some (pc + 1, ls, .long (x + z) :: st, M) | _ => none)
  | .lsub => (match st with | .long z :: .long x :: st => some (pc + 1, ls, .long (x - z) :: st, M) | _ => none)
  | .lmul => (match st with | .long z :: .long x :: st => some (pc + 1, ls, .long (x * z) :: st, M) | _ => none)
  | .lcmp => (match st with | .long z :: .long x :: st => some (pc + 1, ls, .int (lg_cmp x z) :: st, M) | _ => none)
  | .ineg => (match st with | .int x :: st => some (pc + 1, ls, .int (-x) :: st, M) | _ => none)
  | .i2l => (match st with | .int x :: st => some (pc + 1, ls, .long x.toInt64 :: st, M) | _ => none)
  | .l2i => (match st with | .long x :: st => some (pc + 1, ls, .int x.toInt32 :: st, M) | _ => none)
  | .dup => (match st with | .int x :: st => some (pc + 1, ls, .int x :: .int x :: st, M) | .ref x :: st => some (pc + 1, ls, .ref x :: .ref x :: st, M) | _ => none)
  | .pop => (match st with | .int _ :: st => some (pc + 1, ls, st, M) | .ref _ :: st => some (pc + 1, ls, st, M) | _ => none)
  | .dup2 => (match st with | .int x :: .ref z :: st => some (pc + 1, ls, .int x :: .ref z :: .int x :: .ref z :: st, M) | _ => none)
  | .dup_x1 => (match st with | .int x :: .ref z :: st => some (pc + 1, ls, .int x :: .ref z :: .int x :: st, M) | _ => none)
  | .goto _ => some (a1, ls, st, M)
  | .ldc _ => if a2 = 1 then some (pc + 2, ls, .retAddr a1 :: st, M) else some (pc + 2, ls, .int (Int32.ofNat a1) :: st, M)
  | .ldc_w _ => if a2 = 1 then none else some (pc + 3, ls, .int (Int32.ofNat a1) :: st, M)
  | .ldc2_w _ => some (pc + 3, ls, .long (Int64.ofNat a1) :: st, M)
  | .getfield _ => (match st with | .ref a :: st => if a < n then (if (S a).1 = a1 ∧ (S a).2.1 = g_num a1 then some (pc + 3, ls, g_rv ((S a).2.2 a2) (M a a2) :: st, M) else none) else none | _ => none)
  | .putfield _ => (match st with | .int x :: .ref a :: st => if a < n then (if (S a).1 = a1 ∧ (S a).2.1 = g_num a1 ∧ (S a).2.2 a2 = 0 ∧ (a3 % 4 = 0 ∨ (a3 % 4 = 1 ∧ (x = 0 ∨ x = 1))) then some (pc + 3, ls, st, g_set M a a2 x) else none) else none | _ => none)
  | .ifnull _ => (match st with | .ref _ :: st => some (pc + 3, ls, st, M) | _ => none)
  | .ifnonnull _ => (match st with | .ref _ :: st => some (a1, ls, st, M) | _ => none)
  | _ => none
section GST
variable {l : Launch} {C : gC} {y : gY} {d : Nat} {Q : Option Value → gX → Prop} {QX : String → gX → Prop} {kc ks pc : Nat} {ls : gL} {st : List Value} {n sz : Nat} {S : Nat → gT} {M : gM}
theorem g_mem_tb {i : Nat} {w : Cond} (h : tables_1[i]? = some w) : w ∈ lw_tbl := List.mem_append_right _ (List.mem_of_getElem? h)
theorem g_S3 {S : Nat → gT} {a c N : Nat} (h1 : (S a).1 = c) (h2 : (S a).2.1 = N) : S a = (c, N, (S a).2.2) := by rw [← h1, ← h2]
theorem g_okF_out {own : String} {idx ci k a3 : Nat} (h : g_okF own idx ci k a3 = true) : ∃ (Cn : String) (T : u_T) (N : Nat), vwCl[ci]? = some (Cn, T, N) ∧ ci < 20 ∧ k < N ∧ N = g_num ci ∧ Cond.fieldLink own idx (T k).1 (T k).2.1 (T k).2.2.1 ∈ lw_tbl ∧
    (a3 % 4 = 0 → parseFieldDescriptor (T k).2.2.1 = some .int ∧ (T k).2.2.2 = false) ∧ (a3 % 4 = 1 → parseFieldDescriptor (T k).2.2.1 = some .boolean ∧ (T k).2.2.2 = false) := by
  unfold g_okF at h
  split at h
  · rename_i q hq
    obtain ⟨Cn, T, N⟩ := q
    simp only [Bool.and_eq_true, decide_eq_true_eq] at h
    obtain ⟨⟨⟨h1, h2⟩, h3⟩, h4⟩ := h
    have h13 : ci < 13 := (List.getElem?_eq_some_iff.mp hq).1
    refine ⟨Cn, T, N, hq, h1, h2, g_num_ok ci h13 _ hq, g_mem_tb h3, fun e => ?_, fun e => ?_⟩
    · rw [e] at h4
      simpa using h4
    · rw [e] at h4
      simpa using h4
  · cases h
theorem g_step_ok {i : Instr} {a1 a2 a3 : Nat} {f : gF} (hC : g_ctx l C) (hd : decode y.2.1 pc = .ok (i, g_il i a1)) (hx : g_aux y.1.cls pc i a1 a2 a3 = true) (h : g_step y.2.2.1 S n i a1 a2 a3 pc ls st M = some f)
    (k : GW l C y d Q QX kc ks f.1 f.2.1 f.2.2.1 (n, S, f.2.2.2, sz)) : GW l C y d Q QX kc ks pc ls st (n, S, M, sz) := by
  cases i
  case iconst x =>
    cases h
    exact gw_iconst hd (of_decide_eq_true hx) k
  case bipush x =>
    cases h
    exact gw_bipush hd (of_decide_eq_true hx) k
  case sipush x =>
    cases h
    exact gw_sipush hd (of_decide_eq_true hx) k
  case lconst x =>
    cases h
    exact gw_lconst hd rfl k
  case iload_n j =>
    unfold g_step at h; dsimp only at h
    split at h
    · rename_i e; cases h; exact gw_iload_n hd rfl e k
    · cases h
  case iload j =>
    unfold g_step at h; dsimp only at h
    split at h
    · rename_i e; cases h; exact gw_iload hd e k
    · cases h
  case lload_n j =>
    unfold g_step at h; dsimp only at h
    split at h
    · rename_i e; cases h; exact gw_lload_n hd rfl e k
    · cases h
  case lload j =>
    unfold g_step at h; dsimp only at h
    split at h
    · rename_i e; cases h; exact gw_lload hd e k
    · cases h
  case aload_n j =>
    unfold g_step at h; dsimp only at h
    split at h
    · rename_i e; cases h; exact gw_aload_n hd rfl e k
    · rename_i e; cases h; exact gw_aload_nS hd rfl e k
    · cases h
  case aload j =>
    unfold g_step at h; dsimp only at h
    split at h
    · rename_i e; cases h; exact gw_aload hd e k
    · rename_i e; cases h; exact gw_aloadS hd e k
    · cases h
  case istore_n j =>
    unfold g_step at h; dsimp only at h
    split at h
    · split at h
      · rename_i e; cases h; exact gw_istore_n hd rfl e k
      · cases h
    · cases h
  case istore j =>
    unfold g_step at h; dsimp only at h
    split at h
    · split at h
      · rename_i e; cases h; exact gw_istore hd e k
      · cases h
    · cases h
  case lstore_n j =>
    unfold g_step at h; dsimp only at h
    split at h
    · split at h
      · rename_i e; cases h; exact gw_lstore_n hd rfl e k
      · cases h
    · cases h
  case lstore j =>
    unfold g_step at h; dsimp only at h
    split at h
    · split at h
      · rename_i e; cases h; exact gw_lstore hd e k
      · cases h
    · cases h
  case astore_n j =>
    unfold g_step at h; dsimp only at h
    split at h
    · split at h
      · rename_i e; cases h; exact gw_astore_n hd rfl e k
      · cases h
    · cases h
  case astore j =>
    unfold g_step at h; dsimp only at h
    split at h
    · split at h
      · rename_i e; cases h; exact gw_astore hd e k
      · cases h
    · cases h
  case iinc j x =>
    unfold g_step at h; dsimp only at h
    split at h
    · rename_i e
      split at h
      · rename_i e2; cases h; exact gw_iinc hd e (by rw [of_decide_eq_true hx]) e2 k
      · cases h
    · cases h
  case iadd =>
    unfold g_step at h; dsimp only at h
    split at h
    · cases h; exact gw_iadd hd k
    · cases h
  case isub =>
    unfold g_step at h; dsimp only at h
    split at h
    · cases h; exact gw_isub hd k
    · cases h
  case imul =>
    unfold g_step at h; dsimp only at h
    split at h
    · cases h; exact gw_imul hd k
    · cases h
  case iand =>
    unfold g_step at h; dsimp only at h
    split at h
    · cases h; exact gw_iand hd k
    · cases h
  case ior =>
    unfold g_step at h; dsimp only at h
    split at h
    · cases h; exact gw_ior hd k
    · cases h
  case ixor =>
    unfold g_step at h; dsimp only at h
    split at h
    · cases h; exact gw_ixor hd k
    · cases h
  case ishl =>
    unfold g_step at h; dsimp only at h
    split at h
    · cases h; exact gw_ishl hd k
    · cases h
  case ishr =>
    unfold g_step at h; dsimp only at h
    split at h
    · cases h; exact gw_ishr hd k
    · cases h
  case iushr =>
    unfold g_step at h; dsimp only at h
    split at h
    · cases h; exact gw_iushr hd k
    · cases h
  case ladd =>
    unfold g_step at h; dsimp only at h
    split at h
    · cases h; exact gw_ladd hd k
    · cases h
  case lsub =>
    unfold g_step at h; dsimp only at h
    split at h
    · cases h; exact gw_lsub hd k
    · cases h
  case lmul =>
    unfold g_step at h; dsimp only at h
    split at h
    · cases h; exact gw_lmul hd k
    · cases h
  case lcmp =>
    unfold g_step at h; dsimp only at h
    split at h
    · cases h; exact gw_lcmp hd k
    · cases h
  case ineg =>
    unfold g_step at h; dsimp only at h
    split at h
    · cases h; exact gw_ineg hd k
    · cases h
  case i2l =>
    unfold g_step at h; dsimp only at h
    split at h
    · cases h; exact gw_i2l hd k
    · cases h
  case l2i =>
    unfold g_step at h; dsimp only at h
    split at h
    · cases h; exact gw_l2i hd k
    · cases h
  case dup =>
    unfold g_step at h; dsimp only at h
    split at h
    · cases h; exact gw_dup hd rfl k
    · cases h; exact gw_dup hd rfl k
    · cases h
  case pop =>
    unfold g_step at h; dsimp only at h
    split at h
    · cases h; exact gw_pop hd rfl k
    · cases h; exact gw_pop hd rfl k
    · cases h
  case dup2 =>
    unfold g_step at h; dsimp only at h
    split at h
    · cases h; exact gw_dup2 hd rfl rfl k
    · cases h
  case dup_x1 =>
    unfold g_step at h; dsimp only at h
    split at h
    · cases h; exact gw_dup_x1 hd rfl rfl k
    · cases h
  case goto x =>
    cases h
    exact gw_goto hd (of_decide_eq_true hx) k
  case ldc x =>
    unfold g_step at h; unfold g_aux at hx; dsimp only at h hx
    split at h
    · rename_i e
      rw [if_pos e] at hx
      cases h
      have h2 := of_decide_eq_true hx
      obtain ⟨e0, h3, h4⟩ := Option.map_eq_some_iff.mp h2
      obtain ⟨b1, b2, b3, b4⟩ := e0
      simp only [Prod.mk.injEq] at h4
      obtain ⟨rfl, rfl, rfl⟩ := h4
      exact gw_ldcS hC hd (List.mem_of_getElem? h3) k
    · rename_i e
      rw [if_neg e] at hx
      cases h
      exact gw_ldc hC hd (g_mem_tb (of_decide_eq_true hx)) k
  case ldc_w x =>
    unfold g_step at h; unfold g_aux at hx; dsimp only at h hx
    split at h
    · cases h
    · rename_i e
      rw [if_neg e] at hx
      cases h
      exact gw_ldcw hC hd (g_mem_tb (of_decide_eq_true hx)) k
  case ldc2_w x =>
    cases h
    exact gw_ldc2 hC hd (g_mem_tb (of_decide_eq_true hx)) k
  case getfield x =>
    obtain ⟨Cn, T, N, h1, h2, h3, h4, h5, -, -⟩ := g_okF_out hx
    unfold g_step at h; dsimp only at h
    split at h
    · split at h
      · rename_i ha
        split at h
        · rename_i e
          cases h
          exact gw_getfield hC hd h1 h2 h3 h5 ha (g_S3 e.1 (e.2.trans h4.symm)) k
        · cases h
      · cases h
    · cases h
  case putfield x =>
    obtain ⟨Cn, T, N, h1, h2, h3, h4, h5, h6, h7⟩ := g_okF_out hx
    unfold g_step at h; dsimp only at h
    split at h
    · split at h
      · rename_i ha
        split at h
        · rename_i e
          cases h
          obtain ⟨e1, e2, e3, e4⟩ := e
          rcases e4 with e4 | ⟨e4, e5⟩
          · exact gw_putfield hC hd h1 h2 h3 h5 (h6 e4).2 (h6 e4).1 rfl rfl ha (g_S3 e1 (e2.trans h4.symm)) e3 k
          · exact gw_putfield hC hd h1 h2 h3 h5 (h7 e4).2 (h7 e4).1 (by rcases e5 with rfl | rfl <;> rfl) (by rcases e5 with rfl | rfl <;> rfl) ha (g_S3 e1 (e2.trans h4.symm)) e3 k
        · cases h
      · cases h
    · cases h
  case ifnull x =>
    unfold g_step at h; dsimp only at h
    split at h
    · cases h; exact gw_ifnull hd k
    · cases h
  case ifnonnull x =>
    unfold g_step at h; dsimp only at h
    split at h
    · cases h; exact gw_ifnonnull hd (of_decide_eq_true hx) k
    · cases h
  all_goals cases h
def g_run (y : gY) (S : Nat → gT) (n : Nat) (m pc : Nat) (ls : gL) (st : List Value) (M : gM) : Option gF := match m with
  | 0 => some (pc, ls, st, M)
  | m + 1 => match g_cd y.2.2.2.2.2.2 pc with
    | some (i, a1, a2, a3) => (match g_step y.2.2.1 S n i a1 a2 a3 pc ls st M with
      | some (pc, ls, st, M) => g_run y S n m pc ls st M
      | none => none)
    | none => none
theorem gw_run (m : Nat) {f : gF} (hC : g_ctx l C) (hy : g_yok y) (h : g_run y S n m pc ls st M = some f) (k : GW l C y d Q QX kc ks f.1 f.2.1 f.2.2.1 (n, S, f.2.2.2, sz)) : GW l C y d Q QX kc ks pc ls st (n, S, M, sz) := by
  induction m generalizing pc ls st M with
  | zero => cases h; exact k
  | succ m ih =>
    unfold g_run at h
    split at h
    · rename_i i a1 a2 a3 hq
      split at h
      · rename_i f2 pc2 ls2 st2 M2 hs
        have hd := g_dec hy hq
        exact g_step_ok hC hd.1 hd.2 hs (ih h)
      · cases h
    · cases h
end GST
