/-! Rules that read the tables; contracts over the fixed layout. -/
def gQ (Q : Option Value → gM → Prop) (sz : Nat) : Option Value → gX → Prop := fun r X => ∃ M' : gM, X = (956, g_S0, M', sz) ∧ Q r M'
def gN : String → gX → Prop := fun _ _ => False
def gP (l : Launch) (C : gC) (y : gY) (d : Nat) (av : List Value) (M : gM) (sz : Nat) (Q : Option Value → gM → Prop) : Prop := gMet l C y d av (956, g_S0, M, sz) (gQ Q sz) gN
/-- of a method that may throw -/
def gQt (Q : Option Value → gM → Prop) : Option Value → gX → Prop := fun r X => ∃ (M' : gM) (sz : Nat), X = (956, g_S0, M', sz) ∧ Q r M'
def gNt (QX : String → gM → Prop) : String → gX → Prop := fun E X => ∃ (M' : gM) (sz : Nat), X = (956, g_S0, M', sz) ∧ QX E M'
def gPt (l : Launch) (C : gC) (y : gY) (d : Nat) (av : List Value) (M : gM) (sz : Nat) (Q : Option Value → gM → Prop) (QX : String → gM → Prop) : Prop := gMet l C y d av (956, g_S0, M, sz) (gQt Q) (gNt QX)
/-- what a callee needs of the tables -/
def g_kI (z : gY) (i j k : Nat) (na : Nat) : Prop := tables_1[i]? = some (.instanceMethod z.1) ∧ tables_1[j]? = some (.initialized z.1.cls) ∧ tables_1[k]? = some (g_w z) ∧ (z.1.cls ≠ "java/lang/invoke/MethodHandle" ∧ z.1.cls ≠ "java/lang/invoke/VarHandle" ∧ (parseMethodDescriptor z.1.desc).map (fun q => q.parameters.length) = some na) ∧ z.2.2.1 ≤ 21
def g_kS (z : gY) (i j k : Nat) (na : Nat) : Prop := tables_1[i]? = some (.static z.1) ∧ tables_1[j]? = some (.initialized z.1.cls) ∧ tables_1[k]? = some (g_w z) ∧ (z.1.cls ≠ "java/lang/invoke/MethodHandle" ∧ z.1.cls ≠ "java/lang/invoke/VarHandle" ∧ (parseMethodDescriptor z.1.desc).map (fun q => q.parameters.length) = some na) ∧ z.2.2.1 ≤ 21
def g_sel (z : gY) : Prop := Cond.selects z.1.cls z.1 z.1 ∈ lw_tbl
theorem g_sel_p {z : gY} {i : Nat} {q : MethodName × Nat} (h : lw_privs[i]? = some q) (e : q.1 = z.1) : g_sel z := by
  refine List.mem_append_left _ ?_
  unfold k2_sels
  exact List.mem_map.mpr ⟨q, List.mem_of_getElem? h, by rw [e]⟩
theorem g_sel_t {z : gY} {i : Nat} (h : tables_1[i]? = some (.selects z.1.cls z.1 z.1)) : g_sel z := g_mem_tb h
section GB
variable {l : Launch} {C : gC} {y z : gY} {d d2 : Nat} {Q Qz : Option Value → gX → Prop} {QX QXz : String → gX → Prop} {kc ks pc : Nat} {ls : gL} {st : List Value} {n sz : Nat} {S : Nat → gT} {M : gM} {X : gX} {a1 a2 a3 : Nat}
theorem gb_run (m : Nat) {pc2 : Nat} {ls2 : gL} {st2 : List Value} {M2 : gM} (hC : g_ctx l C) (hy : g_yok y) (h : g_run y S n m pc ls st M = some (pc2, ls2, st2, M2)) (k : GW l C y d Q QX kc ks pc2 ls2 st2 (n, S, M2, sz)) : GW l C y d Q QX kc ks pc ls st (n, S, M, sz) := gw_run m hC hy h k
theorem gb_if_eq {x : Int32} {off : Int} (hy : g_yok y) (hq : g_cd y.2.2.2.2.2.2 pc = some (.ifCond .eq off, a1, a2, a3)) (kt : x = 0 → GW l C y d Q QX kc ks a1 ls st X) (kf : ¬ (x = 0) → GW l C y d Q QX kc ks (pc + 3) ls st X) : GW l C y d Q QX kc ks pc ls (.int x :: st) X :=
  gw_if_eq (g_dec hy hq).1 (of_decide_eq_true (g_dec hy hq).2) kt kf
theorem gb_icmp_eq {x y2 : Int32} {off : Int} (hy : g_yok y) (hq : g_cd y.2.2.2.2.2.2 pc = some (.if_icmp .eq off, a1, a2, a3)) (kt : x = y2 → GW l C y d Q QX kc ks a1 ls st X) (kf : ¬ (x = y2) → GW l C y d Q QX kc ks (pc + 3) ls st X) : GW l C y d Q QX kc ks pc ls (.int y2 :: .int x :: st) X :=
  gw_icmp_eq (g_dec hy hq).1 (of_decide_eq_true (g_dec hy hq).2) kt kf
theorem gb_if_ne {x : Int32} {off : Int} (hy : g_yok y) (hq : g_cd y.2.2.2.2.2.2 pc = some (.ifCond .ne off, a1, a2, a3)) (kt : ¬ x = 0 → GW l C y d Q QX kc ks a1 ls st X) (kf : x = 0 → GW l C y d Q QX kc ks (pc + 3) ls st X) : GW l C y d Q QX kc ks pc ls (.int x :: st) X :=
  gw_if_ne (g_dec hy hq).1 (of_decide_eq_true (g_dec hy hq).2) kt kf
theorem gb_icmp_ne {x y2 : Int32} {off : Int} (hy : g_yok y) (hq : g_cd y.2.2.2.2.2.2 pc = some (.if_icmp .ne off, a1, a2, a3)) (kt : ¬ x = y2 → GW l C y d Q QX kc ks a1 ls st X) (kf : x = y2 → GW l C y d Q QX kc ks (pc + 3) ls st X) : GW l C y d Q QX kc ks pc ls (.int y2 :: .int x :: st) X :=
  gw_icmp_ne (g_dec hy hq).1 (of_decide_eq_true (g_dec hy hq).2) kt kf
theorem gb_if_lt {x : Int32} {off : Int} (hy : g_yok y) (hq : g_cd y.2.2.2.2.2.2 pc = some (.ifCond .lt off, a1, a2, a3)) (kt : x < 0 → GW l C y d Q QX kc ks a1 ls st X) (kf : ¬ (x < 0) → GW l C y d Q QX kc ks (pc + 3) ls st X) : GW l C y d Q QX kc ks pc ls (.int x :: st) X :=
  gw_if_lt (g_dec hy hq).1 (of_decide_eq_true (g_dec hy hq).2) kt kf
theorem gb_icmp_lt {x y2 : Int32} {off : Int} (hy : g_yok y) (hq : g_cd y.2.2.2.2.2.2 pc = some (.if_icmp .lt off, a1, a2, a3)) (kt : x < y2 → GW l C y d Q QX kc ks a1 ls st X) (kf : ¬ (x < y2) → GW l C y d Q QX kc ks (pc + 3) ls st X) : GW l C y d Q QX kc ks pc ls (.int y2 :: .int x :: st) X :=
  gw_icmp_lt (g_dec hy hq).1 (of_decide_eq_true (g_dec hy hq).2) kt kf
theorem gb_if_ge {x : Int32} {off : Int} (hy : g_yok y) (hq : g_cd y.2.2.2.2.2.2 pc = some (.ifCond .ge off, a1, a2, a3)) (kt : 0 ≤ x → GW l C y d Q QX kc ks a1 ls st X) (kf : ¬ (0 ≤ x) → GW l C y d Q QX kc ks (pc + 3) ls st X) : GW l C y d Q QX kc ks pc ls (.int x :: st) X :=
  gw_if_ge (g_dec hy hq).1 (of_decide_eq_true (g_dec hy hq).2) kt kf
theorem gb_icmp_ge {x y2 : Int32} {off : Int} (hy : g_yok y) (hq : g_cd y.2.2.2.2.2.2 pc = some (.if_icmp .ge off, a1, a2, a3)) (kt : y2 ≤ x → GW l C y d Q QX kc ks a1 ls st X) (kf : ¬ (y2 ≤ x) → GW l C y d Q QX kc ks (pc + 3) ls st X) : GW l C y d Q QX kc ks pc ls (.int y2 :: .int x :: st) X :=
  gw_icmp_ge (g_dec hy hq).1 (of_decide_eq_true (g_dec hy hq).2) kt kf
theorem gb_if_gt {x : Int32} {off : Int} (hy : g_yok y) (hq : g_cd y.2.2.2.2.2.2 pc = some (.ifCond .gt off, a1, a2, a3)) (kt : 0 < x → GW l C y d Q QX kc ks a1 ls st X) (kf : ¬ (0 < x) → GW l C y d Q QX kc ks (pc + 3) ls st X) : GW l C y d Q QX kc ks pc ls (.int x :: st) X :=
  gw_if_gt (g_dec hy hq).1 (of_decide_eq_true (g_dec hy hq).2) kt kf
theorem gb_icmp_gt {x y2 : Int32} {off : Int} (hy : g_yok y) (hq : g_cd y.2.2.2.2.2.2 pc = some (.if_icmp .gt off, a1, a2, a3)) (kt : y2 < x → GW l C y d Q QX kc ks a1 ls st X) (kf : ¬ (y2 < x) → GW l C y d Q QX kc ks (pc + 3) ls st X) : GW l C y d Q QX kc ks pc ls (.int y2 :: .int x :: st) X :=
  gw_icmp_gt (g_dec hy hq).1 (of_decide_eq_true (g_dec hy hq).2) kt kf
theorem gb_if_le {x : Int32} {off : Int} (hy : g_yok y) (hq : g_cd y.2.2.2.2.2.2 pc = some (.ifCond .le off, a1, a2, a3)) (kt : x ≤ 0 → GW l C y d Q QX kc ks a1 ls st X) (kf : ¬ (x ≤ 0) → GW l C y d Q QX kc ks (pc + 3) ls st X) : GW l C y d Q QX kc ks pc ls (.int x :: st) X :=
  gw_if_le (g_dec hy hq).1 (of_decide_eq_true (g_dec hy hq).2) kt kf
theorem gb_icmp_le {x y2 : Int32} {off : Int} (hy : g_yok y) (hq : g_cd y.2.2.2.2.2.2 pc = some (.if_icmp .le off, a1, a2, a3)) (kt : x ≤ y2 → GW l C y d Q QX kc ks a1 ls st X) (kf : ¬ (x ≤ y2) → GW l C y d Q QX kc ks (pc + 3) ls st X) : GW l C y d Q QX kc ks pc ls (.int y2 :: .int x :: st) X :=
  gw_icmp_le (g_dec hy hq).1 (of_decide_eq_true (g_dec hy hq).2) kt kf
theorem gb_iret {x : Int32} (hy : g_yok y) (hq : g_cd y.2.2.2.2.2.2 pc = some (.ireturn, a1, a2, a3)) (hr : y.2.2.2.1 = some .int) (hc : kc ≤ y.2.2.2.2.1) (hs : ks ≤ y.2.2.2.2.2.1) (h : Q (some (.int x)) X) : GW l C y d Q QX kc ks pc ls [.int x] X := gw_iret (g_dec hy hq).1 hr hc hs h
theorem gb_zret {x : Int32} (hy : g_yok y) (hq : g_cd y.2.2.2.2.2.2 pc = some (.ireturn, a1, a2, a3)) (hr : y.2.2.2.1 = some .boolean) (hc : kc ≤ y.2.2.2.2.1) (hs : ks ≤ y.2.2.2.2.2.1) (hx : x = 0 ∨ x = 1) (h : Q (some (.int x)) X) : GW l C y d Q QX kc ks pc ls [.int x] X := gw_zret (g_dec hy hq).1 hr hx hc hs h
theorem gb_vret (hy : g_yok y) (hq : g_cd y.2.2.2.2.2.2 pc = some (.return_, a1, a2, a3)) (hr : y.2.2.2.1 = none) (hc : kc ≤ y.2.2.2.2.1) (hs : ks ≤ y.2.2.2.2.2.1) (h : Q none X) : GW l C y d Q QX kc ks pc ls [] X := gw_vret (g_dec hy hq).1 hr hc hs h
theorem gb_lret {x : Int64} (hy : g_yok y) (hq : g_cd y.2.2.2.2.2.2 pc = some (.lreturn, a1, a2, a3)) (hr : y.2.2.2.1 = some .long) (hc : kc ≤ y.2.2.2.2.1) (hs : ks ≤ y.2.2.2.2.2.1) (h : Q (some (.long x)) X) : GW l C y d Q QX kc ks pc ls [.long x] X := gw_lret (g_dec hy hq).1 hr hc hs h
theorem gb_iaload {a nn : Nat} {rf : Nat → Nat} {i : Int32} (hC : g_ctx l C) (hy : g_yok y) (hq : g_cd y.2.2.2.2.2.2 pc = some (.iaload, a1, a2, a3)) (ha : a < n) (hS : S a = (20, nn, rf)) (hin : vp_in i nn) (k : GW l C y d Q QX kc ks (pc + 1) ls (.int (M a i.toNatClampNeg) :: st) (n, S, M, sz)) : GW l C y d Q QX kc ks pc ls (.int i :: .ref a :: st) (n, S, M, sz) := gw_iaload hC (g_dec hy hq).1 ha hS hin k
theorem gb_iastore {a nn : Nat} {rf : Nat → Nat} {i x : Int32} (hC : g_ctx l C) (hy : g_yok y) (hq : g_cd y.2.2.2.2.2.2 pc = some (.iastore, a1, a2, a3)) (ha : a < n) (hS : S a = (20, nn, rf)) (hin : vp_in i nn) (k : GW l C y d Q QX kc ks (pc + 1) ls st (n, S, g_set M a i.toNatClampNeg x, sz)) : GW l C y d Q QX kc ks pc ls (.int x :: .int i :: .ref a :: st) (n, S, M, sz) := gw_iastore hC (g_dec hy hq).1 ha hS hin k
theorem gb_aaload {a nn k0 q : Nat} {rf : Nat → Nat} {i : Int32} (hC : g_ctx l C) (hy : g_yok y) (hq : g_cd y.2.2.2.2.2.2 pc = some (.aaload, a1, a2, a3)) (ha : a < n) (hS : S a = (21 + k0, nn, rf)) (hk : k0 < 3) (hin : vp_in i nn) (hr : rf i.toNatClampNeg = q + 2) (k : GW l C y d Q QX kc ks (pc + 1) ls (.ref q :: st) (n, S, M, sz)) : GW l C y d Q QX kc ks pc ls (.int i :: .ref a :: st) (n, S, M, sz) := gw_aaload hC (g_dec hy hq).1 ha hS hk hin hr k
theorem gb_alen {a nn : Nat} {rf : Nat → Nat} (hC : g_ctx l C) (hy : g_yok y) (hq : g_cd y.2.2.2.2.2.2 pc = some (.arraylength, a1, a2, a3)) (ha : a < n) (hS : S a = (20, nn, rf)) (k : GW l C y d Q QX kc ks (pc + 1) ls (.int (nI nn) :: st) (n, S, M, sz)) : GW l C y d Q QX kc ks pc ls (.ref a :: st) (n, S, M, sz) := gw_alen hC (g_dec hy hq).1 ha hS rfl k
theorem gb_alenq {a nn k0 : Nat} {rf : Nat → Nat} (hC : g_ctx l C) (hy : g_yok y) (hq : g_cd y.2.2.2.2.2.2 pc = some (.arraylength, a1, a2, a3)) (ha : a < n) (hS : S a = (21 + k0, nn, rf)) (hk : k0 < 3) (k : GW l C y d Q QX kc ks (pc + 1) ls (.int (nI nn) :: st) (n, S, M, sz)) : GW l C y d Q QX kc ks pc ls (.ref a :: st) (n, S, M, sz) := gw_alenq hC (g_dec hy hq).1 ha hS hk rfl k
theorem gb_getf {a x N : Nat} {rf : Nat → Nat} (hC : g_ctx l C) (hy : g_yok y) (hq : g_cd y.2.2.2.2.2.2 pc = some (.getfield x, a1, a2, a3)) (ha : a < n) (hS : S a = (a1, N, rf)) (hN : N = g_num a1) (k : GW l C y d Q QX kc ks (pc + 3) ls (g_rv (rf a2) (M a a2) :: st) (n, S, M, sz)) : GW l C y d Q QX kc ks pc ls (.ref a :: st) (n, S, M, sz) := by
  obtain ⟨Cn, T, N2, h1, h2, h3, h4, h5, -, -⟩ := g_okF_out (g_dec hy hq).2
  exact gw_getfield hC (g_dec hy hq).1 h1 h2 h3 h5 ha (by rw [hS, hN, ← h4]) k
theorem gb_putf {a x N : Nat} {rf : Nat → Nat} {v : Int32} (hC : g_ctx l C) (hy : g_yok y) (hq : g_cd y.2.2.2.2.2.2 pc = some (.putfield x, a1, a2, a3)) (ha : a < n) (hS : S a = (a1, N, rf)) (hN : N = g_num a1) (hr : rf a2 = 0) (h3 : a3 % 4 = 0) (k : GW l C y d Q QX kc ks (pc + 3) ls st (n, S, g_set M a a2 v, sz)) : GW l C y d Q QX kc ks pc ls (.int v :: .ref a :: st) (n, S, M, sz) := by
  obtain ⟨Cn, T, N2, h1, h2, h3', h4, h5, h6, -⟩ := g_okF_out (g_dec hy hq).2
  exact gw_putfield hC (g_dec hy hq).1 h1 h2 h3' h5 (h6 h3).2 (h6 h3).1 rfl rfl ha (by rw [hS, hN, ← h4]) hr k
theorem gb_idiv {x y2 : Int32} (hy : g_yok y) (hq : g_cd y.2.2.2.2.2.2 pc = some (.idiv, a1, a2, a3)) (hne : ¬ y2 = 0) (k : GW l C y d Q QX kc ks (pc + 1) ls (.int (x / y2) :: st) X) : GW l C y d Q QX kc ks pc ls (.int y2 :: .int x :: st) X := gw_idiv (g_dec hy hq).1 hne k
theorem gb_irem {x y2 : Int32} (hy : g_yok y) (hq : g_cd y.2.2.2.2.2.2 pc = some (.irem, a1, a2, a3)) (hne : ¬ y2 = 0) (k : GW l C y d Q QX kc ks (pc + 1) ls (.int (x - x / y2 * y2) :: st) X) : GW l C y d Q QX kc ks pc ls (.int y2 :: .int x :: st) X := gw_irem (g_dec hy hq).1 hne k
theorem gb_ldiv {x y2 : Int64} (hy : g_yok y) (hq : g_cd y.2.2.2.2.2.2 pc = some (.ldiv, a1, a2, a3)) (hne : ¬ y2 = 0) (k : GW l C y d Q QX kc ks (pc + 1) ls (.long (x / y2) :: st) X) : GW l C y d Q QX kc ks pc ls (.long y2 :: .long x :: st) X := gw_ldiv (g_dec hy hq).1 hne k
theorem gb_lrem {x y2 : Int64} (hy : g_yok y) (hq : g_cd y.2.2.2.2.2.2 pc = some (.lrem, a1, a2, a3)) (hne : ¬ y2 = 0) (k : GW l C y d Q QX kc ks (pc + 1) ls (.long (x - x / y2 * y2) :: st) X) : GW l C y d Q QX kc ks pc ls (.long y2 :: .long x :: st) X := gw_lrem (g_dec hy hq).1 hne k
theorem gb_tblIn {dflt lo hi : Int} {offs : Array Int} {x : Int32} {off : Int} {tgt : Nat} (hy : g_yok y) (hq : g_cd y.2.2.2.2.2.2 pc = some (.tableswitch dflt lo hi offs, a1, a2, a3)) (h1 : ¬ x.toInt < lo) (h2 : ¬ hi < x.toInt) (ho : offs[(x.toInt - lo).toNat]? = some off) (ht : (pc : Int) + off = (tgt : Int)) (k : GW l C y d Q QX kc ks tgt ls st X) : GW l C y d Q QX kc ks pc ls (.int x :: st) X := gw_tableIn (g_dec hy hq).1 h1 h2 ho ht k
theorem gb_tblOut {dflt lo hi : Int} {offs : Array Int} {x : Int32} {tgt : Nat} (hy : g_yok y) (hq : g_cd y.2.2.2.2.2.2 pc = some (.tableswitch dflt lo hi offs, a1, a2, a3)) (hx : x.toInt < lo ∨ hi < x.toInt) (ht : (pc : Int) + dflt = (tgt : Int)) (k : GW l C y d Q QX kc ks tgt ls st X) : GW l C y d Q QX kc ks pc ls (.int x :: st) X := gw_tableOut (g_dec hy hq).1 hx ht k
theorem gb_lkp {dflt : Int} {ps : Array (Int × Int)} {x : Int32} {off : Int} {tgt : Nat} (hy : g_yok y) (hq : g_cd y.2.2.2.2.2.2 pc = some (.lookupswitch dflt ps, a1, a2, a3)) (hp : (ps.toList.zip (ps.toList.drop 1)).all (fun (a, next) => a.1 < next.1) = true) (ho : Op.lookupswitch.offset ps.toList dflt x.toInt = off) (ht : (pc : Int) + off = (tgt : Int)) (k : GW l C y d Q QX kc ks tgt ls st X) : GW l C y d Q QX kc ks pc ls (.int x :: st) X := gw_lookup (g_dec hy hq).1 hp ho ht k
theorem gb_cV {a ci N idx na pl i j k0 : Nat} {T : u_T} {rf : Nat → Nat} {av rest : List Value} (hC : g_ctx l C) (hy : g_yok y) (hq : g_cd y.2.2.2.2.2.2 pc = some (.invokevirtual idx, a1, a2, a3)) (hk : g_kI z i j k0 na) (hse : g_sel z) (hlk : tables_1[pl]? = some (.methodLink y.1.cls idx z.1)) (hM : gMet l C z d2 (.ref a :: av) X Qz QXz) (hdd : d2 + 1 ≤ d)
    (hcl : vwCl[ci]? = some (z.1.cls, T, N)) (hci : ci < 20) (ha : a < X.1) (hS : X.2.1 a = (ci, N, rf)) (hlen : av.length = na) (hst : st = av.reverse ++ .ref a :: rest) (hrest : (rest.map fun v => v.category).sum ≤ 8) (hcost : kc + z.2.2.2.2.1 ≤ y.2.2.2.2.1 ∧ ks + z.2.2.2.2.2.1 ≤ y.2.2.2.2.2.1)
    (kx : ∀ E X', QXz E X' → QX E X') (kk : ∀ r X', Qz r X' → GW l C y d Q QX (kc + z.2.2.2.2.1) (ks + z.2.2.2.2.2.1) (pc + 3) ls (r.toList ++ rest) X') : GW l C y d Q QX kc ks pc ls st X :=
  gw_invV hC hM (g_dec hy hq).1 (g_mem_tb hlk) (g_mem_tb hk.1) hse (g_mem_tb hk.2.1) (g_mem_tb hk.2.2.1) hk.2.2.2.1 hdd hk.2.2.2.2 hcl hci ha hS hlen hst hrest hcost kx kk
theorem gb_cVN {a ci N idx na pl i j k0 : Nat} {host : String} {T : u_T} {rf : Nat → Nat} {av rest : List Value} (hC : g_ctx l C) (hy : g_yok y) (hq : g_cd y.2.2.2.2.2.2 pc = some (.invokevirtual idx, a1, a2, a3)) (hk : g_kI z i j k0 na) (hse : g_sel z) (hlk : tables_1[pl]? = some (.methodLinkNest y.1.cls idx z.1 host)) (hM : gMet l C z d2 (.ref a :: av) X Qz gN) (hdd : d2 + 1 ≤ d)
    (hcl : vwCl[ci]? = some (z.1.cls, T, N)) (hci : ci < 20) (ha : a < X.1) (hS : X.2.1 a = (ci, N, rf)) (hlen : av.length = na) (hst : st = av.reverse ++ .ref a :: rest) (hrest : (rest.map fun v => v.category).sum ≤ 8) (hcost : kc + z.2.2.2.2.1 ≤ y.2.2.2.2.1 ∧ ks + z.2.2.2.2.2.1 ≤ y.2.2.2.2.2.1)
    (kk : ∀ r X', Qz r X' → GW l C y d Q QX (kc + z.2.2.2.2.1) (ks + z.2.2.2.2.2.1) (pc + 3) ls (r.toList ++ rest) X') : GW l C y d Q QX kc ks pc ls st X :=
  gw_invVN hC hM (fun _ _ h => h) (g_dec hy hq).1 (g_mem_tb hlk) (g_mem_tb hk.1) hse (g_mem_tb hk.2.1) (g_mem_tb hk.2.2.1) hk.2.2.2.1 hdd hk.2.2.2.2 hcl hci ha hS hlen hst hrest hcost kk
theorem gb_cS {idx na pl i j k0 : Nat} {av rest : List Value} (hC : g_ctx l C) (hy : g_yok y) (hq : g_cd y.2.2.2.2.2.2 pc = some (.invokestatic idx, a1, a2, a3)) (hk : g_kS z i j k0 na) (hlk : tables_1[pl]? = some (.methodLink y.1.cls idx z.1)) (hM : gMet l C z d2 av X Qz QXz) (hdd : d2 + 1 ≤ d)
    (hlen : av.length = na) (hst : st = av.reverse ++ rest) (hrest : (rest.map fun v => v.category).sum ≤ 8) (hcost : kc + z.2.2.2.2.1 ≤ y.2.2.2.2.1 ∧ ks + z.2.2.2.2.2.1 ≤ y.2.2.2.2.2.1)
    (kx : ∀ E X', QXz E X' → QX E X') (kk : ∀ r X', Qz r X' → GW l C y d Q QX (kc + z.2.2.2.2.1) (ks + z.2.2.2.2.2.1) (pc + 3) ls (r.toList ++ rest) X') : GW l C y d Q QX kc ks pc ls st X :=
  gw_invS hC hM (g_dec hy hq).1 (g_mem_tb hlk) (g_mem_tb hk.1) (g_mem_tb hk.2.1) (g_mem_tb hk.2.2.1) hk.2.2.2.1 hdd hk.2.2.2.2 hlen hst hrest hcost kx kk
theorem gb_cSN {idx na pl i j k0 : Nat} {host : String} {av rest : List Value} (hC : g_ctx l C) (hy : g_yok y) (hq : g_cd y.2.2.2.2.2.2 pc = some (.invokestatic idx, a1, a2, a3)) (hk : g_kS z i j k0 na) (hlk : tables_1[pl]? = some (.methodLinkNest y.1.cls idx z.1 host)) (hM : gMet l C z d2 av X Qz gN) (hdd : d2 + 1 ≤ d)
    (hlen : av.length = na) (hst : st = av.reverse ++ rest) (hrest : (rest.map fun v => v.category).sum ≤ 8) (hcost : kc + z.2.2.2.2.1 ≤ y.2.2.2.2.1 ∧ ks + z.2.2.2.2.2.1 ≤ y.2.2.2.2.2.1)
    (kk : ∀ r X', Qz r X' → GW l C y d Q QX (kc + z.2.2.2.2.1) (ks + z.2.2.2.2.2.1) (pc + 3) ls (r.toList ++ rest) X') : GW l C y d Q QX kc ks pc ls st X :=
  gw_invSN hC hM (fun _ _ h => h) (g_dec hy hq).1 (g_mem_tb hlk) (g_mem_tb hk.1) (g_mem_tb hk.2.1) (g_mem_tb hk.2.2.1) hk.2.2.2.1 hdd hk.2.2.2.2 hlen hst hrest hcost kk
theorem gP.of {av : List Value} {Q : Option Value → gM → Prop} (hy : plainName y.1.cls = true) (hl : (lg_sl (av.map (g_up C))).length ≤ y.2.2.1) (hls : lv_args 0 (av.map (g_up C)) = ls.map (fun q => (q.1, g_up C q.2))) (k : GW l C y d (gQ Q sz) gN 0 0 0 ls [] (956, g_S0, M, sz)) : gP l C y d av M sz Q := gMet.of hy hl hls k
theorem gPt.of {av : List Value} {Q : Option Value → gM → Prop} {QX : String → gM → Prop} (hy : plainName y.1.cls = true) (hl : (lg_sl (av.map (g_up C))).length ≤ y.2.2.1) (hls : lv_args 0 (av.map (g_up C)) = ls.map (fun q => (q.1, g_up C q.2))) (k : GW l C y d (gQt Q) (gNt QX) 0 0 0 ls [] (956, g_S0, M, sz)) : gPt l C y d av M sz Q QX := gMet.of hy hl hls k
end GB
theorem kX11_init : g_kI qX11_init 28 1 29 0 := by unfold g_kI; decide +kernel
theorem kX11_feed : g_kI qX11_feed 535 1 537 5 := by unfold g_kI; decide +kernel
theorem sX11_feed : g_sel qX11_feed := g_sel_t (i := 536) (by decide +kernel)
theorem kX11_park : g_kI qX11_park 650 1 652 1 := by unfold g_kI; decide +kernel
theorem sX11_park : g_sel qX11_park := g_sel_t (i := 651) (by decide +kernel)
theorem kX11_law : g_kI qX11_law 868 1 870 1 := by unfold g_kI; decide +kernel
theorem sX11_law : g_sel qX11_law := g_sel_t (i := 869) (by decide +kernel)
theorem kX11_work : g_kI qX11_work 930 1 932 1 := by unfold g_kI; decide +kernel
theorem sX11_work : g_sel qX11_work := g_sel_t (i := 931) (by decide +kernel)
theorem kX11_songs : g_kI qX11_songs 996 1 998 1 := by unfold g_kI; decide +kernel
theorem sX11_songs : g_sel qX11_songs := g_sel_t (i := 997) (by decide +kernel)
theorem kX11_fault : g_kI qX11_fault 546 1 548 0 := by unfold g_kI; decide +kernel
theorem sX11_fault : g_sel qX11_fault := g_sel_t (i := 547) (by decide +kernel)
theorem kX11_undo : g_kI qX11_undo 550 1 552 0 := by unfold g_kI; decide +kernel
theorem sX11_undo : g_sel qX11_undo := g_sel_t (i := 551) (by decide +kernel)
theorem kX11_told : g_kI qX11_told 1027 1 1029 1 := by unfold g_kI; decide +kernel
theorem sX11_told : g_sel qX11_told := g_sel_t (i := 1028) (by decide +kernel)
theorem kX11_walk : g_kI qX11_walk 1039 1 1041 2 := by unfold g_kI; decide +kernel
theorem sX11_walk : g_sel qX11_walk := g_sel_t (i := 1040) (by decide +kernel)
theorem kX11_child : g_kI qX11_child 1067 1 1069 2 := by unfold g_kI; decide +kernel
theorem sX11_child : g_sel qX11_child := g_sel_t (i := 1068) (by decide +kernel)
theorem kX11_hoop : g_kI qX11_hoop 1074 1 1076 2 := by unfold g_kI; decide +kernel
theorem sX11_hoop : g_sel qX11_hoop := g_sel_t (i := 1075) (by decide +kernel)
theorem kX11_minutes : g_kI qX11_minutes 1081 1 1083 3 := by unfold g_kI; decide +kernel
theorem sX11_minutes : g_sel qX11_minutes := g_sel_t (i := 1082) (by decide +kernel)
theorem kX11_would : g_kI qX11_would 1089 1 1091 7 := by unfold g_kI; decide +kernel
theorem sX11_would : g_sel qX11_would := g_sel_t (i := 1090) (by decide +kernel)
theorem kX11_lasts : g_kI qX11_lasts 1097 1 1099 2 := by unfold g_kI; decide +kernel
theorem sX11_lasts : g_sel qX11_lasts := g_sel_t (i := 1098) (by decide +kernel)
theorem kX11_ahead : g_kI qX11_ahead 1108 1 1110 2 := by unfold g_kI; decide +kernel
theorem sX11_ahead : g_sel qX11_ahead := g_sel_t (i := 1109) (by decide +kernel)
theorem kX11_due : g_kI qX11_due 1115 1 1117 1 := by unfold g_kI; decide +kernel
theorem sX11_due : g_sel qX11_due := g_sel_t (i := 1116) (by decide +kernel)
theorem kX11_hour : g_kI qX11_hour 1126 1 1128 1 := by unfold g_kI; decide +kernel
theorem sX11_hour : g_sel qX11_hour := g_sel_t (i := 1127) (by decide +kernel)
theorem kX11_late : g_kI qX11_late 565 1 567 0 := by unfold g_kI; decide +kernel
theorem sX11_late : g_sel qX11_late := g_sel_t (i := 566) (by decide +kernel)
theorem kX11_match : g_kI qX11_match 1133 1 1135 2 := by unfold g_kI; decide +kernel
theorem sX11_match : g_sel qX11_match := g_sel_t (i := 1134) (by decide +kernel)
theorem kX11_matched : g_kI qX11_matched 1190 1 1192 3 := by unfold g_kI; decide +kernel
theorem sX11_matched : g_sel qX11_matched := g_sel_t (i := 1191) (by decide +kernel)
theorem kX11_fits : g_kI qX11_fits 1197 1 1199 1 := by unfold g_kI; decide +kernel
theorem sX11_fits : g_sel qX11_fits := g_sel_t (i := 1198) (by decide +kernel)
theorem kX11_listen : g_kI qX11_listen 1216 1 1218 1 := by unfold g_kI; decide +kernel
theorem sX11_listen : g_sel qX11_listen := g_sel_t (i := 1217) (by decide +kernel)
theorem kX11_safe : g_kI qX11_safe 1240 1 1242 2 := by unfold g_kI; decide +kernel
theorem sX11_safe : g_sel qX11_safe := g_sel_t (i := 1241) (by decide +kernel)
theorem kX11_mean : g_kI qX11_mean 1252 1 1254 2 := by unfold g_kI; decide +kernel
theorem sX11_mean : g_sel qX11_mean := g_sel_t (i := 1253) (by decide +kernel)
theorem kX11_stands : g_kI qX11_stands 1259 1 1261 3 := by unfold g_kI; decide +kernel
theorem sX11_stands : g_sel qX11_stands := g_sel_t (i := 1260) (by decide +kernel)
theorem kX11_cover : g_kI qX11_cover 1266 1 1268 1 := by unfold g_kI; decide +kernel
theorem sX11_cover : g_sel qX11_cover := g_sel_t (i := 1267) (by decide +kernel)
theorem kX11_watch : g_kI qX11_watch 1279 1 1281 2 := by unfold g_kI; decide +kernel
theorem sX11_watch : g_sel qX11_watch := g_sel_t (i := 1280) (by decide +kernel)
theorem kX11_toffee : g_kI qX11_toffee 1291 1 1293 3 := by unfold g_kI; decide +kernel
theorem sX11_toffee : g_sel qX11_toffee := g_sel_t (i := 1292) (by decide +kernel)
theorem kX11_share : g_kI qX11_share 1304 1 1306 3 := by unfold g_kI; decide +kernel
theorem sX11_share : g_sel qX11_share := g_sel_t (i := 1305) (by decide +kernel)
theorem kX11_quickest : g_kI qX11_quickest 1316 1 1318 2 := by unfold g_kI; decide +kernel
theorem sX11_quickest : g_sel qX11_quickest := g_sel_t (i := 1317) (by decide +kernel)
theorem kX11_debtor : g_kI qX11_debtor 1323 1 1325 1 := by unfold g_kI; decide +kernel
theorem sX11_debtor : g_sel qX11_debtor := g_sel_t (i := 1324) (by decide +kernel)
theorem kX11_idle : g_kI qX11_idle 618 1 620 0 := by unfold g_kI; decide +kernel
theorem sX11_idle : g_sel qX11_idle := g_sel_t (i := 619) (by decide +kernel)
theorem kX11_bowls : g_kI qX11_bowls 1330 1 1332 2 := by unfold g_kI; decide +kernel
theorem sX11_bowls : g_sel qX11_bowls := g_sel_t (i := 1331) (by decide +kernel)
theorem kX11_load : g_kI qX11_load 1337 1 1339 1 := by unfold g_kI; decide +kernel
theorem sX11_load : g_sel qX11_load := g_sel_t (i := 1338) (by decide +kernel)
theorem kX11_slowest : g_kI qX11_slowest 1344 1 1346 1 := by unfold g_kI; decide +kernel
theorem sX11_slowest : g_sel qX11_slowest := g_sel_t (i := 1345) (by decide +kernel)
theorem kX11_days : g_kI qX11_days 1351 1 1353 4 := by unfold g_kI; decide +kernel
theorem sX11_days : g_sel qX11_days := g_sel_t (i := 1352) (by decide +kernel)
theorem kX11_span : g_kI qX11_span 1370 1 1372 5 := by unfold g_kI; decide +kernel
theorem sX11_span : g_sel qX11_span := g_sel_t (i := 1371) (by decide +kernel)
theorem kX11_image : g_kI qX11_image 626 1 628 0 := by unfold g_kI; decide +kernel
theorem sX11_image : g_sel qX11_image := g_sel_t (i := 627) (by decide +kernel)
theorem kX11_restore : g_kI qX11_restore 634 1 636 0 := by unfold g_kI; decide +kernel
theorem sX11_restore : g_sel qX11_restore := g_sel_t (i := 635) (by decide +kernel)
theorem kX11_status : g_kI qX11_status 638 1 640 1 := by unfold g_kI; decide +kernel
theorem sX11_status : g_sel qX11_status := g_sel_t (i := 639) (by decide +kernel)
theorem kX11_count : g_kI qX11_count 642 1 644 1 := by unfold g_kI; decide +kernel
theorem sX11_count : g_sel qX11_count := g_sel_t (i := 643) (by decide +kernel)
theorem kX11_needOne : g_kI qX11_needOne 1044 1 1045 2 := by unfold g_kI; decide +kernel
theorem sX11_needOne : g_sel qX11_needOne := g_sel_p (i := 23) (by rfl) rfl
theorem kX11_needIn : g_kI qX11_needIn 660 1 661 3 := by unfold g_kI; decide +kernel
theorem sX11_needIn : g_sel qX11_needIn := g_sel_p (i := 4) (by rfl) rfl
theorem kX11_needBits : g_kI qX11_needBits 1138 1 1139 2 := by unfold g_kI; decide +kernel
theorem sX11_needBits : g_sel qX11_needBits := g_sel_p (i := 24) (by rfl) rfl
theorem kX11_needText : g_kI qX11_needText 655 1 656 2 := by unfold g_kI; decide +kernel
theorem sX11_needText : g_sel qX11_needText := g_sel_p (i := 3) (by rfl) rfl
theorem kX11_allOf : g_kS qX11_allOf 1141 1 1142 1 := by unfold g_kS; decide +kernel
theorem kX11_hasBit : g_kS qX11_hasBit 1153 1 1154 2 := by unfold g_kS; decide +kernel
theorem kX11_partOf : g_kS qX11_partOf 1246 1 1247 3 := by unfold g_kS; decide +kernel
theorem kX11_gain : g_kS qX11_gain 1298 1 1299 3 := by unfold g_kS; decide +kernel
theorem kX11_rests : g_kS qX11_rests 1295 1 1296 4 := by unfold g_kS; decide +kernel
theorem kX11_at : g_kS qX11_at 582 1 583 2 := by unfold g_kS; decide +kernel
theorem kX11_put : g_kS qX11_put 543 1 544 3 := by unfold g_kS; decide +kernel
theorem kX11_fill : g_kS qX11_fill 209 1 210 2 := by unfold g_kS; decide +kernel
theorem kX11_copyRow : g_kS qX11_copyRow 562 1 563 2 := by unfold g_kS; decide +kernel
theorem kX12_init : g_kI qX12_init 1378 13 1379 0 := by unfold g_kI; decide +kernel
theorem kX12_tellsNothing : g_kI qX12_tellsNothing 1385 13 1386 0 := by unfold g_kI; decide +kernel
theorem sX12_tellsNothing : g_sel qX12_tellsNothing := g_sel_p (i := 34) (by rfl) rfl
theorem kX12_thrown : g_kI qX12_thrown 1537 13 1539 0 := by unfold g_kI; decide +kernel
theorem sX12_thrown : g_sel qX12_thrown := g_sel_t (i := 1538) (by decide +kernel)
theorem kX12_bad : g_kI qX12_bad 1553 13 1554 3 := by unfold g_kI; decide +kernel
theorem sX12_bad : g_sel qX12_bad := g_sel_p (i := 36) (by rfl) rfl
theorem kX12_in : g_kS qX12_in 1549 13 1550 3 := by unfold g_kS; decide +kernel
theorem kX12_less : g_kS qX12_less 1710 13 1711 2 := by unfold g_kS; decide +kernel
theorem kX12_more : g_kS qX12_more 1704 13 1705 2 := by unfold g_kS; decide +kernel
theorem kX12_has : g_kS qX12_has 1654 13 1655 2 := by unfold g_kS; decide +kernel
theorem kX12_feed : g_kI qX12_feed 1541 13 1543 5 := by unfold g_kI; decide +kernel
theorem sX12_feed : g_sel qX12_feed := g_sel_t (i := 1542) (by decide +kernel)
theorem kX12_byteAt : g_kI qX12_byteAt 1565 13 1566 1 := by unfold g_kI; decide +kernel
theorem sX12_byteAt : g_sel qX12_byteAt := g_sel_p (i := 39) (by rfl) rfl
theorem kX12_blanks : g_kI qX12_blanks 1561 13 1562 0 := by unfold g_kI; decide +kernel
theorem sX12_blanks : g_sel qX12_blanks := g_sel_p (i := 38) (by rfl) rfl
theorem kX12_wrong : g_kI qX12_wrong 1591 13 1592 2 := by unfold g_kI; decide +kernel
theorem sX12_wrong : g_sel qX12_wrong := g_sel_p (i := 44) (by rfl) rfl
theorem kX12_isDigit : g_kS qX12_isDigit 1602 13 1603 1 := by unfold g_kS; decide +kernel
theorem kX12_isSmall : g_kS qX12_isSmall 1584 13 1585 1 := by unfold g_kS; decide +kernel
theorem kX12_number : g_kI qX12_number 1599 13 1600 2 := by unfold g_kI; decide +kernel
theorem sX12_number : g_sel qX12_number := g_sel_p (i := 46) (by rfl) rfl
theorem kX12_wordHere : g_kI qX12_wordHere 1581 13 1582 0 := by unfold g_kI; decide +kernel
theorem sX12_wordHere : g_sel qX12_wordHere := g_sel_p (i := 43) (by rfl) rfl
theorem kX12_six : g_kS qX12_six 1587 13 1588 6 := by unfold g_kS; decide +kernel
theorem kX12_isWord : g_kI qX12_isWord 1577 13 1578 6 := by unfold g_kI; decide +kernel
theorem sX12_isWord : g_sel qX12_isWord := g_sel_p (i := 42) (by rfl) rfl
theorem kX12_skipWord : g_kI qX12_skipWord 1595 13 1596 0 := by unfold g_kI; decide +kernel
theorem sX12_skipWord : g_sel qX12_skipWord := g_sel_p (i := 45) (by rfl) rfl
theorem kX12_takes : g_kI qX12_takes 1643 13 1644 6 := by unfold g_kI; decide +kernel
theorem sX12_takes : g_sel qX12_takes := g_sel_p (i := 55) (by rfl) rfl
theorem kX12_sign : g_kI qX12_sign 1607 13 1608 1 := by unfold g_kI; decide +kernel
theorem sX12_sign : g_sel qX12_sign := g_sel_p (i := 47) (by rfl) rfl
theorem kX12_takesSign : g_kI qX12_takesSign 1647 13 1648 1 := by unfold g_kI; decide +kernel
theorem sX12_takesSign : g_sel qX12_takesSign := g_sel_p (i := 56) (by rfl) rfl
theorem kX12_starts : g_kI qX12_starts 1557 13 1558 1 := by unfold g_kI; decide +kernel
theorem sX12_starts : g_sel qX12_starts := g_sel_p (i := 37) (by rfl) rfl
theorem kX12_ends : g_kI qX12_ends 1611 13 1612 0 := by unfold g_kI; decide +kernel
theorem sX12_ends : g_sel qX12_ends := g_sel_p (i := 48) (by rfl) rfl
theorem kX12_kindHere : g_kI qX12_kindHere 1573 13 1574 0 := by unfold g_kI; decide +kernel
theorem sX12_kindHere : g_sel qX12_kindHere := g_sel_p (i := 41) (by rfl) rfl
theorem kX12_clause : g_kI qX12_clause 1569 13 1570 0 := by unfold g_kI; decide +kernel
theorem sX12_clause : g_sel qX12_clause := g_sel_p (i := 40) (by rfl) rfl
theorem kX12_park : g_kI qX12_park 1545 13 1547 1 := by unfold g_kI; decide +kernel
theorem sX12_park : g_sel qX12_park := g_sel_t (i := 1546) (by decide +kernel)
theorem kX12_lays : g_kS qX12_lays 1392 13 1393 3 := by unfold g_kS; decide +kernel
theorem kX12_copies : g_kS qX12_copies 1673 13 1674 2 := by unfold g_kS; decide +kernel
theorem kX12_beginsAnew : g_kI qX12_beginsAnew 1389 13 1390 0 := by unfold g_kI; decide +kernel
theorem sX12_beginsAnew : g_sel qX12_beginsAnew := g_sel_p (i := 35) (by rfl) rfl
theorem kX12_notes : g_kI qX12_notes 1635 13 1636 2 := by unfold g_kI; decide +kernel
theorem sX12_notes : g_sel qX12_notes := g_sel_p (i := 53) (by rfl) rfl
theorem kX12_opensOne : g_kI qX12_opensOne 1631 13 1632 0 := by unfold g_kI; decide +kernel
theorem sX12_opensOne : g_sel qX12_opensOne := g_sel_p (i := 52) (by rfl) rfl
theorem kX12_sum : g_kI qX12_sum 1619 13 1620 0 := by unfold g_kI; decide +kernel
theorem sX12_sum : g_sel qX12_sum := g_sel_p (i := 49) (by rfl) rfl
theorem kX12_product : g_kI qX12_product 1623 13 1624 0 := by unfold g_kI; decide +kernel
theorem sX12_product : g_sel qX12_product := g_sel_p (i := 50) (by rfl) rfl
theorem kX12_knownHere : g_kI qX12_knownHere 1639 13 1640 0 := by unfold g_kI; decide +kernel
theorem sX12_knownHere : g_sel qX12_knownHere := g_sel_p (i := 54) (by rfl) rfl
theorem kX12_one : g_kI qX12_one 1627 13 1628 0 := by unfold g_kI; decide +kernel
theorem sX12_one : g_sel qX12_one := g_sel_p (i := 51) (by rfl) rfl
theorem kX12_law : g_kI qX12_law 1614 13 1616 1 := by unfold g_kI; decide +kernel
theorem sX12_law : g_sel qX12_law := g_sel_t (i := 1615) (by decide +kernel)
theorem kX12_by : g_kS qX12_by 1707 13 1708 3 := by unfold g_kS; decide +kernel
theorem kX12_byLaw : g_kI qX12_byLaw 1701 13 1702 0 := by unfold g_kI; decide +kernel
theorem sX12_byLaw : g_sel qX12_byLaw := g_sel_p (i := 65) (by rfl) rfl
theorem kX12_stepHere : g_kI qX12_stepHere 1670 13 1671 0 := by unfold g_kI; decide +kernel
theorem sX12_stepHere : g_sel qX12_stepHere := g_sel_p (i := 58) (by rfl) rfl
theorem kX12_readsStep : g_kI qX12_readsStep 1666 13 1667 0 := by unfold g_kI; decide +kernel
theorem sX12_readsStep : g_sel qX12_readsStep := g_sel_p (i := 57) (by rfl) rfl
theorem kX12_songs : g_kI qX12_songs 1650 13 1652 1 := by unfold g_kI; decide +kernel
theorem sX12_songs : g_sel qX12_songs := g_sel_t (i := 1651) (by decide +kernel)
theorem kX12_fault : g_kI qX12_fault 1657 13 1659 0 := by unfold g_kI; decide +kernel
theorem sX12_fault : g_sel qX12_fault := g_sel_t (i := 1658) (by decide +kernel)
theorem kX12_minutesBy : g_kI qX12_minutesBy 1697 13 1698 6 := by unfold g_kI; decide +kernel
theorem sX12_minutesBy : g_sel qX12_minutesBy := g_sel_p (i := 64) (by rfl) rfl
theorem kX12_minutesOf : g_kI qX12_minutesOf 1693 13 1694 4 := by unfold g_kI; decide +kernel
theorem sX12_minutesOf : g_sel qX12_minutesOf := g_sel_p (i := 63) (by rfl) rfl
theorem kX12_canRoll : g_kI qX12_canRoll 1685 13 1686 1 := by unfold g_kI; decide +kernel
theorem sX12_canRoll : g_sel qX12_canRoll := g_sel_p (i := 61) (by rfl) rfl
theorem kX12_rolls : g_kI qX12_rolls 1689 13 1690 2 := by unfold g_kI; decide +kernel
theorem sX12_rolls : g_sel qX12_rolls := g_sel_p (i := 62) (by rfl) rfl
theorem kX12_hourEnds : g_kI qX12_hourEnds 1714 13 1715 3 := by unfold g_kI; decide +kernel
theorem sX12_hourEnds : g_sel qX12_hourEnds := g_sel_p (i := 66) (by rfl) rfl
theorem kX12_does : g_kI qX12_does 1681 13 1682 2 := by unfold g_kI; decide +kernel
theorem sX12_does : g_sel qX12_does := g_sel_p (i := 60) (by rfl) rfl
theorem kX12_goes : g_kI qX12_goes 1677 13 1678 2 := by unfold g_kI; decide +kernel
theorem sX12_goes : g_sel qX12_goes := g_sel_p (i := 59) (by rfl) rfl
theorem kX12_work : g_kI qX12_work 1661 13 1663 1 := by unfold g_kI; decide +kernel
theorem sX12_work : g_sel qX12_work := g_sel_t (i := 1662) (by decide +kernel)
theorem kX12_undo : g_kI qX12_undo 1717 13 1719 0 := by unfold g_kI; decide +kernel
theorem sX12_undo : g_sel qX12_undo := g_sel_t (i := 1718) (by decide +kernel)
theorem kX12_finesIn : g_kI qX12_finesIn 1726 13 1727 1 := by unfold g_kI; decide +kernel
theorem sX12_finesIn : g_sel qX12_finesIn := g_sel_p (i := 67) (by rfl) rfl
theorem kX12_told : g_kI qX12_told 1721 13 1723 1 := by unfold g_kI; decide +kernel
theorem sX12_told : g_sel qX12_told := g_sel_t (i := 1722) (by decide +kernel)
theorem kX12_isWalk : g_kI qX12_isWalk 1734 13 1735 1 := by unfold g_kI; decide +kernel
theorem sX12_isWalk : g_sel qX12_isWalk := g_sel_p (i := 68) (by rfl) rfl
theorem kX12_isChild : g_kI qX12_isChild 1742 13 1743 1 := by unfold g_kI; decide +kernel
theorem sX12_isChild : g_sel qX12_isChild := g_sel_p (i := 69) (by rfl) rfl
theorem kX12_isHoop : g_kI qX12_isHoop 1750 13 1751 1 := by unfold g_kI; decide +kernel
theorem sX12_isHoop : g_sel qX12_isHoop := g_sel_p (i := 70) (by rfl) rfl
theorem kX12_walk : g_kI qX12_walk 1729 13 1731 2 := by unfold g_kI; decide +kernel
theorem sX12_walk : g_sel qX12_walk := g_sel_t (i := 1730) (by decide +kernel)
theorem kX12_child : g_kI qX12_child 1737 13 1739 2 := by unfold g_kI; decide +kernel
theorem sX12_child : g_sel qX12_child := g_sel_t (i := 1738) (by decide +kernel)
theorem kX12_hoop : g_kI qX12_hoop 1745 13 1747 2 := by unfold g_kI; decide +kernel
theorem sX12_hoop : g_sel qX12_hoop := g_sel_t (i := 1746) (by decide +kernel)
theorem kX12_minutes : g_kI qX12_minutes 1753 13 1755 3 := by unfold g_kI; decide +kernel
theorem sX12_minutes : g_sel qX12_minutes := g_sel_t (i := 1754) (by decide +kernel)
theorem kX12_would : g_kI qX12_would 1757 13 1759 7 := by unfold g_kI; decide +kernel
theorem sX12_would : g_sel qX12_would := g_sel_t (i := 1758) (by decide +kernel)
theorem kX12_lastsBy : g_kI qX12_lastsBy 1770 13 1771 4 := by unfold g_kI; decide +kernel
theorem sX12_lastsBy : g_sel qX12_lastsBy := g_sel_p (i := 72) (by rfl) rfl
theorem kX12_longOf : g_kI qX12_longOf 1766 13 1767 2 := by unfold g_kI; decide +kernel
theorem sX12_longOf : g_sel qX12_longOf := g_sel_p (i := 71) (by rfl) rfl
theorem kX12_lasts : g_kI qX12_lasts 1761 13 1763 2 := by unfold g_kI; decide +kernel
theorem sX12_lasts : g_sel qX12_lasts := g_sel_t (i := 1762) (by decide +kernel)
theorem kX12_ahead : g_kI qX12_ahead 1773 13 1775 2 := by unfold g_kI; decide +kernel
theorem sX12_ahead : g_sel qX12_ahead := g_sel_t (i := 1774) (by decide +kernel)
theorem kX12_due : g_kI qX12_due 1777 13 1779 1 := by unfold g_kI; decide +kernel
theorem sX12_due : g_sel qX12_due := g_sel_t (i := 1778) (by decide +kernel)
theorem kX12_hour : g_kI qX12_hour 1781 13 1783 1 := by unfold g_kI; decide +kernel
theorem sX12_hour : g_sel qX12_hour := g_sel_t (i := 1782) (by decide +kernel)
theorem kX12_late : g_kI qX12_late 1785 13 1787 0 := by unfold g_kI; decide +kernel
theorem sX12_late : g_sel qX12_late := g_sel_t (i := 1786) (by decide +kernel)
theorem kX12_bowls : g_kI qX12_bowls 1789 13 1791 2 := by unfold g_kI; decide +kernel
theorem sX12_bowls : g_sel qX12_bowls := g_sel_t (i := 1790) (by decide +kernel)
theorem kX12_load : g_kI qX12_load 1793 13 1795 1 := by unfold g_kI; decide +kernel
theorem sX12_load : g_sel qX12_load := g_sel_t (i := 1794) (by decide +kernel)
theorem kX12_slowest : g_kI qX12_slowest 1797 13 1799 1 := by unfold g_kI; decide +kernel
theorem sX12_slowest : g_sel qX12_slowest := g_sel_t (i := 1798) (by decide +kernel)
theorem kX12_quickest : g_kI qX12_quickest 1801 13 1803 2 := by unfold g_kI; decide +kernel
theorem sX12_quickest : g_sel qX12_quickest := g_sel_t (i := 1802) (by decide +kernel)
theorem kX12_debtor : g_kI qX12_debtor 1805 13 1807 1 := by unfold g_kI; decide +kernel
theorem sX12_debtor : g_sel qX12_debtor := g_sel_t (i := 1806) (by decide +kernel)
theorem kX12_idle : g_kI qX12_idle 1809 13 1811 0 := by unfold g_kI; decide +kernel
theorem sX12_idle : g_sel qX12_idle := g_sel_t (i := 1810) (by decide +kernel)
theorem kX12_away : g_kS qX12_away 1829 13 1830 2 := by unfold g_kS; decide +kernel
theorem kX12_gives : g_kI qX12_gives 1826 13 1827 5 := by unfold g_kI; decide +kernel
theorem sX12_gives : g_sel qX12_gives := g_sel_p (i := 75) (by rfl) rfl
theorem kX12_matches : g_kI qX12_matches 1822 13 1823 2 := by unfold g_kI; decide +kernel
theorem sX12_matches : g_sel qX12_matches := g_sel_p (i := 74) (by rfl) rfl
theorem kX12_areHoops : g_kI qX12_areHoops 1818 13 1819 1 := by unfold g_kI; decide +kernel
theorem sX12_areHoops : g_sel qX12_areHoops := g_sel_p (i := 73) (by rfl) rfl
theorem kX12_match : g_kI qX12_match 1813 13 1815 2 := by unfold g_kI; decide +kernel
theorem sX12_match : g_sel qX12_match := g_sel_t (i := 1814) (by decide +kernel)
theorem kX12_matched : g_kI qX12_matched 1832 13 1834 3 := by unfold g_kI; decide +kernel
theorem sX12_matched : g_sel qX12_matched := g_sel_t (i := 1833) (by decide +kernel)
theorem kX12_isSung : g_kI qX12_isSung 1841 13 1842 2 := by unfold g_kI; decide +kernel
theorem sX12_isSung : g_sel qX12_isSung := g_sel_p (i := 76) (by rfl) rfl
theorem kX12_fits : g_kI qX12_fits 1836 13 1838 1 := by unfold g_kI; decide +kernel
theorem sX12_fits : g_sel qX12_fits := g_sel_t (i := 1837) (by decide +kernel)
theorem kX12_worstAt : g_kI qX12_worstAt 1853 13 1854 1 := by unfold g_kI; decide +kernel
theorem sX12_worstAt : g_sel qX12_worstAt := g_sel_p (i := 78) (by rfl) rfl
theorem kX12_isTold : g_kI qX12_isTold 1849 13 1850 1 := by unfold g_kI; decide +kernel
theorem sX12_isTold : g_sel qX12_isTold := g_sel_p (i := 77) (by rfl) rfl
theorem kX12_listen : g_kI qX12_listen 1844 13 1846 1 := by unfold g_kI; decide +kernel
theorem sX12_listen : g_sel qX12_listen := g_sel_t (i := 1845) (by decide +kernel)
theorem kX12_part : g_kS qX12_part 1865 13 1866 3 := by unfold g_kS; decide +kernel
theorem kX12_areWalks : g_kI qX12_areWalks 1861 13 1862 1 := by unfold g_kI; decide +kernel
theorem sX12_areWalks : g_sel qX12_areWalks := g_sel_p (i := 79) (by rfl) rfl
theorem kX12_safe : g_kI qX12_safe 1856 13 1858 2 := by unfold g_kI; decide +kernel
theorem sX12_safe : g_sel qX12_safe := g_sel_t (i := 1857) (by decide +kernel)
theorem kX12_watchedBy : g_kI qX12_watchedBy 1873 13 1874 1 := by unfold g_kI; decide +kernel
theorem sX12_watchedBy : g_sel qX12_watchedBy := g_sel_p (i := 80) (by rfl) rfl
theorem kX12_isWatched : g_kI qX12_isWatched 1877 13 1878 2 := by unfold g_kI; decide +kernel
theorem sX12_isWatched : g_sel qX12_isWatched := g_sel_p (i := 81) (by rfl) rfl
theorem kX12_mean : g_kI qX12_mean 1868 13 1870 2 := by unfold g_kI; decide +kernel
theorem sX12_mean : g_sel qX12_mean := g_sel_t (i := 1869) (by decide +kernel)
theorem kX12_stands : g_kI qX12_stands 1880 13 1882 3 := by unfold g_kI; decide +kernel
theorem sX12_stands : g_sel qX12_stands := g_sel_t (i := 1881) (by decide +kernel)
theorem kX12_ones : g_kS qX12_ones 1892 13 1893 1 := by unfold g_kS; decide +kernel
theorem kX12_isCover : g_kI qX12_isCover 1889 13 1890 2 := by unfold g_kI; decide +kernel
theorem sX12_isCover : g_sel qX12_isCover := g_sel_p (i := 82) (by rfl) rfl
theorem kX12_cover : g_kI qX12_cover 1884 13 1886 1 := by unfold g_kI; decide +kernel
theorem sX12_cover : g_sel qX12_cover := g_sel_t (i := 1885) (by decide +kernel)
theorem kX12_watch : g_kI qX12_watch 1895 13 1897 2 := by unfold g_kI; decide +kernel
theorem sX12_watch : g_sel qX12_watch := g_sel_t (i := 1896) (by decide +kernel)
theorem kX12_hasBy : g_kS qX12_hasBy 1906 13 1907 3 := by unfold g_kS; decide +kernel
theorem kX12_isBest : g_kS qX12_isBest 1903 13 1904 4 := by unfold g_kS; decide +kernel
theorem kX12_toffee : g_kI qX12_toffee 1899 13 1901 3 := by unfold g_kI; decide +kernel
theorem sX12_toffee : g_sel qX12_toffee := g_sel_t (i := 1900) (by decide +kernel)
theorem kX12_givenBy : g_kI qX12_givenBy 1914 13 1915 2 := by unfold g_kI; decide +kernel
theorem sX12_givenBy : g_sel qX12_givenBy := g_sel_p (i := 83) (by rfl) rfl
theorem kX12_share : g_kI qX12_share 1909 13 1911 3 := by unfold g_kI; decide +kernel
theorem sX12_share : g_sel qX12_share := g_sel_t (i := 1910) (by decide +kernel)
theorem kX12_draw : g_kI qX12_draw 1929 13 1930 0 := by unfold g_kI; decide +kernel
theorem sX12_draw : g_sel qX12_draw := g_sel_p (i := 85) (by rfl) rfl
theorem kX12_daysBy : g_kI qX12_daysBy 1925 13 1926 3 := by unfold g_kI; decide +kernel
theorem sX12_daysBy : g_sel qX12_daysBy := g_sel_p (i := 84) (by rfl) rfl
theorem kX12_areDays : g_kS qX12_areDays 1921 13 1922 2 := by unfold g_kS; decide +kernel
theorem kX12_days : g_kI qX12_days 1917 13 1919 4 := by unfold g_kI; decide +kernel
theorem sX12_days : g_sel qX12_days := g_sel_t (i := 1918) (by decide +kernel)
theorem kX12_span : g_kI qX12_span 1933 13 1935 5 := by unfold g_kI; decide +kernel
theorem sX12_span : g_sel qX12_span := g_sel_t (i := 1934) (by decide +kernel)
theorem kX12_puts : g_kI qX12_puts 1946 13 1947 3 := by unfold g_kI; decide +kernel
theorem sX12_puts : g_sel qX12_puts := g_sel_p (i := 87) (by rfl) rfl
theorem kX12_putsAll : g_kI qX12_putsAll 1942 13 1943 2 := by unfold g_kI; decide +kernel
theorem sX12_putsAll : g_sel qX12_putsAll := g_sel_p (i := 86) (by rfl) rfl
theorem kX12_image : g_kI qX12_image 1937 13 1939 0 := by unfold g_kI; decide +kernel
theorem sX12_image : g_sel qX12_image := g_sel_t (i := 1938) (by decide +kernel)
theorem kX12_restore : g_kI qX12_restore 1949 13 1951 0 := by unfold g_kI; decide +kernel
theorem sX12_restore : g_sel qX12_restore := g_sel_t (i := 1950) (by decide +kernel)
theorem kX12_status : g_kI qX12_status 1953 13 1955 1 := by unfold g_kI; decide +kernel
theorem sX12_status : g_sel qX12_status := g_sel_t (i := 1954) (by decide +kernel)
theorem kX12_count : g_kI qX12_count 1957 13 1959 1 := by unfold g_kI; decide +kernel
theorem sX12_count : g_sel qX12_count := g_sel_t (i := 1958) (by decide +kernel)
theorem kX0_init : g_kI qX0_init 223 6 224 2 := by unfold g_kI; decide +kernel
theorem kX0_minutesOf : g_kI qX0_minutesOf 589 6 591 5 := by unfold g_kI; decide +kernel
theorem sX0_minutesOf : g_sel qX0_minutesOf := g_sel_t (i := 590) (by decide +kernel)
theorem kX0_longOf : g_kI qX0_longOf 1101 6 1103 3 := by unfold g_kI; decide +kernel
theorem sX0_longOf : g_sel qX0_longOf := g_sel_t (i := 1102) (by decide +kernel)
theorem kX0_canBowl : g_kI qX0_canBowl 578 6 580 1 := by unfold g_kI; decide +kernel
theorem sX0_canBowl : g_sel qX0_canBowl := g_sel_t (i := 579) (by decide +kernel)
theorem kX0_bowl : g_kI qX0_bowl 585 6 587 2 := by unfold g_kI; decide +kernel
theorem sX0_bowl : g_sel qX0_bowl := g_sel_t (i := 586) (by decide +kernel)
theorem kX0_endHour : g_kI qX0_endHour 615 6 616 2 := by unfold g_kI; decide +kernel
theorem sX0_endHour : g_sel qX0_endHour := g_sel_p (i := 2) (by rfl) rfl
theorem kX1_init : g_kI qX1_init 273 8 274 2 := by unfold g_kI; decide +kernel
theorem kX1_start : g_kI qX1_start 569 8 571 1 := by unfold g_kI; decide +kernel
theorem sX1_start : g_sel qX1_start := g_sel_t (i := 570) (by decide +kernel)
theorem kX1_begins : g_kI qX1_begins 1119 8 1121 1 := by unfold g_kI; decide +kernel
theorem sX1_begins : g_sel qX1_begins := g_sel_t (i := 1120) (by decide +kernel)
theorem kX1_goOn : g_kI qX1_goOn 574 8 576 1 := by unfold g_kI; decide +kernel
theorem sX1_goOn : g_sel qX1_goOn := g_sel_t (i := 575) (by decide +kernel)
theorem kX1_passDays : g_kI qX1_passDays 1355 8 1357 4 := by unfold g_kI; decide +kernel
theorem sX1_passDays : g_sel qX1_passDays := g_sel_t (i := 1356) (by decide +kernel)
theorem kX1_draw : g_kI qX1_draw 1361 8 1362 0 := by unfold g_kI; decide +kernel
theorem sX1_draw : g_sel qX1_draw := g_sel_p (i := 33) (by rfl) rfl
theorem kX2_init : g_kI qX2_init 422 11 423 3 := by unfold g_kI; decide +kernel
theorem kX2_findFits : g_kI qX2_findFits 1201 11 1203 1 := by unfold g_kI; decide +kernel
theorem sX2_findFits : g_sel qX2_findFits := g_sel_t (i := 1202) (by decide +kernel)
theorem kX2_isRight : g_kI qX2_isRight 1206 11 1207 3 := by unfold g_kI; decide +kernel
theorem sX2_isRight : g_sel qX2_isRight := g_sel_p (i := 30) (by rfl) rfl
theorem kX2_chooseGate : g_kI qX2_chooseGate 1220 11 1222 1 := by unfold g_kI; decide +kernel
theorem sX2_chooseGate : g_sel qX2_chooseGate := g_sel_t (i := 1221) (by decide +kernel)
theorem kX2_mostAlike : g_kI qX2_mostAlike 1226 11 1227 2 := by unfold g_kI; decide +kernel
theorem sX2_mostAlike : g_sel qX2_mostAlike := g_sel_p (i := 31) (by rfl) rfl
theorem kX2_minuteAt : g_kI qX2_minuteAt 1231 11 1232 4 := by unfold g_kI; decide +kernel
theorem sX2_minuteAt : g_sel qX2_minuteAt := g_sel_p (i := 32) (by rfl) rfl
theorem kX3_init : g_kI qX3_init 460 12 461 0 := by unfold g_kI; decide +kernel
theorem kX3_clear : g_kI qX3_clear 860 12 862 0 := by unfold g_kI; decide +kernel
theorem sX3_clear : g_sel qX3_clear := g_sel_t (i := 861) (by decide +kernel)
theorem kX3_keep : g_kI qX3_keep 968 12 970 0 := by unfold g_kI; decide +kernel
theorem sX3_keep : g_sel qX3_keep := g_sel_t (i := 969) (by decide +kernel)
theorem kX3_takeBack : g_kI qX3_takeBack 554 12 556 0 := by unfold g_kI; decide +kernel
theorem sX3_takeBack : g_sel qX3_takeBack := g_sel_t (i := 555) (by decide +kernel)
theorem kX3_copy : g_kI qX3_copy 630 12 632 1 := by unfold g_kI; decide +kernel
theorem sX3_copy : g_sel qX3_copy := g_sel_t (i := 631) (by decide +kernel)
theorem kX4_init : g_kI qX4_init 134 4 135 0 := by unfold g_kI; decide +kernel
theorem kX4_clear : g_kI qX4_clear 855 4 857 0 := by unfold g_kI; decide +kernel
theorem sX4_clear : g_sel qX4_clear := g_sel_t (i := 856) (by decide +kernel)
theorem kX4_copy : g_kI qX4_copy 922 4 924 1 := by unfold g_kI; decide +kernel
theorem sX4_copy : g_sel qX4_copy := g_sel_t (i := 923) (by decide +kernel)
theorem kX4_read : g_kI qX4_read 872 4 874 1 := by unfold g_kI; decide +kernel
theorem sX4_read : g_sel qX4_read := g_sel_t (i := 873) (by decide +kernel)
theorem kX4_readSum : g_kI qX4_readSum 877 4 878 2 := by unfold g_kI; decide +kernel
theorem sX4_readSum : g_sel qX4_readSum := g_sel_p (i := 9) (by rfl) rfl
theorem kX4_readProduct : g_kI qX4_readProduct 881 4 882 2 := by unfold g_kI; decide +kernel
theorem sX4_readProduct : g_sel qX4_readProduct := g_sel_p (i := 10) (by rfl) rfl
theorem kX4_readUnit : g_kI qX4_readUnit 885 4 886 2 := by unfold g_kI; decide +kernel
theorem sX4_readUnit : g_sel qX4_readUnit := g_sel_p (i := 11) (by rfl) rfl
theorem kX4_readBracket : g_kI qX4_readBracket 897 4 898 2 := by unfold g_kI; decide +kernel
theorem sX4_readBracket : g_sel qX4_readBracket := g_sel_p (i := 13) (by rfl) rfl
theorem kX4_readPair : g_kI qX4_readPair 918 4 919 3 := by unfold g_kI; decide +kernel
theorem sX4_readPair : g_sel qX4_readPair := g_sel_p (i := 14) (by rfl) rfl
theorem kX4_factOf : g_kS qX4_factOf 903 4 904 1 := by unfold g_kS; decide +kernel
theorem kX4_mark : g_kI qX4_mark 893 4 894 2 := by unfold g_kI; decide +kernel
theorem sX4_mark : g_sel qX4_mark := g_sel_p (i := 12) (by rfl) rfl
theorem kX4_outcome : g_kI qX4_outcome 596 4 598 0 := by unfold g_kI; decide +kernel
theorem sX4_outcome : g_sel qX4_outcome := g_sel_t (i := 597) (by decide +kernel)
theorem kX4_plain : g_kI qX4_plain 610 4 611 0 := by unfold g_kI; decide +kernel
theorem sX4_plain : g_sel qX4_plain := g_sel_p (i := 1) (by rfl) rfl
theorem kX4_fact : g_kI qX4_fact 602 4 603 1 := by unfold g_kI; decide +kernel
theorem sX4_fact : g_sel qX4_fact := g_sel_p (i := 0) (by rfl) rfl
theorem kX4_joined : g_kS qX4_joined 606 4 607 3 := by unfold g_kS; decide +kernel
theorem kX5_init : g_kI qX5_init 389 10 390 2 := by unfold g_kI; decide +kernel
theorem kX5_solve : g_kI qX5_solve 1144 10 1146 3 := by unfold g_kI; decide +kernel
theorem sX5_solve : g_sel qX5_solve := g_sel_t (i := 1145) (by decide +kernel)
theorem kX5_list : g_kI qX5_list 1150 10 1151 1 := by unfold g_kI; decide +kernel
theorem sX5_list : g_sel qX5_list := g_sel_p (i := 25) (by rfl) rfl
theorem kX5_measure : g_kI qX5_measure 1158 10 1159 2 := by unfold g_kI; decide +kernel
theorem sX5_measure : g_sel qX5_measure := g_sel_p (i := 26) (by rfl) rfl
theorem kX5_findBests : g_kI qX5_findBests 1167 10 1168 0 := by unfold g_kI; decide +kernel
theorem sX5_findBests : g_sel qX5_findBests := g_sel_p (i := 27) (by rfl) rfl
theorem kX5_sumWith : g_kI qX5_sumWith 1179 10 1180 2 := by unfold g_kI; decide +kernel
theorem sX5_sumWith : g_sel qX5_sumWith := g_sel_p (i := 28) (by rfl) rfl
theorem kX5_choose : g_kI qX5_choose 1184 10 1185 0 := by unfold g_kI; decide +kernel
theorem sX5_choose : g_sel qX5_choose := g_sel_p (i := 29) (by rfl) rfl
theorem kX6_init : g_kI qX6_init 73 3 74 0 := by unfold g_kI; decide +kernel
theorem kX6_clear : g_kI qX6_clear 738 3 740 0 := by unfold g_kI; decide +kernel
theorem sX6_clear : g_sel qX6_clear := g_sel_t (i := 739) (by decide +kernel)
theorem kX6_copy : g_kI qX6_copy 850 3 852 1 := by unfold g_kI; decide +kernel
theorem sX6_copy : g_sel qX6_copy := g_sel_t (i := 851) (by decide +kernel)
theorem kX6_read : g_kI qX6_read 734 3 736 1 := by unfold g_kI; decide +kernel
theorem sX6_read : g_sel qX6_read := g_sel_t (i := 735) (by decide +kernel)
theorem kX6_readClause : g_kI qX6_readClause 751 3 752 2 := by unfold g_kI; decide +kernel
theorem sX6_readClause : g_sel qX6_readClause := g_sel_p (i := 6) (by rfl) rfl
theorem kX6_kindOf : g_kS qX6_kindOf 763 3 764 1 := by unfold g_kS; decide +kernel
theorem kX6_isFull : g_kI qX6_isFull 828 3 829 1 := by unfold g_kI; decide +kernel
theorem sX6_isFull : g_sel qX6_isFull := g_sel_p (i := 7) (by rfl) rfl
theorem kX6_readNumbers : g_kI qX6_readNumbers 832 3 833 2 := by unfold g_kI; decide +kernel
theorem sX6_readNumbers : g_sel qX6_readNumbers := g_sel_p (i := 8) (by rfl) rfl
theorem kX6_watchedFrom : g_kI qX6_watchedFrom 1270 3 1272 1 := by unfold g_kI; decide +kernel
theorem sX6_watchedFrom : g_sel qX6_watchedFrom := g_sel_t (i := 1271) (by decide +kernel)
theorem kX6_fallsOn : g_kI qX6_fallsOn 1283 3 1285 1 := by unfold g_kI; decide +kernel
theorem sX6_fallsOn : g_sel qX6_fallsOn := g_sel_t (i := 1284) (by decide +kernel)
theorem kX6_boundOf : g_kI qX6_boundOf 1308 3 1310 2 := by unfold g_kI; decide +kernel
theorem sX6_boundOf : g_sel qX6_boundOf := g_sel_t (i := 1309) (by decide +kernel)
theorem kX7_init : g_kI qX7_init 201 5 202 0 := by unfold g_kI; decide +kernel
theorem kX7_clear : g_kI qX7_clear 205 5 207 0 := by unfold g_kI; decide +kernel
theorem sX7_clear : g_sel qX7_clear := g_sel_t (i := 206) (by decide +kernel)
theorem kX7_copy : g_kI qX7_copy 1019 5 1021 1 := by unfold g_kI; decide +kernel
theorem sX7_copy : g_sel qX7_copy := g_sel_t (i := 1020) (by decide +kernel)
theorem kX7_hasGate : g_kI qX7_hasGate 1011 5 1013 1 := by unfold g_kI; decide +kernel
theorem sX7_hasGate : g_sel qX7_hasGate := g_sel_t (i := 1012) (by decide +kernel)
theorem kX7_read : g_kI qX7_read 1000 5 1002 2 := by unfold g_kI; decide +kernel
theorem sX7_read : g_sel qX7_read := g_sel_t (i := 1001) (by decide +kernel)
theorem kX7_readLine : g_kI qX7_readLine 1007 5 1008 2 := by unfold g_kI; decide +kernel
theorem sX7_readLine : g_sel qX7_readLine := g_sel_p (i := 22) (by rfl) rfl
theorem kX8_init : g_kI qX8_init 279 9 280 0 := by unfold g_kI; decide +kernel
theorem kX8_clear : g_kI qX8_clear 283 9 285 0 := by unfold g_kI; decide +kernel
theorem sX8_clear : g_sel qX8_clear := g_sel_t (i := 284) (by decide +kernel)
theorem kX8_copy : g_kI qX8_copy 558 9 560 1 := by unfold g_kI; decide +kernel
theorem sX8_copy : g_sel qX8_copy := g_sel_t (i := 559) (by decide +kernel)
theorem kX8_fines : g_kI qX8_fines 1031 9 1033 0 := by unfold g_kI; decide +kernel
theorem sX8_fines : g_sel qX8_fines := g_sel_t (i := 1032) (by decide +kernel)
theorem kX8_hoopsOf : g_kI qX8_hoopsOf 622 9 624 1 := by unfold g_kI; decide +kernel
theorem sX8_hoopsOf : g_sel qX8_hoopsOf := g_sel_t (i := 623) (by decide +kernel)
theorem kX9_init : g_kI qX9_init 236 7 237 2 := by unfold g_kI; decide +kernel
theorem kX9_read : g_kI qX9_read 934 7 936 1 := by unfold g_kI; decide +kernel
theorem sX9_read : g_sel qX9_read := g_sel_t (i := 935) (by decide +kernel)
theorem kX9_readAll : g_kI qX9_readAll 939 7 940 2 := by unfold g_kI; decide +kernel
theorem sX9_readAll : g_sel qX9_readAll := g_sel_p (i := 15) (by rfl) rfl
theorem kX9_readOne : g_kI qX9_readOne 945 7 946 2 := by unfold g_kI; decide +kernel
theorem sX9_readOne : g_sel qX9_readOne := g_sel_p (i := 16) (by rfl) rfl
theorem kX9_readAgain : g_kI qX9_readAgain 963 7 964 2 := by unfold g_kI; decide +kernel
theorem sX9_readAgain : g_sel qX9_readAgain := g_sel_p (i := 18) (by rfl) rfl
theorem kX9_write : g_kI qX9_write 953 7 954 3 := by unfold g_kI; decide +kernel
theorem sX9_write : g_sel qX9_write := g_sel_p (i := 17) (by rfl) rfl
theorem kX9_start : g_kI qX9_start 972 7 974 0 := by unfold g_kI; decide +kernel
theorem sX9_start : g_sel qX9_start := g_sel_t (i := 973) (by decide +kernel)
theorem kX9_perform : g_kI qX9_perform 977 7 978 4 := by unfold g_kI; decide +kernel
theorem sX9_perform : g_sel qX9_perform := g_sel_p (i := 19) (by rfl) rfl
theorem kX9_performOne : g_kI qX9_performOne 983 7 984 2 := by unfold g_kI; decide +kernel
theorem sX9_performOne : g_sel qX9_performOne := g_sel_p (i := 20) (by rfl) rfl
theorem kX9_isRefused : g_kI qX9_isRefused 987 7 988 4 := by unfold g_kI; decide +kernel
theorem sX9_isRefused : g_sel qX9_isRefused := g_sel_p (i := 21) (by rfl) rfl
theorem kX10_init : g_kI qX10_init 36 2 37 0 := by unfold g_kI; decide +kernel
theorem kX10_push : g_kI qX10_push 539 2 541 1 := by unfold g_kI; decide +kernel
theorem sX10_push : g_sel qX10_push := g_sel_t (i := 540) (by decide +kernel)
theorem kX10_open : g_kI qX10_open 730 2 732 1 := by unfold g_kI; decide +kernel
theorem sX10_open : g_sel qX10_open := g_sel_t (i := 731) (by decide +kernel)
theorem kX10_faulty : g_kI qX10_faulty 742 2 744 0 := by unfold g_kI; decide +kernel
theorem sX10_faulty : g_sel qX10_faulty := g_sel_t (i := 743) (by decide +kernel)
theorem kX10_fail : g_kI qX10_fail 823 2 825 2 := by unfold g_kI; decide +kernel
theorem sX10_fail : g_sel qX10_fail := g_sel_t (i := 824) (by decide +kernel)
theorem kX10_next : g_kI qX10_next 746 2 748 0 := by unfold g_kI; decide +kernel
theorem sX10_next : g_sel qX10_next := g_sel_t (i := 747) (by decide +kernel)
theorem kX10_need : g_kI qX10_need 845 2 847 1 := by unfold g_kI; decide +kernel
theorem sX10_need : g_sel qX10_need := g_sel_t (i := 846) (by decide +kernel)
theorem kX10_number : g_kI qX10_number 835 2 837 2 := by unfold g_kI; decide +kernel
theorem sX10_number : g_sel qX10_number := g_sel_t (i := 836) (by decide +kernel)
theorem kX10_word : g_kI qX10_word 754 2 756 0 := by unfold g_kI; decide +kernel
theorem sX10_word : g_sel qX10_word := g_sel_t (i := 755) (by decide +kernel)
theorem kX10_was : g_kI qX10_was 767 2 769 1 := by unfold g_kI; decide +kernel
theorem sX10_was : g_sel qX10_was := g_sel_t (i := 768) (by decide +kernel)
theorem kX10_isDigit : g_kS qX10_isDigit 839 2 840 1 := by unfold g_kS; decide +kernel
theorem kX10_isSmall : g_kS qX10_isSmall 760 2 761 1 := by unfold g_kS; decide +kernel
theorem kJ6_bitCount_0f7a4 : g_kS qJ6_bitCount_0f7a4 1171 24 1172 1 := by unfold g_kS; decide +kernel
theorem kJ9_abs_0f7a4 : g_kS qJ9_abs_0f7a4 1163 14 1164 1 := by unfold g_kS; decide +kernel
theorem kJ9_max_7cf53 : g_kS qJ9_max_7cf53 1234 14 1235 2 := by unfold g_kS; decide +kernel
theorem kJ9_min_7cf53 : g_kS qJ9_min_7cf53 593 14 594 2 := by unfold g_kS; decide +kernel
