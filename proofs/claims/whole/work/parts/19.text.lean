/-! length() and charAt(i) of the texts that the class holds words against. -/
def qS_length : gY := (yJ0_length_8abf5, cJ0_length_8abf5, 1, some .int, 0, 0, [])
def qS_coder : gY := (yJ0_coder_7d493, cJ0_coder_7d493, 1, some .byte, 0, 0, [])
def qS_charAt : gY := (yJ0_charAt_5068e, cJ0_charAt_5068e, 2, some .char, 0, 0, [])
def qS_isL : gY := (yJ0_isLatin1_aae02, cJ0_isLatin1_aae02, 1, some .boolean, 0, 0, [])
def qS_chk : gY := (yJ0_checkIndex_df160, cJ0_checkIndex_df160, 2, none, 0, 0, [])
def qS_lch : gY := (yJ1_charAt_3b067, cJ1_charAt_3b067, 2, some .char, 0, 0, [])
def qS_pre : gY := (yJ3_checkIndex_8e157, cJ3_checkIndex_8e157, 3, some .int, 0, 0, [])
section GSTR
variable {l : Launch} {C : gC} {y z : gY} {d d2 : Nat} {Q Qz : Option Value → gX → Prop} {QX : String → gX → Prop} {kc ks pc idx : Nat} {ls : gL} {st av rest : List Value} {X : gX}
theorem g_vk {p : Program} {s : State} {m : MethodId} {meth : Method} {c : Code} {H : Heap} {locs : List Loc} {la : Array Slot} (hC : g_ctx l C) (h : gCx C y X ls p s m meth c H locs la) : vk_S 20 g_len g_byt C.2.2.2 (fun i => C.2.2.2 (1000 + i)) (g_A C) s s.heap :=
  vk_S.moved h.warm.alike (hC.2.2.2.2.2.2.1.kept (fun a ha _ => h.2.2.2.2.2.2.2.2.2.1.2 a ha))
theorem gw_sval {k : Nat} (hC : g_ctx l C) (hk : k < 20) (hd : decode y.2.1 pc = .ok (.getfield idx, 3)) (hlk : Cond.fieldLink y.1.cls idx "java/lang/String" "value" "[B" ∈ lw_tbl) (kk : GW l C y d Q QX kc ks (pc + 3) ls (.retAddr (1000 + k) :: st) X) : GW l C y d Q QX kc ks pc ls (.retAddr k :: st) X := by
  intro p e s m args below meth c H locs la h
  exact vk_getf h.1 h.2.1 ((g_vk hC h).1 k hk).2.2.1 (g_vS h) h.own (g_word hC h.warm hlk rfl args) (fun _ h9 => h9) hd (kk p e s m args below meth c H locs la h)
theorem gw_scod {k : Nat} (hC : g_ctx l C) (hk : k < 20) (hd : decode y.2.1 pc = .ok (.getfield idx, 3)) (hlk : Cond.fieldLink y.1.cls idx "java/lang/String" "coder" "B" ∈ lw_tbl) (kk : GW l C y d Q QX kc ks (pc + 3) ls (.int 0 :: st) X) : GW l C y d Q QX kc ks pc ls (.retAddr k :: st) X := by
  intro p e s m args below meth c H locs la h
  exact vk_getf h.1 h.2.1 ((g_vk hC h).1 k hk).2.1 (g_vS h) h.own (g_word hC h.warm hlk rfl args) (fun _ h9 => h9) hd (kk p e s m args below meth c H locs la h)
theorem gw_slen {k : Nat} (hC : g_ctx l C) (hk : k < 20) (hd : decode y.2.1 pc = .ok (.arraylength, 1)) (kk : GW l C y d Q QX kc ks (pc + 1) ls (.int (nI (g_len.getD k 0)) :: st) X) : GW l C y d Q QX kc ks pc ls (.retAddr (1000 + k) :: st) X := by
  intro p e s m args below meth c H locs la h
  exact va_tlen h.1 h.2.1 ((g_vk hC h).1 k hk).2.2.2 (g_vS h) rfl hd (kk p e s m args below meth c H locs la h)
theorem gw_sbal {k : Nat} {i : Int32} (hC : g_ctx l C) (hk : k < 20) (hd : decode y.2.1 pc = .ok (.baload, 1)) (hi : vp_in i (g_len.getD k 0)) (kk : GW l C y d Q QX kc ks (pc + 1) ls (.int ((g_byt.getD k []).getD i.toNatClampNeg 0) :: st) X) : GW l C y d Q QX kc ks pc ls (.int i :: .retAddr (1000 + k) :: st) X := by
  intro p e s m args below meth c H locs la h
  exact va_tb h.1 h.2.1 ((g_vk hC h).1 k hk).2.2.2 (g_vS h) hi rfl hd (kk p e s m args below meth c H locs la h)
theorem gw_scmp (hC : g_ctx l C) (hd : decode y.2.1 pc = .ok (.getstatic idx, 3)) (hlk : Cond.fieldLink y.1.cls idx "java/lang/String" "COMPACT_STRINGS" "Z" ∈ lw_tbl) (kk : GW l C y d Q QX kc ks (pc + 3) ls (.int 1 :: st) X) : GW l C y d Q QX kc ks pc ls st X := by
  intro p e s m args below meth c H locs la h
  exact va_gets h.1 h.2.1 (va_Z.moved h.warm.alike (hC.2.2.2.2.2.2.2.1.kept (fun a ha _ => h.2.2.2.2.2.2.2.2.2.1.2 a ha))) (g_vS h) h.own (g_word hC h.warm hlk rfl args) (fun _ h9 => h9) hd (kk p e s m args below meth c H locs la h)
theorem gw_ssio (hC : g_ctx l C) (hd : decode y.2.1 pc = .ok (.getstatic idx, 3)) (hlk : Cond.fieldLink y.1.cls idx "jdk/internal/util/Preconditions" "SIOOBE_FORMATTER" "Ljava/util/function/BiFunction;" ∈ lw_tbl) (kk : ∀ v, v = Value.null ∨ v = .retAddr 2000 → GW l C y d Q QX kc ks (pc + 3) ls (v :: st) X) : GW l C y d Q QX kc ks pc ls st X := by
  intro p e s m args below meth c H locs la h
  rcases hC.2.2.2.2.2.2.2.2 with hz | hz
  · exact va_gets h.1 h.2.1 (va_Z.moved h.warm.alike (hz.kept (fun a ha _ => h.2.2.2.2.2.2.2.2.2.1.2 a ha))) (g_vS h) h.own (g_word hC h.warm hlk rfl args) (fun _ h9 => h9) hd (kk .null (Or.inl rfl) p e s m args below meth c H locs la h)
  · exact va_gets h.1 h.2.1 (va_Z.moved h.warm.alike (hz.kept (fun a ha _ => h.2.2.2.2.2.2.2.2.2.1.2 a ha))) (g_vS h) h.own (g_word hC h.warm hlk rfl args) (fun _ h9 => h9) hd (kk (.retAddr 2000) (Or.inr rfl) p e s m args below meth c H locs la h)
theorem gw_i2c {x : Int32} (hd : decode y.2.1 pc = .ok (.i2c, 1)) (kk : GW l C y d Q QX kc ks (pc + 1) ls (.int ((x.toUInt32 % 65536).toInt32) :: st) X) : GW l C y d Q QX kc ks pc ls (.int x :: st) X :=
  fun p e s m args below meth c H locs la h => lv_i2c h.1 h.2.1 hd rfl (kk p e s m args below meth c H locs la h)
theorem gw_tret {x : Int32} {ty : FieldType} (hd : decode y.2.1 pc = .ok (.ireturn, 1)) (hr : y.2.2.2.1 = some ty) (hn : narrow ty (.int x) = .int x) (hc : kc ≤ y.2.2.2.2.1) (hs : ks ≤ y.2.2.2.2.2.1) (hq : Q (some (.int x)) X) : GW l C y d Q QX kc ks pc ls [.int x] X :=
  fun p e s m args below meth c H locs la h => vx_ret (W.widen hc hs (W.zret h.1 h.2.1 (h.2.2.1.trans hr) hn (fun t ht _ => ⟨some (.int x), X, rfl, hq, by rw [ht]; exact h.at, by rw [ht]; exact h.siz⟩) h.lc hd h.2.2.2.2.2.1))
theorem gw_invVs {k nargs : Nat} (hC : g_ctx l C) (hk : k < 20) (hM : gMet l C z d2 (.retAddr k :: av) X Qz gN) (hz : z.1.cls = "java/lang/String") (hd : decode y.2.1 pc = .ok (.invokevirtual idx, 3)) (hlk : Cond.methodLink y.1.cls idx z.1 ∈ lw_tbl) (hin : Cond.instanceMethod z.1 ∈ lw_tbl) (hse : Cond.selects z.1.cls z.1 z.1 ∈ lw_tbl) (hini : Cond.initialized z.1.cls ∈ lw_tbl) (hco : g_w z ∈ lw_tbl)
    (hdesc : z.1.cls ≠ "java/lang/invoke/MethodHandle" ∧ z.1.cls ≠ "java/lang/invoke/VarHandle" ∧ (parseMethodDescriptor z.1.desc).map (fun q => q.parameters.length) = some nargs) (hdd : d2 + 1 ≤ d) (hmx : z.2.2.1 ≤ 21)
    (hlen : av.length = nargs) (hst : st = av.reverse ++ .retAddr k :: rest) (hrest : (rest.map fun v => v.category).sum ≤ 8) (hcost : kc + z.2.2.2.2.1 ≤ y.2.2.2.2.1 ∧ ks + z.2.2.2.2.2.1 ≤ y.2.2.2.2.2.1)
    (kk : ∀ r X', Qz r X' → GW l C y d Q QX (kc + z.2.2.2.2.1) (ks + z.2.2.2.2.2.1) (pc + 3) ls (r.toList ++ rest) X') : GW l C y d Q QX kc ks pc ls st X := by
  intro p e s m args below meth c H locs la h
  subst hst
  refine gw_fin (z := z) h (vx_runV (As := av.map (g_up C)) (b := C.2.2.2 k) (n := nargs) (Ts := []) (C := z.1.cls) ⟨h.1, h.2.1, h.2.2.2.1, h.own, fun _ q => nomatch q⟩ hM ⟨g_callB hC h.warm args hlk hini hco hdesc hdd hmx, g_word hC h.warm hin rfl args, g_word hC h.warm hse rfl args⟩
    ⟨g_blind C _ X, ?_, fun U hU hW => ⟨rfl, h.warm.trans hW, by rw [hU]; exact Nat.le_trans h.2.2.2.2.2.2.2.2.2.1.1 h.siz, by rw [hU]; exact h.at⟩⟩ rfl (by rw [List.length_map]; exact hlen) h.lv.1 (by simp [g_up]) (lv_room (by rw [g_rest_cat]; exact hrest)) hd hcost) hcost (fun _ _ q => q.elim) kk
  rw [hz]
  exact vk_recv (g_vk hC h) hk (g_vS h)
end GSTR
theorem g_shr0 (x : Int32) : x >>> ((0 : Int32) &&& 31) = x := by
  have e : (0 : Int32) &&& 31 = 0 := by decide
  rw [e]
  first | simp | (apply Int32.toInt_inj.mp; rw [pk_shr x 0 0 (by decide)]; simp)
section CSTR
variable {l : Launch} {C : gC}
theorem c_Scoder (hC : g_ctx l C) (k : Nat) (hk : k < 20) (X : gX) (d : Nat) (hd : 1 ≤ d) : gMet l C qS_coder d [.retAddr k] X (fun r X2 => r = some (.int 0) ∧ X2 = X) gN := by
  refine gMet.of (ls := [(0, .retAddr k)]) (by decide +kernel) (Nat.le_of_ble_eq_true rfl) rfl ?_
  refine gw_scmp hC (idx := 38) (by decide +kernel) (g_mem_tb (i := 778) (by decide +kernel)) ?_
  refine gw_if_eq (off := 10) (tgt := 13) (by decide +kernel) (by decide) (fun h => absurd h (by decide)) (fun _ => ?_)
  refine gw_aload_nS (k := 0) (i := 0) (by decide +kernel) rfl rfl ?_
  refine gw_scod hC hk (idx := 15) (by decide +kernel) (g_mem_tb (i := 1980) (by decide +kernel)) ?_
  refine gw_goto (off := 4) (tgt := 14) (by decide +kernel) (by decide) ?_
  exact gw_tret (by decide +kernel) rfl rfl (Nat.le_refl _) (Nat.le_refl _) ⟨rfl, rfl⟩
theorem c_Slength (hC : g_ctx l C) (k : Nat) (hk : k < 20) (X : gX) (d : Nat) (hd : 2 ≤ d) : gMet l C qS_length d [.retAddr k] X (fun r X2 => r = some (.int (nI (g_len.getD k 0))) ∧ X2 = X) gN := by
  refine gMet.of (ls := [(0, .retAddr k)]) (by decide +kernel) (Nat.le_of_ble_eq_true rfl) rfl ?_
  refine gw_aload_nS (k := 0) (i := 0) (by decide +kernel) rfl rfl ?_
  refine gw_sval hC hk (idx := 9) (by decide +kernel) (g_mem_tb (i := 1979) (by decide +kernel)) ?_
  refine gw_slen hC hk (by decide +kernel) ?_
  refine gw_aload_nS (k := 0) (i := 0) (by decide +kernel) rfl rfl ?_
  refine gw_invVs (z := qS_coder) (k := k) (av := []) (rest := [.int (nI (g_len.getD k 0))]) (nargs := 0) hC hk (c_Scoder hC k hk X (d - 1) (by omega)) rfl (idx := 335) (by decide +kernel) (g_mem_tb (i := 774) (by decide +kernel)) (g_mem_tb (i := 775) (by decide +kernel)) (g_mem_tb (i := 776) (by decide +kernel)) (g_mem_tb (i := 19) (by decide +kernel)) (g_mem_tb (i := 777) (by decide +kernel)) (by decide +kernel) (by omega) (Nat.le_of_ble_eq_true rfl) rfl rfl (Nat.le_of_ble_eq_true rfl) ⟨Nat.le_of_ble_eq_true rfl, Nat.le_of_ble_eq_true rfl⟩ ?_
  intro r X' hq
  obtain ⟨rfl, rfl⟩ := hq
  show GW l C qS_length d _ _ _ _ 9 _ [.int 0, .int (nI (g_len.getD k 0))] X'
  refine gw_ishr (by decide +kernel) ?_
  rw [g_shr0]
  exact gw_iret (by decide +kernel) rfl (Nat.le_refl _) (Nat.le_refl _) ⟨rfl, rfl⟩
theorem c_SisL (hC : g_ctx l C) (k : Nat) (hk : k < 20) (X : gX) (d : Nat) (hd : 1 ≤ d) : gMet l C qS_isL d [.retAddr k] X (fun r X2 => r = some (.int 1) ∧ X2 = X) gN := by
  refine gMet.of (ls := [(0, .retAddr k)]) (by decide +kernel) (Nat.le_of_ble_eq_true rfl) rfl ?_
  refine gw_scmp hC (idx := 38) (by decide +kernel) (g_mem_tb (i := 778) (by decide +kernel)) ?_
  refine gw_if_eq (off := 14) (tgt := 17) (by decide +kernel) (by decide) (fun h => absurd h (by decide)) (fun _ => ?_)
  refine gw_aload_nS (k := 0) (i := 0) (by decide +kernel) rfl rfl ?_
  refine gw_scod hC hk (idx := 15) (by decide +kernel) (g_mem_tb (i := 1980) (by decide +kernel)) ?_
  refine gw_if_ne (off := 7) (tgt := 17) (by decide +kernel) (by decide) (fun h => absurd rfl h) (fun _ => ?_)
  refine gw_iconst (n := 1) (v := 1) (by decide +kernel) rfl ?_
  refine gw_goto (off := 4) (tgt := 18) (by decide +kernel) (by decide) ?_
  exact gw_tret (by decide +kernel) rfl rfl (Nat.le_refl _) (Nat.le_refl _) ⟨rfl, rfl⟩
theorem c_Spre (hC : g_ctx l C) (i n : Nat) (v : Value) (hv : v = .null ∨ v = .retAddr 2000) (hi : i < n) (hn : n < 2 ^ 31) (X : gX) (d : Nat) (hd : 1 ≤ d) : gMet l C qS_pre d [.int (nI i), .int (nI n), v] X (fun r X2 => r = some (.int (nI i)) ∧ X2 = X) gN := by
  have key : ∀ ls : gL, g_lk ls 0 = some (.int (nI i)) → g_lk ls 1 = some (.int (nI n)) → GW l C qS_pre d (fun r X2 => r = some (.int (nI i)) ∧ X2 = X) gN 0 0 0 ls [] X := by
    intro ls h0 h1
    refine gw_iload_n (k := 0) (i := 0) (by decide +kernel) rfl h0 ?_
    refine gw_if_lt (off := 8) (tgt := 9) (by decide +kernel) (by decide) (fun h => absurd h (nI_pos (by omega))) (fun _ => ?_)
    refine gw_iload_n (k := 0) (i := 0) (by decide +kernel) rfl h0 ?_
    refine gw_iload_n (k := 1) (i := 1) (by decide +kernel) rfl h1 ?_
    refine gw_icmp_lt (off := 10) (tgt := 16) (by decide +kernel) (by decide) (fun _ => ?_) (fun h => absurd (nI_lt hi hn) h)
    refine gw_iload_n (k := 0) (i := 0) (by decide +kernel) rfl h0 ?_
    exact gw_iret (by decide +kernel) rfl (Nat.le_refl _) (Nat.le_refl _) ⟨rfl, rfl⟩
  rcases hv with rfl | rfl
  · exact gMet.of (ls := [(0, .int (nI i)), (1, .int (nI n)), (2, .null)]) (by decide +kernel) (Nat.le_of_ble_eq_true rfl) rfl (key _ rfl rfl)
  · exact gMet.of (ls := [(0, .int (nI i)), (1, .int (nI n)), (2, .retAddr 2000)]) (by decide +kernel) (Nat.le_of_ble_eq_true rfl) rfl (key _ rfl rfl)
theorem c_Schk (hC : g_ctx l C) (i n : Nat) (hi : i < n) (hn : n < 2 ^ 31) (X : gX) (d : Nat) (hd : 2 ≤ d) : gMet l C qS_chk d [.int (nI i), .int (nI n)] X (fun r X2 => r = none ∧ X2 = X) gN := by
  refine gMet.of (ls := [(0, .int (nI i)), (1, .int (nI n))]) (by decide +kernel) (Nat.le_of_ble_eq_true rfl) rfl ?_
  refine gw_iload_n (k := 0) (i := 0) (by decide +kernel) rfl rfl ?_
  refine gw_iload_n (k := 1) (i := 1) (by decide +kernel) rfl rfl ?_
  refine gw_ssio hC (idx := 1053) (by decide +kernel) (g_mem_tb (i := 794) (by decide +kernel)) (fun v hv => ?_)
  refine gw_invS (z := qS_pre) (av := [.int (nI i), .int (nI n), v]) (rest := []) (nargs := 3) hC (c_Spre hC i n v hv hi hn X (d - 1) (by omega)) (idx := 1059) (by decide +kernel) (g_mem_tb (i := 796) (by decide +kernel)) (g_mem_tb (i := 797) (by decide +kernel)) (g_mem_tb (i := 21) (by decide +kernel)) (g_mem_tb (i := 798) (by decide +kernel)) (by decide +kernel) (by omega) (Nat.le_of_ble_eq_true rfl) rfl rfl (Nat.le_of_ble_eq_true rfl) ⟨Nat.le_of_ble_eq_true rfl, Nat.le_of_ble_eq_true rfl⟩ (fun _ _ q => q.elim) ?_
  intro r X' hq
  obtain ⟨rfl, rfl⟩ := hq
  show GW l C qS_chk d _ _ _ _ 8 _ [.int (nI i)] X'
  refine gw_pop (by decide +kernel) rfl ?_
  exact gw_vret (by decide +kernel) rfl (Nat.le_refl _) (Nat.le_refl _) ⟨rfl, rfl⟩
def g_ch (k i : Nat) : Int32 := (g_byt.getD k []).getD i 0
theorem g_ch_ok : ∀ k, k < 20 → ∀ i, i < g_len.getD k 0 → ((g_ch k i &&& 255).toUInt32 % 65536).toInt32 = g_ch k i ∧ narrow .char (.int (g_ch k i)) = .int (g_ch k i) := by decide +kernel
theorem g_len_lt : ∀ k, k < 20 → g_len.getD k 0 < 40 := by decide +kernel
theorem c_Slch (hC : g_ctx l C) (k i : Nat) (hk : k < 20) (hi : i < g_len.getD k 0) (X : gX) (d : Nat) (hd : 3 ≤ d) : gMet l C qS_lch d [.retAddr (1000 + k), .int (nI i)] X (fun r X2 => r = some (.int (g_ch k i)) ∧ X2 = X) gN := by
  have hl := g_len_lt k hk
  refine gMet.of (ls := [(0, .retAddr (1000 + k)), (1, .int (nI i))]) (by decide +kernel) (Nat.le_of_ble_eq_true rfl) rfl ?_
  refine gw_iload_n (k := 1) (i := 1) (by decide +kernel) rfl rfl ?_
  refine gw_aload_nS (k := 0) (i := 0) (by decide +kernel) rfl rfl ?_
  refine gw_slen hC hk (by decide +kernel) ?_
  refine gw_invS (z := qS_chk) (av := [.int (nI i), .int (nI (g_len.getD k 0))]) (rest := []) (nargs := 2) hC (c_Schk hC i _ hi (by omega) X (d - 1) (by omega)) (idx := 9) (by decide +kernel) (g_mem_tb (i := 791) (by decide +kernel)) (g_mem_tb (i := 792) (by decide +kernel)) (g_mem_tb (i := 19) (by decide +kernel)) (g_mem_tb (i := 793) (by decide +kernel)) (by decide +kernel) (by omega) (Nat.le_of_ble_eq_true rfl) rfl rfl (Nat.le_of_ble_eq_true rfl) ⟨Nat.le_of_ble_eq_true rfl, Nat.le_of_ble_eq_true rfl⟩ (fun _ _ q => q.elim) ?_
  intro r X' hq
  obtain ⟨rfl, rfl⟩ := hq
  show GW l C qS_lch d _ _ _ _ 6 _ [] X'
  refine gw_aload_nS (k := 0) (i := 0) (by decide +kernel) rfl rfl ?_
  refine gw_iload_n (k := 1) (i := 1) (by decide +kernel) rfl rfl ?_
  refine gw_sbal hC hk (by decide +kernel) (vp_in_nI hi (by omega)) ?_
  rw [nI_clamp (by omega)]
  refine gw_sipush (n := 255) (v := 255) (by decide +kernel) rfl ?_
  refine gw_iand (by decide +kernel) ?_
  refine gw_i2c (by decide +kernel) ?_
  rw [show ((((g_byt.getD k []).getD i 0) &&& 255).toUInt32 % 65536).toInt32 = g_ch k i from (g_ch_ok k hk i hi).1]
  exact gw_tret (by decide +kernel) rfl (g_ch_ok k hk i hi).2 (Nat.le_refl _) (Nat.le_refl _) ⟨rfl, rfl⟩
theorem c_ScharAt (hC : g_ctx l C) (k i : Nat) (hk : k < 20) (hi : i < g_len.getD k 0) (X : gX) (d : Nat) (hd : 4 ≤ d) : gMet l C qS_charAt d [.retAddr k, .int (nI i)] X (fun r X2 => r = some (.int (g_ch k i)) ∧ X2 = X) gN := by
  refine gMet.of (ls := [(0, .retAddr k), (1, .int (nI i))]) (by decide +kernel) (Nat.le_of_ble_eq_true rfl) rfl ?_
  refine gw_aload_nS (k := 0) (i := 0) (by decide +kernel) rfl rfl ?_
  refine gw_invVs (z := qS_isL) (k := k) (av := []) (rest := []) (nargs := 0) hC hk (c_SisL hC k hk X (d - 1) (by omega)) rfl (idx := 492) (by decide +kernel) (g_mem_tb (i := 784) (by decide +kernel)) (g_mem_tb (i := 785) (by decide +kernel)) (g_mem_tb (i := 786) (by decide +kernel)) (g_mem_tb (i := 19) (by decide +kernel)) (g_mem_tb (i := 787) (by decide +kernel)) (by decide +kernel) (by omega) (Nat.le_of_ble_eq_true rfl) rfl rfl (Nat.le_of_ble_eq_true rfl) ⟨Nat.le_of_ble_eq_true rfl, Nat.le_of_ble_eq_true rfl⟩ ?_
  intro r X' hq
  obtain ⟨rfl, rfl⟩ := hq
  show GW l C qS_charAt d _ _ _ _ 4 _ [.int 1] X'
  refine gw_if_eq (off := 12) (tgt := 16) (by decide +kernel) (by decide) (fun h => absurd h (by decide)) (fun _ => ?_)
  refine gw_aload_nS (k := 0) (i := 0) (by decide +kernel) rfl rfl ?_
  refine gw_sval hC hk (idx := 9) (by decide +kernel) (g_mem_tb (i := 1979) (by decide +kernel)) ?_
  refine gw_iload_n (k := 1) (i := 1) (by decide +kernel) rfl rfl ?_
  refine gw_invS (z := qS_lch) (av := [.retAddr (1000 + k), .int (nI i)]) (rest := []) (nargs := 2) hC (c_Slch hC k i hk hi X' (d - 1) (by omega)) (idx := 495) (by decide +kernel) (g_mem_tb (i := 788) (by decide +kernel)) (g_mem_tb (i := 789) (by decide +kernel)) (g_mem_tb (i := 20) (by decide +kernel)) (g_mem_tb (i := 790) (by decide +kernel)) (by decide +kernel) (by omega) (Nat.le_of_ble_eq_true rfl) rfl rfl (Nat.le_of_ble_eq_true rfl) ⟨Nat.le_of_ble_eq_true rfl, Nat.le_of_ble_eq_true rfl⟩ (fun _ _ q => q.elim) ?_
  intro r X2 hq
  obtain ⟨rfl, rfl⟩ := hq
  show GW l C qS_charAt d _ _ _ _ 15 _ [.int (g_ch k i)] X2
  exact gw_tret (by decide +kernel) rfl (g_ch_ok k hk i hi).2 (Nat.le_refl _) (Nat.le_refl _) ⟨rfl, rfl⟩
/-- a call of length() or charAt(i) from a method of the tables -/
theorem gb_len {y : gY} {d : Nat} {Q : Option Value → gX → Prop} {QX : String → gX → Prop} {kc ks pc : Nat} {ls : gL} {rest : List Value} {X : gX} {idx pl a1 a2 a3 : Nat} (hC : g_ctx l C) (k : Nat) (hk : k < 20) (hy : g_yok y) (hq : g_cd y.2.2.2.2.2.2 pc = some (.invokevirtual idx, a1, a2, a3)) (hlk : tables_1[pl]? = some (.methodLink y.1.cls idx yJ0_length_8abf5)) (hrest : (rest.map fun v => v.category).sum ≤ 8) (hd : 3 ≤ d) (hc : kc ≤ y.2.2.2.2.1) (hs : ks ≤ y.2.2.2.2.2.1)
    (kk : GW l C y d Q QX kc ks (pc + 3) ls (.int (nI (g_len.getD k 0)) :: rest) X) : GW l C y d Q QX kc ks pc ls (.retAddr k :: rest) X := by
  refine gw_invVs (z := qS_length) (k := k) (av := []) (rest := rest) (nargs := 0) hC hk (c_Slength hC k hk X (d - 1) (by omega)) rfl (idx := idx) (g_dec hy hq).1 (g_mem_tb hlk) (g_mem_tb (i := 771) (by decide +kernel)) (g_mem_tb (i := 772) (by decide +kernel)) (g_mem_tb (i := 19) (by decide +kernel)) (g_mem_tb (i := 773) (by decide +kernel)) (by decide +kernel) (by omega) (Nat.le_of_ble_eq_true rfl) rfl rfl hrest ⟨hc, hs⟩ ?_
  intro r X' hq
  obtain ⟨rfl, rfl⟩ := hq
  exact kk
theorem gb_char {y : gY} {d : Nat} {Q : Option Value → gX → Prop} {QX : String → gX → Prop} {kc ks pc : Nat} {ls : gL} {rest : List Value} {X : gX} {idx pl a1 a2 a3 : Nat} (hC : g_ctx l C) (k i : Nat) (hk : k < 20) (hi : i < g_len.getD k 0) (hy : g_yok y) (hq : g_cd y.2.2.2.2.2.2 pc = some (.invokevirtual idx, a1, a2, a3)) (hlk : tables_1[pl]? = some (.methodLink y.1.cls idx yJ0_charAt_5068e)) (hrest : (rest.map fun v => v.category).sum ≤ 8) (hd : 5 ≤ d) (hc : kc ≤ y.2.2.2.2.1) (hs : ks ≤ y.2.2.2.2.2.1)
    (kk : GW l C y d Q QX kc ks (pc + 3) ls (.int (g_ch k i) :: rest) X) : GW l C y d Q QX kc ks pc ls (.int (nI i) :: .retAddr k :: rest) X := by
  refine gw_invVs (z := qS_charAt) (k := k) (av := [.int (nI i)]) (rest := rest) (nargs := 1) hC hk (c_ScharAt hC k i hk hi X (d - 1) (by omega)) rfl (idx := idx) (g_dec hy hq).1 (g_mem_tb hlk) (g_mem_tb (i := 781) (by decide +kernel)) (g_mem_tb (i := 782) (by decide +kernel)) (g_mem_tb (i := 19) (by decide +kernel)) (g_mem_tb (i := 783) (by decide +kernel)) (by decide +kernel) (by omega) (Nat.le_of_ble_eq_true rfl) rfl rfl hrest ⟨hc, hs⟩ ?_
  intro r X' hq
  obtain ⟨rfl, rfl⟩ := hq
  exact kk
end CSTR
