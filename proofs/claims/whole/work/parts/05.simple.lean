/-! Rules of GW for the instructions that touch locals and the stack. -/
theorem gCx.lv {C : gC} {y : gY} {X : gX} {ls : gL} {p : Program} {s : State} {m : MethodId} {meth : Method} {c : Code} {H : Heap} {locs : List Loc} {la : Array Slot} (h : gCx C y X ls p s m meth c H locs la) : lv_has la y.2.2.1 (ls.map (fun q => (q.1, g_up C q.2))) := h.2.2.2.2.2.2.2.2.2.2.2.2.2
theorem gCx.at {C : gC} {y : gY} {X : gX} {ls : gL} {p : Program} {s : State} {m : MethodId} {meth : Method} {c : Code} {H : Heap} {locs : List Loc} {la : Array Slot} (h : gCx C y X ls p s m meth c H locs la) : g_at C X H := h.2.2.2.2.2.2.2.2.2.2.2.1
theorem gCx.lc {C : gC} {y : gY} {X : gX} {ls : gL} {p : Program} {s : State} {m : MethodId} {meth : Method} {c : Code} {H : Heap} {locs : List Loc} {la : Array Slot} (h : gCx C y X ls p s m meth c H locs la) : ∀ q ∈ locs, g_F C q.base := h.2.2.2.2.2.2.2.2.2.2.2.2.1
theorem gCx.siz {C : gC} {y : gY} {X : gX} {ls : gL} {p : Program} {s : State} {m : MethodId} {meth : Method} {c : Code} {H : Heap} {locs : List Loc} {la : Array Slot} (h : gCx C y X ls p s m meth c H locs la) : s.heap.size ≤ H.size := h.2.2.2.2.2.2.2.2.2.2.1
theorem gCx.warm {C : gC} {y : gY} {X : gX} {ls : gL} {p : Program} {s : State} {m : MethodId} {meth : Method} {c : Code} {H : Heap} {locs : List Loc} {la : Array Slot} (h : gCx C y X ls p s m meth c H locs la) : C.1.WarmedH s.vm := h.2.2.2.2.2.2.2.2.1
theorem gCx.own {C : gC} {y : gY} {X : gX} {ls : gL} {p : Program} {s : State} {m : MethodId} {meth : Method} {c : Code} {H : Heap} {locs : List Loc} {la : Array Slot} (h : gCx C y X ls p s m meth c H locs la) : s.vm.findClass y.1.cls = some m.cls := h.2.2.2.2.1
theorem gCx.setL {C : gC} {y : gY} {X : gX} {ls ls' : gL} {p : Program} {s : State} {m : MethodId} {meth : Method} {c : Code} {H : Heap} {locs : List Loc} {la la' : Array Slot} (h : gCx C y X ls p s m meth c H locs la) (h' : lv_has la' y.2.2.1 (ls'.map (fun q => (q.1, g_up C q.2)))) : gCx C y X ls' p s m meth c H locs la' := by
  obtain ⟨h1, h2, h3, h4, h5, h6, h7, h8, h9, h10, h11, h12, h13, h14⟩ := h
  exact ⟨h1, h2, h3, h4, h5, h6, h7, h8, h9, h10, h11, h12, h13, h'⟩
theorem gCx.setH {C : gC} {y : gY} {X X' : gX} {ls : gL} {p : Program} {s : State} {m : MethodId} {meth : Method} {c : Code} {H H' : Heap} {locs locs' : List Loc} {la : Array Slot} (h : gCx C y X ls p s m meth c H locs la) (hz : H.size ≤ H'.size) (ha : g_at C X' H') (hl : ∀ q ∈ locs', g_F C q.base) : gCx C y X' ls p s m meth c H' locs' la := by
  obtain ⟨h1, h2, h3, h4, h5, h6, h7, h8, h9, h10, h11, h12, h13, h14⟩ := h
  exact ⟨h1, h2, h3, h4, h5, h6, h7, h8, h9, h10, Nat.le_trans h11 hz, ha, hl, h14⟩
section GR2
variable {l : Launch} {C : gC} {y : gY} {d : Nat} {Q : Option Value → gX → Prop} {QX : String → gX → Prop} {kc ks pc : Nat} {ls : gL} {st : List Value} {X : gX}
theorem gw_istore_n {k : Fin 4} {i : Nat} {x : Int32} (hd : decode y.2.1 pc = .ok (.istore_n k, 1)) (hi : (k : Nat) = i) (hn : i < y.2.2.1) (kk : GW l C y d Q QX kc ks (pc + 1) (g_st1 ls i (.int x)) st X) : GW l C y d Q QX kc ks pc ls (.int x :: st) X :=
  fun p e s m args below meth c H locs la h => lv_istore_n h.1 h.2.1 hd hi h.lv hn (g_st1_up C ls i (.int x)) (fun la' h' => kk p e s m args below meth c H locs la' (h.setL h'))
theorem gw_istore {i : Nat} {x : Int32} (hd : decode y.2.1 pc = .ok (.istore i, 2)) (hn : i < y.2.2.1) (kk : GW l C y d Q QX kc ks (pc + 2) (g_st1 ls i (.int x)) st X) : GW l C y d Q QX kc ks pc ls (.int x :: st) X :=
  fun p e s m args below meth c H locs la h => lv_istore h.1 h.2.1 hd h.lv hn (g_st1_up C ls i (.int x)) (fun la' h' => kk p e s m args below meth c H locs la' (h.setL h'))
theorem gw_lstore_n {k : Fin 4} {i : Nat} {x : Int64} (hd : decode y.2.1 pc = .ok (.lstore_n k, 1)) (hi : (k : Nat) = i) (hn : i + 1 < y.2.2.1) (kk : GW l C y d Q QX kc ks (pc + 1) (g_st2 ls i (.long x)) st X) : GW l C y d Q QX kc ks pc ls (.long x :: st) X :=
  fun p e s m args below meth c H locs la h => lv_lstore_n h.1 h.2.1 hd hi h.lv hn (g_st2_up C ls i (.long x)) (fun la' h' => kk p e s m args below meth c H locs la' (h.setL h'))
theorem gw_lstore {i : Nat} {x : Int64} (hd : decode y.2.1 pc = .ok (.lstore i, 2)) (hn : i + 1 < y.2.2.1) (kk : GW l C y d Q QX kc ks (pc + 2) (g_st2 ls i (.long x)) st X) : GW l C y d Q QX kc ks pc ls (.long x :: st) X :=
  fun p e s m args below meth c H locs la h => lv_lstore h.1 h.2.1 hd h.lv hn (g_st2_up C ls i (.long x)) (fun la' h' => kk p e s m args below meth c H locs la' (h.setL h'))
theorem gw_astore_n {k : Fin 4} {i : Nat} {x : Nat} (hd : decode y.2.1 pc = .ok (.astore_n k, 1)) (hi : (k : Nat) = i) (hn : i < y.2.2.1) (kk : GW l C y d Q QX kc ks (pc + 1) (g_st1 ls i (.ref x)) st X) : GW l C y d Q QX kc ks pc ls (.ref x :: st) X :=
  fun p e s m args below meth c H locs la h => lv_astore_n h.1 h.2.1 hd hi h.lv hn (g_st1_up C ls i (.ref x)) (fun la' h' => kk p e s m args below meth c H locs la' (h.setL h'))
theorem gw_astore {i : Nat} {x : Nat} (hd : decode y.2.1 pc = .ok (.astore i, 2)) (hn : i < y.2.2.1) (kk : GW l C y d Q QX kc ks (pc + 2) (g_st1 ls i (.ref x)) st X) : GW l C y d Q QX kc ks pc ls (.ref x :: st) X :=
  fun p e s m args below meth c H locs la h => lv_astore h.1 h.2.1 hd h.lv hn (g_st1_up C ls i (.ref x)) (fun la' h' => kk p e s m args below meth c H locs la' (h.setL h'))
theorem gw_aloadS {i : Nat} {x : Nat} (hd : decode y.2.1 pc = .ok (.aload i, 2)) (hl : g_lk ls i = some (.retAddr x)) (kk : GW l C y d Q QX kc ks (pc + 2) ls (.retAddr x :: st) X) : GW l C y d Q QX kc ks pc ls st X :=
  fun p e s m args below meth c H locs la h => lv_aload h.1 h.2.1 hd (g_la h.lv hl) (kk p e s m args below meth c H locs la h)
theorem gw_iinc {i : Nat} {n : Int} {x v : Int32} (hd : decode y.2.1 pc = .ok (.iinc i n, 3)) (hl : g_lk ls i = some (.int x)) (hv : x + Int32.ofInt n = v) (hn : i < y.2.2.1) (kk : GW l C y d Q QX kc ks (pc + 3) (g_st1 ls i (.int v)) st X) : GW l C y d Q QX kc ks pc ls st X := by
  intro p e s m args below meth c H locs la h
  have hm : (i, Value.int x) ∈ ls.map (fun q => (q.1, g_up C q.2)) := List.mem_map.mpr ⟨(i, .int x), g_lk_mem hl, rfl⟩
  obtain ⟨k, hk⟩ := List.mem_iff_getElem?.mp hm
  exact lv_iinc h.1 h.2.1 hd h.lv hk hv hn (g_st1_up C ls i (.int v)) (fun la' h' => kk p e s m args below meth c H locs la' (h.setL h'))
theorem gw_iadd {x y2 : Int32} (hd : decode y.2.1 pc = .ok (.iadd, 1)) (kk : GW l C y d Q QX kc ks (pc + 1) ls (.int (x + y2) :: st) X) : GW l C y d Q QX kc ks pc ls (.int y2 :: .int x :: st) X :=
  fun p e s m args below meth c H locs la h => lv_iadd h.1 h.2.1 hd (kk p e s m args below meth c H locs la h)
theorem gw_isub {x y2 : Int32} (hd : decode y.2.1 pc = .ok (.isub, 1)) (kk : GW l C y d Q QX kc ks (pc + 1) ls (.int (x - y2) :: st) X) : GW l C y d Q QX kc ks pc ls (.int y2 :: .int x :: st) X :=
  fun p e s m args below meth c H locs la h => lv_isub h.1 h.2.1 hd (kk p e s m args below meth c H locs la h)
theorem gw_imul {x y2 : Int32} (hd : decode y.2.1 pc = .ok (.imul, 1)) (kk : GW l C y d Q QX kc ks (pc + 1) ls (.int (x * y2) :: st) X) : GW l C y d Q QX kc ks pc ls (.int y2 :: .int x :: st) X :=
  fun p e s m args below meth c H locs la h => lv_imul h.1 h.2.1 hd (kk p e s m args below meth c H locs la h)
theorem gw_iand {x y2 : Int32} (hd : decode y.2.1 pc = .ok (.iand, 1)) (kk : GW l C y d Q QX kc ks (pc + 1) ls (.int (x &&& y2) :: st) X) : GW l C y d Q QX kc ks pc ls (.int y2 :: .int x :: st) X :=
  fun p e s m args below meth c H locs la h => lv_iand h.1 h.2.1 hd (kk p e s m args below meth c H locs la h)
theorem gw_ior {x y2 : Int32} (hd : decode y.2.1 pc = .ok (.ior, 1)) (kk : GW l C y d Q QX kc ks (pc + 1) ls (.int (x ||| y2) :: st) X) : GW l C y d Q QX kc ks pc ls (.int y2 :: .int x :: st) X :=
  fun p e s m args below meth c H locs la h => lv_ior h.1 h.2.1 hd (kk p e s m args below meth c H locs la h)
theorem gw_ixor {x y2 : Int32} (hd : decode y.2.1 pc = .ok (.ixor, 1)) (kk : GW l C y d Q QX kc ks (pc + 1) ls (.int (x ^^^ y2) :: st) X) : GW l C y d Q QX kc ks pc ls (.int y2 :: .int x :: st) X :=
  fun p e s m args below meth c H locs la h => lv_ixor h.1 h.2.1 hd (kk p e s m args below meth c H locs la h)
theorem gw_ishl {x y2 : Int32} (hd : decode y.2.1 pc = .ok (.ishl, 1)) (kk : GW l C y d Q QX kc ks (pc + 1) ls (.int (x <<< (y2 &&& 31)) :: st) X) : GW l C y d Q QX kc ks pc ls (.int y2 :: .int x :: st) X :=
  fun p e s m args below meth c H locs la h => lv_ishl h.1 h.2.1 hd (kk p e s m args below meth c H locs la h)
theorem gw_ishr {x y2 : Int32} (hd : decode y.2.1 pc = .ok (.ishr, 1)) (kk : GW l C y d Q QX kc ks (pc + 1) ls (.int (x >>> (y2 &&& 31)) :: st) X) : GW l C y d Q QX kc ks pc ls (.int y2 :: .int x :: st) X :=
  fun p e s m args below meth c H locs la h => lv_ishr h.1 h.2.1 hd (kk p e s m args below meth c H locs la h)
theorem gw_iushr {x y2 : Int32} (hd : decode y.2.1 pc = .ok (.iushr, 1)) (kk : GW l C y d Q QX kc ks (pc + 1) ls (.int ((x.toUInt32 >>> (y2.toUInt32 &&& Int32.toUInt32 31)).toInt32) :: st) X) : GW l C y d Q QX kc ks pc ls (.int y2 :: .int x :: st) X :=
  fun p e s m args below meth c H locs la h => lv_iushr h.1 h.2.1 hd rfl (kk p e s m args below meth c H locs la h)
theorem gw_ladd {x y2 : Int64} (hd : decode y.2.1 pc = .ok (.ladd, 1)) (kk : GW l C y d Q QX kc ks (pc + 1) ls (.long (x + y2) :: st) X) : GW l C y d Q QX kc ks pc ls (.long y2 :: .long x :: st) X :=
  fun p e s m args below meth c H locs la h => lv_ladd h.1 h.2.1 hd (kk p e s m args below meth c H locs la h)
theorem gw_lsub {x y2 : Int64} (hd : decode y.2.1 pc = .ok (.lsub, 1)) (kk : GW l C y d Q QX kc ks (pc + 1) ls (.long (x - y2) :: st) X) : GW l C y d Q QX kc ks pc ls (.long y2 :: .long x :: st) X :=
  fun p e s m args below meth c H locs la h => lv_lsub h.1 h.2.1 hd (kk p e s m args below meth c H locs la h)
theorem gw_lmul {x y2 : Int64} (hd : decode y.2.1 pc = .ok (.lmul, 1)) (kk : GW l C y d Q QX kc ks (pc + 1) ls (.long (x * y2) :: st) X) : GW l C y d Q QX kc ks pc ls (.long y2 :: .long x :: st) X :=
  fun p e s m args below meth c H locs la h => lv_lmul h.1 h.2.1 hd (kk p e s m args below meth c H locs la h)
theorem gw_idiv {x y2 : Int32} (hd : decode y.2.1 pc = .ok (.idiv, 1)) (hne : ¬ y2 = 0) (kk : GW l C y d Q QX kc ks (pc + 1) ls (.int (x / y2) :: st) X) : GW l C y d Q QX kc ks pc ls (.int y2 :: .int x :: st) X :=
  fun p e s m args below meth c H locs la h => lv_idiv h.1 h.2.1 hd hne (kk p e s m args below meth c H locs la h)
theorem gw_irem {x y2 : Int32} (hd : decode y.2.1 pc = .ok (.irem, 1)) (hne : ¬ y2 = 0) (kk : GW l C y d Q QX kc ks (pc + 1) ls (.int (x - x / y2 * y2) :: st) X) : GW l C y d Q QX kc ks pc ls (.int y2 :: .int x :: st) X :=
  fun p e s m args below meth c H locs la h => lv_irem h.1 h.2.1 hd hne (kk p e s m args below meth c H locs la h)
theorem gw_ldiv {x y2 : Int64} (hd : decode y.2.1 pc = .ok (.ldiv, 1)) (hne : ¬ y2 = 0) (kk : GW l C y d Q QX kc ks (pc + 1) ls (.long (x / y2) :: st) X) : GW l C y d Q QX kc ks pc ls (.long y2 :: .long x :: st) X :=
  fun p e s m args below meth c H locs la h => lv_ldiv h.1 h.2.1 hd hne (kk p e s m args below meth c H locs la h)
theorem gw_lrem {x y2 : Int64} (hd : decode y.2.1 pc = .ok (.lrem, 1)) (hne : ¬ y2 = 0) (kk : GW l C y d Q QX kc ks (pc + 1) ls (.long (x - x / y2 * y2) :: st) X) : GW l C y d Q QX kc ks pc ls (.long y2 :: .long x :: st) X :=
  fun p e s m args below meth c H locs la h => lv_lrem h.1 h.2.1 hd hne (kk p e s m args below meth c H locs la h)
theorem gw_ineg {x : Int32} (hd : decode y.2.1 pc = .ok (.ineg, 1)) (kk : GW l C y d Q QX kc ks (pc + 1) ls (.int (-x) :: st) X) : GW l C y d Q QX kc ks pc ls (.int x :: st) X :=
  fun p e s m args below meth c H locs la h => lv_ineg h.1 h.2.1 hd (kk p e s m args below meth c H locs la h)
theorem gw_i2l {x : Int32} (hd : decode y.2.1 pc = .ok (.i2l, 1)) (kk : GW l C y d Q QX kc ks (pc + 1) ls (.long x.toInt64 :: st) X) : GW l C y d Q QX kc ks pc ls (.int x :: st) X :=
  fun p e s m args below meth c H locs la h => lv_i2l h.1 h.2.1 hd rfl (kk p e s m args below meth c H locs la h)
theorem gw_l2i {x : Int64} (hd : decode y.2.1 pc = .ok (.l2i, 1)) (kk : GW l C y d Q QX kc ks (pc + 1) ls (.int x.toInt32 :: st) X) : GW l C y d Q QX kc ks pc ls (.long x :: st) X :=
  fun p e s m args below meth c H locs la h => lv_l2i h.1 h.2.1 hd rfl (kk p e s m args below meth c H locs la h)
theorem gw_lcmp {x y2 : Int64} (hd : decode y.2.1 pc = .ok (.lcmp, 1)) (kk : GW l C y d Q QX kc ks (pc + 1) ls (.int (lg_cmp x y2) :: st) X) : GW l C y d Q QX kc ks pc ls (.long y2 :: .long x :: st) X :=
  fun p e s m args below meth c H locs la h => W.lcmp h.1 h.2.1 hd (kk p e s m args below meth c H locs la h)
theorem gw_dup {v : Value} (hd : decode y.2.1 pc = .ok (.dup, 1)) (hv : v.category = 1) (kk : GW l C y d Q QX kc ks (pc + 1) ls (v :: v :: st) X) : GW l C y d Q QX kc ks pc ls (v :: st) X :=
  fun p e s m args below meth c H locs la h => lv_dup h.1 h.2.1 hd ((g_up_cat C v).trans hv) (kk p e s m args below meth c H locs la h)
theorem gw_pop {v : Value} (hd : decode y.2.1 pc = .ok (.pop, 1)) (hv : v.category = 1) (kk : GW l C y d Q QX kc ks (pc + 1) ls st X) : GW l C y d Q QX kc ks pc ls (v :: st) X :=
  fun p e s m args below meth c H locs la h => lv_pop h.1 h.2.1 hd ((g_up_cat C v).trans hv) (kk p e s m args below meth c H locs la h)
theorem gw_dup_x1 {v w : Value} (hd : decode y.2.1 pc = .ok (.dup_x1, 1)) (hv : v.category = 1) (hw : w.category = 1) (kk : GW l C y d Q QX kc ks (pc + 1) ls (v :: w :: v :: st) X) : GW l C y d Q QX kc ks pc ls (v :: w :: st) X :=
  fun p e s m args below meth c H locs la h => lv_dup_x1 h.1 h.2.1 hd ((g_up_cat C v).trans hv) ((g_up_cat C w).trans hw) (kk p e s m args below meth c H locs la h)
theorem gw_dup2 {v w : Value} (hd : decode y.2.1 pc = .ok (.dup2, 1)) (hv : v.category = 1) (hw : w.category = 1) (kk : GW l C y d Q QX kc ks (pc + 1) ls (v :: w :: v :: w :: st) X) : GW l C y d Q QX kc ks pc ls (v :: w :: st) X :=
  fun p e s m args below meth c H locs la h => lv_dup2_11 h.1 h.2.1 hd ((g_up_cat C v).trans hv) ((g_up_cat C w).trans hw) (kk p e s m args below meth c H locs la h)
theorem gw_goto {off : Int} {tgt : Nat} (hd : decode y.2.1 pc = .ok (.goto off, 3)) (ht : (pc : Int) + off = (tgt : Int)) (kk : GW l C y d Q QX kc ks tgt ls st X) : GW l C y d Q QX kc ks pc ls st X :=
  fun p e s m args below meth c H locs la h => lv_goto h.1 h.2.1 hd ht (kk p e s m args below meth c H locs la h)
theorem gw_if_eq {x : Int32} {off : Int} {tgt : Nat} (hd : decode y.2.1 pc = .ok (.ifCond .eq off, 3)) (ht : (pc : Int) + off = (tgt : Int)) (kt : x = 0 → GW l C y d Q QX kc ks tgt ls st X) (kf : ¬ (x = 0) → GW l C y d Q QX kc ks (pc + 3) ls st X) : GW l C y d Q QX kc ks pc ls (.int x :: st) X :=
  fun p e s m args below meth c H locs la h => lv_if_eq h.1 h.2.1 hd ht (fun q => kt q p e s m args below meth c H locs la h) (fun q => kf q p e s m args below meth c H locs la h)
theorem gw_icmp_eq {x y2 : Int32} {off : Int} {tgt : Nat} (hd : decode y.2.1 pc = .ok (.if_icmp .eq off, 3)) (ht : (pc : Int) + off = (tgt : Int)) (kt : x = y2 → GW l C y d Q QX kc ks tgt ls st X) (kf : ¬ (x = y2) → GW l C y d Q QX kc ks (pc + 3) ls st X) : GW l C y d Q QX kc ks pc ls (.int y2 :: .int x :: st) X :=
  fun p e s m args below meth c H locs la h => lv_icmp_eq h.1 h.2.1 hd ht (fun q => kt q p e s m args below meth c H locs la h) (fun q => kf q p e s m args below meth c H locs la h)
theorem gw_if_ne {x : Int32} {off : Int} {tgt : Nat} (hd : decode y.2.1 pc = .ok (.ifCond .ne off, 3)) (ht : (pc : Int) + off = (tgt : Int)) (kt : ¬ x = 0 → GW l C y d Q QX kc ks tgt ls st X) (kf : x = 0 → GW l C y d Q QX kc ks (pc + 3) ls st X) : GW l C y d Q QX kc ks pc ls (.int x :: st) X :=
  fun p e s m args below meth c H locs la h => lv_if_ne h.1 h.2.1 hd ht (fun q => kt q p e s m args below meth c H locs la h) (fun q => kf q p e s m args below meth c H locs la h)
theorem gw_icmp_ne {x y2 : Int32} {off : Int} {tgt : Nat} (hd : decode y.2.1 pc = .ok (.if_icmp .ne off, 3)) (ht : (pc : Int) + off = (tgt : Int)) (kt : ¬ x = y2 → GW l C y d Q QX kc ks tgt ls st X) (kf : x = y2 → GW l C y d Q QX kc ks (pc + 3) ls st X) : GW l C y d Q QX kc ks pc ls (.int y2 :: .int x :: st) X :=
  fun p e s m args below meth c H locs la h => lv_icmp_ne h.1 h.2.1 hd ht (fun q => kt q p e s m args below meth c H locs la h) (fun q => kf q p e s m args below meth c H locs la h)
theorem gw_if_lt {x : Int32} {off : Int} {tgt : Nat} (hd : decode y.2.1 pc = .ok (.ifCond .lt off, 3)) (ht : (pc : Int) + off = (tgt : Int)) (kt : x < 0 → GW l C y d Q QX kc ks tgt ls st X) (kf : ¬ (x < 0) → GW l C y d Q QX kc ks (pc + 3) ls st X) : GW l C y d Q QX kc ks pc ls (.int x :: st) X :=
  fun p e s m args below meth c H locs la h => lv_if_lt h.1 h.2.1 hd ht (fun q => kt q p e s m args below meth c H locs la h) (fun q => kf q p e s m args below meth c H locs la h)
theorem gw_icmp_lt {x y2 : Int32} {off : Int} {tgt : Nat} (hd : decode y.2.1 pc = .ok (.if_icmp .lt off, 3)) (ht : (pc : Int) + off = (tgt : Int)) (kt : x < y2 → GW l C y d Q QX kc ks tgt ls st X) (kf : ¬ (x < y2) → GW l C y d Q QX kc ks (pc + 3) ls st X) : GW l C y d Q QX kc ks pc ls (.int y2 :: .int x :: st) X :=
  fun p e s m args below meth c H locs la h => lv_icmp_lt h.1 h.2.1 hd ht (fun q => kt q p e s m args below meth c H locs la h) (fun q => kf q p e s m args below meth c H locs la h)
theorem gw_if_ge {x : Int32} {off : Int} {tgt : Nat} (hd : decode y.2.1 pc = .ok (.ifCond .ge off, 3)) (ht : (pc : Int) + off = (tgt : Int)) (kt : 0 ≤ x → GW l C y d Q QX kc ks tgt ls st X) (kf : ¬ (0 ≤ x) → GW l C y d Q QX kc ks (pc + 3) ls st X) : GW l C y d Q QX kc ks pc ls (.int x :: st) X :=
  fun p e s m args below meth c H locs la h => lv_if_ge h.1 h.2.1 hd ht (fun q => kt q p e s m args below meth c H locs la h) (fun q => kf q p e s m args below meth c H locs la h)
theorem gw_icmp_ge {x y2 : Int32} {off : Int} {tgt : Nat} (hd : decode y.2.1 pc = .ok (.if_icmp .ge off, 3)) (ht : (pc : Int) + off = (tgt : Int)) (kt : y2 ≤ x → GW l C y d Q QX kc ks tgt ls st X) (kf : ¬ (y2 ≤ x) → GW l C y d Q QX kc ks (pc + 3) ls st X) : GW l C y d Q QX kc ks pc ls (.int y2 :: .int x :: st) X :=
  fun p e s m args below meth c H locs la h => lv_icmp_ge h.1 h.2.1 hd ht (fun q => kt q p e s m args below meth c H locs la h) (fun q => kf q p e s m args below meth c H locs la h)
theorem gw_if_gt {x : Int32} {off : Int} {tgt : Nat} (hd : decode y.2.1 pc = .ok (.ifCond .gt off, 3)) (ht : (pc : Int) + off = (tgt : Int)) (kt : 0 < x → GW l C y d Q QX kc ks tgt ls st X) (kf : ¬ (0 < x) → GW l C y d Q QX kc ks (pc + 3) ls st X) : GW l C y d Q QX kc ks pc ls (.int x :: st) X :=
  fun p e s m args below meth c H locs la h => lv_if_gt h.1 h.2.1 hd ht (fun q => kt q p e s m args below meth c H locs la h) (fun q => kf q p e s m args below meth c H locs la h)
theorem gw_icmp_gt {x y2 : Int32} {off : Int} {tgt : Nat} (hd : decode y.2.1 pc = .ok (.if_icmp .gt off, 3)) (ht : (pc : Int) + off = (tgt : Int)) (kt : y2 < x → GW l C y d Q QX kc ks tgt ls st X) (kf : ¬ (y2 < x) → GW l C y d Q QX kc ks (pc + 3) ls st X) : GW l C y d Q QX kc ks pc ls (.int y2 :: .int x :: st) X :=
  fun p e s m args below meth c H locs la h => lv_icmp_gt h.1 h.2.1 hd ht (fun q => kt q p e s m args below meth c H locs la h) (fun q => kf q p e s m args below meth c H locs la h)
theorem gw_if_le {x : Int32} {off : Int} {tgt : Nat} (hd : decode y.2.1 pc = .ok (.ifCond .le off, 3)) (ht : (pc : Int) + off = (tgt : Int)) (kt : x ≤ 0 → GW l C y d Q QX kc ks tgt ls st X) (kf : ¬ (x ≤ 0) → GW l C y d Q QX kc ks (pc + 3) ls st X) : GW l C y d Q QX kc ks pc ls (.int x :: st) X :=
  fun p e s m args below meth c H locs la h => lv_if_le h.1 h.2.1 hd ht (fun q => kt q p e s m args below meth c H locs la h) (fun q => kf q p e s m args below meth c H locs la h)
theorem gw_icmp_le {x y2 : Int32} {off : Int} {tgt : Nat} (hd : decode y.2.1 pc = .ok (.if_icmp .le off, 3)) (ht : (pc : Int) + off = (tgt : Int)) (kt : x ≤ y2 → GW l C y d Q QX kc ks tgt ls st X) (kf : ¬ (x ≤ y2) → GW l C y d Q QX kc ks (pc + 3) ls st X) : GW l C y d Q QX kc ks pc ls (.int y2 :: .int x :: st) X :=
  fun p e s m args below meth c H locs la h => lv_icmp_le h.1 h.2.1 hd ht (fun q => kt q p e s m args below meth c H locs la h) (fun q => kf q p e s m args below meth c H locs la h)
theorem gw_ifnull {x : Nat} {off : Int} (hd : decode y.2.1 pc = .ok (.ifnull off, 3)) (kk : GW l C y d Q QX kc ks (pc + 3) ls st X) : GW l C y d Q QX kc ks pc ls (.ref x :: st) X :=
  fun p e s m args below meth c H locs la h => lv_ifnull h.1 h.2.1 hd (kk p e s m args below meth c H locs la h)
theorem gw_ifnonnull {x : Nat} {off : Int} {tgt : Nat} (hd : decode y.2.1 pc = .ok (.ifnonnull off, 3)) (ht : (pc : Int) + off = (tgt : Int)) (kk : GW l C y d Q QX kc ks tgt ls st X) : GW l C y d Q QX kc ks pc ls (.ref x :: st) X :=
  fun p e s m args below meth c H locs la h => lv_ifnonnull h.1 h.2.1 hd ht (kk p e s m args below meth c H locs la h)
theorem gw_tableOut {dflt lo hi : Int} {offs : Array Int} {len : Nat} {x : Int32} {tgt : Nat} (hd : decode y.2.1 pc = .ok (.tableswitch dflt lo hi offs, len)) (hx : x.toInt < lo ∨ hi < x.toInt) (ht : (pc : Int) + dflt = (tgt : Int)) (kk : GW l C y d Q QX kc ks tgt ls st X) : GW l C y d Q QX kc ks pc ls (.int x :: st) X :=
  fun p e s m args below meth c H locs la h => lv_tableOut h.1 h.2.1 hd hx ht (kk p e s m args below meth c H locs la h)
theorem gw_tableIn {dflt lo hi : Int} {offs : Array Int} {len : Nat} {x : Int32} {off : Int} {tgt : Nat} (hd : decode y.2.1 pc = .ok (.tableswitch dflt lo hi offs, len)) (h1 : ¬ x.toInt < lo) (h2 : ¬ hi < x.toInt) (ho : offs[(x.toInt - lo).toNat]? = some off) (ht : (pc : Int) + off = (tgt : Int)) (kk : GW l C y d Q QX kc ks tgt ls st X) : GW l C y d Q QX kc ks pc ls (.int x :: st) X :=
  fun p e s m args below meth c H locs la h => lv_tableIn h.1 h.2.1 hd h1 h2 ho ht (kk p e s m args below meth c H locs la h)
theorem gw_lookup {dflt : Int} {ps : Array (Int × Int)} {len : Nat} {x : Int32} {off : Int} {tgt : Nat} (hd : decode y.2.1 pc = .ok (.lookupswitch dflt ps, len)) (hp : (ps.toList.zip (ps.toList.drop 1)).all (fun (a, next) => a.1 < next.1) = true) (ho : Op.lookupswitch.offset ps.toList dflt x.toInt = off) (ht : (pc : Int) + off = (tgt : Int)) (kk : GW l C y d Q QX kc ks tgt ls st X) : GW l C y d Q QX kc ks pc ls (.int x :: st) X :=
  fun p e s m args below meth c H locs la h => lv_lookup h.1 h.2.1 hd hp ho ht (kk p e s m args below meth c H locs la h)
theorem g_put {a : Addr} {j : Nat} {locs : List Loc} {C : gC} (hl : ∀ q ∈ locs, g_b C ≤ q.base) (ha : g_b C ≤ a) : ∀ q ∈ locs ++ [⟨a, j⟩], g_b C ≤ q.base := by
  intro q hq
  rcases List.mem_append.mp hq with h | h
  · exact hl q h
  · rw [List.mem_singleton.mp h]
    exact ha
theorem gw_iret {x : Int32} (hd : decode y.2.1 pc = .ok (.ireturn, 1)) (hr : y.2.2.2.1 = some .int) (hc : kc ≤ y.2.2.2.2.1) (hs : ks ≤ y.2.2.2.2.2.1) (hq : Q (some (.int x)) X) : GW l C y d Q QX kc ks pc ls [.int x] X :=
  fun p e s m args below meth c H locs la h => vx_ret (W.widen hc hs (W.iret h.1 h.2.1 (h.2.2.1.trans hr) (fun t ht _ => ⟨some (.int x), X, rfl, hq, by rw [ht]; exact h.at, by rw [ht]; exact h.siz⟩) h.lc hd h.2.2.2.2.2.1))
theorem gw_zret {x : Int32} (hd : decode y.2.1 pc = .ok (.ireturn, 1)) (hr : y.2.2.2.1 = some .boolean) (hx : x = 0 ∨ x = 1) (hc : kc ≤ y.2.2.2.2.1) (hs : ks ≤ y.2.2.2.2.2.1) (hq : Q (some (.int x)) X) : GW l C y d Q QX kc ks pc ls [.int x] X :=
  fun p e s m args below meth c H locs la h => vx_ret (W.widen hc hs (W.zret h.1 h.2.1 (h.2.2.1.trans hr) (by rcases hx with rfl | rfl <;> rfl) (fun t ht _ => ⟨some (.int x), X, rfl, hq, by rw [ht]; exact h.at, by rw [ht]; exact h.siz⟩) h.lc hd h.2.2.2.2.2.1))
theorem gw_vret (hd : decode y.2.1 pc = .ok (.return_, 1)) (hr : y.2.2.2.1 = none) (hc : kc ≤ y.2.2.2.2.1) (hs : ks ≤ y.2.2.2.2.2.1) (hq : Q none X) : GW l C y d Q QX kc ks pc ls [] X :=
  fun p e s m args below meth c H locs la h => vx_ret (W.widen hc hs (W.vret h.1 h.2.1 (h.2.2.1.trans hr) (fun t ht _ => ⟨none, X, rfl, hq, by rw [ht]; exact h.at, by rw [ht]; exact h.siz⟩) h.lc hd h.2.2.2.2.2.1))
theorem gw_lret {x : Int64} (hd : decode y.2.1 pc = .ok (.lreturn, 1)) (hr : y.2.2.2.1 = some .long) (hc : kc ≤ y.2.2.2.2.1) (hs : ks ≤ y.2.2.2.2.2.1) (hq : Q (some (.long x)) X) : GW l C y d Q QX kc ks pc ls [.long x] X :=
  fun p e s m args below meth c H locs la h => vx_ret (W.widen hc hs (W.lret h.1 h.2.1 (h.2.2.1.trans hr) (fun t ht _ => ⟨some (.long x), X, rfl, hq, by rw [ht]; exact h.at, by rw [ht]; exact h.siz⟩) h.lc hd h.2.2.2.2.2.1))
end GR2
