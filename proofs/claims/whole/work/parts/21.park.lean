/-! The Park: its text, what is asked of it. -/
def pc_clear (M : gM) (b : Nat) : gM := g_set (g_set (g_set (g_set (g_set M b 5 0) b 6 0) b 7 0) b 8 60) b 9 5
set_option maxRecDepth 20000 in
theorem c_Pclear {l : Launch} {C : gC} (hC : g_ctx l C)  (M : gM) (sz d : Nat) (hd : 1 ≤ d)  : gP l C qX6_clear d [.ref (9)] (M) sz (fun r M2 => r = none ∧ M2 = pc_clear M 9) := by
  refine gP.of (ls := [(0, .ref (9))]) (by decide +kernel) (Nat.le_of_ble_eq_true rfl) rfl ?_
  refine gb_run 15 (pc2 := 26) (ls2 := [(0, .ref (9))]) (st2 := []) (M2 := g_set (g_set (g_set (g_set (g_set M 9 5 (0 : Int32)) 9 6 (0 : Int32)) 9 7 (0 : Int32)) 9 8 (60 : Int32)) 9 9 (5 : Int32)) hC hqX6_clear rfl ?_
  refine gb_vret hqX6_clear rfl rfl (Nat.le_of_ble_eq_true rfl) (Nat.le_of_ble_eq_true rfl) ?_
  exact ⟨_, rfl, rfl, rfl⟩
def pc_kind (f : Nat → Int32) (p tok : Nat) : Int32 := if t_was f p tok 1 = true then 0 else if t_was f p tok 2 = true then 1 else if t_was f p tok 3 = true then 2 else if t_was f p tok 4 = true then 3 else if t_was f p tok 5 = true then 4 else -1
theorem b2i_0 {b : Bool} (h : b2i b = 0) : b = false := by cases b <;> first | rfl | exact absurd h (by decide)
theorem b2i_n {b : Bool} (h : ¬ b2i b = 0) : b = true := by cases b <;> first | rfl | exact absurd rfl h
theorem b2i_01 (b : Bool) : b2i b = 0 ∨ b2i b = 1 := by cases b <;> decide
set_option maxRecDepth 20000 in
theorem c_kindOf {l : Launch} {C : gC} (hC : g_ctx l C) (f : Nat → Int32) (p tok e : Nat) (ft fa : Int32) (M : gM) (sz d : Nat) (hd : 7 ≤ d) (hf : M 2 = f) (he : M 1 2 = nI e) (hp : p ≤ e) (hE : e ≤ 600) (ht : tok ≤ p) : gP l C qX6_kindOf d [.ref (1)] (tp M p tok ft fa) sz (fun r M2 => r = some (.int (pc_kind f p tok)) ∧ M2 = tp M p tok ft fa) := by
  refine gP.of (ls := [(0, .ref (1))]) (by decide +kernel) (Nat.le_of_ble_eq_true rfl) rfl ?_
  refine gb_run 2 (pc2 := 3) (ls2 := [(0, .ref (1))]) (st2 := [.retAddr 1, .ref (1)]) (M2 := tp M p tok ft fa) hC hqX6_kindOf rfl ?_
  refine gb_cV (z := qX10_was) (a := 1) (av := [.retAddr 1]) (rest := []) (pl := 766) hC hqX6_kindOf rfl kX10_was sX10_was (by decide +kernel) (c_was hC f p tok e 1 ft fa M sz (d - 1) (by omega) (by first | assumption | ((repeat (first | rw [r_put_ne (by decide)] | rw [g_set_ne (by decide)])); assumption)) (by first | assumption | ((repeat (first | rw [r_put_ne (by decide)] | rw [g_set_ne (by decide)])); assumption)) (by omega) hE (by omega) (by decide)) (by omega) rfl (Nat.le_of_ble_eq_true rfl) (Nat.le_of_ble_eq_true rfl) rfl rfl rfl (Nat.le_of_ble_eq_true rfl) ⟨Nat.le_of_ble_eq_true rfl, Nat.le_of_ble_eq_true rfl⟩ (fun _ _ hq => hq.elim) ?_
  intro r X hq; obtain ⟨M2, rfl, rfl, rfl⟩ := hq
  show GW _ _ _ _ _ _ _ _ 6 [(0, .ref (1))] [.int (b2i (t_was f p tok 1))] (956, g_S0, tp M p tok ft fa, sz)
  refine gb_if_eq hqX6_kindOf rfl (fun h2 => ?_) (fun h2 => ?_)
  ·
    refine gb_run 2 (pc2 := 16) (ls2 := [(0, .ref (1))]) (st2 := [.retAddr 2, .ref (1)]) (M2 := tp M p tok ft fa) hC hqX6_kindOf rfl ?_
    refine gb_cV (z := qX10_was) (a := 1) (av := [.retAddr 2]) (rest := []) (pl := 766) hC hqX6_kindOf rfl kX10_was sX10_was (by decide +kernel) (c_was hC f p tok e 2 ft fa M sz (d - 1) (by omega) (by first | assumption | ((repeat (first | rw [r_put_ne (by decide)] | rw [g_set_ne (by decide)])); assumption)) (by first | assumption | ((repeat (first | rw [r_put_ne (by decide)] | rw [g_set_ne (by decide)])); assumption)) (by omega) hE (by omega) (by decide)) (by omega) rfl (Nat.le_of_ble_eq_true rfl) (Nat.le_of_ble_eq_true rfl) rfl rfl rfl (Nat.le_of_ble_eq_true rfl) ⟨Nat.le_of_ble_eq_true rfl, Nat.le_of_ble_eq_true rfl⟩ (fun _ _ hq => hq.elim) ?_
    intro r X hq; obtain ⟨M2, rfl, rfl, rfl⟩ := hq
    show GW _ _ _ _ _ _ _ _ 19 [(0, .ref (1))] [.int (b2i (t_was f p tok 2))] (956, g_S0, tp M p tok ft fa, sz)
    refine gb_if_eq hqX6_kindOf rfl (fun h4 => ?_) (fun h4 => ?_)
    ·
      refine gb_run 2 (pc2 := 29) (ls2 := [(0, .ref (1))]) (st2 := [.retAddr 3, .ref (1)]) (M2 := tp M p tok ft fa) hC hqX6_kindOf rfl ?_
      refine gb_cV (z := qX10_was) (a := 1) (av := [.retAddr 3]) (rest := []) (pl := 766) hC hqX6_kindOf rfl kX10_was sX10_was (by decide +kernel) (c_was hC f p tok e 3 ft fa M sz (d - 1) (by omega) (by first | assumption | ((repeat (first | rw [r_put_ne (by decide)] | rw [g_set_ne (by decide)])); assumption)) (by first | assumption | ((repeat (first | rw [r_put_ne (by decide)] | rw [g_set_ne (by decide)])); assumption)) (by omega) hE (by omega) (by decide)) (by omega) rfl (Nat.le_of_ble_eq_true rfl) (Nat.le_of_ble_eq_true rfl) rfl rfl rfl (Nat.le_of_ble_eq_true rfl) ⟨Nat.le_of_ble_eq_true rfl, Nat.le_of_ble_eq_true rfl⟩ (fun _ _ hq => hq.elim) ?_
      intro r X hq; obtain ⟨M2, rfl, rfl, rfl⟩ := hq
      show GW _ _ _ _ _ _ _ _ 32 [(0, .ref (1))] [.int (b2i (t_was f p tok 3))] (956, g_S0, tp M p tok ft fa, sz)
      refine gb_if_eq hqX6_kindOf rfl (fun h6 => ?_) (fun h6 => ?_)
      ·
        refine gb_run 2 (pc2 := 42) (ls2 := [(0, .ref (1))]) (st2 := [.retAddr 4, .ref (1)]) (M2 := tp M p tok ft fa) hC hqX6_kindOf rfl ?_
        refine gb_cV (z := qX10_was) (a := 1) (av := [.retAddr 4]) (rest := []) (pl := 766) hC hqX6_kindOf rfl kX10_was sX10_was (by decide +kernel) (c_was hC f p tok e 4 ft fa M sz (d - 1) (by omega) (by first | assumption | ((repeat (first | rw [r_put_ne (by decide)] | rw [g_set_ne (by decide)])); assumption)) (by first | assumption | ((repeat (first | rw [r_put_ne (by decide)] | rw [g_set_ne (by decide)])); assumption)) (by omega) hE (by omega) (by decide)) (by omega) rfl (Nat.le_of_ble_eq_true rfl) (Nat.le_of_ble_eq_true rfl) rfl rfl rfl (Nat.le_of_ble_eq_true rfl) ⟨Nat.le_of_ble_eq_true rfl, Nat.le_of_ble_eq_true rfl⟩ (fun _ _ hq => hq.elim) ?_
        intro r X hq; obtain ⟨M2, rfl, rfl, rfl⟩ := hq
        show GW _ _ _ _ _ _ _ _ 45 [(0, .ref (1))] [.int (b2i (t_was f p tok 4))] (956, g_S0, tp M p tok ft fa, sz)
        refine gb_if_eq hqX6_kindOf rfl (fun h8 => ?_) (fun h8 => ?_)
        ·
          refine gb_run 2 (pc2 := 55) (ls2 := [(0, .ref (1))]) (st2 := [.retAddr 5, .ref (1)]) (M2 := tp M p tok ft fa) hC hqX6_kindOf rfl ?_
          refine gb_cV (z := qX10_was) (a := 1) (av := [.retAddr 5]) (rest := []) (pl := 766) hC hqX6_kindOf rfl kX10_was sX10_was (by decide +kernel) (c_was hC f p tok e 5 ft fa M sz (d - 1) (by omega) (by first | assumption | ((repeat (first | rw [r_put_ne (by decide)] | rw [g_set_ne (by decide)])); assumption)) (by first | assumption | ((repeat (first | rw [r_put_ne (by decide)] | rw [g_set_ne (by decide)])); assumption)) (by omega) hE (by omega) (by decide)) (by omega) rfl (Nat.le_of_ble_eq_true rfl) (Nat.le_of_ble_eq_true rfl) rfl rfl rfl (Nat.le_of_ble_eq_true rfl) ⟨Nat.le_of_ble_eq_true rfl, Nat.le_of_ble_eq_true rfl⟩ (fun _ _ hq => hq.elim) ?_
          intro r X hq; obtain ⟨M2, rfl, rfl, rfl⟩ := hq
          show GW _ _ _ _ _ _ _ _ 58 [(0, .ref (1))] [.int (b2i (t_was f p tok 5))] (956, g_S0, tp M p tok ft fa, sz)
          refine gb_if_eq hqX6_kindOf rfl (fun h10 => ?_) (fun h10 => ?_)
          ·
            refine gb_run 1 (pc2 := 66) (ls2 := [(0, .ref (1))]) (st2 := [.int (-1)]) (M2 := tp M p tok ft fa) hC hqX6_kindOf rfl ?_
            refine gb_iret hqX6_kindOf rfl rfl (Nat.le_of_ble_eq_true rfl) (Nat.le_of_ble_eq_true rfl) ?_
            refine ⟨_, rfl, ?_, rfl⟩
            unfold pc_kind; simp [b2i_0 h2, b2i_0 h4, b2i_0 h6, b2i_0 h8, b2i_0 h10]
          ·
            refine gb_run 2 (pc2 := 66) (ls2 := [(0, .ref (1))]) (st2 := [.int (4)]) (M2 := tp M p tok ft fa) hC hqX6_kindOf rfl ?_
            refine gb_iret hqX6_kindOf rfl rfl (Nat.le_of_ble_eq_true rfl) (Nat.le_of_ble_eq_true rfl) ?_
            refine ⟨_, rfl, ?_, rfl⟩
            unfold pc_kind; simp [b2i_0 h2, b2i_0 h4, b2i_0 h6, b2i_0 h8, b2i_n h10]
        ·
          refine gb_run 2 (pc2 := 66) (ls2 := [(0, .ref (1))]) (st2 := [.int (3)]) (M2 := tp M p tok ft fa) hC hqX6_kindOf rfl ?_
          refine gb_iret hqX6_kindOf rfl rfl (Nat.le_of_ble_eq_true rfl) (Nat.le_of_ble_eq_true rfl) ?_
          refine ⟨_, rfl, ?_, rfl⟩
          unfold pc_kind; simp [b2i_0 h2, b2i_0 h4, b2i_0 h6, b2i_n h8]
      ·
        refine gb_run 2 (pc2 := 66) (ls2 := [(0, .ref (1))]) (st2 := [.int (2)]) (M2 := tp M p tok ft fa) hC hqX6_kindOf rfl ?_
        refine gb_iret hqX6_kindOf rfl rfl (Nat.le_of_ble_eq_true rfl) (Nat.le_of_ble_eq_true rfl) ?_
        refine ⟨_, rfl, ?_, rfl⟩
        unfold pc_kind; simp [b2i_0 h2, b2i_0 h4, b2i_n h6]
    ·
      refine gb_run 2 (pc2 := 66) (ls2 := [(0, .ref (1))]) (st2 := [.int (1)]) (M2 := tp M p tok ft fa) hC hqX6_kindOf rfl ?_
      refine gb_iret hqX6_kindOf rfl rfl (Nat.le_of_ble_eq_true rfl) (Nat.le_of_ble_eq_true rfl) ?_
      refine ⟨_, rfl, ?_, rfl⟩
      unfold pc_kind; simp [b2i_0 h2, b2i_n h4]
  ·
    refine gb_run 2 (pc2 := 66) (ls2 := [(0, .ref (1))]) (st2 := [.int (0)]) (M2 := tp M p tok ft fa) hC hqX6_kindOf rfl ?_
    refine gb_iret hqX6_kindOf rfl rfl (Nat.le_of_ble_eq_true rfl) (Nat.le_of_ble_eq_true rfl) ?_
    refine ⟨_, rfl, ?_, rfl⟩
    unfold pc_kind; simp [b2i_n h2]
def pc_full (M : gM) (b : Nat) (k : Int32) : Int32 := if k = 0 then (if 8 ≤ M b 5 then 1 else 0) else if k = 1 then (if 8 ≤ M b 6 then 1 else 0) else if k = 2 then (if 8 ≤ M b 7 then 1 else 0) else 0
set_option maxRecDepth 20000 in
theorem c_isFull0 {l : Launch} {C : gC} (hC : g_ctx l C)  (M : gM) (sz d : Nat) (hd : 1 ≤ d)  : gP l C qX6_isFull d [.ref (9), .int (0)] (M) sz (fun r M2 => r = some (.int (pc_full M 9 0)) ∧ M2 = M) := by
  refine gP.of (ls := [(0, .ref (9)), (1, .int (0))]) (by decide +kernel) (Nat.le_of_ble_eq_true rfl) rfl ?_
  refine gb_run 1 (pc2 := 1) (ls2 := [(0, .ref (9)), (1, .int (0))]) (st2 := [.int (0)]) (M2 := M) hC hqX6_isFull rfl ?_
  refine gb_if_ne hqX6_isFull rfl (fun h1 => ?_) (fun h1 => ?_)
  · exact absurd h1 (by decide)
  ·
    refine gb_run 3 (pc2 := 10) (ls2 := [(0, .ref (9)), (1, .int (0))]) (st2 := [.int (8), .int (M 9 5)]) (M2 := M) hC hqX6_isFull rfl ?_
    refine gb_icmp_ge hqX6_isFull rfl (fun h2 => ?_) (fun h2 => ?_)
    ·
      refine gb_run 2 (pc2 := 46) (ls2 := [(0, .ref (9)), (1, .int (0))]) (st2 := [.int (1)]) (M2 := M) hC hqX6_isFull rfl ?_
      refine gb_zret hqX6_isFull rfl rfl (Nat.le_of_ble_eq_true rfl) (Nat.le_of_ble_eq_true rfl) (by first | exact Or.inl rfl | exact Or.inr rfl | simp) ?_
      refine ⟨_, rfl, ?_, rfl⟩
      unfold pc_full; rw [if_pos rfl, if_pos (by first | assumption | exact Int32.not_lt.mp (by assumption))]
    ·
      refine gb_run 2 (pc2 := 15) (ls2 := [(0, .ref (9)), (1, .int (0))]) (st2 := [.int (1), .int (0)]) (M2 := M) hC hqX6_isFull rfl ?_
      refine gb_icmp_ne hqX6_isFull rfl (fun h3 => ?_) (fun h3 => ?_)
      ·
        refine gb_run 2 (pc2 := 29) (ls2 := [(0, .ref (9)), (1, .int (0))]) (st2 := [.int (2), .int (0)]) (M2 := M) hC hqX6_isFull rfl ?_
        refine gb_icmp_ne hqX6_isFull rfl (fun h4 => ?_) (fun h4 => ?_)
        ·
          refine gb_run 1 (pc2 := 46) (ls2 := [(0, .ref (9)), (1, .int (0))]) (st2 := [.int (0)]) (M2 := M) hC hqX6_isFull rfl ?_
          refine gb_zret hqX6_isFull rfl rfl (Nat.le_of_ble_eq_true rfl) (Nat.le_of_ble_eq_true rfl) (by first | exact Or.inl rfl | exact Or.inr rfl | simp) ?_
          refine ⟨_, rfl, ?_, rfl⟩
          unfold pc_full; rw [if_pos rfl, if_neg (by first | assumption | (intro q; exact absurd q (Int32.not_le.mpr (by assumption))))]
        · exact absurd h4 (by decide)
      · exact absurd h3 (by decide)
set_option maxRecDepth 20000 in
theorem c_isFull1 {l : Launch} {C : gC} (hC : g_ctx l C)  (M : gM) (sz d : Nat) (hd : 1 ≤ d)  : gP l C qX6_isFull d [.ref (9), .int (1)] (M) sz (fun r M2 => r = some (.int (pc_full M 9 1)) ∧ M2 = M) := by
  refine gP.of (ls := [(0, .ref (9)), (1, .int (1))]) (by decide +kernel) (Nat.le_of_ble_eq_true rfl) rfl ?_
  refine gb_run 1 (pc2 := 1) (ls2 := [(0, .ref (9)), (1, .int (1))]) (st2 := [.int (1)]) (M2 := M) hC hqX6_isFull rfl ?_
  refine gb_if_ne hqX6_isFull rfl (fun h1 => ?_) (fun h1 => ?_)
  ·
    refine gb_run 2 (pc2 := 15) (ls2 := [(0, .ref (9)), (1, .int (1))]) (st2 := [.int (1), .int (1)]) (M2 := M) hC hqX6_isFull rfl ?_
    refine gb_icmp_ne hqX6_isFull rfl (fun h2 => ?_) (fun h2 => ?_)
    · exact absurd h2 (by decide)
    ·
      refine gb_run 3 (pc2 := 24) (ls2 := [(0, .ref (9)), (1, .int (1))]) (st2 := [.int (8), .int (M 9 6)]) (M2 := M) hC hqX6_isFull rfl ?_
      refine gb_icmp_ge hqX6_isFull rfl (fun h3 => ?_) (fun h3 => ?_)
      ·
        refine gb_run 2 (pc2 := 46) (ls2 := [(0, .ref (9)), (1, .int (1))]) (st2 := [.int (1)]) (M2 := M) hC hqX6_isFull rfl ?_
        refine gb_zret hqX6_isFull rfl rfl (Nat.le_of_ble_eq_true rfl) (Nat.le_of_ble_eq_true rfl) (by first | exact Or.inl rfl | exact Or.inr rfl | simp) ?_
        refine ⟨_, rfl, ?_, rfl⟩
        unfold pc_full; rw [if_neg (by decide), if_pos rfl, if_pos (by first | assumption | exact Int32.not_lt.mp (by assumption))]
      ·
        refine gb_run 2 (pc2 := 29) (ls2 := [(0, .ref (9)), (1, .int (1))]) (st2 := [.int (2), .int (1)]) (M2 := M) hC hqX6_isFull rfl ?_
        refine gb_icmp_ne hqX6_isFull rfl (fun h4 => ?_) (fun h4 => ?_)
        ·
          refine gb_run 1 (pc2 := 46) (ls2 := [(0, .ref (9)), (1, .int (1))]) (st2 := [.int (0)]) (M2 := M) hC hqX6_isFull rfl ?_
          refine gb_zret hqX6_isFull rfl rfl (Nat.le_of_ble_eq_true rfl) (Nat.le_of_ble_eq_true rfl) (by first | exact Or.inl rfl | exact Or.inr rfl | simp) ?_
          refine ⟨_, rfl, ?_, rfl⟩
          unfold pc_full; rw [if_neg (by decide), if_pos rfl, if_neg (by first | assumption | (intro q; exact absurd q (Int32.not_le.mpr (by assumption))))]
        · exact absurd h4 (by decide)
  · exact absurd h1 (by decide)
set_option maxRecDepth 20000 in
theorem c_isFull2 {l : Launch} {C : gC} (hC : g_ctx l C)  (M : gM) (sz d : Nat) (hd : 1 ≤ d)  : gP l C qX6_isFull d [.ref (9), .int (2)] (M) sz (fun r M2 => r = some (.int (pc_full M 9 2)) ∧ M2 = M) := by
  refine gP.of (ls := [(0, .ref (9)), (1, .int (2))]) (by decide +kernel) (Nat.le_of_ble_eq_true rfl) rfl ?_
  refine gb_run 1 (pc2 := 1) (ls2 := [(0, .ref (9)), (1, .int (2))]) (st2 := [.int (2)]) (M2 := M) hC hqX6_isFull rfl ?_
  refine gb_if_ne hqX6_isFull rfl (fun h1 => ?_) (fun h1 => ?_)
  ·
    refine gb_run 2 (pc2 := 15) (ls2 := [(0, .ref (9)), (1, .int (2))]) (st2 := [.int (1), .int (2)]) (M2 := M) hC hqX6_isFull rfl ?_
    refine gb_icmp_ne hqX6_isFull rfl (fun h2 => ?_) (fun h2 => ?_)
    ·
      refine gb_run 2 (pc2 := 29) (ls2 := [(0, .ref (9)), (1, .int (2))]) (st2 := [.int (2), .int (2)]) (M2 := M) hC hqX6_isFull rfl ?_
      refine gb_icmp_ne hqX6_isFull rfl (fun h3 => ?_) (fun h3 => ?_)
      · exact absurd h3 (by decide)
      ·
        refine gb_run 3 (pc2 := 38) (ls2 := [(0, .ref (9)), (1, .int (2))]) (st2 := [.int (8), .int (M 9 7)]) (M2 := M) hC hqX6_isFull rfl ?_
        refine gb_icmp_lt hqX6_isFull rfl (fun h4 => ?_) (fun h4 => ?_)
        ·
          refine gb_run 1 (pc2 := 46) (ls2 := [(0, .ref (9)), (1, .int (2))]) (st2 := [.int (0)]) (M2 := M) hC hqX6_isFull rfl ?_
          refine gb_zret hqX6_isFull rfl rfl (Nat.le_of_ble_eq_true rfl) (Nat.le_of_ble_eq_true rfl) (by first | exact Or.inl rfl | exact Or.inr rfl | simp) ?_
          refine ⟨_, rfl, ?_, rfl⟩
          unfold pc_full; rw [if_neg (by decide), if_neg (by decide), if_pos rfl, if_neg (by first | assumption | (intro q; exact absurd q (Int32.not_le.mpr (by assumption))))]
        ·
          refine gb_run 2 (pc2 := 46) (ls2 := [(0, .ref (9)), (1, .int (2))]) (st2 := [.int (1)]) (M2 := M) hC hqX6_isFull rfl ?_
          refine gb_zret hqX6_isFull rfl rfl (Nat.le_of_ble_eq_true rfl) (Nat.le_of_ble_eq_true rfl) (by first | exact Or.inl rfl | exact Or.inr rfl | simp) ?_
          refine ⟨_, rfl, ?_, rfl⟩
          unfold pc_full; rw [if_neg (by decide), if_neg (by decide), if_pos rfl, if_pos (by first | assumption | exact Int32.not_lt.mp (by assumption))]
    · exact absurd h2 (by decide)
  · exact absurd h1 (by decide)
set_option maxRecDepth 20000 in
theorem c_isFull3 {l : Launch} {C : gC} (hC : g_ctx l C)  (M : gM) (sz d : Nat) (hd : 1 ≤ d)  : gP l C qX6_isFull d [.ref (9), .int (3)] (M) sz (fun r M2 => r = some (.int (pc_full M 9 3)) ∧ M2 = M) := by
  refine gP.of (ls := [(0, .ref (9)), (1, .int (3))]) (by decide +kernel) (Nat.le_of_ble_eq_true rfl) rfl ?_
  refine gb_run 1 (pc2 := 1) (ls2 := [(0, .ref (9)), (1, .int (3))]) (st2 := [.int (3)]) (M2 := M) hC hqX6_isFull rfl ?_
  refine gb_if_ne hqX6_isFull rfl (fun h1 => ?_) (fun h1 => ?_)
  ·
    refine gb_run 2 (pc2 := 15) (ls2 := [(0, .ref (9)), (1, .int (3))]) (st2 := [.int (1), .int (3)]) (M2 := M) hC hqX6_isFull rfl ?_
    refine gb_icmp_ne hqX6_isFull rfl (fun h2 => ?_) (fun h2 => ?_)
    ·
      refine gb_run 2 (pc2 := 29) (ls2 := [(0, .ref (9)), (1, .int (3))]) (st2 := [.int (2), .int (3)]) (M2 := M) hC hqX6_isFull rfl ?_
      refine gb_icmp_ne hqX6_isFull rfl (fun h3 => ?_) (fun h3 => ?_)
      ·
        refine gb_run 1 (pc2 := 46) (ls2 := [(0, .ref (9)), (1, .int (3))]) (st2 := [.int (0)]) (M2 := M) hC hqX6_isFull rfl ?_
        refine gb_zret hqX6_isFull rfl rfl (Nat.le_of_ble_eq_true rfl) (Nat.le_of_ble_eq_true rfl) (by first | exact Or.inl rfl | exact Or.inr rfl | simp) ?_
        refine ⟨_, rfl, ?_, rfl⟩
        unfold pc_full; rw [if_neg (by decide), if_neg (by decide), if_neg (by decide)]
      · exact absurd h3 (by decide)
    · exact absurd h2 (by decide)
  · exact absurd h1 (by decide)
set_option maxRecDepth 20000 in
theorem c_isFull4 {l : Launch} {C : gC} (hC : g_ctx l C)  (M : gM) (sz d : Nat) (hd : 1 ≤ d)  : gP l C qX6_isFull d [.ref (9), .int (4)] (M) sz (fun r M2 => r = some (.int (pc_full M 9 4)) ∧ M2 = M) := by
  refine gP.of (ls := [(0, .ref (9)), (1, .int (4))]) (by decide +kernel) (Nat.le_of_ble_eq_true rfl) rfl ?_
  refine gb_run 1 (pc2 := 1) (ls2 := [(0, .ref (9)), (1, .int (4))]) (st2 := [.int (4)]) (M2 := M) hC hqX6_isFull rfl ?_
  refine gb_if_ne hqX6_isFull rfl (fun h1 => ?_) (fun h1 => ?_)
  ·
    refine gb_run 2 (pc2 := 15) (ls2 := [(0, .ref (9)), (1, .int (4))]) (st2 := [.int (1), .int (4)]) (M2 := M) hC hqX6_isFull rfl ?_
    refine gb_icmp_ne hqX6_isFull rfl (fun h2 => ?_) (fun h2 => ?_)
    ·
      refine gb_run 2 (pc2 := 29) (ls2 := [(0, .ref (9)), (1, .int (4))]) (st2 := [.int (2), .int (4)]) (M2 := M) hC hqX6_isFull rfl ?_
      refine gb_icmp_ne hqX6_isFull rfl (fun h3 => ?_) (fun h3 => ?_)
      ·
        refine gb_run 1 (pc2 := 46) (ls2 := [(0, .ref (9)), (1, .int (4))]) (st2 := [.int (0)]) (M2 := M) hC hqX6_isFull rfl ?_
        refine gb_zret hqX6_isFull rfl rfl (Nat.le_of_ble_eq_true rfl) (Nat.le_of_ble_eq_true rfl) (by first | exact Or.inl rfl | exact Or.inr rfl | simp) ?_
        refine ⟨_, rfl, ?_, rfl⟩
        unfold pc_full; rw [if_neg (by decide), if_neg (by decide), if_neg (by decide)]
      · exact absurd h3 (by decide)
    · exact absurd h2 (by decide)
  · exact absurd h1 (by decide)
/-- one number of a clause goes into a row at the place that a count names -/
def pc_in (f : Nat → Int32) (e : Nat) (lo hi : Int32) (row cnt : Nat) (s : gM × Nat × Int32 × Int32) : gM × Nat × Int32 × Int32 :=
  (r_put s.1 row 8 (s.1 9 cnt) (k_n f e s.2.1 s.2.2.1 s.2.2.2 lo hi).2.1, (k_n f e s.2.1 s.2.2.1 s.2.2.2 lo hi).1, (k_n f e s.2.1 s.2.2.1 s.2.2.2 lo hi).2.2.1, (k_n f e s.2.1 s.2.2.1 s.2.2.2 lo hi).2.2.2)
def pc_up (cnt : Nat) (s : gM × Nat × Int32 × Int32) : gM × Nat × Int32 × Int32 := (g_set s.1 9 cnt (s.1 9 cnt + 1), s.2)
def pc_fld (f : Nat → Int32) (e : Nat) (lo hi : Int32) (k : Nat) (s : gM × Nat × Int32 × Int32) : gM × Nat × Int32 × Int32 :=
  (g_set s.1 9 k (k_n f e s.2.1 s.2.2.1 s.2.2.2 lo hi).2.1, (k_n f e s.2.1 s.2.2.1 s.2.2.2 lo hi).1, (k_n f e s.2.1 s.2.2.1 s.2.2.2 lo hi).2.2.1, (k_n f e s.2.1 s.2.2.1 s.2.2.2 lo hi).2.2.2)
def pc_nums (f : Nat → Int32) (e : Nat) (k : Int32) (s : gM × Nat × Int32 × Int32) : gM × Nat × Int32 × Int32 :=
  if k = 0 then pc_up 5 (pc_in f e 0 16 11 5 (pc_in f e 1 20 10 5 s))
  else if k = 1 then pc_up 6 (pc_in f e 3 14 13 6 (pc_in f e 1 9 12 6 s))
  else if k = 2 then pc_up 7 (pc_in f e 1 9 14 7 s)
  else if k = 3 then pc_fld f e 1 500 8 s
  else pc_fld f e 0 20 9 s
set_option maxRecDepth 20000 in
theorem c_readNumbers0 {l : Launch} {C : gC} (hC : g_ctx l C) (f : Nat → Int32) (p tok e : Nat) (ft fa : Int32) (M : gM) (sz d : Nat) (hd : 4 ≤ d) (hf : M 2 = f) (he : M 1 2 = nI e) (hp : p ≤ e) (hE : e ≤ 600) : gP l C qX6_readNumbers d [.ref (9), .ref (1), .int (0)] (tp M p tok ft fa) sz (fun r M2 => r = none ∧ ∃ t : Nat, M2 = tp (pc_nums f e 0 (M, p, ft, fa)).1 (pc_nums f e 0 (M, p, ft, fa)).2.1 t (pc_nums f e 0 (M, p, ft, fa)).2.2.1 (pc_nums f e 0 (M, p, ft, fa)).2.2.2 ∧ p ≤ (pc_nums f e 0 (M, p, ft, fa)).2.1 ∧ (pc_nums f e 0 (M, p, ft, fa)).2.1 ≤ e) := by
  refine gP.of (ls := [(0, .ref (9)), (1, .ref (1)), (2, .int (0))]) (by decide +kernel) (Nat.le_of_ble_eq_true rfl) rfl ?_
  refine gb_run 1 (pc2 := 1) (ls2 := [(0, .ref (9)), (1, .ref (1)), (2, .int (0))]) (st2 := [.int (0)]) (M2 := tp M p tok ft fa) hC hqX6_readNumbers rfl ?_
  refine gb_tblIn (tgt := 32) hqX6_readNumbers rfl (by decide) (by decide) rfl (by decide) ?_
  refine gb_run 7 (pc2 := 44) (ls2 := [(0, .ref (9)), (1, .ref (1)), (2, .int (0))]) (st2 := [.int (20), .int (1), .ref (1), .int (M 9 5), .ref (10)]) (M2 := tp M p tok ft fa) hC hqX6_readNumbers rfl ?_
  refine gb_cV (z := qX10_number) (a := 1) (av := [.int (1), .int (20)]) (rest := [.int (M 9 5), .ref (10)]) (pl := 834) hC hqX6_readNumbers rfl kX10_number sX10_number (by decide +kernel) (c_number hC f p tok e ft fa (1 : Int32) (20 : Int32) M sz (d - 1) (by omega) (by first | assumption | ((repeat (first | rw [r_put_ne (by decide)] | rw [g_set_ne (by decide)])); assumption)) (by first | assumption | ((repeat (first | rw [r_put_ne (by decide)] | rw [g_set_ne (by decide)])); assumption)) (by omega) hE) (by omega) rfl (Nat.le_of_ble_eq_true rfl) (Nat.le_of_ble_eq_true rfl) rfl rfl rfl (Nat.le_of_ble_eq_true rfl) ⟨Nat.le_of_ble_eq_true rfl, Nat.le_of_ble_eq_true rfl⟩ (fun _ _ hq => hq.elim) ?_
  intro r X hq; obtain ⟨M2, rfl, rfl, rfl⟩ := hq
  have bs1 := k_ns_le f e p (by omega)
  rw [show (k_ns f e p).1 = (k_n f e p ft fa (1 : Int32) (20 : Int32)).1 from rfl] at bs1
  obtain ⟨s1, es1⟩ : ∃ q : Nat × Int32 × Int32 × Int32, q = k_n f e p ft fa (1 : Int32) (20 : Int32) := ⟨_, rfl⟩
  rw [← es1]
  obtain ⟨t2, et2⟩ : ∃ q : Nat, q = k_np f e p := ⟨_, rfl⟩
  rw [← et2]
  rw [← es1, ← et2] at bs1
  show GW _ _ _ _ _ _ _ _ 47 [(0, .ref (9)), (1, .ref (1)), (2, .int (0))] [.int (s1.2.1), .int (M 9 5), .ref (10)] (956, g_S0, tp M s1.1 t2 s1.2.2.1 s1.2.2.2, sz)
  refine gb_cSN (host := "HoopHours") (z := qX11_put) (av := [.ref (10), .int (M 9 5), .int (s1.2.1)]) (rest := []) (pl := 843) hC hqX6_readNumbers rfl kX11_put (by decide +kernel) (c_put hC 10 8 _ (M 9 5) s1.2.1 (tp M s1.1 t2 s1.2.2.1 s1.2.2.2) sz (d - 1) (by omega) (Nat.le_of_ble_eq_true rfl) rfl (Nat.le_of_ble_eq_true rfl)) (by omega) rfl rfl (Nat.le_of_ble_eq_true rfl) ⟨Nat.le_of_ble_eq_true rfl, Nat.le_of_ble_eq_true rfl⟩ ?_
  intro r X hq; obtain ⟨M2, rfl, rfl, rfl⟩ := hq
  show GW _ _ _ _ _ _ _ _ 50 [(0, .ref (9)), (1, .ref (1)), (2, .int (0))] [] (956, g_S0, r_put (tp M s1.1 t2 s1.2.2.1 s1.2.2.2) 10 8 (M 9 5) s1.2.1, sz)
  rw [r_put_tp _ _ _ _ _ (by decide)]
  refine gb_run 7 (pc2 := 62) (ls2 := [(0, .ref (9)), (1, .ref (1)), (2, .int (0))]) (st2 := [.int (16), .int (0), .ref (1), .int ((r_put M 10 8 (M 9 5) s1.2.1) 9 5), .ref (11)]) (M2 := tp (r_put M 10 8 (M 9 5) s1.2.1) s1.1 t2 s1.2.2.1 s1.2.2.2) hC hqX6_readNumbers rfl ?_
  refine gb_cV (z := qX10_number) (a := 1) (av := [.int (0), .int (16)]) (rest := [.int ((r_put M 10 8 (M 9 5) s1.2.1) 9 5), .ref (11)]) (pl := 834) hC hqX6_readNumbers rfl kX10_number sX10_number (by decide +kernel) (c_number hC f s1.1 t2 e s1.2.2.1 s1.2.2.2 (0 : Int32) (16 : Int32) (r_put M 10 8 (M 9 5) s1.2.1) sz (d - 1) (by omega) (by first | assumption | ((repeat (first | rw [r_put_ne (by decide)] | rw [g_set_ne (by decide)])); assumption)) (by first | assumption | ((repeat (first | rw [r_put_ne (by decide)] | rw [g_set_ne (by decide)])); assumption)) (by omega) hE) (by omega) rfl (Nat.le_of_ble_eq_true rfl) (Nat.le_of_ble_eq_true rfl) rfl rfl rfl (Nat.le_of_ble_eq_true rfl) ⟨Nat.le_of_ble_eq_true rfl, Nat.le_of_ble_eq_true rfl⟩ (fun _ _ hq => hq.elim) ?_
  intro r X hq; obtain ⟨M2, rfl, rfl, rfl⟩ := hq
  have bs5 := k_ns_le f e s1.1 (by omega)
  rw [show (k_ns f e s1.1).1 = (k_n f e s1.1 s1.2.2.1 s1.2.2.2 (0 : Int32) (16 : Int32)).1 from rfl] at bs5
  obtain ⟨s5, es5⟩ : ∃ q : Nat × Int32 × Int32 × Int32, q = k_n f e s1.1 s1.2.2.1 s1.2.2.2 (0 : Int32) (16 : Int32) := ⟨_, rfl⟩
  rw [← es5]
  obtain ⟨t6, et6⟩ : ∃ q : Nat, q = k_np f e s1.1 := ⟨_, rfl⟩
  rw [← et6]
  rw [← es5, ← et6] at bs5
  show GW _ _ _ _ _ _ _ _ 65 [(0, .ref (9)), (1, .ref (1)), (2, .int (0))] [.int (s5.2.1), .int ((r_put M 10 8 (M 9 5) s1.2.1) 9 5), .ref (11)] (956, g_S0, tp (r_put M 10 8 (M 9 5) s1.2.1) s5.1 t6 s5.2.2.1 s5.2.2.2, sz)
  refine gb_cSN (host := "HoopHours") (z := qX11_put) (av := [.ref (11), .int ((r_put M 10 8 (M 9 5) s1.2.1) 9 5), .int (s5.2.1)]) (rest := []) (pl := 843) hC hqX6_readNumbers rfl kX11_put (by decide +kernel) (c_put hC 11 8 _ ((r_put M 10 8 (M 9 5) s1.2.1) 9 5) s5.2.1 (tp (r_put M 10 8 (M 9 5) s1.2.1) s5.1 t6 s5.2.2.1 s5.2.2.2) sz (d - 1) (by omega) (Nat.le_of_ble_eq_true rfl) rfl (Nat.le_of_ble_eq_true rfl)) (by omega) rfl rfl (Nat.le_of_ble_eq_true rfl) ⟨Nat.le_of_ble_eq_true rfl, Nat.le_of_ble_eq_true rfl⟩ ?_
  intro r X hq; obtain ⟨M2, rfl, rfl, rfl⟩ := hq
  show GW _ _ _ _ _ _ _ _ 68 [(0, .ref (9)), (1, .ref (1)), (2, .int (0))] [] (956, g_S0, r_put (tp (r_put M 10 8 (M 9 5) s1.2.1) s5.1 t6 s5.2.2.1 s5.2.2.2) 11 8 ((r_put M 10 8 (M 9 5) s1.2.1) 9 5) s5.2.1, sz)
  rw [r_put_tp _ _ _ _ _ (by decide)]
  refine gb_run 7 (pc2 := 187) (ls2 := [(0, .ref (9)), (1, .ref (1)), (2, .int (0))]) (st2 := []) (M2 := g_set (tp (r_put (r_put M 10 8 (M 9 5) s1.2.1) 11 8 ((r_put M 10 8 (M 9 5) s1.2.1) 9 5) s5.2.1) s5.1 t6 s5.2.2.1 s5.2.2.2) 9 5 (((r_put (r_put M 10 8 (M 9 5) s1.2.1) 11 8 ((r_put M 10 8 (M 9 5) s1.2.1) 9 5) s5.2.1) 9 5) + 1)) hC hqX6_readNumbers rfl ?_
  rw [g_set_tp _ _ _ _ _ (by decide)]
  refine gb_vret hqX6_readNumbers rfl rfl (Nat.le_of_ble_eq_true rfl) (Nat.le_of_ble_eq_true rfl) ?_
  refine ⟨_, rfl, rfl, t6, ?_, ?_, ?_⟩
  · rw [es5, es1]; rfl
  · have q : (pc_nums f e 0 (M, p, ft, fa)).2.1 = s5.1 := by rw [es5, es1]; rfl
    omega
  · have q : (pc_nums f e 0 (M, p, ft, fa)).2.1 = s5.1 := by rw [es5, es1]; rfl
    omega
set_option maxRecDepth 20000 in
theorem c_readNumbers1 {l : Launch} {C : gC} (hC : g_ctx l C) (f : Nat → Int32) (p tok e : Nat) (ft fa : Int32) (M : gM) (sz d : Nat) (hd : 4 ≤ d) (hf : M 2 = f) (he : M 1 2 = nI e) (hp : p ≤ e) (hE : e ≤ 600) : gP l C qX6_readNumbers d [.ref (9), .ref (1), .int (1)] (tp M p tok ft fa) sz (fun r M2 => r = none ∧ ∃ t : Nat, M2 = tp (pc_nums f e 1 (M, p, ft, fa)).1 (pc_nums f e 1 (M, p, ft, fa)).2.1 t (pc_nums f e 1 (M, p, ft, fa)).2.2.1 (pc_nums f e 1 (M, p, ft, fa)).2.2.2 ∧ p ≤ (pc_nums f e 1 (M, p, ft, fa)).2.1 ∧ (pc_nums f e 1 (M, p, ft, fa)).2.1 ≤ e) := by
  refine gP.of (ls := [(0, .ref (9)), (1, .ref (1)), (2, .int (1))]) (by decide +kernel) (Nat.le_of_ble_eq_true rfl) rfl ?_
  refine gb_run 1 (pc2 := 1) (ls2 := [(0, .ref (9)), (1, .ref (1)), (2, .int (1))]) (st2 := [.int (1)]) (M2 := tp M p tok ft fa) hC hqX6_readNumbers rfl ?_
  refine gb_tblIn (tgt := 81) hqX6_readNumbers rfl (by decide) (by decide) rfl (by decide) ?_
  refine gb_run 7 (pc2 := 93) (ls2 := [(0, .ref (9)), (1, .ref (1)), (2, .int (1))]) (st2 := [.int (9), .int (1), .ref (1), .int (M 9 6), .ref (12)]) (M2 := tp M p tok ft fa) hC hqX6_readNumbers rfl ?_
  refine gb_cV (z := qX10_number) (a := 1) (av := [.int (1), .int (9)]) (rest := [.int (M 9 6), .ref (12)]) (pl := 834) hC hqX6_readNumbers rfl kX10_number sX10_number (by decide +kernel) (c_number hC f p tok e ft fa (1 : Int32) (9 : Int32) M sz (d - 1) (by omega) (by first | assumption | ((repeat (first | rw [r_put_ne (by decide)] | rw [g_set_ne (by decide)])); assumption)) (by first | assumption | ((repeat (first | rw [r_put_ne (by decide)] | rw [g_set_ne (by decide)])); assumption)) (by omega) hE) (by omega) rfl (Nat.le_of_ble_eq_true rfl) (Nat.le_of_ble_eq_true rfl) rfl rfl rfl (Nat.le_of_ble_eq_true rfl) ⟨Nat.le_of_ble_eq_true rfl, Nat.le_of_ble_eq_true rfl⟩ (fun _ _ hq => hq.elim) ?_
  intro r X hq; obtain ⟨M2, rfl, rfl, rfl⟩ := hq
  have bs1 := k_ns_le f e p (by omega)
  rw [show (k_ns f e p).1 = (k_n f e p ft fa (1 : Int32) (9 : Int32)).1 from rfl] at bs1
  obtain ⟨s1, es1⟩ : ∃ q : Nat × Int32 × Int32 × Int32, q = k_n f e p ft fa (1 : Int32) (9 : Int32) := ⟨_, rfl⟩
  rw [← es1]
  obtain ⟨t2, et2⟩ : ∃ q : Nat, q = k_np f e p := ⟨_, rfl⟩
  rw [← et2]
  rw [← es1, ← et2] at bs1
  show GW _ _ _ _ _ _ _ _ 96 [(0, .ref (9)), (1, .ref (1)), (2, .int (1))] [.int (s1.2.1), .int (M 9 6), .ref (12)] (956, g_S0, tp M s1.1 t2 s1.2.2.1 s1.2.2.2, sz)
  refine gb_cSN (host := "HoopHours") (z := qX11_put) (av := [.ref (12), .int (M 9 6), .int (s1.2.1)]) (rest := []) (pl := 843) hC hqX6_readNumbers rfl kX11_put (by decide +kernel) (c_put hC 12 8 _ (M 9 6) s1.2.1 (tp M s1.1 t2 s1.2.2.1 s1.2.2.2) sz (d - 1) (by omega) (Nat.le_of_ble_eq_true rfl) rfl (Nat.le_of_ble_eq_true rfl)) (by omega) rfl rfl (Nat.le_of_ble_eq_true rfl) ⟨Nat.le_of_ble_eq_true rfl, Nat.le_of_ble_eq_true rfl⟩ ?_
  intro r X hq; obtain ⟨M2, rfl, rfl, rfl⟩ := hq
  show GW _ _ _ _ _ _ _ _ 99 [(0, .ref (9)), (1, .ref (1)), (2, .int (1))] [] (956, g_S0, r_put (tp M s1.1 t2 s1.2.2.1 s1.2.2.2) 12 8 (M 9 6) s1.2.1, sz)
  rw [r_put_tp _ _ _ _ _ (by decide)]
  refine gb_run 7 (pc2 := 111) (ls2 := [(0, .ref (9)), (1, .ref (1)), (2, .int (1))]) (st2 := [.int (14), .int (3), .ref (1), .int ((r_put M 12 8 (M 9 6) s1.2.1) 9 6), .ref (13)]) (M2 := tp (r_put M 12 8 (M 9 6) s1.2.1) s1.1 t2 s1.2.2.1 s1.2.2.2) hC hqX6_readNumbers rfl ?_
  refine gb_cV (z := qX10_number) (a := 1) (av := [.int (3), .int (14)]) (rest := [.int ((r_put M 12 8 (M 9 6) s1.2.1) 9 6), .ref (13)]) (pl := 834) hC hqX6_readNumbers rfl kX10_number sX10_number (by decide +kernel) (c_number hC f s1.1 t2 e s1.2.2.1 s1.2.2.2 (3 : Int32) (14 : Int32) (r_put M 12 8 (M 9 6) s1.2.1) sz (d - 1) (by omega) (by first | assumption | ((repeat (first | rw [r_put_ne (by decide)] | rw [g_set_ne (by decide)])); assumption)) (by first | assumption | ((repeat (first | rw [r_put_ne (by decide)] | rw [g_set_ne (by decide)])); assumption)) (by omega) hE) (by omega) rfl (Nat.le_of_ble_eq_true rfl) (Nat.le_of_ble_eq_true rfl) rfl rfl rfl (Nat.le_of_ble_eq_true rfl) ⟨Nat.le_of_ble_eq_true rfl, Nat.le_of_ble_eq_true rfl⟩ (fun _ _ hq => hq.elim) ?_
  intro r X hq; obtain ⟨M2, rfl, rfl, rfl⟩ := hq
  have bs5 := k_ns_le f e s1.1 (by omega)
  rw [show (k_ns f e s1.1).1 = (k_n f e s1.1 s1.2.2.1 s1.2.2.2 (3 : Int32) (14 : Int32)).1 from rfl] at bs5
  obtain ⟨s5, es5⟩ : ∃ q : Nat × Int32 × Int32 × Int32, q = k_n f e s1.1 s1.2.2.1 s1.2.2.2 (3 : Int32) (14 : Int32) := ⟨_, rfl⟩
  rw [← es5]
  obtain ⟨t6, et6⟩ : ∃ q : Nat, q = k_np f e s1.1 := ⟨_, rfl⟩
  rw [← et6]
  rw [← es5, ← et6] at bs5
  show GW _ _ _ _ _ _ _ _ 114 [(0, .ref (9)), (1, .ref (1)), (2, .int (1))] [.int (s5.2.1), .int ((r_put M 12 8 (M 9 6) s1.2.1) 9 6), .ref (13)] (956, g_S0, tp (r_put M 12 8 (M 9 6) s1.2.1) s5.1 t6 s5.2.2.1 s5.2.2.2, sz)
  refine gb_cSN (host := "HoopHours") (z := qX11_put) (av := [.ref (13), .int ((r_put M 12 8 (M 9 6) s1.2.1) 9 6), .int (s5.2.1)]) (rest := []) (pl := 843) hC hqX6_readNumbers rfl kX11_put (by decide +kernel) (c_put hC 13 8 _ ((r_put M 12 8 (M 9 6) s1.2.1) 9 6) s5.2.1 (tp (r_put M 12 8 (M 9 6) s1.2.1) s5.1 t6 s5.2.2.1 s5.2.2.2) sz (d - 1) (by omega) (Nat.le_of_ble_eq_true rfl) rfl (Nat.le_of_ble_eq_true rfl)) (by omega) rfl rfl (Nat.le_of_ble_eq_true rfl) ⟨Nat.le_of_ble_eq_true rfl, Nat.le_of_ble_eq_true rfl⟩ ?_
  intro r X hq; obtain ⟨M2, rfl, rfl, rfl⟩ := hq
  show GW _ _ _ _ _ _ _ _ 117 [(0, .ref (9)), (1, .ref (1)), (2, .int (1))] [] (956, g_S0, r_put (tp (r_put M 12 8 (M 9 6) s1.2.1) s5.1 t6 s5.2.2.1 s5.2.2.2) 13 8 ((r_put M 12 8 (M 9 6) s1.2.1) 9 6) s5.2.1, sz)
  rw [r_put_tp _ _ _ _ _ (by decide)]
  refine gb_run 7 (pc2 := 187) (ls2 := [(0, .ref (9)), (1, .ref (1)), (2, .int (1))]) (st2 := []) (M2 := g_set (tp (r_put (r_put M 12 8 (M 9 6) s1.2.1) 13 8 ((r_put M 12 8 (M 9 6) s1.2.1) 9 6) s5.2.1) s5.1 t6 s5.2.2.1 s5.2.2.2) 9 6 (((r_put (r_put M 12 8 (M 9 6) s1.2.1) 13 8 ((r_put M 12 8 (M 9 6) s1.2.1) 9 6) s5.2.1) 9 6) + 1)) hC hqX6_readNumbers rfl ?_
  rw [g_set_tp _ _ _ _ _ (by decide)]
  refine gb_vret hqX6_readNumbers rfl rfl (Nat.le_of_ble_eq_true rfl) (Nat.le_of_ble_eq_true rfl) ?_
  refine ⟨_, rfl, rfl, t6, ?_, ?_, ?_⟩
  · rw [es5, es1]; rfl
  · have q : (pc_nums f e 1 (M, p, ft, fa)).2.1 = s5.1 := by rw [es5, es1]; rfl
    omega
  · have q : (pc_nums f e 1 (M, p, ft, fa)).2.1 = s5.1 := by rw [es5, es1]; rfl
    omega
set_option maxRecDepth 20000 in
theorem c_readNumbers2 {l : Launch} {C : gC} (hC : g_ctx l C) (f : Nat → Int32) (p tok e : Nat) (ft fa : Int32) (M : gM) (sz d : Nat) (hd : 4 ≤ d) (hf : M 2 = f) (he : M 1 2 = nI e) (hp : p ≤ e) (hE : e ≤ 600) : gP l C qX6_readNumbers d [.ref (9), .ref (1), .int (2)] (tp M p tok ft fa) sz (fun r M2 => r = none ∧ ∃ t : Nat, M2 = tp (pc_nums f e 2 (M, p, ft, fa)).1 (pc_nums f e 2 (M, p, ft, fa)).2.1 t (pc_nums f e 2 (M, p, ft, fa)).2.2.1 (pc_nums f e 2 (M, p, ft, fa)).2.2.2 ∧ p ≤ (pc_nums f e 2 (M, p, ft, fa)).2.1 ∧ (pc_nums f e 2 (M, p, ft, fa)).2.1 ≤ e) := by
  refine gP.of (ls := [(0, .ref (9)), (1, .ref (1)), (2, .int (2))]) (by decide +kernel) (Nat.le_of_ble_eq_true rfl) rfl ?_
  refine gb_run 1 (pc2 := 1) (ls2 := [(0, .ref (9)), (1, .ref (1)), (2, .int (2))]) (st2 := [.int (2)]) (M2 := tp M p tok ft fa) hC hqX6_readNumbers rfl ?_
  refine gb_tblIn (tgt := 130) hqX6_readNumbers rfl (by decide) (by decide) rfl (by decide) ?_
  refine gb_run 7 (pc2 := 142) (ls2 := [(0, .ref (9)), (1, .ref (1)), (2, .int (2))]) (st2 := [.int (9), .int (1), .ref (1), .int (M 9 7), .ref (14)]) (M2 := tp M p tok ft fa) hC hqX6_readNumbers rfl ?_
  refine gb_cV (z := qX10_number) (a := 1) (av := [.int (1), .int (9)]) (rest := [.int (M 9 7), .ref (14)]) (pl := 834) hC hqX6_readNumbers rfl kX10_number sX10_number (by decide +kernel) (c_number hC f p tok e ft fa (1 : Int32) (9 : Int32) M sz (d - 1) (by omega) (by first | assumption | ((repeat (first | rw [r_put_ne (by decide)] | rw [g_set_ne (by decide)])); assumption)) (by first | assumption | ((repeat (first | rw [r_put_ne (by decide)] | rw [g_set_ne (by decide)])); assumption)) (by omega) hE) (by omega) rfl (Nat.le_of_ble_eq_true rfl) (Nat.le_of_ble_eq_true rfl) rfl rfl rfl (Nat.le_of_ble_eq_true rfl) ⟨Nat.le_of_ble_eq_true rfl, Nat.le_of_ble_eq_true rfl⟩ (fun _ _ hq => hq.elim) ?_
  intro r X hq; obtain ⟨M2, rfl, rfl, rfl⟩ := hq
  have bs1 := k_ns_le f e p (by omega)
  rw [show (k_ns f e p).1 = (k_n f e p ft fa (1 : Int32) (9 : Int32)).1 from rfl] at bs1
  obtain ⟨s1, es1⟩ : ∃ q : Nat × Int32 × Int32 × Int32, q = k_n f e p ft fa (1 : Int32) (9 : Int32) := ⟨_, rfl⟩
  rw [← es1]
  obtain ⟨t2, et2⟩ : ∃ q : Nat, q = k_np f e p := ⟨_, rfl⟩
  rw [← et2]
  rw [← es1, ← et2] at bs1
  show GW _ _ _ _ _ _ _ _ 145 [(0, .ref (9)), (1, .ref (1)), (2, .int (2))] [.int (s1.2.1), .int (M 9 7), .ref (14)] (956, g_S0, tp M s1.1 t2 s1.2.2.1 s1.2.2.2, sz)
  refine gb_cSN (host := "HoopHours") (z := qX11_put) (av := [.ref (14), .int (M 9 7), .int (s1.2.1)]) (rest := []) (pl := 843) hC hqX6_readNumbers rfl kX11_put (by decide +kernel) (c_put hC 14 8 _ (M 9 7) s1.2.1 (tp M s1.1 t2 s1.2.2.1 s1.2.2.2) sz (d - 1) (by omega) (Nat.le_of_ble_eq_true rfl) rfl (Nat.le_of_ble_eq_true rfl)) (by omega) rfl rfl (Nat.le_of_ble_eq_true rfl) ⟨Nat.le_of_ble_eq_true rfl, Nat.le_of_ble_eq_true rfl⟩ ?_
  intro r X hq; obtain ⟨M2, rfl, rfl, rfl⟩ := hq
  show GW _ _ _ _ _ _ _ _ 148 [(0, .ref (9)), (1, .ref (1)), (2, .int (2))] [] (956, g_S0, r_put (tp M s1.1 t2 s1.2.2.1 s1.2.2.2) 14 8 (M 9 7) s1.2.1, sz)
  rw [r_put_tp _ _ _ _ _ (by decide)]
  refine gb_run 7 (pc2 := 187) (ls2 := [(0, .ref (9)), (1, .ref (1)), (2, .int (2))]) (st2 := []) (M2 := g_set (tp (r_put M 14 8 (M 9 7) s1.2.1) s1.1 t2 s1.2.2.1 s1.2.2.2) 9 7 (((r_put M 14 8 (M 9 7) s1.2.1) 9 7) + 1)) hC hqX6_readNumbers rfl ?_
  rw [g_set_tp _ _ _ _ _ (by decide)]
  refine gb_vret hqX6_readNumbers rfl rfl (Nat.le_of_ble_eq_true rfl) (Nat.le_of_ble_eq_true rfl) ?_
  refine ⟨_, rfl, rfl, t2, ?_, ?_, ?_⟩
  · rw [es1]; rfl
  · have q : (pc_nums f e 2 (M, p, ft, fa)).2.1 = s1.1 := by rw [es1]; rfl
    omega
  · have q : (pc_nums f e 2 (M, p, ft, fa)).2.1 = s1.1 := by rw [es1]; rfl
    omega
set_option maxRecDepth 20000 in
theorem c_readNumbers3 {l : Launch} {C : gC} (hC : g_ctx l C) (f : Nat → Int32) (p tok e : Nat) (ft fa : Int32) (M : gM) (sz d : Nat) (hd : 4 ≤ d) (hf : M 2 = f) (he : M 1 2 = nI e) (hp : p ≤ e) (hE : e ≤ 600) : gP l C qX6_readNumbers d [.ref (9), .ref (1), .int (3)] (tp M p tok ft fa) sz (fun r M2 => r = none ∧ ∃ t : Nat, M2 = tp (pc_nums f e 3 (M, p, ft, fa)).1 (pc_nums f e 3 (M, p, ft, fa)).2.1 t (pc_nums f e 3 (M, p, ft, fa)).2.2.1 (pc_nums f e 3 (M, p, ft, fa)).2.2.2 ∧ p ≤ (pc_nums f e 3 (M, p, ft, fa)).2.1 ∧ (pc_nums f e 3 (M, p, ft, fa)).2.1 ≤ e) := by
  refine gP.of (ls := [(0, .ref (9)), (1, .ref (1)), (2, .int (3))]) (by decide +kernel) (Nat.le_of_ble_eq_true rfl) rfl ?_
  refine gb_run 1 (pc2 := 1) (ls2 := [(0, .ref (9)), (1, .ref (1)), (2, .int (3))]) (st2 := [.int (3)]) (M2 := tp M p tok ft fa) hC hqX6_readNumbers rfl ?_
  refine gb_tblIn (tgt := 161) hqX6_readNumbers rfl (by decide) (by decide) rfl (by decide) ?_
  refine gb_run 4 (pc2 := 167) (ls2 := [(0, .ref (9)), (1, .ref (1)), (2, .int (3))]) (st2 := [.int (500), .int (1), .ref (1), .ref (9)]) (M2 := tp M p tok ft fa) hC hqX6_readNumbers rfl ?_
  refine gb_cV (z := qX10_number) (a := 1) (av := [.int (1), .int (500)]) (rest := [.ref (9)]) (pl := 834) hC hqX6_readNumbers rfl kX10_number sX10_number (by decide +kernel) (c_number hC f p tok e ft fa (1 : Int32) (500 : Int32) M sz (d - 1) (by omega) (by first | assumption | ((repeat (first | rw [r_put_ne (by decide)] | rw [g_set_ne (by decide)])); assumption)) (by first | assumption | ((repeat (first | rw [r_put_ne (by decide)] | rw [g_set_ne (by decide)])); assumption)) (by omega) hE) (by omega) rfl (Nat.le_of_ble_eq_true rfl) (Nat.le_of_ble_eq_true rfl) rfl rfl rfl (Nat.le_of_ble_eq_true rfl) ⟨Nat.le_of_ble_eq_true rfl, Nat.le_of_ble_eq_true rfl⟩ (fun _ _ hq => hq.elim) ?_
  intro r X hq; obtain ⟨M2, rfl, rfl, rfl⟩ := hq
  have bs1 := k_ns_le f e p (by omega)
  rw [show (k_ns f e p).1 = (k_n f e p ft fa (1 : Int32) (500 : Int32)).1 from rfl] at bs1
  obtain ⟨s1, es1⟩ : ∃ q : Nat × Int32 × Int32 × Int32, q = k_n f e p ft fa (1 : Int32) (500 : Int32) := ⟨_, rfl⟩
  rw [← es1]
  obtain ⟨t2, et2⟩ : ∃ q : Nat, q = k_np f e p := ⟨_, rfl⟩
  rw [← et2]
  rw [← es1, ← et2] at bs1
  show GW _ _ _ _ _ _ _ _ 170 [(0, .ref (9)), (1, .ref (1)), (2, .int (3))] [.int (s1.2.1), .ref (9)] (956, g_S0, tp M s1.1 t2 s1.2.2.1 s1.2.2.2, sz)
  refine gb_run 2 (pc2 := 187) (ls2 := [(0, .ref (9)), (1, .ref (1)), (2, .int (3))]) (st2 := []) (M2 := g_set (tp M s1.1 t2 s1.2.2.1 s1.2.2.2) 9 8 s1.2.1) hC hqX6_readNumbers rfl ?_
  rw [g_set_tp _ _ _ _ _ (by decide)]
  refine gb_vret hqX6_readNumbers rfl rfl (Nat.le_of_ble_eq_true rfl) (Nat.le_of_ble_eq_true rfl) ?_
  refine ⟨_, rfl, rfl, t2, ?_, ?_, ?_⟩
  · rw [es1]; rfl
  · have q : (pc_nums f e 3 (M, p, ft, fa)).2.1 = s1.1 := by rw [es1]; rfl
    omega
  · have q : (pc_nums f e 3 (M, p, ft, fa)).2.1 = s1.1 := by rw [es1]; rfl
    omega
set_option maxRecDepth 20000 in
theorem c_readNumbers4 {l : Launch} {C : gC} (hC : g_ctx l C) (f : Nat → Int32) (p tok e : Nat) (ft fa : Int32) (M : gM) (sz d : Nat) (hd : 4 ≤ d) (hf : M 2 = f) (he : M 1 2 = nI e) (hp : p ≤ e) (hE : e ≤ 600) : gP l C qX6_readNumbers d [.ref (9), .ref (1), .int (4)] (tp M p tok ft fa) sz (fun r M2 => r = none ∧ ∃ t : Nat, M2 = tp (pc_nums f e 4 (M, p, ft, fa)).1 (pc_nums f e 4 (M, p, ft, fa)).2.1 t (pc_nums f e 4 (M, p, ft, fa)).2.2.1 (pc_nums f e 4 (M, p, ft, fa)).2.2.2 ∧ p ≤ (pc_nums f e 4 (M, p, ft, fa)).2.1 ∧ (pc_nums f e 4 (M, p, ft, fa)).2.1 ≤ e) := by
  refine gP.of (ls := [(0, .ref (9)), (1, .ref (1)), (2, .int (4))]) (by decide +kernel) (Nat.le_of_ble_eq_true rfl) rfl ?_
  refine gb_run 1 (pc2 := 1) (ls2 := [(0, .ref (9)), (1, .ref (1)), (2, .int (4))]) (st2 := [.int (4)]) (M2 := tp M p tok ft fa) hC hqX6_readNumbers rfl ?_
  refine gb_tblOut (tgt := 176) hqX6_readNumbers rfl (by decide) (by decide) ?_
  refine gb_run 4 (pc2 := 181) (ls2 := [(0, .ref (9)), (1, .ref (1)), (2, .int (4))]) (st2 := [.int (20), .int (0), .ref (1), .ref (9)]) (M2 := tp M p tok ft fa) hC hqX6_readNumbers rfl ?_
  refine gb_cV (z := qX10_number) (a := 1) (av := [.int (0), .int (20)]) (rest := [.ref (9)]) (pl := 834) hC hqX6_readNumbers rfl kX10_number sX10_number (by decide +kernel) (c_number hC f p tok e ft fa (0 : Int32) (20 : Int32) M sz (d - 1) (by omega) (by first | assumption | ((repeat (first | rw [r_put_ne (by decide)] | rw [g_set_ne (by decide)])); assumption)) (by first | assumption | ((repeat (first | rw [r_put_ne (by decide)] | rw [g_set_ne (by decide)])); assumption)) (by omega) hE) (by omega) rfl (Nat.le_of_ble_eq_true rfl) (Nat.le_of_ble_eq_true rfl) rfl rfl rfl (Nat.le_of_ble_eq_true rfl) ⟨Nat.le_of_ble_eq_true rfl, Nat.le_of_ble_eq_true rfl⟩ (fun _ _ hq => hq.elim) ?_
  intro r X hq; obtain ⟨M2, rfl, rfl, rfl⟩ := hq
  have bs1 := k_ns_le f e p (by omega)
  rw [show (k_ns f e p).1 = (k_n f e p ft fa (0 : Int32) (20 : Int32)).1 from rfl] at bs1
  obtain ⟨s1, es1⟩ : ∃ q : Nat × Int32 × Int32 × Int32, q = k_n f e p ft fa (0 : Int32) (20 : Int32) := ⟨_, rfl⟩
  rw [← es1]
  obtain ⟨t2, et2⟩ : ∃ q : Nat, q = k_np f e p := ⟨_, rfl⟩
  rw [← et2]
  rw [← es1, ← et2] at bs1
  show GW _ _ _ _ _ _ _ _ 184 [(0, .ref (9)), (1, .ref (1)), (2, .int (4))] [.int (s1.2.1), .ref (9)] (956, g_S0, tp M s1.1 t2 s1.2.2.1 s1.2.2.2, sz)
  refine gb_run 1 (pc2 := 187) (ls2 := [(0, .ref (9)), (1, .ref (1)), (2, .int (4))]) (st2 := []) (M2 := g_set (tp M s1.1 t2 s1.2.2.1 s1.2.2.2) 9 9 s1.2.1) hC hqX6_readNumbers rfl ?_
  rw [g_set_tp _ _ _ _ _ (by decide)]
  refine gb_vret hqX6_readNumbers rfl rfl (Nat.le_of_ble_eq_true rfl) (Nat.le_of_ble_eq_true rfl) ?_
  refine ⟨_, rfl, rfl, t2, ?_, ?_, ?_⟩
  · rw [es1]; rfl
  · have q : (pc_nums f e 4 (M, p, ft, fa)).2.1 = s1.1 := by rw [es1]; rfl
    omega
  · have q : (pc_nums f e 4 (M, p, ft, fa)).2.1 = s1.1 := by rw [es1]; rfl
    omega
