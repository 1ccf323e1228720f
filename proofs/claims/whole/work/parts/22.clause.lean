/-! The Park's clauses, its reading and copying. -/
theorem pc_in_keep (f : Nat → Int32) (e : Nat) (lo hi : Int32) (row cnt : Nat) (s : gM × Nat × Int32 × Int32) {b : Nat} (h : b ≠ row) : (pc_in f e lo hi row cnt s).1 b = s.1 b := r_put_ne h
theorem pc_up_keep (cnt : Nat) (s : gM × Nat × Int32 × Int32) {b : Nat} (h : b ≠ 9) : (pc_up cnt s).1 b = s.1 b := g_set_ne h
theorem pc_fld_keep (f : Nat → Int32) (e : Nat) (lo hi : Int32) (k : Nat) (s : gM × Nat × Int32 × Int32) {b : Nat} (h : b ≠ 9) : (pc_fld f e lo hi k s).1 b = s.1 b := g_set_ne h
theorem pc_nums_keep (f : Nat → Int32) (e : Nat) (k : Int32) (s : gM × Nat × Int32 × Int32) {b : Nat} (h : b < 9 ∨ 14 < b) : (pc_nums f e k s).1 b = s.1 b := by
  unfold pc_nums
  split
  · rw [pc_up_keep _ _ (by omega), pc_in_keep _ _ _ _ _ _ _ (by omega), pc_in_keep _ _ _ _ _ _ _ (by omega)]
  · split
    · rw [pc_up_keep _ _ (by omega), pc_in_keep _ _ _ _ _ _ _ (by omega), pc_in_keep _ _ _ _ _ _ _ (by omega)]
    · split
      · rw [pc_up_keep _ _ (by omega), pc_in_keep _ _ _ _ _ _ _ (by omega)]
      · split
        · rw [pc_fld_keep _ _ _ _ _ _ (by omega)]
        · rw [pc_fld_keep _ _ _ _ _ _ (by omega)]
theorem pc_kind_cases (f : Nat → Int32) (p tok : Nat) : pc_kind f p tok = -1 ∨ pc_kind f p tok = 0 ∨ pc_kind f p tok = 1 ∨ pc_kind f p tok = 2 ∨ pc_kind f p tok = 3 ∨ pc_kind f p tok = 4 := by
  unfold pc_kind
  split
  · exact Or.inr (Or.inl rfl)
  · split
    · exact Or.inr (Or.inr (Or.inl rfl))
    · split
      · exact Or.inr (Or.inr (Or.inr (Or.inl rfl)))
      · split
        · exact Or.inr (Or.inr (Or.inr (Or.inr (Or.inl rfl))))
        · split
          · exact Or.inr (Or.inr (Or.inr (Or.inr (Or.inr rfl))))
          · exact Or.inl rfl
/-- a clause whose kind is known and that has room -/
def pc_body (f : Nat → Int32) (e : Nat) (kd : Int32) (s : gM × Nat × Int32 × Int32) : gM × Nat × Int32 × Int32 :=
  ((pc_nums f e kd s).1, k_need f e (pc_nums f e kd s).2.1 (pc_nums f e kd s).2.2.1 (pc_nums f e kd s).2.2.2 59)
def pc_clause (f : Nat → Int32) (e : Nat) (told : Int32) (s : gM × Nat × Int32 × Int32) : gM × Nat × Int32 × Int32 :=
  if pc_kind f (k_we f e s.2.1) (k_np f e s.2.1) = -1 then (s.1, k_we f e s.2.1, t_ft s.2.2.1 1, t_fa s.2.2.1 s.2.2.2 (nI (k_np f e s.2.1)))
  else if 60 ≤ told ∨ ¬ pc_full s.1 9 (pc_kind f (k_we f e s.2.1) (k_np f e s.2.1)) = 0 then (s.1, k_we f e s.2.1, t_ft s.2.2.1 3, t_fa s.2.2.1 s.2.2.2 (nI (k_np f e s.2.1)))
  else pc_body f e (pc_kind f (k_we f e s.2.1) (k_np f e s.2.1)) (s.1, k_we f e s.2.1, s.2.2.1, s.2.2.2)
theorem pc_clause_keep (f : Nat → Int32) (e : Nat) (told : Int32) (s : gM × Nat × Int32 × Int32) {b : Nat} (h : b < 9 ∨ 14 < b) : (pc_clause f e told s).1 b = s.1 b := by
  unfold pc_clause
  split
  · rfl
  · split
    · rfl
    · exact pc_nums_keep _ _ _ _ h
set_option maxRecDepth 20000 in
theorem c_readClause {l : Launch} {C : gC} (hC : g_ctx l C) (f : Nat → Int32) (p tok e : Nat) (ft fa told : Int32) (M : gM) (sz d : Nat) (hd : 8 ≤ d) (hf : M 2 = f) (he : M 1 2 = nI e) (hp : p ≤ e) (hE : e ≤ 600) : gP l C qX6_readClause d [.ref (9), .ref (1), .int (told)] (tp M p tok ft fa) sz (fun r M2 => r = none ∧ ∃ t : Nat, M2 = tp (pc_clause f e told (M, p, ft, fa)).1 (pc_clause f e told (M, p, ft, fa)).2.1 t (pc_clause f e told (M, p, ft, fa)).2.2.1 (pc_clause f e told (M, p, ft, fa)).2.2.2 ∧ p ≤ (pc_clause f e told (M, p, ft, fa)).2.1 ∧ (pc_clause f e told (M, p, ft, fa)).2.1 ≤ e) := by
  refine gP.of (ls := [(0, .ref (9)), (1, .ref (1)), (2, .int (told))]) (by decide +kernel) (Nat.le_of_ble_eq_true rfl) rfl ?_
  refine gb_run 1 (pc2 := 1) (ls2 := [(0, .ref (9)), (1, .ref (1)), (2, .int (told))]) (st2 := [.ref (1)]) (M2 := tp M p tok ft fa) hC hqX6_readClause rfl ?_
  refine gb_cV (z := qX10_word) (a := 1) (av := []) (rest := []) (pl := 753) hC hqX6_readClause rfl kX10_word sX10_word (by decide +kernel) (c_word hC f p tok e ft fa M sz (d - 1) (by omega) (by first | assumption | ((repeat (first | rw [r_put_ne (by decide)] | rw [g_set_ne (by decide)])); assumption)) (by first | assumption | ((repeat (first | rw [r_put_ne (by decide)] | rw [g_set_ne (by decide)])); assumption)) (by omega) hE) (by omega) rfl (Nat.le_of_ble_eq_true rfl) (Nat.le_of_ble_eq_true rfl) rfl rfl rfl (Nat.le_of_ble_eq_true rfl) ⟨Nat.le_of_ble_eq_true rfl, Nat.le_of_ble_eq_true rfl⟩ (fun _ _ hq => hq.elim) ?_
  intro r X hq; obtain ⟨M2, rfl, rfl, rfl⟩ := hq
  have bp1 := k_we_le f e p (by omega)
  obtain ⟨p1, ep1⟩ : ∃ q : Nat, q = k_we f e p := ⟨_, rfl⟩
  rw [← ep1]
  obtain ⟨t2, et2⟩ : ∃ q : Nat, q = k_np f e p := ⟨_, rfl⟩
  rw [← et2]
  rw [← ep1, ← et2] at bp1
  show GW _ _ _ _ _ _ _ _ 4 [(0, .ref (9)), (1, .ref (1)), (2, .int (told))] [] (956, g_S0, tp M p1 t2 ft fa, sz)
  refine gb_run 1 (pc2 := 5) (ls2 := [(0, .ref (9)), (1, .ref (1)), (2, .int (told))]) (st2 := [.ref (1)]) (M2 := tp M p1 t2 ft fa) hC hqX6_readClause rfl ?_
  refine gb_cS (z := qX6_kindOf) (av := [.ref (1)]) (rest := []) (pl := 762) hC hqX6_readClause rfl kX6_kindOf (by decide +kernel) (c_kindOf hC f p1 t2 e ft fa M sz (d - 1) (by omega) (by first | assumption | ((repeat (first | rw [r_put_ne (by decide)] | rw [g_set_ne (by decide)])); assumption)) (by first | assumption | ((repeat (first | rw [r_put_ne (by decide)] | rw [g_set_ne (by decide)])); assumption)) (by omega) hE (by omega)) (by omega) rfl rfl (Nat.le_of_ble_eq_true rfl) ⟨Nat.le_of_ble_eq_true rfl, Nat.le_of_ble_eq_true rfl⟩ (fun _ _ hq => hq.elim) ?_
  intro r X hq; obtain ⟨M2, rfl, rfl, rfl⟩ := hq
  obtain ⟨kd, ekd⟩ : ∃ q : Int32, q = pc_kind f p1 t2 := ⟨_, rfl⟩
  rw [← ekd]
  show GW _ _ _ _ _ _ _ _ 8 [(0, .ref (9)), (1, .ref (1)), (2, .int (told))] [.int (kd)] (956, g_S0, tp M p1 t2 ft fa, sz)
  refine gb_run 3 (pc2 := 11) (ls2 := [(3, .int (kd)), (0, .ref (9)), (1, .ref (1)), (2, .int (told))]) (st2 := [.int (-1), .int (kd)]) (M2 := tp M p1 t2 ft fa) hC hqX6_readClause rfl ?_
  refine gb_icmp_ne hqX6_readClause rfl (fun h5 => ?_) (fun h5 => ?_)
  ·
    rcases (show kd = 0 ∨ kd = 1 ∨ kd = 2 ∨ kd = 3 ∨ kd = 4 from by rcases pc_kind_cases f p1 t2 with q | q | q | q | q | q <;> rw [← ekd] at q <;> first | exact absurd q (by assumption) | exact Or.inl q | exact Or.inr (Or.inl q) | exact Or.inr (Or.inr (Or.inl q)) | exact Or.inr (Or.inr (Or.inr (Or.inl q))) | exact Or.inr (Or.inr (Or.inr (Or.inr q)))) with rfl | rfl | rfl | rfl | rfl
    ·
      refine gb_run 2 (pc2 := 29) (ls2 := [(3, .int (0)), (0, .ref (9)), (1, .ref (1)), (2, .int (told))]) (st2 := [.int (60), .int (told)]) (M2 := tp M p1 t2 ft fa) hC hqX6_readClause rfl ?_
      refine gb_icmp_ge hqX6_readClause rfl (fun h6 => ?_) (fun h6 => ?_)
      ·
        refine gb_run 4 (pc2 := 46) (ls2 := [(3, .int (0)), (0, .ref (9)), (1, .ref (1)), (2, .int (told))]) (st2 := [.int (nI t2), .int (3), .ref (1)]) (M2 := tp M p1 t2 ft fa) hC hqX6_readClause rfl ?_
        refine gb_cV (z := qX10_fail) (a := 1) (av := [.int (3), .int (nI t2)]) (rest := []) (pl := 822) hC hqX6_readClause rfl kX10_fail sX10_fail (by decide +kernel) (c_fail hC (3 : Int32) (nI t2) p1 t2 ft fa M sz (d - 1) (by omega)) (by omega) rfl (Nat.le_of_ble_eq_true rfl) (Nat.le_of_ble_eq_true rfl) rfl rfl rfl (Nat.le_of_ble_eq_true rfl) ⟨Nat.le_of_ble_eq_true rfl, Nat.le_of_ble_eq_true rfl⟩ (fun _ _ hq => hq.elim) ?_
        intro r X hq; obtain ⟨M2, rfl, rfl, rfl⟩ := hq
        show GW _ _ _ _ _ _ _ _ 49 [(3, .int (0)), (0, .ref (9)), (1, .ref (1)), (2, .int (told))] [] (956, g_S0, tp M p1 t2 (t_ft ft (3 : Int32)) (t_fa ft fa (nI t2)), sz)
        refine gb_run 1 (pc2 := 64) (ls2 := [(3, .int (0)), (0, .ref (9)), (1, .ref (1)), (2, .int (told))]) (st2 := []) (M2 := tp M p1 t2 (t_ft ft (3 : Int32)) (t_fa ft fa (nI t2))) hC hqX6_readClause rfl ?_
        refine gb_vret hqX6_readClause rfl rfl (Nat.le_of_ble_eq_true rfl) (Nat.le_of_ble_eq_true rfl) ?_
        have q : pc_clause f e told (M, p, ft, fa) = (M, p1, t_ft ft 3, t_fa ft fa (nI t2)) := by
          rw [ep1, et2] at ekd ⊢; unfold pc_clause; rw [if_neg (by rw [← ekd]; decide), if_pos (by rw [← ekd]; first | exact Or.inl (by assumption) | exact Or.inr (by assumption))]
        rw [q]; exact ⟨_, rfl, rfl, t2, rfl, by show p ≤ p1; omega, by show p1 ≤ e; omega⟩
      ·
        refine gb_run 2 (pc2 := 34) (ls2 := [(3, .int (0)), (0, .ref (9)), (1, .ref (1)), (2, .int (told))]) (st2 := [.int (0), .ref (9)]) (M2 := tp M p1 t2 ft fa) hC hqX6_readClause rfl ?_
        refine gb_cV (z := qX6_isFull) (a := 9) (av := [.int (0)]) (rest := []) (pl := 826) hC hqX6_readClause rfl kX6_isFull sX6_isFull (by decide +kernel) (c_isFull0 hC (tp M p1 t2 ft fa) sz (d - 1) (by omega)) (by omega) rfl (Nat.le_of_ble_eq_true rfl) (Nat.le_of_ble_eq_true rfl) rfl rfl rfl (Nat.le_of_ble_eq_true rfl) ⟨Nat.le_of_ble_eq_true rfl, Nat.le_of_ble_eq_true rfl⟩ (fun _ _ hq => hq.elim) ?_
        intro r X hq; obtain ⟨M2, rfl, rfl, rfl⟩ := hq
        show GW _ _ _ _ _ _ _ _ 37 [(3, .int (0)), (0, .ref (9)), (1, .ref (1)), (2, .int (told))] [.int (pc_full M 9 0)] (956, g_S0, tp M p1 t2 ft fa, sz)
        refine gb_if_eq hqX6_readClause rfl (fun h9 => ?_) (fun h9 => ?_)
        ·
          refine gb_run 3 (pc2 := 55) (ls2 := [(3, .int (0)), (0, .ref (9)), (1, .ref (1)), (2, .int (told))]) (st2 := [.int (0), .ref (1), .ref (9)]) (M2 := tp M p1 t2 ft fa) hC hqX6_readClause rfl ?_
          refine gb_cV (z := qX6_readNumbers) (a := 9) (av := [.ref (1), .int (0)]) (rest := []) (pl := 830) hC hqX6_readClause rfl kX6_readNumbers sX6_readNumbers (by decide +kernel) (c_readNumbers0 hC f p1 t2 e ft fa M sz (d - 1) (by omega) (by first | assumption | ((repeat (first | rw [r_put_ne (by decide)] | rw [g_set_ne (by decide)])); assumption)) (by first | assumption | ((repeat (first | rw [r_put_ne (by decide)] | rw [g_set_ne (by decide)])); assumption)) (by omega) hE) (by omega) rfl (Nat.le_of_ble_eq_true rfl) (Nat.le_of_ble_eq_true rfl) rfl rfl rfl (Nat.le_of_ble_eq_true rfl) ⟨Nat.le_of_ble_eq_true rfl, Nat.le_of_ble_eq_true rfl⟩ (fun _ _ hq => hq.elim) ?_
          intro r X hq; obtain ⟨M2, rfl, rfl, t9, rfl, b8, b9⟩ := hq
          have hf9 : (pc_nums f e 0 (M, p1, ft, fa)).1 2 = f := (pc_nums_keep _ _ _ _ (by decide)).trans hf
          have he9 : (pc_nums f e 0 (M, p1, ft, fa)).1 1 2 = nI e := (congrFun (pc_nums_keep _ _ _ _ (by decide)) 2).trans he
          obtain ⟨s10, es10⟩ : ∃ q, q = pc_nums f e 0 (M, p1, ft, fa) := ⟨_, rfl⟩
          rw [← es10] at b8 b9 hf9 he9 ⊢
          show GW _ _ _ _ _ _ _ _ 58 [(3, .int (0)), (0, .ref (9)), (1, .ref (1)), (2, .int (told))] [] (956, g_S0, tp s10.1 s10.2.1 t9 s10.2.2.1 s10.2.2.2, sz)
          refine gb_run 2 (pc2 := 61) (ls2 := [(3, .int (0)), (0, .ref (9)), (1, .ref (1)), (2, .int (told))]) (st2 := [.int (59), .ref (1)]) (M2 := tp s10.1 s10.2.1 t9 s10.2.2.1 s10.2.2.2) hC hqX6_readClause rfl ?_
          refine gb_cV (z := qX10_need) (a := 1) (av := [.int (59)]) (rest := []) (pl := 844) hC hqX6_readClause rfl kX10_need sX10_need (by decide +kernel) (c_need hC f s10.2.1 t9 e s10.2.2.1 s10.2.2.2 (59 : Int32) s10.1 sz (d - 1) (by omega) (by first | assumption | ((repeat (first | rw [r_put_ne (by decide)] | rw [g_set_ne (by decide)])); assumption)) (by first | assumption | ((repeat (first | rw [r_put_ne (by decide)] | rw [g_set_ne (by decide)])); assumption)) (by omega) hE) (by omega) rfl (Nat.le_of_ble_eq_true rfl) (Nat.le_of_ble_eq_true rfl) rfl rfl rfl (Nat.le_of_ble_eq_true rfl) ⟨Nat.le_of_ble_eq_true rfl, Nat.le_of_ble_eq_true rfl⟩ (fun _ _ hq => hq.elim) ?_
          intro r X hq; obtain ⟨M2, rfl, rfl, rfl⟩ := hq
          have bs12 := k_need_le f e s10.2.1 s10.2.2.1 s10.2.2.2 (59 : Int32) (by omega) (by decide)
          obtain ⟨s12, es12⟩ : ∃ q : Nat × Int32 × Int32, q = k_need f e s10.2.1 s10.2.2.1 s10.2.2.2 (59 : Int32) := ⟨_, rfl⟩
          rw [← es12]
          rw [← es12] at bs12
          show GW _ _ _ _ _ _ _ _ 64 [(3, .int (0)), (0, .ref (9)), (1, .ref (1)), (2, .int (told))] [] (956, g_S0, tp s10.1 s12.1 t9 s12.2.1 s12.2.2, sz)
          refine gb_vret hqX6_readClause rfl rfl (Nat.le_of_ble_eq_true rfl) (Nat.le_of_ble_eq_true rfl) ?_
          have hpp : p ≤ p1 := by omega
          subst es12 es10 ep1 et2
          have q : pc_clause f e told (M, p, ft, fa) = pc_body f e (pc_kind f (k_we f e p) (k_np f e p)) (M, k_we f e p, ft, fa) := by
            unfold pc_clause; rw [if_neg (by rw [← ekd]; decide), if_neg (by rw [← ekd]; intro q9; rcases q9 with q9 | q9; exact absurd q9 (by assumption); exact absurd (by assumption) q9)]
          rw [q, ← ekd]; exact ⟨_, rfl, rfl, t9, rfl, Nat.le_trans (Nat.le_trans hpp b8) bs12.1, bs12.2⟩
        ·
          refine gb_run 4 (pc2 := 46) (ls2 := [(3, .int (0)), (0, .ref (9)), (1, .ref (1)), (2, .int (told))]) (st2 := [.int (nI t2), .int (3), .ref (1)]) (M2 := tp M p1 t2 ft fa) hC hqX6_readClause rfl ?_
          refine gb_cV (z := qX10_fail) (a := 1) (av := [.int (3), .int (nI t2)]) (rest := []) (pl := 822) hC hqX6_readClause rfl kX10_fail sX10_fail (by decide +kernel) (c_fail hC (3 : Int32) (nI t2) p1 t2 ft fa M sz (d - 1) (by omega)) (by omega) rfl (Nat.le_of_ble_eq_true rfl) (Nat.le_of_ble_eq_true rfl) rfl rfl rfl (Nat.le_of_ble_eq_true rfl) ⟨Nat.le_of_ble_eq_true rfl, Nat.le_of_ble_eq_true rfl⟩ (fun _ _ hq => hq.elim) ?_
          intro r X hq; obtain ⟨M2, rfl, rfl, rfl⟩ := hq
          show GW _ _ _ _ _ _ _ _ 49 [(3, .int (0)), (0, .ref (9)), (1, .ref (1)), (2, .int (told))] [] (956, g_S0, tp M p1 t2 (t_ft ft (3 : Int32)) (t_fa ft fa (nI t2)), sz)
          refine gb_run 1 (pc2 := 64) (ls2 := [(3, .int (0)), (0, .ref (9)), (1, .ref (1)), (2, .int (told))]) (st2 := []) (M2 := tp M p1 t2 (t_ft ft (3 : Int32)) (t_fa ft fa (nI t2))) hC hqX6_readClause rfl ?_
          refine gb_vret hqX6_readClause rfl rfl (Nat.le_of_ble_eq_true rfl) (Nat.le_of_ble_eq_true rfl) ?_
          have q : pc_clause f e told (M, p, ft, fa) = (M, p1, t_ft ft 3, t_fa ft fa (nI t2)) := by
            rw [ep1, et2] at ekd ⊢; unfold pc_clause; rw [if_neg (by rw [← ekd]; decide), if_pos (by rw [← ekd]; first | exact Or.inl (by assumption) | exact Or.inr (by assumption))]
          rw [q]; exact ⟨_, rfl, rfl, t2, rfl, by show p ≤ p1; omega, by show p1 ≤ e; omega⟩
    ·
      refine gb_run 2 (pc2 := 29) (ls2 := [(3, .int (1)), (0, .ref (9)), (1, .ref (1)), (2, .int (told))]) (st2 := [.int (60), .int (told)]) (M2 := tp M p1 t2 ft fa) hC hqX6_readClause rfl ?_
      refine gb_icmp_ge hqX6_readClause rfl (fun h15 => ?_) (fun h15 => ?_)
      ·
        refine gb_run 4 (pc2 := 46) (ls2 := [(3, .int (1)), (0, .ref (9)), (1, .ref (1)), (2, .int (told))]) (st2 := [.int (nI t2), .int (3), .ref (1)]) (M2 := tp M p1 t2 ft fa) hC hqX6_readClause rfl ?_
        refine gb_cV (z := qX10_fail) (a := 1) (av := [.int (3), .int (nI t2)]) (rest := []) (pl := 822) hC hqX6_readClause rfl kX10_fail sX10_fail (by decide +kernel) (c_fail hC (3 : Int32) (nI t2) p1 t2 ft fa M sz (d - 1) (by omega)) (by omega) rfl (Nat.le_of_ble_eq_true rfl) (Nat.le_of_ble_eq_true rfl) rfl rfl rfl (Nat.le_of_ble_eq_true rfl) ⟨Nat.le_of_ble_eq_true rfl, Nat.le_of_ble_eq_true rfl⟩ (fun _ _ hq => hq.elim) ?_
        intro r X hq; obtain ⟨M2, rfl, rfl, rfl⟩ := hq
        show GW _ _ _ _ _ _ _ _ 49 [(3, .int (1)), (0, .ref (9)), (1, .ref (1)), (2, .int (told))] [] (956, g_S0, tp M p1 t2 (t_ft ft (3 : Int32)) (t_fa ft fa (nI t2)), sz)
        refine gb_run 1 (pc2 := 64) (ls2 := [(3, .int (1)), (0, .ref (9)), (1, .ref (1)), (2, .int (told))]) (st2 := []) (M2 := tp M p1 t2 (t_ft ft (3 : Int32)) (t_fa ft fa (nI t2))) hC hqX6_readClause rfl ?_
        refine gb_vret hqX6_readClause rfl rfl (Nat.le_of_ble_eq_true rfl) (Nat.le_of_ble_eq_true rfl) ?_
        have q : pc_clause f e told (M, p, ft, fa) = (M, p1, t_ft ft 3, t_fa ft fa (nI t2)) := by
          rw [ep1, et2] at ekd ⊢; unfold pc_clause; rw [if_neg (by rw [← ekd]; decide), if_pos (by rw [← ekd]; first | exact Or.inl (by assumption) | exact Or.inr (by assumption))]
        rw [q]; exact ⟨_, rfl, rfl, t2, rfl, by show p ≤ p1; omega, by show p1 ≤ e; omega⟩
      ·
        refine gb_run 2 (pc2 := 34) (ls2 := [(3, .int (1)), (0, .ref (9)), (1, .ref (1)), (2, .int (told))]) (st2 := [.int (1), .ref (9)]) (M2 := tp M p1 t2 ft fa) hC hqX6_readClause rfl ?_
        refine gb_cV (z := qX6_isFull) (a := 9) (av := [.int (1)]) (rest := []) (pl := 826) hC hqX6_readClause rfl kX6_isFull sX6_isFull (by decide +kernel) (c_isFull1 hC (tp M p1 t2 ft fa) sz (d - 1) (by omega)) (by omega) rfl (Nat.le_of_ble_eq_true rfl) (Nat.le_of_ble_eq_true rfl) rfl rfl rfl (Nat.le_of_ble_eq_true rfl) ⟨Nat.le_of_ble_eq_true rfl, Nat.le_of_ble_eq_true rfl⟩ (fun _ _ hq => hq.elim) ?_
        intro r X hq; obtain ⟨M2, rfl, rfl, rfl⟩ := hq
        show GW _ _ _ _ _ _ _ _ 37 [(3, .int (1)), (0, .ref (9)), (1, .ref (1)), (2, .int (told))] [.int (pc_full M 9 1)] (956, g_S0, tp M p1 t2 ft fa, sz)
        refine gb_if_eq hqX6_readClause rfl (fun h18 => ?_) (fun h18 => ?_)
        ·
          refine gb_run 3 (pc2 := 55) (ls2 := [(3, .int (1)), (0, .ref (9)), (1, .ref (1)), (2, .int (told))]) (st2 := [.int (1), .ref (1), .ref (9)]) (M2 := tp M p1 t2 ft fa) hC hqX6_readClause rfl ?_
          refine gb_cV (z := qX6_readNumbers) (a := 9) (av := [.ref (1), .int (1)]) (rest := []) (pl := 830) hC hqX6_readClause rfl kX6_readNumbers sX6_readNumbers (by decide +kernel) (c_readNumbers1 hC f p1 t2 e ft fa M sz (d - 1) (by omega) (by first | assumption | ((repeat (first | rw [r_put_ne (by decide)] | rw [g_set_ne (by decide)])); assumption)) (by first | assumption | ((repeat (first | rw [r_put_ne (by decide)] | rw [g_set_ne (by decide)])); assumption)) (by omega) hE) (by omega) rfl (Nat.le_of_ble_eq_true rfl) (Nat.le_of_ble_eq_true rfl) rfl rfl rfl (Nat.le_of_ble_eq_true rfl) ⟨Nat.le_of_ble_eq_true rfl, Nat.le_of_ble_eq_true rfl⟩ (fun _ _ hq => hq.elim) ?_
          intro r X hq; obtain ⟨M2, rfl, rfl, t9, rfl, b8, b9⟩ := hq
          have hf9 : (pc_nums f e 1 (M, p1, ft, fa)).1 2 = f := (pc_nums_keep _ _ _ _ (by decide)).trans hf
          have he9 : (pc_nums f e 1 (M, p1, ft, fa)).1 1 2 = nI e := (congrFun (pc_nums_keep _ _ _ _ (by decide)) 2).trans he
          obtain ⟨s19, es19⟩ : ∃ q, q = pc_nums f e 1 (M, p1, ft, fa) := ⟨_, rfl⟩
          rw [← es19] at b8 b9 hf9 he9 ⊢
          show GW _ _ _ _ _ _ _ _ 58 [(3, .int (1)), (0, .ref (9)), (1, .ref (1)), (2, .int (told))] [] (956, g_S0, tp s19.1 s19.2.1 t9 s19.2.2.1 s19.2.2.2, sz)
          refine gb_run 2 (pc2 := 61) (ls2 := [(3, .int (1)), (0, .ref (9)), (1, .ref (1)), (2, .int (told))]) (st2 := [.int (59), .ref (1)]) (M2 := tp s19.1 s19.2.1 t9 s19.2.2.1 s19.2.2.2) hC hqX6_readClause rfl ?_
          refine gb_cV (z := qX10_need) (a := 1) (av := [.int (59)]) (rest := []) (pl := 844) hC hqX6_readClause rfl kX10_need sX10_need (by decide +kernel) (c_need hC f s19.2.1 t9 e s19.2.2.1 s19.2.2.2 (59 : Int32) s19.1 sz (d - 1) (by omega) (by first | assumption | ((repeat (first | rw [r_put_ne (by decide)] | rw [g_set_ne (by decide)])); assumption)) (by first | assumption | ((repeat (first | rw [r_put_ne (by decide)] | rw [g_set_ne (by decide)])); assumption)) (by omega) hE) (by omega) rfl (Nat.le_of_ble_eq_true rfl) (Nat.le_of_ble_eq_true rfl) rfl rfl rfl (Nat.le_of_ble_eq_true rfl) ⟨Nat.le_of_ble_eq_true rfl, Nat.le_of_ble_eq_true rfl⟩ (fun _ _ hq => hq.elim) ?_
          intro r X hq; obtain ⟨M2, rfl, rfl, rfl⟩ := hq
          have bs21 := k_need_le f e s19.2.1 s19.2.2.1 s19.2.2.2 (59 : Int32) (by omega) (by decide)
          obtain ⟨s21, es21⟩ : ∃ q : Nat × Int32 × Int32, q = k_need f e s19.2.1 s19.2.2.1 s19.2.2.2 (59 : Int32) := ⟨_, rfl⟩
          rw [← es21]
          rw [← es21] at bs21
          show GW _ _ _ _ _ _ _ _ 64 [(3, .int (1)), (0, .ref (9)), (1, .ref (1)), (2, .int (told))] [] (956, g_S0, tp s19.1 s21.1 t9 s21.2.1 s21.2.2, sz)
          refine gb_vret hqX6_readClause rfl rfl (Nat.le_of_ble_eq_true rfl) (Nat.le_of_ble_eq_true rfl) ?_
          have hpp : p ≤ p1 := by omega
          subst es21 es19 ep1 et2
          have q : pc_clause f e told (M, p, ft, fa) = pc_body f e (pc_kind f (k_we f e p) (k_np f e p)) (M, k_we f e p, ft, fa) := by
            unfold pc_clause; rw [if_neg (by rw [← ekd]; decide), if_neg (by rw [← ekd]; intro q9; rcases q9 with q9 | q9; exact absurd q9 (by assumption); exact absurd (by assumption) q9)]
          rw [q, ← ekd]; exact ⟨_, rfl, rfl, t9, rfl, Nat.le_trans (Nat.le_trans hpp b8) bs21.1, bs21.2⟩
        ·
          refine gb_run 4 (pc2 := 46) (ls2 := [(3, .int (1)), (0, .ref (9)), (1, .ref (1)), (2, .int (told))]) (st2 := [.int (nI t2), .int (3), .ref (1)]) (M2 := tp M p1 t2 ft fa) hC hqX6_readClause rfl ?_
          refine gb_cV (z := qX10_fail) (a := 1) (av := [.int (3), .int (nI t2)]) (rest := []) (pl := 822) hC hqX6_readClause rfl kX10_fail sX10_fail (by decide +kernel) (c_fail hC (3 : Int32) (nI t2) p1 t2 ft fa M sz (d - 1) (by omega)) (by omega) rfl (Nat.le_of_ble_eq_true rfl) (Nat.le_of_ble_eq_true rfl) rfl rfl rfl (Nat.le_of_ble_eq_true rfl) ⟨Nat.le_of_ble_eq_true rfl, Nat.le_of_ble_eq_true rfl⟩ (fun _ _ hq => hq.elim) ?_
          intro r X hq; obtain ⟨M2, rfl, rfl, rfl⟩ := hq
          show GW _ _ _ _ _ _ _ _ 49 [(3, .int (1)), (0, .ref (9)), (1, .ref (1)), (2, .int (told))] [] (956, g_S0, tp M p1 t2 (t_ft ft (3 : Int32)) (t_fa ft fa (nI t2)), sz)
          refine gb_run 1 (pc2 := 64) (ls2 := [(3, .int (1)), (0, .ref (9)), (1, .ref (1)), (2, .int (told))]) (st2 := []) (M2 := tp M p1 t2 (t_ft ft (3 : Int32)) (t_fa ft fa (nI t2))) hC hqX6_readClause rfl ?_
          refine gb_vret hqX6_readClause rfl rfl (Nat.le_of_ble_eq_true rfl) (Nat.le_of_ble_eq_true rfl) ?_
          have q : pc_clause f e told (M, p, ft, fa) = (M, p1, t_ft ft 3, t_fa ft fa (nI t2)) := by
            rw [ep1, et2] at ekd ⊢; unfold pc_clause; rw [if_neg (by rw [← ekd]; decide), if_pos (by rw [← ekd]; first | exact Or.inl (by assumption) | exact Or.inr (by assumption))]
          rw [q]; exact ⟨_, rfl, rfl, t2, rfl, by show p ≤ p1; omega, by show p1 ≤ e; omega⟩
    ·
      refine gb_run 2 (pc2 := 29) (ls2 := [(3, .int (2)), (0, .ref (9)), (1, .ref (1)), (2, .int (told))]) (st2 := [.int (60), .int (told)]) (M2 := tp M p1 t2 ft fa) hC hqX6_readClause rfl ?_
      refine gb_icmp_ge hqX6_readClause rfl (fun h24 => ?_) (fun h24 => ?_)
      ·
        refine gb_run 4 (pc2 := 46) (ls2 := [(3, .int (2)), (0, .ref (9)), (1, .ref (1)), (2, .int (told))]) (st2 := [.int (nI t2), .int (3), .ref (1)]) (M2 := tp M p1 t2 ft fa) hC hqX6_readClause rfl ?_
        refine gb_cV (z := qX10_fail) (a := 1) (av := [.int (3), .int (nI t2)]) (rest := []) (pl := 822) hC hqX6_readClause rfl kX10_fail sX10_fail (by decide +kernel) (c_fail hC (3 : Int32) (nI t2) p1 t2 ft fa M sz (d - 1) (by omega)) (by omega) rfl (Nat.le_of_ble_eq_true rfl) (Nat.le_of_ble_eq_true rfl) rfl rfl rfl (Nat.le_of_ble_eq_true rfl) ⟨Nat.le_of_ble_eq_true rfl, Nat.le_of_ble_eq_true rfl⟩ (fun _ _ hq => hq.elim) ?_
        intro r X hq; obtain ⟨M2, rfl, rfl, rfl⟩ := hq
        show GW _ _ _ _ _ _ _ _ 49 [(3, .int (2)), (0, .ref (9)), (1, .ref (1)), (2, .int (told))] [] (956, g_S0, tp M p1 t2 (t_ft ft (3 : Int32)) (t_fa ft fa (nI t2)), sz)
        refine gb_run 1 (pc2 := 64) (ls2 := [(3, .int (2)), (0, .ref (9)), (1, .ref (1)), (2, .int (told))]) (st2 := []) (M2 := tp M p1 t2 (t_ft ft (3 : Int32)) (t_fa ft fa (nI t2))) hC hqX6_readClause rfl ?_
        refine gb_vret hqX6_readClause rfl rfl (Nat.le_of_ble_eq_true rfl) (Nat.le_of_ble_eq_true rfl) ?_
        have q : pc_clause f e told (M, p, ft, fa) = (M, p1, t_ft ft 3, t_fa ft fa (nI t2)) := by
          rw [ep1, et2] at ekd ⊢; unfold pc_clause; rw [if_neg (by rw [← ekd]; decide), if_pos (by rw [← ekd]; first | exact Or.inl (by assumption) | exact Or.inr (by assumption))]
        rw [q]; exact ⟨_, rfl, rfl, t2, rfl, by show p ≤ p1; omega, by show p1 ≤ e; omega⟩
      ·
        refine gb_run 2 (pc2 := 34) (ls2 := [(3, .int (2)), (0, .ref (9)), (1, .ref (1)), (2, .int (told))]) (st2 := [.int (2), .ref (9)]) (M2 := tp M p1 t2 ft fa) hC hqX6_readClause rfl ?_
        refine gb_cV (z := qX6_isFull) (a := 9) (av := [.int (2)]) (rest := []) (pl := 826) hC hqX6_readClause rfl kX6_isFull sX6_isFull (by decide +kernel) (c_isFull2 hC (tp M p1 t2 ft fa) sz (d - 1) (by omega)) (by omega) rfl (Nat.le_of_ble_eq_true rfl) (Nat.le_of_ble_eq_true rfl) rfl rfl rfl (Nat.le_of_ble_eq_true rfl) ⟨Nat.le_of_ble_eq_true rfl, Nat.le_of_ble_eq_true rfl⟩ (fun _ _ hq => hq.elim) ?_
        intro r X hq; obtain ⟨M2, rfl, rfl, rfl⟩ := hq
        show GW _ _ _ _ _ _ _ _ 37 [(3, .int (2)), (0, .ref (9)), (1, .ref (1)), (2, .int (told))] [.int (pc_full M 9 2)] (956, g_S0, tp M p1 t2 ft fa, sz)
        refine gb_if_eq hqX6_readClause rfl (fun h27 => ?_) (fun h27 => ?_)
        ·
          refine gb_run 3 (pc2 := 55) (ls2 := [(3, .int (2)), (0, .ref (9)), (1, .ref (1)), (2, .int (told))]) (st2 := [.int (2), .ref (1), .ref (9)]) (M2 := tp M p1 t2 ft fa) hC hqX6_readClause rfl ?_
          refine gb_cV (z := qX6_readNumbers) (a := 9) (av := [.ref (1), .int (2)]) (rest := []) (pl := 830) hC hqX6_readClause rfl kX6_readNumbers sX6_readNumbers (by decide +kernel) (c_readNumbers2 hC f p1 t2 e ft fa M sz (d - 1) (by omega) (by first | assumption | ((repeat (first | rw [r_put_ne (by decide)] | rw [g_set_ne (by decide)])); assumption)) (by first | assumption | ((repeat (first | rw [r_put_ne (by decide)] | rw [g_set_ne (by decide)])); assumption)) (by omega) hE) (by omega) rfl (Nat.le_of_ble_eq_true rfl) (Nat.le_of_ble_eq_true rfl) rfl rfl rfl (Nat.le_of_ble_eq_true rfl) ⟨Nat.le_of_ble_eq_true rfl, Nat.le_of_ble_eq_true rfl⟩ (fun _ _ hq => hq.elim) ?_
          intro r X hq; obtain ⟨M2, rfl, rfl, t9, rfl, b8, b9⟩ := hq
          have hf9 : (pc_nums f e 2 (M, p1, ft, fa)).1 2 = f := (pc_nums_keep _ _ _ _ (by decide)).trans hf
          have he9 : (pc_nums f e 2 (M, p1, ft, fa)).1 1 2 = nI e := (congrFun (pc_nums_keep _ _ _ _ (by decide)) 2).trans he
          obtain ⟨s28, es28⟩ : ∃ q, q = pc_nums f e 2 (M, p1, ft, fa) := ⟨_, rfl⟩
          rw [← es28] at b8 b9 hf9 he9 ⊢
          show GW _ _ _ _ _ _ _ _ 58 [(3, .int (2)), (0, .ref (9)), (1, .ref (1)), (2, .int (told))] [] (956, g_S0, tp s28.1 s28.2.1 t9 s28.2.2.1 s28.2.2.2, sz)
          refine gb_run 2 (pc2 := 61) (ls2 := [(3, .int (2)), (0, .ref (9)), (1, .ref (1)), (2, .int (told))]) (st2 := [.int (59), .ref (1)]) (M2 := tp s28.1 s28.2.1 t9 s28.2.2.1 s28.2.2.2) hC hqX6_readClause rfl ?_
          refine gb_cV (z := qX10_need) (a := 1) (av := [.int (59)]) (rest := []) (pl := 844) hC hqX6_readClause rfl kX10_need sX10_need (by decide +kernel) (c_need hC f s28.2.1 t9 e s28.2.2.1 s28.2.2.2 (59 : Int32) s28.1 sz (d - 1) (by omega) (by first | assumption | ((repeat (first | rw [r_put_ne (by decide)] | rw [g_set_ne (by decide)])); assumption)) (by first | assumption | ((repeat (first | rw [r_put_ne (by decide)] | rw [g_set_ne (by decide)])); assumption)) (by omega) hE) (by omega) rfl (Nat.le_of_ble_eq_true rfl) (Nat.le_of_ble_eq_true rfl) rfl rfl rfl (Nat.le_of_ble_eq_true rfl) ⟨Nat.le_of_ble_eq_true rfl, Nat.le_of_ble_eq_true rfl⟩ (fun _ _ hq => hq.elim) ?_
          intro r X hq; obtain ⟨M2, rfl, rfl, rfl⟩ := hq
          have bs30 := k_need_le f e s28.2.1 s28.2.2.1 s28.2.2.2 (59 : Int32) (by omega) (by decide)
          obtain ⟨s30, es30⟩ : ∃ q : Nat × Int32 × Int32, q = k_need f e s28.2.1 s28.2.2.1 s28.2.2.2 (59 : Int32) := ⟨_, rfl⟩
          rw [← es30]
          rw [← es30] at bs30
          show GW _ _ _ _ _ _ _ _ 64 [(3, .int (2)), (0, .ref (9)), (1, .ref (1)), (2, .int (told))] [] (956, g_S0, tp s28.1 s30.1 t9 s30.2.1 s30.2.2, sz)
          refine gb_vret hqX6_readClause rfl rfl (Nat.le_of_ble_eq_true rfl) (Nat.le_of_ble_eq_true rfl) ?_
          have hpp : p ≤ p1 := by omega
          subst es30 es28 ep1 et2
          have q : pc_clause f e told (M, p, ft, fa) = pc_body f e (pc_kind f (k_we f e p) (k_np f e p)) (M, k_we f e p, ft, fa) := by
            unfold pc_clause; rw [if_neg (by rw [← ekd]; decide), if_neg (by rw [← ekd]; intro q9; rcases q9 with q9 | q9; exact absurd q9 (by assumption); exact absurd (by assumption) q9)]
          rw [q, ← ekd]; exact ⟨_, rfl, rfl, t9, rfl, Nat.le_trans (Nat.le_trans hpp b8) bs30.1, bs30.2⟩
        ·
          refine gb_run 4 (pc2 := 46) (ls2 := [(3, .int (2)), (0, .ref (9)), (1, .ref (1)), (2, .int (told))]) (st2 := [.int (nI t2), .int (3), .ref (1)]) (M2 := tp M p1 t2 ft fa) hC hqX6_readClause rfl ?_
          refine gb_cV (z := qX10_fail) (a := 1) (av := [.int (3), .int (nI t2)]) (rest := []) (pl := 822) hC hqX6_readClause rfl kX10_fail sX10_fail (by decide +kernel) (c_fail hC (3 : Int32) (nI t2) p1 t2 ft fa M sz (d - 1) (by omega)) (by omega) rfl (Nat.le_of_ble_eq_true rfl) (Nat.le_of_ble_eq_true rfl) rfl rfl rfl (Nat.le_of_ble_eq_true rfl) ⟨Nat.le_of_ble_eq_true rfl, Nat.le_of_ble_eq_true rfl⟩ (fun _ _ hq => hq.elim) ?_
          intro r X hq; obtain ⟨M2, rfl, rfl, rfl⟩ := hq
          show GW _ _ _ _ _ _ _ _ 49 [(3, .int (2)), (0, .ref (9)), (1, .ref (1)), (2, .int (told))] [] (956, g_S0, tp M p1 t2 (t_ft ft (3 : Int32)) (t_fa ft fa (nI t2)), sz)
          refine gb_run 1 (pc2 := 64) (ls2 := [(3, .int (2)), (0, .ref (9)), (1, .ref (1)), (2, .int (told))]) (st2 := []) (M2 := tp M p1 t2 (t_ft ft (3 : Int32)) (t_fa ft fa (nI t2))) hC hqX6_readClause rfl ?_
          refine gb_vret hqX6_readClause rfl rfl (Nat.le_of_ble_eq_true rfl) (Nat.le_of_ble_eq_true rfl) ?_
          have q : pc_clause f e told (M, p, ft, fa) = (M, p1, t_ft ft 3, t_fa ft fa (nI t2)) := by
            rw [ep1, et2] at ekd ⊢; unfold pc_clause; rw [if_neg (by rw [← ekd]; decide), if_pos (by rw [← ekd]; first | exact Or.inl (by assumption) | exact Or.inr (by assumption))]
          rw [q]; exact ⟨_, rfl, rfl, t2, rfl, by show p ≤ p1; omega, by show p1 ≤ e; omega⟩
    ·
      refine gb_run 2 (pc2 := 29) (ls2 := [(3, .int (3)), (0, .ref (9)), (1, .ref (1)), (2, .int (told))]) (st2 := [.int (60), .int (told)]) (M2 := tp M p1 t2 ft fa) hC hqX6_readClause rfl ?_
      refine gb_icmp_ge hqX6_readClause rfl (fun h33 => ?_) (fun h33 => ?_)
      ·
        refine gb_run 4 (pc2 := 46) (ls2 := [(3, .int (3)), (0, .ref (9)), (1, .ref (1)), (2, .int (told))]) (st2 := [.int (nI t2), .int (3), .ref (1)]) (M2 := tp M p1 t2 ft fa) hC hqX6_readClause rfl ?_
        refine gb_cV (z := qX10_fail) (a := 1) (av := [.int (3), .int (nI t2)]) (rest := []) (pl := 822) hC hqX6_readClause rfl kX10_fail sX10_fail (by decide +kernel) (c_fail hC (3 : Int32) (nI t2) p1 t2 ft fa M sz (d - 1) (by omega)) (by omega) rfl (Nat.le_of_ble_eq_true rfl) (Nat.le_of_ble_eq_true rfl) rfl rfl rfl (Nat.le_of_ble_eq_true rfl) ⟨Nat.le_of_ble_eq_true rfl, Nat.le_of_ble_eq_true rfl⟩ (fun _ _ hq => hq.elim) ?_
        intro r X hq; obtain ⟨M2, rfl, rfl, rfl⟩ := hq
        show GW _ _ _ _ _ _ _ _ 49 [(3, .int (3)), (0, .ref (9)), (1, .ref (1)), (2, .int (told))] [] (956, g_S0, tp M p1 t2 (t_ft ft (3 : Int32)) (t_fa ft fa (nI t2)), sz)
        refine gb_run 1 (pc2 := 64) (ls2 := [(3, .int (3)), (0, .ref (9)), (1, .ref (1)), (2, .int (told))]) (st2 := []) (M2 := tp M p1 t2 (t_ft ft (3 : Int32)) (t_fa ft fa (nI t2))) hC hqX6_readClause rfl ?_
        refine gb_vret hqX6_readClause rfl rfl (Nat.le_of_ble_eq_true rfl) (Nat.le_of_ble_eq_true rfl) ?_
        have q : pc_clause f e told (M, p, ft, fa) = (M, p1, t_ft ft 3, t_fa ft fa (nI t2)) := by
          rw [ep1, et2] at ekd ⊢; unfold pc_clause; rw [if_neg (by rw [← ekd]; decide), if_pos (by rw [← ekd]; first | exact Or.inl (by assumption) | exact Or.inr (by assumption))]
        rw [q]; exact ⟨_, rfl, rfl, t2, rfl, by show p ≤ p1; omega, by show p1 ≤ e; omega⟩
      ·
        refine gb_run 2 (pc2 := 34) (ls2 := [(3, .int (3)), (0, .ref (9)), (1, .ref (1)), (2, .int (told))]) (st2 := [.int (3), .ref (9)]) (M2 := tp M p1 t2 ft fa) hC hqX6_readClause rfl ?_
        refine gb_cV (z := qX6_isFull) (a := 9) (av := [.int (3)]) (rest := []) (pl := 826) hC hqX6_readClause rfl kX6_isFull sX6_isFull (by decide +kernel) (c_isFull3 hC (tp M p1 t2 ft fa) sz (d - 1) (by omega)) (by omega) rfl (Nat.le_of_ble_eq_true rfl) (Nat.le_of_ble_eq_true rfl) rfl rfl rfl (Nat.le_of_ble_eq_true rfl) ⟨Nat.le_of_ble_eq_true rfl, Nat.le_of_ble_eq_true rfl⟩ (fun _ _ hq => hq.elim) ?_
        intro r X hq; obtain ⟨M2, rfl, rfl, rfl⟩ := hq
        show GW _ _ _ _ _ _ _ _ 37 [(3, .int (3)), (0, .ref (9)), (1, .ref (1)), (2, .int (told))] [.int (pc_full M 9 3)] (956, g_S0, tp M p1 t2 ft fa, sz)
        refine gb_if_eq hqX6_readClause rfl (fun h36 => ?_) (fun h36 => ?_)
        ·
          refine gb_run 3 (pc2 := 55) (ls2 := [(3, .int (3)), (0, .ref (9)), (1, .ref (1)), (2, .int (told))]) (st2 := [.int (3), .ref (1), .ref (9)]) (M2 := tp M p1 t2 ft fa) hC hqX6_readClause rfl ?_
          refine gb_cV (z := qX6_readNumbers) (a := 9) (av := [.ref (1), .int (3)]) (rest := []) (pl := 830) hC hqX6_readClause rfl kX6_readNumbers sX6_readNumbers (by decide +kernel) (c_readNumbers3 hC f p1 t2 e ft fa M sz (d - 1) (by omega) (by first | assumption | ((repeat (first | rw [r_put_ne (by decide)] | rw [g_set_ne (by decide)])); assumption)) (by first | assumption | ((repeat (first | rw [r_put_ne (by decide)] | rw [g_set_ne (by decide)])); assumption)) (by omega) hE) (by omega) rfl (Nat.le_of_ble_eq_true rfl) (Nat.le_of_ble_eq_true rfl) rfl rfl rfl (Nat.le_of_ble_eq_true rfl) ⟨Nat.le_of_ble_eq_true rfl, Nat.le_of_ble_eq_true rfl⟩ (fun _ _ hq => hq.elim) ?_
          intro r X hq; obtain ⟨M2, rfl, rfl, t9, rfl, b8, b9⟩ := hq
          have hf9 : (pc_nums f e 3 (M, p1, ft, fa)).1 2 = f := (pc_nums_keep _ _ _ _ (by decide)).trans hf
          have he9 : (pc_nums f e 3 (M, p1, ft, fa)).1 1 2 = nI e := (congrFun (pc_nums_keep _ _ _ _ (by decide)) 2).trans he
          obtain ⟨s37, es37⟩ : ∃ q, q = pc_nums f e 3 (M, p1, ft, fa) := ⟨_, rfl⟩
          rw [← es37] at b8 b9 hf9 he9 ⊢
          show GW _ _ _ _ _ _ _ _ 58 [(3, .int (3)), (0, .ref (9)), (1, .ref (1)), (2, .int (told))] [] (956, g_S0, tp s37.1 s37.2.1 t9 s37.2.2.1 s37.2.2.2, sz)
          refine gb_run 2 (pc2 := 61) (ls2 := [(3, .int (3)), (0, .ref (9)), (1, .ref (1)), (2, .int (told))]) (st2 := [.int (59), .ref (1)]) (M2 := tp s37.1 s37.2.1 t9 s37.2.2.1 s37.2.2.2) hC hqX6_readClause rfl ?_
          refine gb_cV (z := qX10_need) (a := 1) (av := [.int (59)]) (rest := []) (pl := 844) hC hqX6_readClause rfl kX10_need sX10_need (by decide +kernel) (c_need hC f s37.2.1 t9 e s37.2.2.1 s37.2.2.2 (59 : Int32) s37.1 sz (d - 1) (by omega) (by first | assumption | ((repeat (first | rw [r_put_ne (by decide)] | rw [g_set_ne (by decide)])); assumption)) (by first | assumption | ((repeat (first | rw [r_put_ne (by decide)] | rw [g_set_ne (by decide)])); assumption)) (by omega) hE) (by omega) rfl (Nat.le_of_ble_eq_true rfl) (Nat.le_of_ble_eq_true rfl) rfl rfl rfl (Nat.le_of_ble_eq_true rfl) ⟨Nat.le_of_ble_eq_true rfl, Nat.le_of_ble_eq_true rfl⟩ (fun _ _ hq => hq.elim) ?_
          intro r X hq; obtain ⟨M2, rfl, rfl, rfl⟩ := hq
          have bs39 := k_need_le f e s37.2.1 s37.2.2.1 s37.2.2.2 (59 : Int32) (by omega) (by decide)
          obtain ⟨s39, es39⟩ : ∃ q : Nat × Int32 × Int32, q = k_need f e s37.2.1 s37.2.2.1 s37.2.2.2 (59 : Int32) := ⟨_, rfl⟩
          rw [← es39]
          rw [← es39] at bs39
          show GW _ _ _ _ _ _ _ _ 64 [(3, .int (3)), (0, .ref (9)), (1, .ref (1)), (2, .int (told))] [] (956, g_S0, tp s37.1 s39.1 t9 s39.2.1 s39.2.2, sz)
          refine gb_vret hqX6_readClause rfl rfl (Nat.le_of_ble_eq_true rfl) (Nat.le_of_ble_eq_true rfl) ?_
          have hpp : p ≤ p1 := by omega
          subst es39 es37 ep1 et2
          have q : pc_clause f e told (M, p, ft, fa) = pc_body f e (pc_kind f (k_we f e p) (k_np f e p)) (M, k_we f e p, ft, fa) := by
            unfold pc_clause; rw [if_neg (by rw [← ekd]; decide), if_neg (by rw [← ekd]; intro q9; rcases q9 with q9 | q9; exact absurd q9 (by assumption); exact absurd (by assumption) q9)]
          rw [q, ← ekd]; exact ⟨_, rfl, rfl, t9, rfl, Nat.le_trans (Nat.le_trans hpp b8) bs39.1, bs39.2⟩
        ·
          refine gb_run 4 (pc2 := 46) (ls2 := [(3, .int (3)), (0, .ref (9)), (1, .ref (1)), (2, .int (told))]) (st2 := [.int (nI t2), .int (3), .ref (1)]) (M2 := tp M p1 t2 ft fa) hC hqX6_readClause rfl ?_
          refine gb_cV (z := qX10_fail) (a := 1) (av := [.int (3), .int (nI t2)]) (rest := []) (pl := 822) hC hqX6_readClause rfl kX10_fail sX10_fail (by decide +kernel) (c_fail hC (3 : Int32) (nI t2) p1 t2 ft fa M sz (d - 1) (by omega)) (by omega) rfl (Nat.le_of_ble_eq_true rfl) (Nat.le_of_ble_eq_true rfl) rfl rfl rfl (Nat.le_of_ble_eq_true rfl) ⟨Nat.le_of_ble_eq_true rfl, Nat.le_of_ble_eq_true rfl⟩ (fun _ _ hq => hq.elim) ?_
          intro r X hq; obtain ⟨M2, rfl, rfl, rfl⟩ := hq
          show GW _ _ _ _ _ _ _ _ 49 [(3, .int (3)), (0, .ref (9)), (1, .ref (1)), (2, .int (told))] [] (956, g_S0, tp M p1 t2 (t_ft ft (3 : Int32)) (t_fa ft fa (nI t2)), sz)
          refine gb_run 1 (pc2 := 64) (ls2 := [(3, .int (3)), (0, .ref (9)), (1, .ref (1)), (2, .int (told))]) (st2 := []) (M2 := tp M p1 t2 (t_ft ft (3 : Int32)) (t_fa ft fa (nI t2))) hC hqX6_readClause rfl ?_
          refine gb_vret hqX6_readClause rfl rfl (Nat.le_of_ble_eq_true rfl) (Nat.le_of_ble_eq_true rfl) ?_
          have q : pc_clause f e told (M, p, ft, fa) = (M, p1, t_ft ft 3, t_fa ft fa (nI t2)) := by
            rw [ep1, et2] at ekd ⊢; unfold pc_clause; rw [if_neg (by rw [← ekd]; decide), if_pos (by rw [← ekd]; first | exact Or.inl (by assumption) | exact Or.inr (by assumption))]
          rw [q]; exact ⟨_, rfl, rfl, t2, rfl, by show p ≤ p1; omega, by show p1 ≤ e; omega⟩
    ·
      refine gb_run 2 (pc2 := 29) (ls2 := [(3, .int (4)), (0, .ref (9)), (1, .ref (1)), (2, .int (told))]) (st2 := [.int (60), .int (told)]) (M2 := tp M p1 t2 ft fa) hC hqX6_readClause rfl ?_
      refine gb_icmp_ge hqX6_readClause rfl (fun h42 => ?_) (fun h42 => ?_)
      ·
        refine gb_run 4 (pc2 := 46) (ls2 := [(3, .int (4)), (0, .ref (9)), (1, .ref (1)), (2, .int (told))]) (st2 := [.int (nI t2), .int (3), .ref (1)]) (M2 := tp M p1 t2 ft fa) hC hqX6_readClause rfl ?_
        refine gb_cV (z := qX10_fail) (a := 1) (av := [.int (3), .int (nI t2)]) (rest := []) (pl := 822) hC hqX6_readClause rfl kX10_fail sX10_fail (by decide +kernel) (c_fail hC (3 : Int32) (nI t2) p1 t2 ft fa M sz (d - 1) (by omega)) (by omega) rfl (Nat.le_of_ble_eq_true rfl) (Nat.le_of_ble_eq_true rfl) rfl rfl rfl (Nat.le_of_ble_eq_true rfl) ⟨Nat.le_of_ble_eq_true rfl, Nat.le_of_ble_eq_true rfl⟩ (fun _ _ hq => hq.elim) ?_
        intro r X hq; obtain ⟨M2, rfl, rfl, rfl⟩ := hq
        show GW _ _ _ _ _ _ _ _ 49 [(3, .int (4)), (0, .ref (9)), (1, .ref (1)), (2, .int (told))] [] (956, g_S0, tp M p1 t2 (t_ft ft (3 : Int32)) (t_fa ft fa (nI t2)), sz)
        refine gb_run 1 (pc2 := 64) (ls2 := [(3, .int (4)), (0, .ref (9)), (1, .ref (1)), (2, .int (told))]) (st2 := []) (M2 := tp M p1 t2 (t_ft ft (3 : Int32)) (t_fa ft fa (nI t2))) hC hqX6_readClause rfl ?_
        refine gb_vret hqX6_readClause rfl rfl (Nat.le_of_ble_eq_true rfl) (Nat.le_of_ble_eq_true rfl) ?_
        have q : pc_clause f e told (M, p, ft, fa) = (M, p1, t_ft ft 3, t_fa ft fa (nI t2)) := by
          rw [ep1, et2] at ekd ⊢; unfold pc_clause; rw [if_neg (by rw [← ekd]; decide), if_pos (by rw [← ekd]; first | exact Or.inl (by assumption) | exact Or.inr (by assumption))]
        rw [q]; exact ⟨_, rfl, rfl, t2, rfl, by show p ≤ p1; omega, by show p1 ≤ e; omega⟩
      ·
        refine gb_run 2 (pc2 := 34) (ls2 := [(3, .int (4)), (0, .ref (9)), (1, .ref (1)), (2, .int (told))]) (st2 := [.int (4), .ref (9)]) (M2 := tp M p1 t2 ft fa) hC hqX6_readClause rfl ?_
        refine gb_cV (z := qX6_isFull) (a := 9) (av := [.int (4)]) (rest := []) (pl := 826) hC hqX6_readClause rfl kX6_isFull sX6_isFull (by decide +kernel) (c_isFull4 hC (tp M p1 t2 ft fa) sz (d - 1) (by omega)) (by omega) rfl (Nat.le_of_ble_eq_true rfl) (Nat.le_of_ble_eq_true rfl) rfl rfl rfl (Nat.le_of_ble_eq_true rfl) ⟨Nat.le_of_ble_eq_true rfl, Nat.le_of_ble_eq_true rfl⟩ (fun _ _ hq => hq.elim) ?_
        intro r X hq; obtain ⟨M2, rfl, rfl, rfl⟩ := hq
        show GW _ _ _ _ _ _ _ _ 37 [(3, .int (4)), (0, .ref (9)), (1, .ref (1)), (2, .int (told))] [.int (pc_full M 9 4)] (956, g_S0, tp M p1 t2 ft fa, sz)
        refine gb_if_eq hqX6_readClause rfl (fun h45 => ?_) (fun h45 => ?_)
        ·
          refine gb_run 3 (pc2 := 55) (ls2 := [(3, .int (4)), (0, .ref (9)), (1, .ref (1)), (2, .int (told))]) (st2 := [.int (4), .ref (1), .ref (9)]) (M2 := tp M p1 t2 ft fa) hC hqX6_readClause rfl ?_
          refine gb_cV (z := qX6_readNumbers) (a := 9) (av := [.ref (1), .int (4)]) (rest := []) (pl := 830) hC hqX6_readClause rfl kX6_readNumbers sX6_readNumbers (by decide +kernel) (c_readNumbers4 hC f p1 t2 e ft fa M sz (d - 1) (by omega) (by first | assumption | ((repeat (first | rw [r_put_ne (by decide)] | rw [g_set_ne (by decide)])); assumption)) (by first | assumption | ((repeat (first | rw [r_put_ne (by decide)] | rw [g_set_ne (by decide)])); assumption)) (by omega) hE) (by omega) rfl (Nat.le_of_ble_eq_true rfl) (Nat.le_of_ble_eq_true rfl) rfl rfl rfl (Nat.le_of_ble_eq_true rfl) ⟨Nat.le_of_ble_eq_true rfl, Nat.le_of_ble_eq_true rfl⟩ (fun _ _ hq => hq.elim) ?_
          intro r X hq; obtain ⟨M2, rfl, rfl, t9, rfl, b8, b9⟩ := hq
          have hf9 : (pc_nums f e 4 (M, p1, ft, fa)).1 2 = f := (pc_nums_keep _ _ _ _ (by decide)).trans hf
          have he9 : (pc_nums f e 4 (M, p1, ft, fa)).1 1 2 = nI e := (congrFun (pc_nums_keep _ _ _ _ (by decide)) 2).trans he
          obtain ⟨s46, es46⟩ : ∃ q, q = pc_nums f e 4 (M, p1, ft, fa) := ⟨_, rfl⟩
          rw [← es46] at b8 b9 hf9 he9 ⊢
          show GW _ _ _ _ _ _ _ _ 58 [(3, .int (4)), (0, .ref (9)), (1, .ref (1)), (2, .int (told))] [] (956, g_S0, tp s46.1 s46.2.1 t9 s46.2.2.1 s46.2.2.2, sz)
          refine gb_run 2 (pc2 := 61) (ls2 := [(3, .int (4)), (0, .ref (9)), (1, .ref (1)), (2, .int (told))]) (st2 := [.int (59), .ref (1)]) (M2 := tp s46.1 s46.2.1 t9 s46.2.2.1 s46.2.2.2) hC hqX6_readClause rfl ?_
          refine gb_cV (z := qX10_need) (a := 1) (av := [.int (59)]) (rest := []) (pl := 844) hC hqX6_readClause rfl kX10_need sX10_need (by decide +kernel) (c_need hC f s46.2.1 t9 e s46.2.2.1 s46.2.2.2 (59 : Int32) s46.1 sz (d - 1) (by omega) (by first | assumption | ((repeat (first | rw [r_put_ne (by decide)] | rw [g_set_ne (by decide)])); assumption)) (by first | assumption | ((repeat (first | rw [r_put_ne (by decide)] | rw [g_set_ne (by decide)])); assumption)) (by omega) hE) (by omega) rfl (Nat.le_of_ble_eq_true rfl) (Nat.le_of_ble_eq_true rfl) rfl rfl rfl (Nat.le_of_ble_eq_true rfl) ⟨Nat.le_of_ble_eq_true rfl, Nat.le_of_ble_eq_true rfl⟩ (fun _ _ hq => hq.elim) ?_
          intro r X hq; obtain ⟨M2, rfl, rfl, rfl⟩ := hq
          have bs48 := k_need_le f e s46.2.1 s46.2.2.1 s46.2.2.2 (59 : Int32) (by omega) (by decide)
          obtain ⟨s48, es48⟩ : ∃ q : Nat × Int32 × Int32, q = k_need f e s46.2.1 s46.2.2.1 s46.2.2.2 (59 : Int32) := ⟨_, rfl⟩
          rw [← es48]
          rw [← es48] at bs48
          show GW _ _ _ _ _ _ _ _ 64 [(3, .int (4)), (0, .ref (9)), (1, .ref (1)), (2, .int (told))] [] (956, g_S0, tp s46.1 s48.1 t9 s48.2.1 s48.2.2, sz)
          refine gb_vret hqX6_readClause rfl rfl (Nat.le_of_ble_eq_true rfl) (Nat.le_of_ble_eq_true rfl) ?_
          have hpp : p ≤ p1 := by omega
          subst es48 es46 ep1 et2
          have q : pc_clause f e told (M, p, ft, fa) = pc_body f e (pc_kind f (k_we f e p) (k_np f e p)) (M, k_we f e p, ft, fa) := by
            unfold pc_clause; rw [if_neg (by rw [← ekd]; decide), if_neg (by rw [← ekd]; intro q9; rcases q9 with q9 | q9; exact absurd q9 (by assumption); exact absurd (by assumption) q9)]
          rw [q, ← ekd]; exact ⟨_, rfl, rfl, t9, rfl, Nat.le_trans (Nat.le_trans hpp b8) bs48.1, bs48.2⟩
        ·
          refine gb_run 4 (pc2 := 46) (ls2 := [(3, .int (4)), (0, .ref (9)), (1, .ref (1)), (2, .int (told))]) (st2 := [.int (nI t2), .int (3), .ref (1)]) (M2 := tp M p1 t2 ft fa) hC hqX6_readClause rfl ?_
          refine gb_cV (z := qX10_fail) (a := 1) (av := [.int (3), .int (nI t2)]) (rest := []) (pl := 822) hC hqX6_readClause rfl kX10_fail sX10_fail (by decide +kernel) (c_fail hC (3 : Int32) (nI t2) p1 t2 ft fa M sz (d - 1) (by omega)) (by omega) rfl (Nat.le_of_ble_eq_true rfl) (Nat.le_of_ble_eq_true rfl) rfl rfl rfl (Nat.le_of_ble_eq_true rfl) ⟨Nat.le_of_ble_eq_true rfl, Nat.le_of_ble_eq_true rfl⟩ (fun _ _ hq => hq.elim) ?_
          intro r X hq; obtain ⟨M2, rfl, rfl, rfl⟩ := hq
          show GW _ _ _ _ _ _ _ _ 49 [(3, .int (4)), (0, .ref (9)), (1, .ref (1)), (2, .int (told))] [] (956, g_S0, tp M p1 t2 (t_ft ft (3 : Int32)) (t_fa ft fa (nI t2)), sz)
          refine gb_run 1 (pc2 := 64) (ls2 := [(3, .int (4)), (0, .ref (9)), (1, .ref (1)), (2, .int (told))]) (st2 := []) (M2 := tp M p1 t2 (t_ft ft (3 : Int32)) (t_fa ft fa (nI t2))) hC hqX6_readClause rfl ?_
          refine gb_vret hqX6_readClause rfl rfl (Nat.le_of_ble_eq_true rfl) (Nat.le_of_ble_eq_true rfl) ?_
          have q : pc_clause f e told (M, p, ft, fa) = (M, p1, t_ft ft 3, t_fa ft fa (nI t2)) := by
            rw [ep1, et2] at ekd ⊢; unfold pc_clause; rw [if_neg (by rw [← ekd]; decide), if_pos (by rw [← ekd]; first | exact Or.inl (by assumption) | exact Or.inr (by assumption))]
          rw [q]; exact ⟨_, rfl, rfl, t2, rfl, by show p ≤ p1; omega, by show p1 ≤ e; omega⟩
  ·
    refine gb_run 4 (pc2 := 20) (ls2 := [(3, .int (kd)), (0, .ref (9)), (1, .ref (1)), (2, .int (told))]) (st2 := [.int (nI t2), .int (1), .ref (1)]) (M2 := tp M p1 t2 ft fa) hC hqX6_readClause rfl ?_
    refine gb_cV (z := qX10_fail) (a := 1) (av := [.int (1), .int (nI t2)]) (rest := []) (pl := 822) hC hqX6_readClause rfl kX10_fail sX10_fail (by decide +kernel) (c_fail hC (1 : Int32) (nI t2) p1 t2 ft fa M sz (d - 1) (by omega)) (by omega) rfl (Nat.le_of_ble_eq_true rfl) (Nat.le_of_ble_eq_true rfl) rfl rfl rfl (Nat.le_of_ble_eq_true rfl) ⟨Nat.le_of_ble_eq_true rfl, Nat.le_of_ble_eq_true rfl⟩ (fun _ _ hq => hq.elim) ?_
    intro r X hq; obtain ⟨M2, rfl, rfl, rfl⟩ := hq
    show GW _ _ _ _ _ _ _ _ 23 [(3, .int (kd)), (0, .ref (9)), (1, .ref (1)), (2, .int (told))] [] (956, g_S0, tp M p1 t2 (t_ft ft (1 : Int32)) (t_fa ft fa (nI t2)), sz)
    refine gb_run 1 (pc2 := 64) (ls2 := [(3, .int (kd)), (0, .ref (9)), (1, .ref (1)), (2, .int (told))]) (st2 := []) (M2 := tp M p1 t2 (t_ft ft (1 : Int32)) (t_fa ft fa (nI t2))) hC hqX6_readClause rfl ?_
    refine gb_vret hqX6_readClause rfl rfl (Nat.le_of_ble_eq_true rfl) (Nat.le_of_ble_eq_true rfl) ?_
    have q : pc_clause f e told (M, p, ft, fa) = (M, p1, t_ft ft 1, t_fa ft fa (nI t2)) := by
      rw [ep1, et2] at ekd ⊢; unfold pc_clause; rw [if_pos (ekd.symm.trans (by assumption))]
    rw [q]; exact ⟨_, rfl, rfl, t2, rfl, by show p ≤ p1; omega, by show p1 ≤ e; omega⟩
/-- all clauses, k of them at most -/
def pc_loop (f : Nat → Int32) (e : Nat) : Nat → Nat → gM × Nat × Int32 × Int32 → gM × Nat × Int32 × Int32
  | 0, _, s => s
  | k + 1, told, s => if ¬ s.2.2.1 = 0 then s else if t_ch f e (k_np f e s.2.1) = -1 then (s.1, k_np f e s.2.1, s.2.2.1, s.2.2.2) else pc_loop f e k (told + 1) (pc_clause f e (nI told) (s.1, k_np f e s.2.1, s.2.2.1, s.2.2.2))
theorem t_bad_0 {ft : Int32} (h : t_bad ft = 0) : ft = 0 := by
  unfold t_bad at h
  by_cases q : ft = 0
  · exact q
  · rw [if_neg q] at h; exact absurd h (by decide)
theorem t_bad_n {ft : Int32} (h : ¬ t_bad ft = 0) : ¬ ft = 0 := fun q => h (by unfold t_bad; rw [if_pos q])
theorem pc_clear_tp (M : gM) (p tok : Nat) (ft fa : Int32) : pc_clear (tp M p tok ft fa) 9 = tp (pc_clear M 9) p tok ft fa := by
  unfold pc_clear
  rw [g_set_tp _ _ _ _ _ (by decide), g_set_tp _ _ _ _ _ (by decide), g_set_tp _ _ _ _ _ (by decide), g_set_tp _ _ _ _ _ (by decide), g_set_tp _ _ _ _ _ (by decide)]
theorem pc_clear_keep (M : gM) {b : Nat} (h : b ≠ 9) : pc_clear M 9 b = M b := by
  unfold pc_clear
  rw [g_set_ne h, g_set_ne h, g_set_ne h, g_set_ne h, g_set_ne h]
theorem pc_loop_keep (f : Nat → Int32) (e : Nat) : ∀ (k told : Nat) (s : gM × Nat × Int32 × Int32) {b : Nat}, (b < 9 ∨ 14 < b) → (pc_loop f e k told s).1 b = s.1 b := by
  intro k
  induction k with
  | zero => intro told s b _; rfl
  | succ k ih =>
    intro told s b h
    unfold pc_loop
    split
    · rfl
    · split
      · rfl
      · rw [ih _ _ h, pc_clause_keep _ _ _ _ h]
/-- the text of a park, read into the second Park -/
def pc_read (f : Nat → Int32) (e : Nat) (s : gM × Nat × Int32 × Int32) : gM × Nat × Int32 × Int32 := pc_loop f e 61 0 (pc_clear s.1 9, s.2)
set_option maxRecDepth 20000 in
theorem c_Pread {l : Launch} {C : gC} (hC : g_ctx l C) (f : Nat → Int32) (p tok e : Nat) (ft fa : Int32) (M : gM) (sz d : Nat) (hd : 9 ≤ d) (hf : M 2 = f) (he : M 1 2 = nI e) (hp : p ≤ e) (hE : e ≤ 600) : gP l C qX6_read d [.ref (9), .ref (1)] (tp M p tok ft fa) sz (fun r M2 => r = none ∧ ∃ t : Nat, M2 = tp (pc_read f e (M, p, ft, fa)).1 (pc_read f e (M, p, ft, fa)).2.1 t (pc_read f e (M, p, ft, fa)).2.2.1 (pc_read f e (M, p, ft, fa)).2.2.2) := by
  refine gP.of (ls := [(0, .ref (9)), (1, .ref (1))]) (by decide +kernel) (Nat.le_of_ble_eq_true rfl) rfl ?_
  refine gb_run 1 (pc2 := 1) (ls2 := [(0, .ref (9)), (1, .ref (1))]) (st2 := [.ref (9)]) (M2 := tp M p tok ft fa) hC hqX6_read rfl ?_
  refine gb_cV (z := qX6_clear) (a := 9) (av := []) (rest := []) (pl := 737) hC hqX6_read rfl kX6_clear sX6_clear (by decide +kernel) (c_Pclear hC (tp M p tok ft fa) sz (d - 1) (by omega)) (by omega) rfl (Nat.le_of_ble_eq_true rfl) (Nat.le_of_ble_eq_true rfl) rfl rfl rfl (Nat.le_of_ble_eq_true rfl) ⟨Nat.le_of_ble_eq_true rfl, Nat.le_of_ble_eq_true rfl⟩ (fun _ _ hq => hq.elim) ?_
  intro r X hq; obtain ⟨M2, rfl, rfl, rfl⟩ := hq
  rw [show pc_clear (tp M p tok ft fa) 9 = tp (pc_clear M 9) p tok ft fa from pc_clear_tp _ _ _ _ _]
  show GW _ _ _ _ _ _ _ _ 4 [(0, .ref (9)), (1, .ref (1))] [] (956, g_S0, tp (pc_clear M 9) p tok ft fa, sz)
  refine gb_run 2 (pc2 := 6) (ls2 := [(2, .int (0)), (0, .ref (9)), (1, .ref (1))]) (st2 := []) (M2 := tp (pc_clear M 9) p tok ft fa) hC hqX6_read rfl ?_
  have L6 : ∀ (k : Nat) (told t : Nat) (S : gM × Nat × Int32 × Int32), (told + k = 61) → (S.2.1 ≤ e) → (S.1 2 = f) → (S.1 1 2 = nI e) → (pc_loop f e k told S = pc_read f e (M, p, ft, fa)) → GW l C qX6_read d (gQ (fun r M2 => r = none ∧ ∃ t : Nat, M2 = tp (pc_read f e (M, p, ft, fa)).1 (pc_read f e (M, p, ft, fa)).2.1 t (pc_read f e (M, p, ft, fa)).2.2.1 (pc_read f e (M, p, ft, fa)).2.2.2) sz) (gN) 0 0 6 [(2, .int (nI told)), (0, .ref (9)), (1, .ref (1))] [] (956, g_S0, tp S.1 S.2.1 t S.2.2.1 S.2.2.2, sz) := by
    intro k
    induction k with
    | zero =>
      intro told t S ht hS hf he hr
      have ht2 : told = 61 := by omega
      refine gb_run 2 (pc2 := 9) (ls2 := [(2, .int (nI told)), (0, .ref (9)), (1, .ref (1))]) (st2 := [.int (60), .int (nI told)]) (M2 := tp S.1 S.2.1 t S.2.2.1 S.2.2.2) hC hqX6_read rfl ?_
      refine gb_icmp_gt hqX6_read rfl (fun h2 => ?_) (fun h2 => ?_)
      ·
        refine gb_vret hqX6_read rfl rfl (Nat.le_of_ble_eq_true rfl) (Nat.le_of_ble_eq_true rfl) ?_
        refine ⟨_, rfl, rfl, t, ?_⟩
        rw [← hr]
        rfl
      · exact absurd h2 (by rw [ht2]; decide)
    | succ k ih =>
      intro told t S ht hS hf he hr
      refine gb_run 2 (pc2 := 9) (ls2 := [(2, .int (nI told)), (0, .ref (9)), (1, .ref (1))]) (st2 := [.int (60), .int (nI told)]) (M2 := tp S.1 S.2.1 t S.2.2.1 S.2.2.2) hC hqX6_read rfl ?_
      refine gb_icmp_gt hqX6_read rfl (fun h3 => ?_) (fun h3 => ?_)
      · exact absurd h3 (Int32.not_lt.mpr (show nI told ≤ nI 60 from nI_le (by omega) (by decide)))
      ·
        refine gb_run 1 (pc2 := 13) (ls2 := [(2, .int (nI told)), (0, .ref (9)), (1, .ref (1))]) (st2 := [.ref (1)]) (M2 := tp S.1 S.2.1 t S.2.2.1 S.2.2.2) hC hqX6_read rfl ?_
        refine gb_cV (z := qX10_faulty) (a := 1) (av := []) (rest := []) (pl := 741) hC hqX6_read rfl kX10_faulty sX10_faulty (by decide +kernel) (c_faulty hC S.2.1 t S.2.2.1 S.2.2.2 S.1 sz (d - 1) (by omega)) (by omega) rfl (Nat.le_of_ble_eq_true rfl) (Nat.le_of_ble_eq_true rfl) rfl rfl rfl (Nat.le_of_ble_eq_true rfl) ⟨Nat.le_of_ble_eq_true rfl, Nat.le_of_ble_eq_true rfl⟩ (fun _ _ hq => hq.elim) ?_
        intro r X hq; obtain ⟨M2, rfl, rfl, rfl⟩ := hq
        show GW _ _ _ _ _ _ _ _ 16 [(2, .int (nI told)), (0, .ref (9)), (1, .ref (1))] [.int (t_bad S.2.2.1)] (956, g_S0, tp S.1 S.2.1 t S.2.2.1 S.2.2.2, sz)
        refine gb_if_ne hqX6_read rfl (fun h5 => ?_) (fun h5 => ?_)
        ·
          refine gb_vret hqX6_read rfl rfl (Nat.le_of_ble_eq_true rfl) (Nat.le_of_ble_eq_true rfl) ?_
          refine ⟨_, rfl, rfl, t, ?_⟩
          rw [← hr]
          unfold pc_loop; rw [if_pos (t_bad_n (by assumption))]
        ·
          refine gb_run 1 (pc2 := 20) (ls2 := [(2, .int (nI told)), (0, .ref (9)), (1, .ref (1))]) (st2 := [.ref (1)]) (M2 := tp S.1 S.2.1 t S.2.2.1 S.2.2.2) hC hqX6_read rfl ?_
          refine gb_cV (z := qX10_next) (a := 1) (av := []) (rest := []) (pl := 745) hC hqX6_read rfl kX10_next sX10_next (by decide +kernel) (c_next hC f S.2.1 t e S.2.2.1 S.2.2.2 S.1 sz (d - 1) (by omega) (by first | assumption | ((repeat (first | rw [r_put_ne (by decide)] | rw [g_set_ne (by decide)])); assumption)) (by first | assumption | ((repeat (first | rw [r_put_ne (by decide)] | rw [g_set_ne (by decide)])); assumption)) (by omega) hE) (by omega) rfl (Nat.le_of_ble_eq_true rfl) (Nat.le_of_ble_eq_true rfl) rfl rfl rfl (Nat.le_of_ble_eq_true rfl) ⟨Nat.le_of_ble_eq_true rfl, Nat.le_of_ble_eq_true rfl⟩ (fun _ _ hq => hq.elim) ?_
          intro r X hq; obtain ⟨M2, rfl, rfl, rfl⟩ := hq
          have bp6 := r_skip_le f (e - S.2.1) S.2.1
          obtain ⟨p6, ep6⟩ : ∃ q : Nat, q = r_skip f (e - S.2.1) S.2.1 := ⟨_, rfl⟩
          rw [← ep6] at bp6 ⊢
          have kp6 : p6 = k_np f e S.2.1 := ep6
          show GW _ _ _ _ _ _ _ _ 23 [(2, .int (nI told)), (0, .ref (9)), (1, .ref (1))] [.int (t_ch f e p6)] (956, g_S0, tp S.1 p6 t S.2.2.1 S.2.2.2, sz)
          refine gb_run 1 (pc2 := 24) (ls2 := [(2, .int (nI told)), (0, .ref (9)), (1, .ref (1))]) (st2 := [.int (-1), .int (t_ch f e p6)]) (M2 := tp S.1 p6 t S.2.2.1 S.2.2.2) hC hqX6_read rfl ?_
          refine gb_icmp_ne hqX6_read rfl (fun h8 => ?_) (fun h8 => ?_)
          ·
            refine gb_run 3 (pc2 := 31) (ls2 := [(2, .int (nI told)), (0, .ref (9)), (1, .ref (1))]) (st2 := [.int (nI told), .ref (1), .ref (9)]) (M2 := tp S.1 p6 t S.2.2.1 S.2.2.2) hC hqX6_read rfl ?_
            refine gb_cV (z := qX6_readClause) (a := 9) (av := [.ref (1), .int (nI told)]) (rest := []) (pl := 749) hC hqX6_read rfl kX6_readClause sX6_readClause (by decide +kernel) (c_readClause hC f p6 t e S.2.2.1 S.2.2.2 (nI told) S.1 sz (d - 1) (by omega) (by first | assumption | ((repeat (first | rw [r_put_ne (by decide)] | rw [g_set_ne (by decide)])); assumption)) (by first | assumption | ((repeat (first | rw [r_put_ne (by decide)] | rw [g_set_ne (by decide)])); assumption)) (by omega) hE) (by omega) rfl (Nat.le_of_ble_eq_true rfl) (Nat.le_of_ble_eq_true rfl) rfl rfl rfl (Nat.le_of_ble_eq_true rfl) ⟨Nat.le_of_ble_eq_true rfl, Nat.le_of_ble_eq_true rfl⟩ (fun _ _ hq => hq.elim) ?_
            intro r X hq; obtain ⟨M2, rfl, rfl, t9, rfl, b8, b9⟩ := hq
            have hf9 : (pc_clause f e (nI told) (S.1, p6, S.2.2.1, S.2.2.2)).1 2 = f := (pc_clause_keep _ _ _ _ (by decide)).trans hf
            have he9 : (pc_clause f e (nI told) (S.1, p6, S.2.2.1, S.2.2.2)).1 1 2 = nI e := (congrFun (pc_clause_keep _ _ _ _ (by decide)) 2).trans he
            obtain ⟨s9, es9⟩ : ∃ q, q = pc_clause f e (nI told) (S.1, p6, S.2.2.1, S.2.2.2) := ⟨_, rfl⟩
            rw [← es9] at b8 b9 hf9 he9 ⊢
            show GW _ _ _ _ _ _ _ _ 34 [(2, .int (nI told)), (0, .ref (9)), (1, .ref (1))] [] (956, g_S0, tp s9.1 s9.2.1 t9 s9.2.2.1 s9.2.2.2, sz)
            refine gb_run 2 (pc2 := 6) (ls2 := [(2, .int (nI told + 1)), (0, .ref (9)), (1, .ref (1))]) (st2 := []) (M2 := tp s9.1 s9.2.1 t9 s9.2.2.1 s9.2.2.2) hC hqX6_read rfl ?_
            rw [nI_1 told]
            exact ih (told + 1) t9 s9 (by omega) b9 hf9 he9 (by rw [← hr]; show _ = (if ¬ S.2.2.1 = 0 then S else _); rw [if_neg (fun q => q (t_bad_0 (by assumption))), if_neg (by rw [← kp6]; assumption), es9, kp6])
          ·
            refine gb_vret hqX6_read rfl rfl (Nat.le_of_ble_eq_true rfl) (Nat.le_of_ble_eq_true rfl) ?_
            refine ⟨_, rfl, rfl, t, ?_⟩
            rw [← hr]
            unfold pc_loop; rw [if_neg (fun q => q (t_bad_0 (by assumption))), if_pos (by rw [← kp6]; assumption), kp6]
  exact L6 61 0 tok (pc_clear M 9, p, ft, fa) rfl hp ((pc_clear_keep M (by decide)).trans hf) ((congrFun (pc_clear_keep M (by decide)) 2).trans he) rfl
