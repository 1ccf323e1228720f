/-! pub3, decompiled. -/
def FX_gain (weight : Int32) (gift : Int32) (other : Int32) : Int32 :=
  if gift ≤ other then ((0 : Int32) - gift) else (weight - gift)
set_option maxRecDepth 20000 in
theorem c_FX_gain {l : Launch} {C : gC} (hC : g_ctx l C) (weight : Int32) (gift : Int32) (other : Int32)  (M : gM) (sz d : Nat) (hd : 1 ≤ d) : gPg l C qX11_gain d [.int (weight), .int (gift), .int (other)] 956 g_S0 M sz (qIp M (FX_gain weight gift other)) := by
  refine gPg.of (ls := [(0, .int (weight)), (1, .int (gift)), (2, .int (other))]) (by decide +kernel) (Nat.le_of_ble_eq_true rfl) rfl ?_
  obtain ⟨R, hr⟩ : ∃ R, FX_gain weight gift other = R := ⟨_, rfl⟩
  rw [hr]
  unfold FX_gain at hr
  refine gb_run 2 (pc2 := 2) (ls2 := [(0, .int (weight)), (1, .int (gift)), (2, .int (other))]) (st2 := [.int (other), .int (gift)]) (M2 := M) hC hqX11_gain rfl ?_
  refine gb_icmp_le hqX11_gain rfl (fun h1 => ?_) (fun h1 => ?_)
  ·
    have hr := g_if1 h1 hr
    refine gb_run 3 (pc2 := 12) (ls2 := [(0, .int (weight)), (1, .int (gift)), (2, .int (other))]) (st2 := [.int ((0 : Int32) - gift)]) (M2 := M) hC hqX11_gain rfl ?_
    refine gb_iret hqX11_gain rfl rfl (Nat.le_of_ble_eq_true rfl) (Nat.le_of_ble_eq_true rfl) ?_
    exact gl_It hr
  ·
    have hr := g_if0 h1 hr
    refine gb_run 4 (pc2 := 12) (ls2 := [(0, .int (weight)), (1, .int (gift)), (2, .int (other))]) (st2 := [.int (weight - gift)]) (M2 := M) hC hqX11_gain rfl ?_
    refine gb_iret hqX11_gain rfl rfl (Nat.le_of_ble_eq_true rfl) (Nat.le_of_ble_eq_true rfl) ?_
    exact gl_It hr
def FX_rests_L19 (weight : Int32) (k0 : Int32) (one : Int32) (other : Int32) : Nat → Int32 → Int32 → Int32 → Option (Int32)
  | 0, _, _, _ => none
  | k + 1, x4, x5, x6 =>
  if k0 < x6 then (some (1 : Int32)) else (if x4 < (FX_gain weight x6 other) then (some (0 : Int32)) else (if (FX_gain weight x6 one) ≤ x5 then (FX_rests_L19 weight k0 one other k x4 x5 (x6 + (1 : Int32))) else (some (0 : Int32))))
set_option maxRecDepth 20000 in
theorem c_FX_rests_L19 {l : Launch} {C : gC} (hC : g_ctx l C) (weight : Int32) (k0 : Int32) (one : Int32) (other : Int32) (M : gM) (sz d : Nat) (hd : 2 ≤ d) (R : Int32) : ∀ (k : Nat) (x4 : Int32) (x5 : Int32) (x6 : Int32), FX_rests_L19 weight k0 one other k x4 x5 x6 = some R → GW l C qX11_rests d (gQg 956 g_S0 (qZp M R) sz) gN 0 0 19 [(0, .int (weight)), (1, .int (k0)), (2, .int (one)), (3, .int (other)), (4, .int (x4)), (5, .int (x5)), (6, .int (x6))] [] (956, g_S0, M, sz) := by
  intro k
  induction k with
  | zero => intro x4 x5 x6 hr; exact nomatch (show (none : Option (Int32)) = some R from hr)
  | succ k ih =>
    intro x4 x5 x6 hr
    unfold FX_rests_L19 at hr
    refine gb_run 2 (pc2 := 22) (ls2 := [(0, .int (weight)), (1, .int (k0)), (2, .int (one)), (3, .int (other)), (4, .int (x4)), (5, .int (x5)), (6, .int (x6))]) (st2 := [.int (k0), .int (x6)]) (M2 := M) hC hqX11_rests rfl ?_
    refine gb_icmp_gt hqX11_rests rfl (fun h1 => ?_) (fun h1 => ?_)
    ·
      have hr := g_if1 h1 hr
      refine gb_run 1 (pc2 := 58) (ls2 := [(0, .int (weight)), (1, .int (k0)), (2, .int (one)), (3, .int (other)), (4, .int (x4)), (5, .int (x5)), (6, .int (x6))]) (st2 := [.int (1)]) (M2 := M) hC hqX11_rests rfl ?_
      refine gb_zret hqX11_rests rfl rfl (Nat.le_of_ble_eq_true rfl) (Nat.le_of_ble_eq_true rfl) (Or.inr rfl) ?_
      exact gl_Zp (Or.inr rfl) hr
    ·
      have hr := g_if0 h1 hr
      refine gb_run 3 (pc2 := 29) (ls2 := [(0, .int (weight)), (1, .int (k0)), (2, .int (one)), (3, .int (other)), (4, .int (x4)), (5, .int (x5)), (6, .int (x6))]) (st2 := [.int (other), .int (x6), .int (weight)]) (M2 := M) hC hqX11_rests rfl ?_
      refine gz_cS (z := qX11_gain) (av := [.int (weight), .int (x6), .int (other)]) (rest := []) (pl := 1297) hC hqX11_rests rfl kX11_gain (by decide +kernel) (c_FX_gain hC weight x6 other  M sz (d - 1) (by omega)) (by omega) ⟨rfl, rfl⟩ rfl rfl (Nat.le_of_ble_eq_true rfl) ⟨Nat.le_of_ble_eq_true rfl, Nat.le_of_ble_eq_true rfl⟩ (gs_Ip ?_)
      refine gb_run 1 (pc2 := 34) (ls2 := [(0, .int (weight)), (1, .int (k0)), (2, .int (one)), (3, .int (other)), (4, .int (x4)), (5, .int (x5)), (6, .int (x6))]) (st2 := [.int (x4), .int (FX_gain weight x6 other)]) (M2 := M) hC hqX11_rests rfl ?_
      refine gb_icmp_gt hqX11_rests rfl (fun h2 => ?_) (fun h2 => ?_)
      ·
        have hr := g_if1 h2 hr
        refine gb_run 1 (pc2 := 50) (ls2 := [(0, .int (weight)), (1, .int (k0)), (2, .int (one)), (3, .int (other)), (4, .int (x4)), (5, .int (x5)), (6, .int (x6))]) (st2 := [.int (0)]) (M2 := M) hC hqX11_rests rfl ?_
        refine gb_zret hqX11_rests rfl rfl (Nat.le_of_ble_eq_true rfl) (Nat.le_of_ble_eq_true rfl) (Or.inl rfl) ?_
        exact gl_Zp (Or.inl rfl) hr
      ·
        have hr := g_if0 h2 hr
        refine gb_run 3 (pc2 := 41) (ls2 := [(0, .int (weight)), (1, .int (k0)), (2, .int (one)), (3, .int (other)), (4, .int (x4)), (5, .int (x5)), (6, .int (x6))]) (st2 := [.int (one), .int (x6), .int (weight)]) (M2 := M) hC hqX11_rests rfl ?_
        refine gz_cS (z := qX11_gain) (av := [.int (weight), .int (x6), .int (one)]) (rest := []) (pl := 1297) hC hqX11_rests rfl kX11_gain (by decide +kernel) (c_FX_gain hC weight x6 one  M sz (d - 1) (by omega)) (by omega) ⟨rfl, rfl⟩ rfl rfl (Nat.le_of_ble_eq_true rfl) ⟨Nat.le_of_ble_eq_true rfl, Nat.le_of_ble_eq_true rfl⟩ (gs_Ip ?_)
        refine gb_run 1 (pc2 := 46) (ls2 := [(0, .int (weight)), (1, .int (k0)), (2, .int (one)), (3, .int (other)), (4, .int (x4)), (5, .int (x5)), (6, .int (x6))]) (st2 := [.int (x5), .int (FX_gain weight x6 one)]) (M2 := M) hC hqX11_rests rfl ?_
        refine gb_icmp_le hqX11_rests rfl (fun h3 => ?_) (fun h3 => ?_)
        ·
          have hr := g_if1 h3 hr
          refine gb_run 2 (pc2 := 19) (ls2 := [(6, .int (x6 + (1 : Int32))), (0, .int (weight)), (1, .int (k0)), (2, .int (one)), (3, .int (other)), (4, .int (x4)), (5, .int (x5))]) (st2 := []) (M2 := M) hC hqX11_rests rfl ?_
          refine gw_pick [1, 2, 3, 4, 5, 6, 0] (ls2 := [(0, .int (weight)), (1, .int (k0)), (2, .int (one)), (3, .int (other)), (4, .int (x4)), (5, .int (x5)), (6, .int (x6 + (1 : Int32)))]) rfl ?_
          exact ih x4 x5 (x6 + (1 : Int32)) hr
        ·
          have hr := g_if0 h3 hr
          refine gb_run 1 (pc2 := 50) (ls2 := [(0, .int (weight)), (1, .int (k0)), (2, .int (one)), (3, .int (other)), (4, .int (x4)), (5, .int (x5)), (6, .int (x6))]) (st2 := [.int (0)]) (M2 := M) hC hqX11_rests rfl ?_
          refine gb_zret hqX11_rests rfl rfl (Nat.le_of_ble_eq_true rfl) (Nat.le_of_ble_eq_true rfl) (Or.inl rfl) ?_
          exact gl_Zp (Or.inl rfl) hr
def FX_rests (weight : Int32) (k0 : Int32) (one : Int32) (other : Int32) : Option (Int32) :=
  FX_rests_L19 weight k0 one other 1000 (FX_gain weight one other) (FX_gain weight other one) (0 : Int32)
set_option maxRecDepth 20000 in
theorem c_FX_rests {l : Launch} {C : gC} (hC : g_ctx l C) (weight : Int32) (k0 : Int32) (one : Int32) (other : Int32)  (M : gM) (sz d : Nat) (hd : 2 ≤ d) (R : Int32) (hr : FX_rests weight k0 one other = some R) : gPg l C qX11_rests d [.int (weight), .int (k0), .int (one), .int (other)] 956 g_S0 M sz (qZp M R) := by
  refine gPg.of (ls := [(0, .int (weight)), (1, .int (k0)), (2, .int (one)), (3, .int (other))]) (by decide +kernel) (Nat.le_of_ble_eq_true rfl) rfl ?_
  unfold FX_rests at hr
  refine gb_run 3 (pc2 := 3) (ls2 := [(0, .int (weight)), (1, .int (k0)), (2, .int (one)), (3, .int (other))]) (st2 := [.int (other), .int (one), .int (weight)]) (M2 := M) hC hqX11_rests rfl ?_
  refine gz_cS (z := qX11_gain) (av := [.int (weight), .int (one), .int (other)]) (rest := []) (pl := 1297) hC hqX11_rests rfl kX11_gain (by decide +kernel) (c_FX_gain hC weight one other  M sz (d - 1) (by omega)) (by omega) ⟨rfl, rfl⟩ rfl rfl (Nat.le_of_ble_eq_true rfl) ⟨Nat.le_of_ble_eq_true rfl, Nat.le_of_ble_eq_true rfl⟩ (gs_Ip ?_)
  refine gb_run 4 (pc2 := 11) (ls2 := [(4, .int (FX_gain weight one other)), (0, .int (weight)), (1, .int (k0)), (2, .int (one)), (3, .int (other))]) (st2 := [.int (one), .int (other), .int (weight)]) (M2 := M) hC hqX11_rests rfl ?_
  refine gz_cS (z := qX11_gain) (av := [.int (weight), .int (other), .int (one)]) (rest := []) (pl := 1297) hC hqX11_rests rfl kX11_gain (by decide +kernel) (c_FX_gain hC weight other one  M sz (d - 1) (by omega)) (by omega) ⟨rfl, rfl⟩ rfl rfl (Nat.le_of_ble_eq_true rfl) ⟨Nat.le_of_ble_eq_true rfl, Nat.le_of_ble_eq_true rfl⟩ (gs_Ip ?_)
  refine gb_run 3 (pc2 := 19) (ls2 := [(6, .int (0)), (5, .int (FX_gain weight other one)), (4, .int (FX_gain weight one other)), (0, .int (weight)), (1, .int (k0)), (2, .int (one)), (3, .int (other))]) (st2 := []) (M2 := M) hC hqX11_rests rfl ?_
  refine gw_pick [3, 4, 5, 6, 2, 1, 0] (ls2 := [(0, .int (weight)), (1, .int (k0)), (2, .int (one)), (3, .int (other)), (4, .int (FX_gain weight one other)), (5, .int (FX_gain weight other one)), (6, .int (0))]) rfl ?_
  exact c_FX_rests_L19 hC weight k0 one other M sz d (by omega) R 1000 (FX_gain weight one other) (FX_gain weight other one) (0 : Int32) hr
def FX_toffee_L61 (h : Int32) (k0 : Int32) (what : Int32) (c52 : Int32 → Int32 → Int32 → Int32 → Int32 → gM → Option (Nat × Int32 × gM)) : Nat → Int32 → Int32 → Int32 → Int32 → Int32 → Int32 → gM → Option (Nat × Int32 × gM)
  | 0, _, _, _, _, _, _, _ => none
  | k + 1, x4, x5, x6, x7, x8, x9, M =>
  if k0 < x9 then (c52 x4 x5 x6 x7 (x8 + (1 : Int32)) M) else ((FX_rests x4 k0 x8 x9).bind fun s2 => if s2 = (0 : Int32) then (FX_toffee_L61 h k0 what c52 k x4 x5 x6 x7 x8 (x9 + (1 : Int32)) M) else (if x5 = (0 : Int32) then (FX_toffee_L61 h k0 what c52 k x4 (x5 + (1 : Int32)) (((10 : Int32) * x8) + x9) ((FX_gain x4 x8 x9) + (FX_gain x4 x9 x8)) x8 (x9 + (1 : Int32)) M) else (FX_toffee_L61 h k0 what c52 k x4 (x5 + (1 : Int32)) x6 x7 x8 (x9 + (1 : Int32)) M)))
set_option maxRecDepth 20000 in
theorem c_FX_toffee_L61 {l : Launch} {C : gC} (hC : g_ctx l C) (h : Int32) (k0 : Int32) (what : Int32) (sz d : Nat) (hd : 8 ≤ d) (R : Nat × Int32 × gM) (c52 : Int32 → Int32 → Int32 → Int32 → Int32 → gM → Option (Nat × Int32 × gM)) (hc52 : ∀ (x4 : Int32) (x5 : Int32) (x6 : Int32) (x7 : Int32) (x8 : Int32) (M : gM), c52 x4 x5 x6 x7 x8 M = some R → GW l C qX11_toffee d (gQt (qtI R)) (gNt (xtI R)) 3 18 52 [(2, .int (k0)), (3, .int (what)), (4, .int (x4)), (5, .int (x5)), (6, .int (x6)), (7, .int (x7)), (8, .int (x8))] [] (956, g_S0, M, sz)) : ∀ (k : Nat) (x4 : Int32) (x5 : Int32) (x6 : Int32) (x7 : Int32) (x8 : Int32) (x9 : Int32) (M : gM), FX_toffee_L61 h k0 what c52 k x4 x5 x6 x7 x8 x9 M = some R → GW l C qX11_toffee d (gQt (qtI R)) (gNt (xtI R)) 3 18 61 [(2, .int (k0)), (3, .int (what)), (4, .int (x4)), (5, .int (x5)), (6, .int (x6)), (7, .int (x7)), (8, .int (x8)), (9, .int (x9))] [] (956, g_S0, M, sz) := by
  intro k
  induction k with
  | zero => intro x4 x5 x6 x7 x8 x9 M hr; exact nomatch (show (none : Option (Nat × Int32 × gM)) = some R from hr)
  | succ k ih =>
    intro x4 x5 x6 x7 x8 x9 M hr
    unfold FX_toffee_L61 at hr
    refine gb_run 2 (pc2 := 64) (ls2 := [(2, .int (k0)), (3, .int (what)), (4, .int (x4)), (5, .int (x5)), (6, .int (x6)), (7, .int (x7)), (8, .int (x8)), (9, .int (x9))]) (st2 := [.int (k0), .int (x9)]) (M2 := M) hC hqX11_toffee rfl ?_
    refine gb_icmp_gt hqX11_toffee rfl (fun h1 => ?_) (fun h1 => ?_)
    ·
      have hr := g_if1 h1 hr
      refine gb_run 2 (pc2 := 52) (ls2 := [(8, .int (x8 + (1 : Int32))), (2, .int (k0)), (3, .int (what)), (4, .int (x4)), (5, .int (x5)), (6, .int (x6)), (7, .int (x7)), (9, .int (x9))]) (st2 := []) (M2 := M) hC hqX11_toffee rfl ?_
      refine gw_pick [1, 2, 3, 4, 5, 6, 0] (ls2 := [(2, .int (k0)), (3, .int (what)), (4, .int (x4)), (5, .int (x5)), (6, .int (x6)), (7, .int (x7)), (8, .int (x8 + (1 : Int32)))]) rfl ?_
      exact hc52 x4 x5 x6 x7 (x8 + (1 : Int32)) M hr
    ·
      have hr := g_if0 h1 hr
      refine gb_run 4 (pc2 := 74) (ls2 := [(2, .int (k0)), (3, .int (what)), (4, .int (x4)), (5, .int (x5)), (6, .int (x6)), (7, .int (x7)), (8, .int (x8)), (9, .int (x9))]) (st2 := [.int (x9), .int (x8), .int (k0), .int (x4)]) (M2 := M) hC hqX11_toffee rfl ?_
      obtain ⟨s2, es2, hr⟩ := g_bd hr
      refine gz_cS (z := qX11_rests) (av := [.int (x4), .int (k0), .int (x8), .int (x9)]) (rest := []) (pl := 1294) hC hqX11_toffee rfl kX11_rests (by decide +kernel) (c_FX_rests hC x4 k0 x8 x9  M sz (d - 1) (by omega) s2 es2) (by omega) ⟨rfl, rfl⟩ rfl rfl (Nat.le_of_ble_eq_true rfl) ⟨Nat.le_of_ble_eq_true rfl, Nat.le_of_ble_eq_true rfl⟩ (gs_Zp fun z3 => ?_)
      refine gb_if_eq hqX11_toffee rfl (fun h4 => ?_) (fun h4 => ?_)
      ·
        have hr := g_if1 h4 hr
        refine gb_run 2 (pc2 := 61) (ls2 := [(9, .int (x9 + (1 : Int32))), (2, .int (k0)), (3, .int (what)), (4, .int (x4)), (5, .int (x5)), (6, .int (x6)), (7, .int (x7)), (8, .int (x8))]) (st2 := []) (M2 := M) hC hqX11_toffee rfl ?_
        refine gw_pick [1, 2, 3, 4, 5, 6, 7, 0] (ls2 := [(2, .int (k0)), (3, .int (what)), (4, .int (x4)), (5, .int (x5)), (6, .int (x6)), (7, .int (x7)), (8, .int (x8)), (9, .int (x9 + (1 : Int32)))]) rfl ?_
        exact ih x4 x5 x6 x7 x8 (x9 + (1 : Int32)) M hr
      ·
        have hr := g_if0 h4 hr
        refine gb_run 1 (pc2 := 82) (ls2 := [(2, .int (k0)), (3, .int (what)), (4, .int (x4)), (5, .int (x5)), (6, .int (x6)), (7, .int (x7)), (8, .int (x8)), (9, .int (x9))]) (st2 := [.int (x5)]) (M2 := M) hC hqX11_toffee rfl ?_
        refine gb_if_ne hqX11_toffee rfl (fun h5 => ?_) (fun h5 => ?_)
        ·
          have hr := g_if0 h5 hr
          refine gb_run 3 (pc2 := 61) (ls2 := [(9, .int (x9 + (1 : Int32))), (5, .int (x5 + (1 : Int32))), (2, .int (k0)), (3, .int (what)), (4, .int (x4)), (6, .int (x6)), (7, .int (x7)), (8, .int (x8))]) (st2 := []) (M2 := M) hC hqX11_toffee rfl ?_
          refine gw_pick [2, 3, 4, 1, 5, 6, 7, 0] (ls2 := [(2, .int (k0)), (3, .int (what)), (4, .int (x4)), (5, .int (x5 + (1 : Int32))), (6, .int (x6)), (7, .int (x7)), (8, .int (x8)), (9, .int (x9 + (1 : Int32)))]) rfl ?_
          exact ih x4 (x5 + (1 : Int32)) x6 x7 x8 (x9 + (1 : Int32)) M hr
        ·
          have hr := g_if1 h5 hr
          refine gb_run 9 (pc2 := 101) (ls2 := [(6, .int (((10 : Int32) * x8) + x9)), (2, .int (k0)), (3, .int (what)), (4, .int (x4)), (5, .int (x5)), (7, .int (x7)), (8, .int (x8)), (9, .int (x9))]) (st2 := [.int (x9), .int (x8), .int (x4)]) (M2 := M) hC hqX11_toffee rfl ?_
          refine gz_cS (z := qX11_gain) (av := [.int (x4), .int (x8), .int (x9)]) (rest := []) (pl := 1297) hC hqX11_toffee rfl kX11_gain (by decide +kernel) (c_FX_gain hC x4 x8 x9  M sz (d - 1) (by omega)) (by omega) ⟨rfl, rfl⟩ rfl rfl (Nat.le_of_ble_eq_true rfl) ⟨Nat.le_of_ble_eq_true rfl, Nat.le_of_ble_eq_true rfl⟩ (gs_Ip ?_)
          refine gb_run 3 (pc2 := 110) (ls2 := [(6, .int (((10 : Int32) * x8) + x9)), (2, .int (k0)), (3, .int (what)), (4, .int (x4)), (5, .int (x5)), (7, .int (x7)), (8, .int (x8)), (9, .int (x9))]) (st2 := [.int (x8), .int (x9), .int (x4), .int (FX_gain x4 x8 x9)]) (M2 := M) hC hqX11_toffee rfl ?_
          refine gz_cS (z := qX11_gain) (av := [.int (x4), .int (x9), .int (x8)]) (rest := [.int (FX_gain x4 x8 x9)]) (pl := 1297) hC hqX11_toffee rfl kX11_gain (by decide +kernel) (c_FX_gain hC x4 x9 x8  M sz (d - 1) (by omega)) (by omega) ⟨rfl, rfl⟩ rfl rfl (Nat.le_of_ble_eq_true rfl) ⟨Nat.le_of_ble_eq_true rfl, Nat.le_of_ble_eq_true rfl⟩ (gs_Ip ?_)
          refine gb_run 5 (pc2 := 61) (ls2 := [(9, .int (x9 + (1 : Int32))), (5, .int (x5 + (1 : Int32))), (7, .int ((FX_gain x4 x8 x9) + (FX_gain x4 x9 x8))), (6, .int (((10 : Int32) * x8) + x9)), (2, .int (k0)), (3, .int (what)), (4, .int (x4)), (8, .int (x8))]) (st2 := []) (M2 := M) hC hqX11_toffee rfl ?_
          refine gw_pick [4, 5, 6, 1, 3, 2, 7, 0] (ls2 := [(2, .int (k0)), (3, .int (what)), (4, .int (x4)), (5, .int (x5 + (1 : Int32))), (6, .int (((10 : Int32) * x8) + x9)), (7, .int ((FX_gain x4 x8 x9) + (FX_gain x4 x9 x8))), (8, .int (x8)), (9, .int (x9 + (1 : Int32)))]) rfl ?_
          exact ih x4 (x5 + (1 : Int32)) (((10 : Int32) * x8) + x9) ((FX_gain x4 x8 x9) + (FX_gain x4 x9 x8)) x8 (x9 + (1 : Int32)) M hr
def FX_toffee_L52 (h : Int32) (k0 : Int32) (what : Int32) : Nat → Int32 → Int32 → Int32 → Int32 → Int32 → gM → Option (Nat × Int32 × gM)
  | 0, _, _, _, _, _, _ => none
  | k + 1, x4, x5, x6, x7, x8, M =>
  if k0 < x8 then (if what = (0 : Int32) then (some (0, x5, M)) else (if what = (1 : Int32) then (some (0, x6, M)) else (some (0, x7, M)))) else (FX_toffee_L61 h k0 what (FX_toffee_L52 h k0 what k) 1000 x4 x5 x6 x7 x8 (0 : Int32) M)
set_option maxRecDepth 20000 in
theorem c_FX_toffee_L52 {l : Launch} {C : gC} (hC : g_ctx l C) (h : Int32) (k0 : Int32) (what : Int32) (sz d : Nat) (hd : 8 ≤ d) (R : Nat × Int32 × gM) : ∀ (k : Nat) (x4 : Int32) (x5 : Int32) (x6 : Int32) (x7 : Int32) (x8 : Int32) (M : gM), FX_toffee_L52 h k0 what k x4 x5 x6 x7 x8 M = some R → GW l C qX11_toffee d (gQt (qtI R)) (gNt (xtI R)) 3 18 52 [(2, .int (k0)), (3, .int (what)), (4, .int (x4)), (5, .int (x5)), (6, .int (x6)), (7, .int (x7)), (8, .int (x8))] [] (956, g_S0, M, sz) := by
  intro k
  induction k with
  | zero => intro x4 x5 x6 x7 x8 M hr; exact nomatch (show (none : Option (Nat × Int32 × gM)) = some R from hr)
  | succ k ih =>
    intro x4 x5 x6 x7 x8 M hr
    unfold FX_toffee_L52 at hr
    refine gb_run 2 (pc2 := 55) (ls2 := [(2, .int (k0)), (3, .int (what)), (4, .int (x4)), (5, .int (x5)), (6, .int (x6)), (7, .int (x7)), (8, .int (x8))]) (st2 := [.int (k0), .int (x8)]) (M2 := M) hC hqX11_toffee rfl ?_
    refine gb_icmp_gt hqX11_toffee rfl (fun h1 => ?_) (fun h1 => ?_)
    ·
      have hr := g_if1 h1 hr
      refine gb_run 1 (pc2 := 132) (ls2 := [(2, .int (k0)), (3, .int (what)), (4, .int (x4)), (5, .int (x5)), (6, .int (x6)), (7, .int (x7)), (8, .int (x8))]) (st2 := [.int (what)]) (M2 := M) hC hqX11_toffee rfl ?_
      refine gb_if_ne hqX11_toffee rfl (fun h2 => ?_) (fun h2 => ?_)
      ·
        have hr := g_if0 h2 hr
        refine gb_run 2 (pc2 := 142) (ls2 := [(2, .int (k0)), (3, .int (what)), (4, .int (x4)), (5, .int (x5)), (6, .int (x6)), (7, .int (x7)), (8, .int (x8))]) (st2 := [.int (1), .int (what)]) (M2 := M) hC hqX11_toffee rfl ?_
        refine gb_icmp_ne hqX11_toffee rfl (fun h3 => ?_) (fun h3 => ?_)
        ·
          have hr := g_if0 h3 hr
          refine gb_run 1 (pc2 := 152) (ls2 := [(2, .int (k0)), (3, .int (what)), (4, .int (x4)), (5, .int (x5)), (6, .int (x6)), (7, .int (x7)), (8, .int (x8))]) (st2 := [.int (x7)]) (M2 := M) hC hqX11_toffee rfl ?_
          refine gb_iret hqX11_toffee rfl rfl (Nat.le_of_ble_eq_true rfl) (Nat.le_of_ble_eq_true rfl) ?_
          exact gl_tI hr
        ·
          have hr := g_if1 h3 hr
          refine gb_run 2 (pc2 := 152) (ls2 := [(2, .int (k0)), (3, .int (what)), (4, .int (x4)), (5, .int (x5)), (6, .int (x6)), (7, .int (x7)), (8, .int (x8))]) (st2 := [.int (x6)]) (M2 := M) hC hqX11_toffee rfl ?_
          refine gb_iret hqX11_toffee rfl rfl (Nat.le_of_ble_eq_true rfl) (Nat.le_of_ble_eq_true rfl) ?_
          exact gl_tI hr
      ·
        have hr := g_if1 h2 hr
        refine gb_run 2 (pc2 := 152) (ls2 := [(2, .int (k0)), (3, .int (what)), (4, .int (x4)), (5, .int (x5)), (6, .int (x6)), (7, .int (x7)), (8, .int (x8))]) (st2 := [.int (x5)]) (M2 := M) hC hqX11_toffee rfl ?_
        refine gb_iret hqX11_toffee rfl rfl (Nat.le_of_ble_eq_true rfl) (Nat.le_of_ble_eq_true rfl) ?_
        exact gl_tI hr
    ·
      have hr := g_if0 h1 hr
      refine gb_run 2 (pc2 := 61) (ls2 := [(9, .int (0)), (2, .int (k0)), (3, .int (what)), (4, .int (x4)), (5, .int (x5)), (6, .int (x6)), (7, .int (x7)), (8, .int (x8))]) (st2 := []) (M2 := M) hC hqX11_toffee rfl ?_
      refine gw_pick [1, 2, 3, 4, 5, 6, 7, 0] (ls2 := [(2, .int (k0)), (3, .int (what)), (4, .int (x4)), (5, .int (x5)), (6, .int (x6)), (7, .int (x7)), (8, .int (x8)), (9, .int (0))]) rfl ?_
      exact c_FX_toffee_L61 hC h k0 what sz d (by omega) R (FX_toffee_L52 h k0 what k) ih 1000 x4 x5 x6 x7 x8 (0 : Int32) M hr
def FX_toffee (h : Int32) (k0 : Int32) (what : Int32) (M : gM) : Option (Nat × Int32 × gM) :=
  (FX_needOne h (M 3 7) M).bind fun s1 => if s1.1 = 0 then ((FX_needIn k0 (0 : Int32) (9 : Int32) (s1.2)).bind fun s2 => if s2.1 = 0 then ((FX_needIn what (0 : Int32) (2 : Int32) (s2.2)).bind fun s3 => if s3.1 = 0 then (FX_toffee_L52 h k0 what 1000 (r_at ((s3.2) 8) 8 h) (0 : Int32) (-1 : Int32) (0 : Int32) (0 : Int32) (s3.2)) else some (s3.1, 0, s3.2)) else some (s2.1, 0, s2.2)) else some (s1.1, 0, s1.2)
set_option maxRecDepth 20000 in
theorem c_FX_toffee {l : Launch} {C : gC} (hC : g_ctx l C) (h : Int32) (k0 : Int32) (what : Int32)  (M : gM) (sz d : Nat) (hd : 8 ≤ d) (R : Nat × Int32 × gM) (hr : FX_toffee h k0 what M = some R) : gPt l C qX11_toffee d [.ref (0), .int (h), .int (k0), .int (what)] M sz (qtI R) (xtI R) := by
  refine gPt.of (ls := [(0, .ref (0)), (1, .int (h)), (2, .int (k0)), (3, .int (what))]) (by decide +kernel) (Nat.le_of_ble_eq_true rfl) rfl ?_
  unfold FX_toffee at hr
  refine gb_run 5 (pc2 := 9) (ls2 := [(0, .ref (0)), (1, .int (h)), (2, .int (k0)), (3, .int (what))]) (st2 := [.int (M 3 7), .int (h), .ref (0)]) (M2 := M) hC hqX11_toffee rfl ?_
  obtain ⟨s1, es1, hr⟩ := g_bd hr
  refine gt_cV (z := qX11_needOne) (a := 0) (av := [.int (h), .int (M 3 7)]) (rest := []) (pl := 1042) (kc2 := 1) (ks2 := 6) hC hqX11_toffee rfl kX11_needOne sX11_needOne (by decide +kernel) (c_FX_needOne hC h (M 3 7)  M sz (d - 1) (by omega) s1 es1) (by omega) rfl rfl rfl (Nat.le_of_ble_eq_true rfl) (Nat.le_of_ble_eq_true rfl) rfl rfl rfl (Nat.le_of_ble_eq_true rfl) ⟨Nat.le_of_ble_eq_true rfl, Nat.le_of_ble_eq_true rfl⟩ (gt_xI hr) (gs_t fun sz3 q0 => ?_)
  have hr := g_if1 q0 hr
  refine gb_run 4 (pc2 := 17) (ls2 := [(0, .ref (0)), (1, .int (h)), (2, .int (k0)), (3, .int (what))]) (st2 := [.int (9), .int (0), .int (k0), .ref (0)]) (M2 := s1.2) hC hqX11_toffee rfl ?_
  obtain ⟨s2, es2, hr⟩ := g_bd hr
  refine gt_cV (z := qX11_needIn) (a := 0) (av := [.int (k0), .int (0), .int (9)]) (rest := []) (pl := 658) (kc2 := 2) (ks2 := 12) hC hqX11_toffee rfl kX11_needIn sX11_needIn (by decide +kernel) (c_FX_needIn hC k0 (0 : Int32) (9 : Int32)  (s1.2) sz3 (d - 1) (by omega) s2 es2) (by omega) rfl rfl rfl (Nat.le_of_ble_eq_true rfl) (Nat.le_of_ble_eq_true rfl) rfl rfl rfl (Nat.le_of_ble_eq_true rfl) ⟨Nat.le_of_ble_eq_true rfl, Nat.le_of_ble_eq_true rfl⟩ (gt_xI hr) (gs_t fun sz5 q0 => ?_)
  have hr := g_if1 q0 hr
  refine gb_run 4 (pc2 := 24) (ls2 := [(0, .ref (0)), (1, .int (h)), (2, .int (k0)), (3, .int (what))]) (st2 := [.int (2), .int (0), .int (what), .ref (0)]) (M2 := s2.2) hC hqX11_toffee rfl ?_
  obtain ⟨s3, es3, hr⟩ := g_bd hr
  refine gt_cV (z := qX11_needIn) (a := 0) (av := [.int (what), .int (0), .int (2)]) (rest := []) (pl := 658) (kc2 := 3) (ks2 := 18) hC hqX11_toffee rfl kX11_needIn sX11_needIn (by decide +kernel) (c_FX_needIn hC what (0 : Int32) (2 : Int32)  (s2.2) sz5 (d - 1) (by omega) s3 es3) (by omega) rfl rfl rfl (Nat.le_of_ble_eq_true rfl) (Nat.le_of_ble_eq_true rfl) rfl rfl rfl (Nat.le_of_ble_eq_true rfl) ⟨Nat.le_of_ble_eq_true rfl, Nat.le_of_ble_eq_true rfl⟩ (gt_xI hr) (gs_t fun sz6 q0 => ?_)
  have hr := g_if1 q0 hr
  refine gb_run 4 (pc2 := 35) (ls2 := [(0, .ref (0)), (1, .int (h)), (2, .int (k0)), (3, .int (what))]) (st2 := [.int (h), .ref (8)]) (M2 := s3.2) hC hqX11_toffee rfl ?_
  refine gz_cS (z := qX11_at) (av := [.ref (8), .int (h)]) (rest := []) (pl := 1062) hC hqX11_toffee rfl kX11_at (by decide +kernel) (c_at hC 8 8 _ h (s3.2) sz6 (d - 1) (by omega) (Nat.le_of_ble_eq_true rfl) rfl (Nat.le_of_ble_eq_true rfl)) (by omega) ⟨rfl, rfl⟩ rfl rfl (Nat.le_of_ble_eq_true rfl) ⟨Nat.le_of_ble_eq_true rfl, Nat.le_of_ble_eq_true rfl⟩ (gs_Ip (x := r_at ((s3.2) 8) 8 h) ?_)
  refine gb_run 9 (pc2 := 52) (ls2 := [(8, .int (0)), (7, .int (0)), (6, .int (-1)), (5, .int (0)), (4, .int (r_at ((s3.2) 8) 8 h)), (0, .ref (0)), (1, .int (h)), (2, .int (k0)), (3, .int (what))]) (st2 := []) (M2 := s3.2) hC hqX11_toffee rfl ?_
  refine gw_pick [7, 8, 4, 3, 2, 1, 0] (ls2 := [(2, .int (k0)), (3, .int (what)), (4, .int (r_at ((s3.2) 8) 8 h)), (5, .int (0)), (6, .int (-1)), (7, .int (0)), (8, .int (0))]) rfl ?_
  exact c_FX_toffee_L52 hC h k0 what sz6 d (by omega) R 1000 (r_at ((s3.2) 8) 8 h) (0 : Int32) (-1 : Int32) (0 : Int32) (0 : Int32) (s3.2) hr
def FX_share (c : Int32) (children : Int32) (n : Int32) (M : gM) : Option (Nat × Int32 × gM) :=
  (FX_needOne c (M 3 6) M).bind fun s1 => if s1.1 = 0 then ((FX_needBits children ((s1.2) 3 6) (s1.2)).bind fun s2 => if s2.1 = 0 then ((FX_needIn n (0 : Int32) (99 : Int32) (s2.2)).bind fun s3 => if s3.1 = 0 then (if (F_hasBit children c) = (0 : Int32) then (some (0, 0, s3.2)) else ((FP_boundOf children n (s3.2)).bind fun s7 => some (0, m_min (r_at ((s3.2) 7) 8 c) s7, s3.2))) else some (s3.1, 0, s3.2)) else some (s2.1, 0, s2.2)) else some (s1.1, 0, s1.2)
set_option maxRecDepth 20000 in
theorem c_FX_share {l : Launch} {C : gC} (hC : g_ctx l C) (c : Int32) (children : Int32) (n : Int32)  (M : gM) (sz d : Nat) (hd : 9 ≤ d) (R : Nat × Int32 × gM) (hr : FX_share c children n M = some R) : gPt l C qX11_share d [.ref (0), .int (c), .int (children), .int (n)] M sz (qtI R) (xtI R) := by
  refine gPt.of (ls := [(0, .ref (0)), (1, .int (c)), (2, .int (children)), (3, .int (n))]) (by decide +kernel) (Nat.le_of_ble_eq_true rfl) rfl ?_
  unfold FX_share at hr
  refine gb_run 5 (pc2 := 9) (ls2 := [(0, .ref (0)), (1, .int (c)), (2, .int (children)), (3, .int (n))]) (st2 := [.int (M 3 6), .int (c), .ref (0)]) (M2 := M) hC hqX11_share rfl ?_
  obtain ⟨s1, es1, hr⟩ := g_bd hr
  refine gt_cV (z := qX11_needOne) (a := 0) (av := [.int (c), .int (M 3 6)]) (rest := []) (pl := 1042) (kc2 := 1) (ks2 := 6) hC hqX11_share rfl kX11_needOne sX11_needOne (by decide +kernel) (c_FX_needOne hC c (M 3 6)  M sz (d - 1) (by omega) s1 es1) (by omega) rfl rfl rfl (Nat.le_of_ble_eq_true rfl) (Nat.le_of_ble_eq_true rfl) rfl rfl rfl (Nat.le_of_ble_eq_true rfl) ⟨Nat.le_of_ble_eq_true rfl, Nat.le_of_ble_eq_true rfl⟩ (gt_xI hr) (gs_t fun sz3 q0 => ?_)
  have hr := g_if1 q0 hr
  refine gb_run 5 (pc2 := 21) (ls2 := [(0, .ref (0)), (1, .int (c)), (2, .int (children)), (3, .int (n))]) (st2 := [.int ((s1.2) 3 6), .int (children), .ref (0)]) (M2 := s1.2) hC hqX11_share rfl ?_
  obtain ⟨s2, es2, hr⟩ := g_bd hr
  refine gt_cV (z := qX11_needBits) (a := 0) (av := [.int (children), .int ((s1.2) 3 6)]) (rest := []) (pl := 1136) (kc2 := 2) (ks2 := 12) hC hqX11_share rfl kX11_needBits sX11_needBits (by decide +kernel) (c_FX_needBits hC children ((s1.2) 3 6)  (s1.2) sz3 (d - 1) (by omega) s2 es2) (by omega) rfl rfl rfl (Nat.le_of_ble_eq_true rfl) (Nat.le_of_ble_eq_true rfl) rfl rfl rfl (Nat.le_of_ble_eq_true rfl) ⟨Nat.le_of_ble_eq_true rfl, Nat.le_of_ble_eq_true rfl⟩ (gt_xI hr) (gs_t fun sz5 q0 => ?_)
  have hr := g_if1 q0 hr
  refine gb_run 4 (pc2 := 29) (ls2 := [(0, .ref (0)), (1, .int (c)), (2, .int (children)), (3, .int (n))]) (st2 := [.int (99), .int (0), .int (n), .ref (0)]) (M2 := s2.2) hC hqX11_share rfl ?_
  obtain ⟨s3, es3, hr⟩ := g_bd hr
  refine gt_cV (z := qX11_needIn) (a := 0) (av := [.int (n), .int (0), .int (99)]) (rest := []) (pl := 658) (kc2 := 3) (ks2 := 18) hC hqX11_share rfl kX11_needIn sX11_needIn (by decide +kernel) (c_FX_needIn hC n (0 : Int32) (99 : Int32)  (s2.2) sz5 (d - 1) (by omega) s3 es3) (by omega) rfl rfl rfl (Nat.le_of_ble_eq_true rfl) (Nat.le_of_ble_eq_true rfl) rfl rfl rfl (Nat.le_of_ble_eq_true rfl) ⟨Nat.le_of_ble_eq_true rfl, Nat.le_of_ble_eq_true rfl⟩ (gt_xI hr) (gs_t fun sz6 q0 => ?_)
  have hr := g_if1 q0 hr
  refine gb_run 2 (pc2 := 34) (ls2 := [(0, .ref (0)), (1, .int (c)), (2, .int (children)), (3, .int (n))]) (st2 := [.int (c), .int (children)]) (M2 := s3.2) hC hqX11_share rfl ?_
  refine gz_cS (z := qX11_hasBit) (av := [.int (children), .int (c)]) (rest := []) (pl := 1243) hC hqX11_share rfl kX11_hasBit (by decide +kernel) (c_F_hasBit hC children c  (s3.2) sz6 (d - 1) (by omega)) (by omega) ⟨rfl, rfl⟩ rfl rfl (Nat.le_of_ble_eq_true rfl) ⟨Nat.le_of_ble_eq_true rfl, Nat.le_of_ble_eq_true rfl⟩ (gs_Zp fun z5 => ?_)
  refine gb_if_ne hqX11_share rfl (fun h6 => ?_) (fun h6 => ?_)
  ·
    have hr := g_if0 h6 hr
    refine gb_run 4 (pc2 := 50) (ls2 := [(0, .ref (0)), (1, .int (c)), (2, .int (children)), (3, .int (n))]) (st2 := [.int (c), .ref (7)]) (M2 := s3.2) hC hqX11_share rfl ?_
    refine gz_cS (z := qX11_at) (av := [.ref (7), .int (c)]) (rest := []) (pl := 1062) hC hqX11_share rfl kX11_at (by decide +kernel) (c_at hC 7 8 _ c (s3.2) sz6 (d - 1) (by omega) (Nat.le_of_ble_eq_true rfl) rfl (Nat.le_of_ble_eq_true rfl)) (by omega) ⟨rfl, rfl⟩ rfl rfl (Nat.le_of_ble_eq_true rfl) ⟨Nat.le_of_ble_eq_true rfl, Nat.le_of_ble_eq_true rfl⟩ (gs_Ip (x := r_at ((s3.2) 7) 8 c) ?_)
    refine gb_run 4 (pc2 := 59) (ls2 := [(0, .ref (0)), (1, .int (c)), (2, .int (children)), (3, .int (n))]) (st2 := [.int (n), .int (children), .ref (3), .int (r_at ((s3.2) 7) 8 c)]) (M2 := s3.2) hC hqX11_share rfl ?_
    obtain ⟨s7, es7, hr⟩ := g_bd hr
    refine gz_cV (z := qX6_boundOf) (a := 3) (av := [.int (children), .int (n)]) (rest := [.int (r_at ((s3.2) 7) 8 c)]) (pl := 1307) hC hqX11_share rfl kX6_boundOf sX6_boundOf (by decide +kernel) (c_FP_boundOf hC children n  (s3.2) sz6 (d - 1) (by omega) s7 es7) (by omega) ⟨rfl, rfl⟩ rfl (Nat.le_of_ble_eq_true rfl) (Nat.le_of_ble_eq_true rfl) rfl rfl rfl (Nat.le_of_ble_eq_true rfl) ⟨Nat.le_of_ble_eq_true rfl, Nat.le_of_ble_eq_true rfl⟩ (gs_Ip ?_)
    refine gb_min (pl := 657) hC hqX11_share rfl (by decide +kernel) (Nat.le_of_ble_eq_true rfl) (by omega) (Nat.le_of_ble_eq_true rfl) (Nat.le_of_ble_eq_true rfl) ?_
    refine gb_iret hqX11_share rfl rfl (Nat.le_of_ble_eq_true rfl) (Nat.le_of_ble_eq_true rfl) ?_
    exact gl_tI hr
  ·
    have hr := g_if1 h6 hr
    refine gb_run 1 (pc2 := 41) (ls2 := [(0, .ref (0)), (1, .int (c)), (2, .int (children)), (3, .int (n))]) (st2 := [.int (0)]) (M2 := s3.2) hC hqX11_share rfl ?_
    refine gb_iret hqX11_share rfl rfl (Nat.le_of_ble_eq_true rfl) (Nat.le_of_ble_eq_true rfl) ?_
    exact gl_tI hr
def FX_quickest_L27 (h : Int32) (what : Int32) : Nat → Int32 → Int32 → Int32 → gM → Option (Nat × Int32 × gM)
  | 0, _, _, _, _ => none
  | k + 1, x3, x4, x5, M =>
  if (M 3 6) ≤ x5 then (if what = (0 : Int32) then (some (0, x3, M)) else (some (0, x4, M))) else ((FB_longOf 48 h x5 M).bind fun s3 => if x3 = (-1 : Int32) then (FX_quickest_L27 h what k x5 s3.1 (x5 + (1 : Int32)) (s3.2)) else (if x4 ≤ s3.1 then (FX_quickest_L27 h what k x3 x4 (x5 + (1 : Int32)) (s3.2)) else (FX_quickest_L27 h what k x5 s3.1 (x5 + (1 : Int32)) (s3.2))))
set_option maxRecDepth 20000 in
theorem c_FX_quickest_L27 {l : Launch} {C : gC} (hC : g_ctx l C) (h : Int32) (what : Int32) (sz d : Nat) (hd : 8 ≤ d) (R : Nat × Int32 × gM) : ∀ (k : Nat) (x3 : Int32) (x4 : Int32) (x5 : Int32) (M : gM), FX_quickest_L27 h what k x3 x4 x5 M = some R → GW l C qX11_quickest d (gQt (qtI R)) (gNt (xtI R)) 2 12 27 [(0, .ref (0)), (1, .int (h)), (2, .int (what)), (3, .int (x3)), (4, .int (x4)), (5, .int (x5))] [] (956, g_S0, M, sz) := by
  intro k
  induction k with
  | zero => intro x3 x4 x5 M hr; exact nomatch (show (none : Option (Nat × Int32 × gM)) = some R from hr)
  | succ k ih =>
    intro x3 x4 x5 M hr
    unfold FX_quickest_L27 at hr
    refine gb_run 4 (pc2 := 36) (ls2 := [(0, .ref (0)), (1, .int (h)), (2, .int (what)), (3, .int (x3)), (4, .int (x4)), (5, .int (x5))]) (st2 := [.int (M 3 6), .int (x5)]) (M2 := M) hC hqX11_quickest rfl ?_
    refine gb_icmp_ge hqX11_quickest rfl (fun h1 => ?_) (fun h1 => ?_)
    ·
      have hr := g_if1 h1 hr
      refine gb_run 1 (pc2 := 84) (ls2 := [(0, .ref (0)), (1, .int (h)), (2, .int (what)), (3, .int (x3)), (4, .int (x4)), (5, .int (x5))]) (st2 := [.int (what)]) (M2 := M) hC hqX11_quickest rfl ?_
      refine gb_if_ne hqX11_quickest rfl (fun h2 => ?_) (fun h2 => ?_)
      ·
        have hr := g_if0 h2 hr
        refine gb_run 1 (pc2 := 93) (ls2 := [(0, .ref (0)), (1, .int (h)), (2, .int (what)), (3, .int (x3)), (4, .int (x4)), (5, .int (x5))]) (st2 := [.int (x4)]) (M2 := M) hC hqX11_quickest rfl ?_
        refine gb_iret hqX11_quickest rfl rfl (Nat.le_of_ble_eq_true rfl) (Nat.le_of_ble_eq_true rfl) ?_
        exact gl_tI hr
      ·
        have hr := g_if1 h2 hr
        refine gb_run 2 (pc2 := 93) (ls2 := [(0, .ref (0)), (1, .int (h)), (2, .int (what)), (3, .int (x3)), (4, .int (x4)), (5, .int (x5))]) (st2 := [.int (x3)]) (M2 := M) hC hqX11_quickest rfl ?_
        refine gb_iret hqX11_quickest rfl rfl (Nat.le_of_ble_eq_true rfl) (Nat.le_of_ble_eq_true rfl) ?_
        exact gl_tI hr
    ·
      have hr := g_if0 h1 hr
      refine gb_run 7 (pc2 := 53) (ls2 := [(0, .ref (0)), (1, .int (h)), (2, .int (what)), (3, .int (x3)), (4, .int (x4)), (5, .int (x5))]) (st2 := [.int (x5), .int (h), .ref (48), .ref (27)]) (M2 := M) hC hqX11_quickest rfl ?_
      obtain ⟨s3, es3, hr⟩ := g_bd hr
      refine gz_cV (z := qX0_longOf) (a := 27) (av := [.ref (48), .int (h), .int (x5)]) (rest := []) (pl := 1100) hC hqX11_quickest rfl kX0_longOf sX0_longOf (by decide +kernel) (c_FB_longOf hC 48 h x5 (by decide +kernel) M sz (d - 1) (by omega) s3 es3) (by omega) ⟨rfl, rfl⟩ rfl (Nat.le_of_ble_eq_true rfl) (Nat.le_of_ble_eq_true rfl) rfl rfl rfl (Nat.le_of_ble_eq_true rfl) ⟨Nat.le_of_ble_eq_true rfl, Nat.le_of_ble_eq_true rfl⟩ (gs_I ?_)
      refine gb_run 3 (pc2 := 60) (ls2 := [(6, .int (s3.1)), (0, .ref (0)), (1, .int (h)), (2, .int (what)), (3, .int (x3)), (4, .int (x4)), (5, .int (x5))]) (st2 := [.int (-1), .int (x3)]) (M2 := s3.2) hC hqX11_quickest rfl ?_
      refine gb_icmp_eq hqX11_quickest rfl (fun h4 => ?_) (fun h4 => ?_)
      ·
        have hr := g_if1 h4 hr
        refine gb_run 6 (pc2 := 27) (ls2 := [(5, .int (x5 + (1 : Int32))), (4, .int (s3.1)), (3, .int (x5)), (6, .int (s3.1)), (0, .ref (0)), (1, .int (h)), (2, .int (what))]) (st2 := []) (M2 := s3.2) hC hqX11_quickest rfl ?_
        refine gw_pick [4, 5, 6, 2, 1, 0] (ls2 := [(0, .ref (0)), (1, .int (h)), (2, .int (what)), (3, .int (x5)), (4, .int (s3.1)), (5, .int (x5 + (1 : Int32)))]) rfl ?_
        exact ih x5 s3.1 (x5 + (1 : Int32)) (s3.2) hr
      ·
        have hr := g_if0 h4 hr
        refine gb_run 2 (pc2 := 67) (ls2 := [(6, .int (s3.1)), (0, .ref (0)), (1, .int (h)), (2, .int (what)), (3, .int (x3)), (4, .int (x4)), (5, .int (x5))]) (st2 := [.int (x4), .int (s3.1)]) (M2 := s3.2) hC hqX11_quickest rfl ?_
        refine gb_icmp_ge hqX11_quickest rfl (fun h5 => ?_) (fun h5 => ?_)
        ·
          have hr := g_if1 h5 hr
          refine gb_run 2 (pc2 := 27) (ls2 := [(5, .int (x5 + (1 : Int32))), (6, .int (s3.1)), (0, .ref (0)), (1, .int (h)), (2, .int (what)), (3, .int (x3)), (4, .int (x4))]) (st2 := []) (M2 := s3.2) hC hqX11_quickest rfl ?_
          refine gw_pick [2, 3, 4, 5, 6, 0] (ls2 := [(0, .ref (0)), (1, .int (h)), (2, .int (what)), (3, .int (x3)), (4, .int (x4)), (5, .int (x5 + (1 : Int32)))]) rfl ?_
          exact ih x3 x4 (x5 + (1 : Int32)) (s3.2) hr
        ·
          have hr := g_if0 h5 hr
          refine gb_run 6 (pc2 := 27) (ls2 := [(5, .int (x5 + (1 : Int32))), (4, .int (s3.1)), (3, .int (x5)), (6, .int (s3.1)), (0, .ref (0)), (1, .int (h)), (2, .int (what))]) (st2 := []) (M2 := s3.2) hC hqX11_quickest rfl ?_
          refine gw_pick [4, 5, 6, 2, 1, 0] (ls2 := [(0, .ref (0)), (1, .int (h)), (2, .int (what)), (3, .int (x5)), (4, .int (s3.1)), (5, .int (x5 + (1 : Int32)))]) rfl ?_
          exact ih x5 s3.1 (x5 + (1 : Int32)) (s3.2) hr
def FX_quickest (h : Int32) (what : Int32) (M : gM) : Option (Nat × Int32 × gM) :=
  (FX_needOne h (M 3 7) M).bind fun s1 => if s1.1 = 0 then ((FX_needIn what (0 : Int32) (1 : Int32) (s1.2)).bind fun s2 => if s2.1 = 0 then (FX_quickest_L27 h what 1000 (-1 : Int32) (-1 : Int32) (0 : Int32) (s2.2)) else some (s2.1, 0, s2.2)) else some (s1.1, 0, s1.2)
set_option maxRecDepth 20000 in
theorem c_FX_quickest {l : Launch} {C : gC} (hC : g_ctx l C) (h : Int32) (what : Int32)  (M : gM) (sz d : Nat) (hd : 8 ≤ d) (R : Nat × Int32 × gM) (hr : FX_quickest h what M = some R) : gPt l C qX11_quickest d [.ref (0), .int (h), .int (what)] M sz (qtI R) (xtI R) := by
  refine gPt.of (ls := [(0, .ref (0)), (1, .int (h)), (2, .int (what))]) (by decide +kernel) (Nat.le_of_ble_eq_true rfl) rfl ?_
  unfold FX_quickest at hr
  refine gb_run 5 (pc2 := 9) (ls2 := [(0, .ref (0)), (1, .int (h)), (2, .int (what))]) (st2 := [.int (M 3 7), .int (h), .ref (0)]) (M2 := M) hC hqX11_quickest rfl ?_
  obtain ⟨s1, es1, hr⟩ := g_bd hr
  refine gt_cV (z := qX11_needOne) (a := 0) (av := [.int (h), .int (M 3 7)]) (rest := []) (pl := 1042) (kc2 := 1) (ks2 := 6) hC hqX11_quickest rfl kX11_needOne sX11_needOne (by decide +kernel) (c_FX_needOne hC h (M 3 7)  M sz (d - 1) (by omega) s1 es1) (by omega) rfl rfl rfl (Nat.le_of_ble_eq_true rfl) (Nat.le_of_ble_eq_true rfl) rfl rfl rfl (Nat.le_of_ble_eq_true rfl) ⟨Nat.le_of_ble_eq_true rfl, Nat.le_of_ble_eq_true rfl⟩ (gt_xI hr) (gs_t fun sz3 q0 => ?_)
  have hr := g_if1 q0 hr
  refine gb_run 4 (pc2 := 16) (ls2 := [(0, .ref (0)), (1, .int (h)), (2, .int (what))]) (st2 := [.int (1), .int (0), .int (what), .ref (0)]) (M2 := s1.2) hC hqX11_quickest rfl ?_
  obtain ⟨s2, es2, hr⟩ := g_bd hr
  refine gt_cV (z := qX11_needIn) (a := 0) (av := [.int (what), .int (0), .int (1)]) (rest := []) (pl := 658) (kc2 := 2) (ks2 := 12) hC hqX11_quickest rfl kX11_needIn sX11_needIn (by decide +kernel) (c_FX_needIn hC what (0 : Int32) (1 : Int32)  (s1.2) sz3 (d - 1) (by omega) s2 es2) (by omega) rfl rfl rfl (Nat.le_of_ble_eq_true rfl) (Nat.le_of_ble_eq_true rfl) rfl rfl rfl (Nat.le_of_ble_eq_true rfl) ⟨Nat.le_of_ble_eq_true rfl, Nat.le_of_ble_eq_true rfl⟩ (gt_xI hr) (gs_t fun sz5 q0 => ?_)
  have hr := g_if1 q0 hr
  refine gb_run 6 (pc2 := 27) (ls2 := [(5, .int (0)), (4, .int (-1)), (3, .int (-1)), (0, .ref (0)), (1, .int (h)), (2, .int (what))]) (st2 := []) (M2 := s2.2) hC hqX11_quickest rfl ?_
  refine gw_pick [3, 4, 5, 2, 1, 0] (ls2 := [(0, .ref (0)), (1, .int (h)), (2, .int (what)), (3, .int (-1)), (4, .int (-1)), (5, .int (0))]) rfl ?_
  exact c_FX_quickest_L27 hC h what sz5 d (by omega) R 1000 (-1 : Int32) (-1 : Int32) (0 : Int32) (s2.2) hr
def FX_debtor_L14 (what : Int32) : Nat → Int32 → Int32 → Int32 → gM → Option (Nat × Int32 × gM)
  | 0, _, _, _, _ => none
  | k + 1, x2, x3, x4, M =>
  if (M 3 6) ≤ x4 then (if x2 = (-1 : Int32) then (some (0, -1, M)) else (if what = (0 : Int32) then (some (0, x2, M)) else (some (0, x3, M)))) else (if (r_at (M 51) 8 x4) ≤ x3 then (FX_debtor_L14 what k x2 x3 (x4 + (1 : Int32)) M) else (FX_debtor_L14 what k x4 (r_at (M 51) 8 x4) (x4 + (1 : Int32)) M))
set_option maxRecDepth 20000 in
theorem c_FX_debtor_L14 {l : Launch} {C : gC} (hC : g_ctx l C) (what : Int32) (sz d : Nat) (hd : 8 ≤ d) (R : Nat × Int32 × gM) : ∀ (k : Nat) (x2 : Int32) (x3 : Int32) (x4 : Int32) (M : gM), FX_debtor_L14 what k x2 x3 x4 M = some R → GW l C qX11_debtor d (gQt (qtI R)) (gNt (xtI R)) 1 6 14 [(0, .ref (0)), (1, .int (what)), (2, .int (x2)), (3, .int (x3)), (4, .int (x4))] [] (956, g_S0, M, sz) := by
  intro k
  induction k with
  | zero => intro x2 x3 x4 M hr; exact nomatch (show (none : Option (Nat × Int32 × gM)) = some R from hr)
  | succ k ih =>
    intro x2 x3 x4 M hr
    unfold FX_debtor_L14 at hr
    refine gb_run 4 (pc2 := 23) (ls2 := [(0, .ref (0)), (1, .int (what)), (2, .int (x2)), (3, .int (x3)), (4, .int (x4))]) (st2 := [.int (M 3 6), .int (x4)]) (M2 := M) hC hqX11_debtor rfl ?_
    refine gb_icmp_ge hqX11_debtor rfl (fun h1 => ?_) (fun h1 => ?_)
    ·
      have hr := g_if1 h1 hr
      refine gb_run 2 (pc2 := 63) (ls2 := [(0, .ref (0)), (1, .int (what)), (2, .int (x2)), (3, .int (x3)), (4, .int (x4))]) (st2 := [.int (-1), .int (x2)]) (M2 := M) hC hqX11_debtor rfl ?_
      refine gb_icmp_ne hqX11_debtor rfl (fun h2 => ?_) (fun h2 => ?_)
      ·
        have hr := g_if0 h2 hr
        refine gb_run 1 (pc2 := 69) (ls2 := [(0, .ref (0)), (1, .int (what)), (2, .int (x2)), (3, .int (x3)), (4, .int (x4))]) (st2 := [.int (what)]) (M2 := M) hC hqX11_debtor rfl ?_
        refine gb_if_ne hqX11_debtor rfl (fun h3 => ?_) (fun h3 => ?_)
        ·
          have hr := g_if0 h3 hr
          refine gb_run 1 (pc2 := 77) (ls2 := [(0, .ref (0)), (1, .int (what)), (2, .int (x2)), (3, .int (x3)), (4, .int (x4))]) (st2 := [.int (x3)]) (M2 := M) hC hqX11_debtor rfl ?_
          refine gb_iret hqX11_debtor rfl rfl (Nat.le_of_ble_eq_true rfl) (Nat.le_of_ble_eq_true rfl) ?_
          exact gl_tI hr
        ·
          have hr := g_if1 h3 hr
          refine gb_run 2 (pc2 := 77) (ls2 := [(0, .ref (0)), (1, .int (what)), (2, .int (x2)), (3, .int (x3)), (4, .int (x4))]) (st2 := [.int (x2)]) (M2 := M) hC hqX11_debtor rfl ?_
          refine gb_iret hqX11_debtor rfl rfl (Nat.le_of_ble_eq_true rfl) (Nat.le_of_ble_eq_true rfl) ?_
          exact gl_tI hr
      ·
        have hr := g_if1 h2 hr
        refine gb_run 1 (pc2 := 67) (ls2 := [(0, .ref (0)), (1, .int (what)), (2, .int (x2)), (3, .int (x3)), (4, .int (x4))]) (st2 := [.int (-1)]) (M2 := M) hC hqX11_debtor rfl ?_
        refine gb_iret hqX11_debtor rfl rfl (Nat.le_of_ble_eq_true rfl) (Nat.le_of_ble_eq_true rfl) ?_
        exact gl_tI hr
    ·
      have hr := g_if0 h1 hr
      refine gb_run 5 (pc2 := 38) (ls2 := [(0, .ref (0)), (1, .int (what)), (2, .int (x2)), (3, .int (x3)), (4, .int (x4))]) (st2 := [.int (x4), .ref (51)]) (M2 := M) hC hqX11_debtor rfl ?_
      refine gz_cS (z := qX11_at) (av := [.ref (51), .int (x4)]) (rest := []) (pl := 1062) hC hqX11_debtor rfl kX11_at (by decide +kernel) (c_at hC 51 8 _ x4 M sz (d - 1) (by omega) (Nat.le_of_ble_eq_true rfl) rfl (Nat.le_of_ble_eq_true rfl)) (by omega) ⟨rfl, rfl⟩ rfl rfl (Nat.le_of_ble_eq_true rfl) ⟨Nat.le_of_ble_eq_true rfl, Nat.le_of_ble_eq_true rfl⟩ (gs_Ip (x := r_at (M 51) 8 x4) ?_)
      refine gb_run 3 (pc2 := 46) (ls2 := [(5, .int (r_at (M 51) 8 x4)), (0, .ref (0)), (1, .int (what)), (2, .int (x2)), (3, .int (x3)), (4, .int (x4))]) (st2 := [.int (x3), .int (r_at (M 51) 8 x4)]) (M2 := M) hC hqX11_debtor rfl ?_
      refine gb_icmp_le hqX11_debtor rfl (fun h4 => ?_) (fun h4 => ?_)
      ·
        have hr := g_if1 h4 hr
        refine gb_run 2 (pc2 := 14) (ls2 := [(4, .int (x4 + (1 : Int32))), (5, .int (r_at (M 51) 8 x4)), (0, .ref (0)), (1, .int (what)), (2, .int (x2)), (3, .int (x3))]) (st2 := []) (M2 := M) hC hqX11_debtor rfl ?_
        refine gw_pick [2, 3, 4, 5, 0] (ls2 := [(0, .ref (0)), (1, .int (what)), (2, .int (x2)), (3, .int (x3)), (4, .int (x4 + (1 : Int32)))]) rfl ?_
        exact ih x2 x3 (x4 + (1 : Int32)) M hr
      ·
        have hr := g_if0 h4 hr
        refine gb_run 6 (pc2 := 14) (ls2 := [(4, .int (x4 + (1 : Int32))), (3, .int (r_at (M 51) 8 x4)), (2, .int (x4)), (5, .int (r_at (M 51) 8 x4)), (0, .ref (0)), (1, .int (what))]) (st2 := []) (M2 := M) hC hqX11_debtor rfl ?_
        refine gw_pick [4, 5, 2, 1, 0] (ls2 := [(0, .ref (0)), (1, .int (what)), (2, .int (x4)), (3, .int (r_at (M 51) 8 x4)), (4, .int (x4 + (1 : Int32)))]) rfl ?_
        exact ih x4 (r_at (M 51) 8 x4) (x4 + (1 : Int32)) M hr
def FX_debtor (what : Int32) (M : gM) : Option (Nat × Int32 × gM) :=
  (FX_needIn what (0 : Int32) (1 : Int32) M).bind fun s1 => if s1.1 = 0 then (FX_debtor_L14 what 1000 (-1 : Int32) (0 : Int32) (0 : Int32) (s1.2)) else some (s1.1, 0, s1.2)
set_option maxRecDepth 20000 in
theorem c_FX_debtor {l : Launch} {C : gC} (hC : g_ctx l C) (what : Int32)  (M : gM) (sz d : Nat) (hd : 8 ≤ d) (R : Nat × Int32 × gM) (hr : FX_debtor what M = some R) : gPt l C qX11_debtor d [.ref (0), .int (what)] M sz (qtI R) (xtI R) := by
  refine gPt.of (ls := [(0, .ref (0)), (1, .int (what))]) (by decide +kernel) (Nat.le_of_ble_eq_true rfl) rfl ?_
  unfold FX_debtor at hr
  refine gb_run 4 (pc2 := 4) (ls2 := [(0, .ref (0)), (1, .int (what))]) (st2 := [.int (1), .int (0), .int (what), .ref (0)]) (M2 := M) hC hqX11_debtor rfl ?_
  obtain ⟨s1, es1, hr⟩ := g_bd hr
  refine gt_cV (z := qX11_needIn) (a := 0) (av := [.int (what), .int (0), .int (1)]) (rest := []) (pl := 658) (kc2 := 1) (ks2 := 6) hC hqX11_debtor rfl kX11_needIn sX11_needIn (by decide +kernel) (c_FX_needIn hC what (0 : Int32) (1 : Int32)  M sz (d - 1) (by omega) s1 es1) (by omega) rfl rfl rfl (Nat.le_of_ble_eq_true rfl) (Nat.le_of_ble_eq_true rfl) rfl rfl rfl (Nat.le_of_ble_eq_true rfl) ⟨Nat.le_of_ble_eq_true rfl, Nat.le_of_ble_eq_true rfl⟩ (gt_xI hr) (gs_t fun sz3 q0 => ?_)
  have hr := g_if1 q0 hr
  refine gb_run 6 (pc2 := 14) (ls2 := [(4, .int (0)), (3, .int (0)), (2, .int (-1)), (0, .ref (0)), (1, .int (what))]) (st2 := []) (M2 := s1.2) hC hqX11_debtor rfl ?_
  refine gw_pick [3, 4, 2, 1, 0] (ls2 := [(0, .ref (0)), (1, .int (what)), (2, .int (-1)), (3, .int (0)), (4, .int (0))]) rfl ?_
  exact c_FX_debtor_L14 hC what sz3 d (by omega) R 1000 (-1 : Int32) (0 : Int32) (0 : Int32) (s1.2) hr
def FX_idle_L4 (M : gM) : Nat → Int32 → Int32 → Option (Int32)
  | 0, _, _ => none
  | k + 1, x1, x2 =>
  if (M 3 6) ≤ x2 then (some x1) else ((FZ_hoopsOf 48 x2 M).bind fun s2 => if s2 = (0 : Int32) then (FX_idle_L4 M k (x1 ||| ((1 : Int32) <<< (x2 &&& 31))) (x2 + (1 : Int32))) else (FX_idle_L4 M k x1 (x2 + (1 : Int32))))
set_option maxRecDepth 20000 in
theorem c_FX_idle_L4 {l : Launch} {C : gC} (hC : g_ctx l C) (M : gM) (sz d : Nat) (hd : 2 ≤ d) (R : Int32) : ∀ (k : Nat) (x1 : Int32) (x2 : Int32), FX_idle_L4 M k x1 x2 = some R → GW l C qX11_idle d (gQg 956 g_S0 (qIp M R) sz) gN 0 0 4 [(0, .ref (0)), (1, .int (x1)), (2, .int (x2))] [] (956, g_S0, M, sz) := by
  intro k
  induction k with
  | zero => intro x1 x2 hr; exact nomatch (show (none : Option (Int32)) = some R from hr)
  | succ k ih =>
    intro x1 x2 hr
    unfold FX_idle_L4 at hr
    refine gb_run 4 (pc2 := 12) (ls2 := [(0, .ref (0)), (1, .int (x1)), (2, .int (x2))]) (st2 := [.int (M 3 6), .int (x2)]) (M2 := M) hC hqX11_idle rfl ?_
    refine gb_icmp_ge hqX11_idle rfl (fun h1 => ?_) (fun h1 => ?_)
    ·
      have hr := g_if1 h1 hr
      refine gb_run 1 (pc2 := 42) (ls2 := [(0, .ref (0)), (1, .int (x1)), (2, .int (x2))]) (st2 := [.int (x1)]) (M2 := M) hC hqX11_idle rfl ?_
      refine gb_iret hqX11_idle rfl rfl (Nat.le_of_ble_eq_true rfl) (Nat.le_of_ble_eq_true rfl) ?_
      exact gl_Ip hr
    ·
      have hr := g_if0 h1 hr
      refine gb_run 4 (pc2 := 23) (ls2 := [(0, .ref (0)), (1, .int (x1)), (2, .int (x2))]) (st2 := [.int (x2), .ref (48)]) (M2 := M) hC hqX11_idle rfl ?_
      obtain ⟨s2, es2, hr⟩ := g_bd hr
      refine gz_cV (z := qX8_hoopsOf) (a := 48) (av := [.int (x2)]) (rest := []) (pl := 621) hC hqX11_idle rfl kX8_hoopsOf sX8_hoopsOf (by decide +kernel) (c_FZ_hoopsOf hC 48 x2 (by decide +kernel) M sz (d - 1) (by omega) s2 es2) (by omega) ⟨rfl, rfl⟩ rfl (Nat.le_of_ble_eq_true rfl) (Nat.le_of_ble_eq_true rfl) rfl rfl rfl (Nat.le_of_ble_eq_true rfl) ⟨Nat.le_of_ble_eq_true rfl, Nat.le_of_ble_eq_true rfl⟩ (gs_Ip ?_)
      refine gb_if_ne hqX11_idle rfl (fun h3 => ?_) (fun h3 => ?_)
      ·
        have hr := g_if0 h3 hr
        refine gb_run 2 (pc2 := 4) (ls2 := [(2, .int (x2 + (1 : Int32))), (0, .ref (0)), (1, .int (x1))]) (st2 := []) (M2 := M) hC hqX11_idle rfl ?_
        refine gw_pick [1, 2, 0] (ls2 := [(0, .ref (0)), (1, .int (x1)), (2, .int (x2 + (1 : Int32)))]) rfl ?_
        exact ih x1 (x2 + (1 : Int32)) hr
      ·
        have hr := g_if1 h3 hr
        refine gb_run 8 (pc2 := 4) (ls2 := [(2, .int (x2 + (1 : Int32))), (1, .int (x1 ||| ((1 : Int32) <<< (x2 &&& 31)))), (0, .ref (0))]) (st2 := []) (M2 := M) hC hqX11_idle rfl ?_
        refine gw_pick [2, 1, 0] (ls2 := [(0, .ref (0)), (1, .int (x1 ||| ((1 : Int32) <<< (x2 &&& 31)))), (2, .int (x2 + (1 : Int32)))]) rfl ?_
        exact ih (x1 ||| ((1 : Int32) <<< (x2 &&& 31))) (x2 + (1 : Int32)) hr
def FX_idle  (M : gM) : Option (Int32) :=
  FX_idle_L4 M 1000 (0 : Int32) (0 : Int32)
set_option maxRecDepth 20000 in
theorem c_FX_idle {l : Launch} {C : gC} (hC : g_ctx l C)   (M : gM) (sz d : Nat) (hd : 2 ≤ d) (R : Int32) (hr : FX_idle M = some R) : gPg l C qX11_idle d [.ref (0)] 956 g_S0 M sz (qIp M R) := by
  refine gPg.of (ls := [(0, .ref (0))]) (by decide +kernel) (Nat.le_of_ble_eq_true rfl) rfl ?_
  unfold FX_idle at hr
  refine gb_run 4 (pc2 := 4) (ls2 := [(2, .int (0)), (1, .int (0)), (0, .ref (0))]) (st2 := []) (M2 := M) hC hqX11_idle rfl ?_
  refine gw_pick [2, 1, 0] (ls2 := [(0, .ref (0)), (1, .int (0)), (2, .int (0))]) rfl ?_
  exact c_FX_idle_L4 hC M sz d (by omega) R 1000 (0 : Int32) (0 : Int32) hr
def FX_bowls_L40 (c : Int32) (n : Int32) : Nat → Int32 → Int32 → gM → Option (Nat × Int32 × gM)
  | 0, _, _, _ => none
  | k + 1, x3, x4, M =>
  if n ≤ x4 then (some (0, x3, M)) else ((FG_goOn (0 : Int32) M).bind fun s2 => if s2.1 = (0 : Int32) then (some (0, x3, s2.2)) else (if (r_at (M 37) 8 (M 33 5)) = c then (FX_bowls_L40 c n k (x3 + (1 : Int32)) (x4 + (1 : Int32)) (s2.2)) else (FX_bowls_L40 c n k x3 (x4 + (1 : Int32)) (s2.2))))
set_option maxRecDepth 20000 in
theorem c_FX_bowls_L40 {l : Launch} {C : gC} (hC : g_ctx l C) (c : Int32) (n : Int32) (sz d : Nat) (hd : 8 ≤ d) (R : Nat × Int32 × gM) : ∀ (k : Nat) (x3 : Int32) (x4 : Int32) (M : gM), FX_bowls_L40 c n k x3 x4 M = some R → GW l C qX11_bowls d (gQt (qtI R)) (gNt (xtI R)) 2 12 40 [(0, .ref (0)), (1, .int (c)), (2, .int (n)), (3, .int (x3)), (4, .int (x4))] [] (956, g_S0, M, sz) := by
  intro k
  induction k with
  | zero => intro x3 x4 M hr; exact nomatch (show (none : Option (Nat × Int32 × gM)) = some R from hr)
  | succ k ih =>
    intro x3 x4 M hr
    unfold FX_bowls_L40 at hr
    refine gb_run 2 (pc2 := 43) (ls2 := [(0, .ref (0)), (1, .int (c)), (2, .int (n)), (3, .int (x3)), (4, .int (x4))]) (st2 := [.int (n), .int (x4)]) (M2 := M) hC hqX11_bowls rfl ?_
    refine gb_icmp_ge hqX11_bowls rfl (fun h1 => ?_) (fun h1 => ?_)
    ·
      have hr := g_if1 h1 hr
      refine gb_run 1 (pc2 := 101) (ls2 := [(0, .ref (0)), (1, .int (c)), (2, .int (n)), (3, .int (x3)), (4, .int (x4))]) (st2 := [.int (x3)]) (M2 := M) hC hqX11_bowls rfl ?_
      refine gb_iret hqX11_bowls rfl rfl (Nat.le_of_ble_eq_true rfl) (Nat.le_of_ble_eq_true rfl) ?_
      exact gl_tI hr
    ·
      have hr := g_if0 h1 hr
      refine gb_run 8 (pc2 := 66) (ls2 := [(0, .ref (0)), (1, .int (c)), (2, .int (n)), (3, .int (x3)), (4, .int (x4))]) (st2 := [.int (M 33 5), .ref (37)]) (M2 := M) hC hqX11_bowls rfl ?_
      refine gz_cS (z := qX11_at) (av := [.ref (37), .int (M 33 5)]) (rest := []) (pl := 1062) hC hqX11_bowls rfl kX11_at (by decide +kernel) (c_at hC 37 8 _ (M 33 5) M sz (d - 1) (by omega) (Nat.le_of_ble_eq_true rfl) rfl (Nat.le_of_ble_eq_true rfl)) (by omega) ⟨rfl, rfl⟩ rfl rfl (Nat.le_of_ble_eq_true rfl) ⟨Nat.le_of_ble_eq_true rfl, Nat.le_of_ble_eq_true rfl⟩ (gs_Ip (x := r_at (M 37) 8 (M 33 5)) ?_)
      refine gb_run 4 (pc2 := 76) (ls2 := [(5, .int (r_at (M 37) 8 (M 33 5))), (0, .ref (0)), (1, .int (c)), (2, .int (n)), (3, .int (x3)), (4, .int (x4))]) (st2 := [.int (0), .ref (32)]) (M2 := M) hC hqX11_bowls rfl ?_
      obtain ⟨s2, es2, hr⟩ := g_bd hr
      refine gz_cV (z := qX1_goOn) (a := 32) (av := [.int (0)]) (rest := []) (pl := 573) hC hqX11_bowls rfl kX1_goOn sX1_goOn (by decide +kernel) (c_FG_goOn hC (0 : Int32)  M sz (d - 1) (by omega) s2 es2) (by omega) ⟨rfl, rfl⟩ rfl (Nat.le_of_ble_eq_true rfl) (Nat.le_of_ble_eq_true rfl) rfl rfl rfl (Nat.le_of_ble_eq_true rfl) ⟨Nat.le_of_ble_eq_true rfl, Nat.le_of_ble_eq_true rfl⟩ (gs_Z fun z3 => ?_)
      refine gb_if_ne hqX11_bowls rfl (fun h4 => ?_) (fun h4 => ?_)
      ·
        have hr := g_if0 h4 hr
        refine gb_run 2 (pc2 := 88) (ls2 := [(5, .int (r_at (M 37) 8 (M 33 5))), (0, .ref (0)), (1, .int (c)), (2, .int (n)), (3, .int (x3)), (4, .int (x4))]) (st2 := [.int (c), .int (r_at (M 37) 8 (M 33 5))]) (M2 := s2.2) hC hqX11_bowls rfl ?_
        refine gb_icmp_ne hqX11_bowls rfl (fun h5 => ?_) (fun h5 => ?_)
        ·
          have hr := g_if0 h5 hr
          refine gb_run 2 (pc2 := 40) (ls2 := [(4, .int (x4 + (1 : Int32))), (5, .int (r_at (M 37) 8 (M 33 5))), (0, .ref (0)), (1, .int (c)), (2, .int (n)), (3, .int (x3))]) (st2 := []) (M2 := s2.2) hC hqX11_bowls rfl ?_
          refine gw_pick [2, 3, 4, 5, 0] (ls2 := [(0, .ref (0)), (1, .int (c)), (2, .int (n)), (3, .int (x3)), (4, .int (x4 + (1 : Int32)))]) rfl ?_
          exact ih x3 (x4 + (1 : Int32)) (s2.2) hr
        ·
          have hr := g_if1 h5 hr
          refine gb_run 3 (pc2 := 40) (ls2 := [(4, .int (x4 + (1 : Int32))), (3, .int (x3 + (1 : Int32))), (5, .int (r_at (M 37) 8 (M 33 5))), (0, .ref (0)), (1, .int (c)), (2, .int (n))]) (st2 := []) (M2 := s2.2) hC hqX11_bowls rfl ?_
          refine gw_pick [3, 4, 5, 1, 0] (ls2 := [(0, .ref (0)), (1, .int (c)), (2, .int (n)), (3, .int (x3 + (1 : Int32))), (4, .int (x4 + (1 : Int32)))]) rfl ?_
          exact ih (x3 + (1 : Int32)) (x4 + (1 : Int32)) (s2.2) hr
      ·
        have hr := g_if1 h4 hr
        refine gb_run 2 (pc2 := 101) (ls2 := [(5, .int (r_at (M 37) 8 (M 33 5))), (0, .ref (0)), (1, .int (c)), (2, .int (n)), (3, .int (x3)), (4, .int (x4))]) (st2 := [.int (x3)]) (M2 := s2.2) hC hqX11_bowls rfl ?_
        refine gb_iret hqX11_bowls rfl rfl (Nat.le_of_ble_eq_true rfl) (Nat.le_of_ble_eq_true rfl) ?_
        exact gl_tI hr
def FX_bowls (c : Int32) (n : Int32) (M : gM) : Option (Nat × Int32 × gM) :=
  (FX_needOne c (M 3 6) M).bind fun s1 => if s1.1 = 0 then ((FX_needIn n (0 : Int32) (200 : Int32) (s1.2)).bind fun s2 => if s2.1 = 0 then ((FG_start (s2.2)).bind fun s3 => FX_bowls_L40 c n 1000 (0 : Int32) (0 : Int32) s3) else some (s2.1, 0, s2.2)) else some (s1.1, 0, s1.2)
set_option maxRecDepth 20000 in
theorem c_FX_bowls {l : Launch} {C : gC} (hC : g_ctx l C) (c : Int32) (n : Int32)  (M : gM) (sz d : Nat) (hd : 8 ≤ d) (R : Nat × Int32 × gM) (hr : FX_bowls c n M = some R) : gPt l C qX11_bowls d [.ref (0), .int (c), .int (n)] M sz (qtI R) (xtI R) := by
  refine gPt.of (ls := [(0, .ref (0)), (1, .int (c)), (2, .int (n))]) (by decide +kernel) (Nat.le_of_ble_eq_true rfl) rfl ?_
  unfold FX_bowls at hr
  refine gb_run 5 (pc2 := 9) (ls2 := [(0, .ref (0)), (1, .int (c)), (2, .int (n))]) (st2 := [.int (M 3 6), .int (c), .ref (0)]) (M2 := M) hC hqX11_bowls rfl ?_
  obtain ⟨s1, es1, hr⟩ := g_bd hr
  refine gt_cV (z := qX11_needOne) (a := 0) (av := [.int (c), .int (M 3 6)]) (rest := []) (pl := 1042) (kc2 := 1) (ks2 := 6) hC hqX11_bowls rfl kX11_needOne sX11_needOne (by decide +kernel) (c_FX_needOne hC c (M 3 6)  M sz (d - 1) (by omega) s1 es1) (by omega) rfl rfl rfl (Nat.le_of_ble_eq_true rfl) (Nat.le_of_ble_eq_true rfl) rfl rfl rfl (Nat.le_of_ble_eq_true rfl) ⟨Nat.le_of_ble_eq_true rfl, Nat.le_of_ble_eq_true rfl⟩ (gt_xI hr) (gs_t fun sz3 q0 => ?_)
  have hr := g_if1 q0 hr
  refine gb_run 4 (pc2 := 18) (ls2 := [(0, .ref (0)), (1, .int (c)), (2, .int (n))]) (st2 := [.int (200), .int (0), .int (n), .ref (0)]) (M2 := s1.2) hC hqX11_bowls rfl ?_
  obtain ⟨s2, es2, hr⟩ := g_bd hr
  refine gt_cV (z := qX11_needIn) (a := 0) (av := [.int (n), .int (0), .int (200)]) (rest := []) (pl := 658) (kc2 := 2) (ks2 := 12) hC hqX11_bowls rfl kX11_needIn sX11_needIn (by decide +kernel) (c_FX_needIn hC n (0 : Int32) (200 : Int32)  (s1.2) sz3 (d - 1) (by omega) s2 es2) (by omega) rfl rfl rfl (Nat.le_of_ble_eq_true rfl) (Nat.le_of_ble_eq_true rfl) rfl rfl rfl (Nat.le_of_ble_eq_true rfl) ⟨Nat.le_of_ble_eq_true rfl, Nat.le_of_ble_eq_true rfl⟩ (gt_xI hr) (gs_t fun sz5 q0 => ?_)
  have hr := g_if1 q0 hr
  refine gb_run 5 (pc2 := 32) (ls2 := [(0, .ref (0)), (1, .int (c)), (2, .int (n))]) (st2 := [.ref (48), .ref (32)]) (M2 := s2.2) hC hqX11_bowls rfl ?_
  obtain ⟨s3, es3, hr⟩ := g_bd hr
  refine gz_cV (z := qX1_start) (a := 32) (av := [.ref (48)]) (rest := []) (pl := 568) hC hqX11_bowls rfl kX1_start sX1_start (by decide +kernel) (c_FG_start hC   (s2.2) sz5 (d - 1) (by omega) s3 es3) (by omega) ⟨rfl, rfl⟩ rfl (Nat.le_of_ble_eq_true rfl) (Nat.le_of_ble_eq_true rfl) rfl rfl rfl (Nat.le_of_ble_eq_true rfl) ⟨Nat.le_of_ble_eq_true rfl, Nat.le_of_ble_eq_true rfl⟩ (gs_V ?_)
  refine gb_run 4 (pc2 := 40) (ls2 := [(4, .int (0)), (3, .int (0)), (0, .ref (0)), (1, .int (c)), (2, .int (n))]) (st2 := []) (M2 := s3) hC hqX11_bowls rfl ?_
  refine gw_pick [2, 3, 4, 1, 0] (ls2 := [(0, .ref (0)), (1, .int (c)), (2, .int (n)), (3, .int (0)), (4, .int (0))]) rfl ?_
  exact c_FX_bowls_L40 hC c n sz5 d (by omega) R 1000 (0 : Int32) (0 : Int32) s3 hr
def FX_load_L16 (c : Int32) : Nat → Int32 → Int32 → gM → Option (Nat × Int32 × gM)
  | 0, _, _, _ => none
  | k + 1, x2, x3, M =>
  if (M 3 7) ≤ x3 then (some (0, x2, M)) else (if (r_at (M 52) 8 x3) = c then (FX_load_L16 c k (x2 + (r_at (M 8) 8 x3)) (x3 + (1 : Int32)) M) else (FX_load_L16 c k x2 (x3 + (1 : Int32)) M))
set_option maxRecDepth 20000 in
theorem c_FX_load_L16 {l : Launch} {C : gC} (hC : g_ctx l C) (c : Int32) (sz d : Nat) (hd : 8 ≤ d) (R : Nat × Int32 × gM) : ∀ (k : Nat) (x2 : Int32) (x3 : Int32) (M : gM), FX_load_L16 c k x2 x3 M = some R → GW l C qX11_load d (gQt (qtI R)) (gNt (xtI R)) 1 6 16 [(0, .ref (0)), (1, .int (c)), (2, .int (x2)), (3, .int (x3))] [] (956, g_S0, M, sz) := by
  intro k
  induction k with
  | zero => intro x2 x3 M hr; exact nomatch (show (none : Option (Nat × Int32 × gM)) = some R from hr)
  | succ k ih =>
    intro x2 x3 M hr
    unfold FX_load_L16 at hr
    refine gb_run 4 (pc2 := 24) (ls2 := [(0, .ref (0)), (1, .int (c)), (2, .int (x2)), (3, .int (x3))]) (st2 := [.int (M 3 7), .int (x3)]) (M2 := M) hC hqX11_load rfl ?_
    refine gb_icmp_ge hqX11_load rfl (fun h1 => ?_) (fun h1 => ?_)
    ·
      have hr := g_if1 h1 hr
      refine gb_run 1 (pc2 := 66) (ls2 := [(0, .ref (0)), (1, .int (c)), (2, .int (x2)), (3, .int (x3))]) (st2 := [.int (x2)]) (M2 := M) hC hqX11_load rfl ?_
      refine gb_iret hqX11_load rfl rfl (Nat.le_of_ble_eq_true rfl) (Nat.le_of_ble_eq_true rfl) ?_
      exact gl_tI hr
    ·
      have hr := g_if0 h1 hr
      refine gb_run 5 (pc2 := 38) (ls2 := [(0, .ref (0)), (1, .int (c)), (2, .int (x2)), (3, .int (x3))]) (st2 := [.int (x3), .ref (52)]) (M2 := M) hC hqX11_load rfl ?_
      refine gz_cS (z := qX11_at) (av := [.ref (52), .int (x3)]) (rest := []) (pl := 1062) hC hqX11_load rfl kX11_at (by decide +kernel) (c_at hC 52 8 _ x3 M sz (d - 1) (by omega) (Nat.le_of_ble_eq_true rfl) rfl (Nat.le_of_ble_eq_true rfl)) (by omega) ⟨rfl, rfl⟩ rfl rfl (Nat.le_of_ble_eq_true rfl) ⟨Nat.le_of_ble_eq_true rfl, Nat.le_of_ble_eq_true rfl⟩ (gs_Ip (x := r_at (M 52) 8 x3) ?_)
      refine gb_run 1 (pc2 := 42) (ls2 := [(0, .ref (0)), (1, .int (c)), (2, .int (x2)), (3, .int (x3))]) (st2 := [.int (c), .int (r_at (M 52) 8 x3)]) (M2 := M) hC hqX11_load rfl ?_
      refine gb_icmp_ne hqX11_load rfl (fun h2 => ?_) (fun h2 => ?_)
      ·
        have hr := g_if0 h2 hr
        refine gb_run 2 (pc2 := 16) (ls2 := [(3, .int (x3 + (1 : Int32))), (0, .ref (0)), (1, .int (c)), (2, .int (x2))]) (st2 := []) (M2 := M) hC hqX11_load rfl ?_
        refine gw_pick [1, 2, 3, 0] (ls2 := [(0, .ref (0)), (1, .int (c)), (2, .int (x2)), (3, .int (x3 + (1 : Int32)))]) rfl ?_
        exact ih x2 (x3 + (1 : Int32)) M hr
      ·
        have hr := g_if1 h2 hr
        refine gb_run 5 (pc2 := 54) (ls2 := [(0, .ref (0)), (1, .int (c)), (2, .int (x2)), (3, .int (x3))]) (st2 := [.int (x3), .ref (8), .int (x2)]) (M2 := M) hC hqX11_load rfl ?_
        refine gz_cS (z := qX11_at) (av := [.ref (8), .int (x3)]) (rest := [.int (x2)]) (pl := 1062) hC hqX11_load rfl kX11_at (by decide +kernel) (c_at hC 8 8 _ x3 M sz (d - 1) (by omega) (Nat.le_of_ble_eq_true rfl) rfl (Nat.le_of_ble_eq_true rfl)) (by omega) ⟨rfl, rfl⟩ rfl rfl (Nat.le_of_ble_eq_true rfl) ⟨Nat.le_of_ble_eq_true rfl, Nat.le_of_ble_eq_true rfl⟩ (gs_Ip (x := r_at (M 8) 8 x3) ?_)
        refine gb_run 4 (pc2 := 16) (ls2 := [(3, .int (x3 + (1 : Int32))), (2, .int (x2 + (r_at (M 8) 8 x3))), (0, .ref (0)), (1, .int (c))]) (st2 := []) (M2 := M) hC hqX11_load rfl ?_
        refine gw_pick [2, 3, 1, 0] (ls2 := [(0, .ref (0)), (1, .int (c)), (2, .int (x2 + (r_at (M 8) 8 x3))), (3, .int (x3 + (1 : Int32)))]) rfl ?_
        exact ih (x2 + (r_at (M 8) 8 x3)) (x3 + (1 : Int32)) M hr
def FX_load (c : Int32) (M : gM) : Option (Nat × Int32 × gM) :=
  (FX_needOne c (M 3 6) M).bind fun s1 => if s1.1 = 0 then (FX_load_L16 c 1000 (0 : Int32) (0 : Int32) (s1.2)) else some (s1.1, 0, s1.2)
set_option maxRecDepth 20000 in
theorem c_FX_load {l : Launch} {C : gC} (hC : g_ctx l C) (c : Int32)  (M : gM) (sz d : Nat) (hd : 8 ≤ d) (R : Nat × Int32 × gM) (hr : FX_load c M = some R) : gPt l C qX11_load d [.ref (0), .int (c)] M sz (qtI R) (xtI R) := by
  refine gPt.of (ls := [(0, .ref (0)), (1, .int (c))]) (by decide +kernel) (Nat.le_of_ble_eq_true rfl) rfl ?_
  unfold FX_load at hr
  refine gb_run 5 (pc2 := 9) (ls2 := [(0, .ref (0)), (1, .int (c))]) (st2 := [.int (M 3 6), .int (c), .ref (0)]) (M2 := M) hC hqX11_load rfl ?_
  obtain ⟨s1, es1, hr⟩ := g_bd hr
  refine gt_cV (z := qX11_needOne) (a := 0) (av := [.int (c), .int (M 3 6)]) (rest := []) (pl := 1042) (kc2 := 1) (ks2 := 6) hC hqX11_load rfl kX11_needOne sX11_needOne (by decide +kernel) (c_FX_needOne hC c (M 3 6)  M sz (d - 1) (by omega) s1 es1) (by omega) rfl rfl rfl (Nat.le_of_ble_eq_true rfl) (Nat.le_of_ble_eq_true rfl) rfl rfl rfl (Nat.le_of_ble_eq_true rfl) ⟨Nat.le_of_ble_eq_true rfl, Nat.le_of_ble_eq_true rfl⟩ (gt_xI hr) (gs_t fun sz3 q0 => ?_)
  have hr := g_if1 q0 hr
  refine gb_run 4 (pc2 := 16) (ls2 := [(3, .int (0)), (2, .int (0)), (0, .ref (0)), (1, .int (c))]) (st2 := []) (M2 := s1.2) hC hqX11_load rfl ?_
  refine gw_pick [2, 3, 1, 0] (ls2 := [(0, .ref (0)), (1, .int (c)), (2, .int (0)), (3, .int (0))]) rfl ?_
  exact c_FX_load_L16 hC c sz3 d (by omega) R 1000 (0 : Int32) (0 : Int32) (s1.2) hr
def FX_slowest_J71 (what : Int32) (c14 : Int32 → Int32 → Int32 → gM → Option (Nat × Int32 × gM)) (x2 : Int32) (x3 : Int32) (x4 : Int32) (y0 : Int32) (M : gM) : Option (Nat × Int32 × gM) :=
  if y0 ≤ x3 then (c14 x2 x3 (x4 + (1 : Int32)) M) else (c14 x4 y0 (x4 + (1 : Int32)) M)
set_option maxRecDepth 20000 in
theorem c_FX_slowest_J71 {l : Launch} {C : gC} (hC : g_ctx l C) (what : Int32) (sz d : Nat) (hd : 8 ≤ d) (R : Nat × Int32 × gM) (c14 : Int32 → Int32 → Int32 → gM → Option (Nat × Int32 × gM)) (hc14 : ∀ (x2 : Int32) (x3 : Int32) (x4 : Int32) (M : gM), c14 x2 x3 x4 M = some R → GW l C qX11_slowest d (gQt (qtI R)) (gNt (xtI R)) 1 6 14 [(0, .ref (0)), (1, .int (what)), (2, .int (x2)), (3, .int (x3)), (4, .int (x4))] [] (956, g_S0, M, sz)) (x2 : Int32) (x3 : Int32) (x4 : Int32) (y0 : Int32) (M : gM) (hr : FX_slowest_J71 what c14 x2 x3 x4 y0 M = some R) : GW l C qX11_slowest d (gQt (qtI R)) (gNt (xtI R)) 1 6 71 [(0, .ref (0)), (1, .int (what)), (2, .int (x2)), (3, .int (x3)), (4, .int (x4))] [.int (y0)] (956, g_S0, M, sz) := by
  unfold FX_slowest_J71 at hr
  refine gb_run 3 (pc2 := 76) (ls2 := [(6, .int (y0)), (0, .ref (0)), (1, .int (what)), (2, .int (x2)), (3, .int (x3)), (4, .int (x4))]) (st2 := [.int (x3), .int (y0)]) (M2 := M) hC hqX11_slowest rfl ?_
  refine gb_icmp_le hqX11_slowest rfl (fun h1 => ?_) (fun h1 => ?_)
  ·
    have hr := g_if1 h1 hr
    refine gb_run 2 (pc2 := 14) (ls2 := [(4, .int (x4 + (1 : Int32))), (6, .int (y0)), (0, .ref (0)), (1, .int (what)), (2, .int (x2)), (3, .int (x3))]) (st2 := []) (M2 := M) hC hqX11_slowest rfl ?_
    refine gw_pick [2, 3, 4, 5, 0] (ls2 := [(0, .ref (0)), (1, .int (what)), (2, .int (x2)), (3, .int (x3)), (4, .int (x4 + (1 : Int32)))]) rfl ?_
    exact hc14 x2 x3 (x4 + (1 : Int32)) M hr
  ·
    have hr := g_if0 h1 hr
    refine gb_run 6 (pc2 := 14) (ls2 := [(4, .int (x4 + (1 : Int32))), (3, .int (y0)), (2, .int (x4)), (6, .int (y0)), (0, .ref (0)), (1, .int (what))]) (st2 := []) (M2 := M) hC hqX11_slowest rfl ?_
    refine gw_pick [4, 5, 2, 1, 0] (ls2 := [(0, .ref (0)), (1, .int (what)), (2, .int (x4)), (3, .int (y0)), (4, .int (x4 + (1 : Int32)))]) rfl ?_
    exact hc14 x4 y0 (x4 + (1 : Int32)) M hr
def FX_slowest_L14 (what : Int32) : Nat → Int32 → Int32 → Int32 → gM → Option (Nat × Int32 × gM)
  | 0, _, _, _, _ => none
  | k + 1, x2, x3, x4, M =>
  if (M 3 7) ≤ x4 then (if what = (0 : Int32) then (some (0, x2, M)) else (some (0, x3, M))) else (if (r_at (M 52) 8 x4) = (-1 : Int32) then (FX_slowest_J71 what (FX_slowest_L14 what k) x2 x3 x4 (-1 : Int32) M) else ((FB_longOf 48 x4 (r_at (M 52) 8 x4) M).bind fun s4 => FX_slowest_J71 what (FX_slowest_L14 what k) x2 x3 x4 s4.1 (s4.2)))
set_option maxRecDepth 20000 in
theorem c_FX_slowest_L14 {l : Launch} {C : gC} (hC : g_ctx l C) (what : Int32) (sz d : Nat) (hd : 8 ≤ d) (R : Nat × Int32 × gM) : ∀ (k : Nat) (x2 : Int32) (x3 : Int32) (x4 : Int32) (M : gM), FX_slowest_L14 what k x2 x3 x4 M = some R → GW l C qX11_slowest d (gQt (qtI R)) (gNt (xtI R)) 1 6 14 [(0, .ref (0)), (1, .int (what)), (2, .int (x2)), (3, .int (x3)), (4, .int (x4))] [] (956, g_S0, M, sz) := by
  intro k
  induction k with
  | zero => intro x2 x3 x4 M hr; exact nomatch (show (none : Option (Nat × Int32 × gM)) = some R from hr)
  | succ k ih =>
    intro x2 x3 x4 M hr
    unfold FX_slowest_L14 at hr
    refine gb_run 4 (pc2 := 23) (ls2 := [(0, .ref (0)), (1, .int (what)), (2, .int (x2)), (3, .int (x3)), (4, .int (x4))]) (st2 := [.int (M 3 7), .int (x4)]) (M2 := M) hC hqX11_slowest rfl ?_
    refine gb_icmp_ge hqX11_slowest rfl (fun h1 => ?_) (fun h1 => ?_)
    ·
      have hr := g_if1 h1 hr
      refine gb_run 1 (pc2 := 92) (ls2 := [(0, .ref (0)), (1, .int (what)), (2, .int (x2)), (3, .int (x3)), (4, .int (x4))]) (st2 := [.int (what)]) (M2 := M) hC hqX11_slowest rfl ?_
      refine gb_if_ne hqX11_slowest rfl (fun h2 => ?_) (fun h2 => ?_)
      ·
        have hr := g_if0 h2 hr
        refine gb_run 1 (pc2 := 100) (ls2 := [(0, .ref (0)), (1, .int (what)), (2, .int (x2)), (3, .int (x3)), (4, .int (x4))]) (st2 := [.int (x3)]) (M2 := M) hC hqX11_slowest rfl ?_
        refine gb_iret hqX11_slowest rfl rfl (Nat.le_of_ble_eq_true rfl) (Nat.le_of_ble_eq_true rfl) ?_
        exact gl_tI hr
      ·
        have hr := g_if1 h2 hr
        refine gb_run 2 (pc2 := 100) (ls2 := [(0, .ref (0)), (1, .int (what)), (2, .int (x2)), (3, .int (x3)), (4, .int (x4))]) (st2 := [.int (x2)]) (M2 := M) hC hqX11_slowest rfl ?_
        refine gb_iret hqX11_slowest rfl rfl (Nat.le_of_ble_eq_true rfl) (Nat.le_of_ble_eq_true rfl) ?_
        exact gl_tI hr
    ·
      have hr := g_if0 h1 hr
      refine gb_run 5 (pc2 := 38) (ls2 := [(0, .ref (0)), (1, .int (what)), (2, .int (x2)), (3, .int (x3)), (4, .int (x4))]) (st2 := [.int (x4), .ref (52)]) (M2 := M) hC hqX11_slowest rfl ?_
      refine gz_cS (z := qX11_at) (av := [.ref (52), .int (x4)]) (rest := []) (pl := 1062) hC hqX11_slowest rfl kX11_at (by decide +kernel) (c_at hC 52 8 _ x4 M sz (d - 1) (by omega) (Nat.le_of_ble_eq_true rfl) rfl (Nat.le_of_ble_eq_true rfl)) (by omega) ⟨rfl, rfl⟩ rfl rfl (Nat.le_of_ble_eq_true rfl) ⟨Nat.le_of_ble_eq_true rfl, Nat.le_of_ble_eq_true rfl⟩ (gs_Ip (x := r_at (M 52) 8 x4) ?_)
      refine gb_run 3 (pc2 := 46) (ls2 := [(5, .int (r_at (M 52) 8 x4)), (0, .ref (0)), (1, .int (what)), (2, .int (x2)), (3, .int (x3)), (4, .int (x4))]) (st2 := [.int (-1), .int (r_at (M 52) 8 x4)]) (M2 := M) hC hqX11_slowest rfl ?_
      refine gb_icmp_ne hqX11_slowest rfl (fun h3 => ?_) (fun h3 => ?_)
      ·
        have hr := g_if0 h3 hr
        refine gb_run 7 (pc2 := 68) (ls2 := [(5, .int (r_at (M 52) 8 x4)), (0, .ref (0)), (1, .int (what)), (2, .int (x2)), (3, .int (x3)), (4, .int (x4))]) (st2 := [.int (r_at (M 52) 8 x4), .int (x4), .ref (48), .ref (27)]) (M2 := M) hC hqX11_slowest rfl ?_
        obtain ⟨s4, es4, hr⟩ := g_bd hr
        refine gz_cV (z := qX0_longOf) (a := 27) (av := [.ref (48), .int (x4), .int (r_at (M 52) 8 x4)]) (rest := []) (pl := 1100) hC hqX11_slowest rfl kX0_longOf sX0_longOf (by decide +kernel) (c_FB_longOf hC 48 x4 (r_at (M 52) 8 x4) (by decide +kernel) M sz (d - 1) (by omega) s4 es4) (by omega) ⟨rfl, rfl⟩ rfl (Nat.le_of_ble_eq_true rfl) (Nat.le_of_ble_eq_true rfl) rfl rfl rfl (Nat.le_of_ble_eq_true rfl) ⟨Nat.le_of_ble_eq_true rfl, Nat.le_of_ble_eq_true rfl⟩ (gs_I ?_)
        refine gw_pick [1, 2, 3, 4, 5] (ls2 := [(0, .ref (0)), (1, .int (what)), (2, .int (x2)), (3, .int (x3)), (4, .int (x4))]) rfl ?_
        exact c_FX_slowest_J71 hC what sz d (by omega) R (FX_slowest_L14 what k) ih x2 x3 x4 s4.1 (s4.2) hr
      ·
        have hr := g_if1 h3 hr
        refine gb_run 2 (pc2 := 71) (ls2 := [(5, .int (r_at (M 52) 8 x4)), (0, .ref (0)), (1, .int (what)), (2, .int (x2)), (3, .int (x3)), (4, .int (x4))]) (st2 := [.int (-1)]) (M2 := M) hC hqX11_slowest rfl ?_
        refine gw_pick [1, 2, 3, 4, 5] (ls2 := [(0, .ref (0)), (1, .int (what)), (2, .int (x2)), (3, .int (x3)), (4, .int (x4))]) rfl ?_
        exact c_FX_slowest_J71 hC what sz d (by omega) R (FX_slowest_L14 what k) ih x2 x3 x4 (-1 : Int32) M hr
def FX_slowest (what : Int32) (M : gM) : Option (Nat × Int32 × gM) :=
  (FX_needIn what (0 : Int32) (1 : Int32) M).bind fun s1 => if s1.1 = 0 then (FX_slowest_L14 what 1000 (-1 : Int32) (-1 : Int32) (0 : Int32) (s1.2)) else some (s1.1, 0, s1.2)
set_option maxRecDepth 20000 in
theorem c_FX_slowest {l : Launch} {C : gC} (hC : g_ctx l C) (what : Int32)  (M : gM) (sz d : Nat) (hd : 8 ≤ d) (R : Nat × Int32 × gM) (hr : FX_slowest what M = some R) : gPt l C qX11_slowest d [.ref (0), .int (what)] M sz (qtI R) (xtI R) := by
  refine gPt.of (ls := [(0, .ref (0)), (1, .int (what))]) (by decide +kernel) (Nat.le_of_ble_eq_true rfl) rfl ?_
  unfold FX_slowest at hr
  refine gb_run 4 (pc2 := 4) (ls2 := [(0, .ref (0)), (1, .int (what))]) (st2 := [.int (1), .int (0), .int (what), .ref (0)]) (M2 := M) hC hqX11_slowest rfl ?_
  obtain ⟨s1, es1, hr⟩ := g_bd hr
  refine gt_cV (z := qX11_needIn) (a := 0) (av := [.int (what), .int (0), .int (1)]) (rest := []) (pl := 658) (kc2 := 1) (ks2 := 6) hC hqX11_slowest rfl kX11_needIn sX11_needIn (by decide +kernel) (c_FX_needIn hC what (0 : Int32) (1 : Int32)  M sz (d - 1) (by omega) s1 es1) (by omega) rfl rfl rfl (Nat.le_of_ble_eq_true rfl) (Nat.le_of_ble_eq_true rfl) rfl rfl rfl (Nat.le_of_ble_eq_true rfl) ⟨Nat.le_of_ble_eq_true rfl, Nat.le_of_ble_eq_true rfl⟩ (gt_xI hr) (gs_t fun sz3 q0 => ?_)
  have hr := g_if1 q0 hr
  refine gb_run 6 (pc2 := 14) (ls2 := [(4, .int (0)), (3, .int (-1)), (2, .int (-1)), (0, .ref (0)), (1, .int (what))]) (st2 := []) (M2 := s1.2) hC hqX11_slowest rfl ?_
  refine gw_pick [3, 4, 2, 1, 0] (ls2 := [(0, .ref (0)), (1, .int (what)), (2, .int (-1)), (3, .int (-1)), (4, .int (0))]) rfl ?_
  exact c_FX_slowest_L14 hC what sz3 d (by omega) R 1000 (-1 : Int32) (-1 : Int32) (0 : Int32) (s1.2) hr
def FX_days (seed : Int32) (many : Int32) (q : Int32) (what : Int32) (M : gM) : Option (Nat × Int32 × gM) :=
  (FX_needIn many (1 : Int32) (200 : Int32) M).bind fun s1 => if s1.1 = 0 then ((FX_needIn q (0 : Int32) (16 : Int32) (s1.2)).bind fun s2 => if s2.1 = 0 then ((FX_needIn what (0 : Int32) (3 : Int32) (s2.2)).bind fun s3 => if s3.1 = 0 then ((FG_passDays seed many q (s3.2)).bind fun s4 => if what = (0 : Int32) then (some (0, s4 32 3, s4)) else if what = (1 : Int32) then (some (0, s4 32 5, s4)) else if what = (2 : Int32) then (some (0, s4 32 6, s4)) else ((FZ_fines 33 s4).bind fun s8 => (FZ_fines 48 s4).bind fun s9 => some (0, s8 - s9, s4))) else some (s3.1, 0, s3.2)) else some (s2.1, 0, s2.2)) else some (s1.1, 0, s1.2)
set_option maxRecDepth 20000 in
theorem c_FX_days {l : Launch} {C : gC} (hC : g_ctx l C) (seed : Int32) (many : Int32) (q : Int32) (what : Int32)  (M : gM) (sz d : Nat) (hd : 8 ≤ d) (R : Nat × Int32 × gM) (hr : FX_days seed many q what M = some R) : gPt l C qX11_days d [.ref (0), .int (seed), .int (many), .int (q), .int (what)] M sz (qtI R) (xtI R) := by
  refine gPt.of (ls := [(0, .ref (0)), (1, .int (seed)), (2, .int (many)), (3, .int (q)), (4, .int (what))]) (by decide +kernel) (Nat.le_of_ble_eq_true rfl) rfl ?_
  unfold FX_days at hr
  refine gb_run 4 (pc2 := 6) (ls2 := [(0, .ref (0)), (1, .int (seed)), (2, .int (many)), (3, .int (q)), (4, .int (what))]) (st2 := [.int (200), .int (1), .int (many), .ref (0)]) (M2 := M) hC hqX11_days rfl ?_
  obtain ⟨s1, es1, hr⟩ := g_bd hr
  refine gt_cV (z := qX11_needIn) (a := 0) (av := [.int (many), .int (1), .int (200)]) (rest := []) (pl := 658) (kc2 := 1) (ks2 := 6) hC hqX11_days rfl kX11_needIn sX11_needIn (by decide +kernel) (c_FX_needIn hC many (1 : Int32) (200 : Int32)  M sz (d - 1) (by omega) s1 es1) (by omega) rfl rfl rfl (Nat.le_of_ble_eq_true rfl) (Nat.le_of_ble_eq_true rfl) rfl rfl rfl (Nat.le_of_ble_eq_true rfl) ⟨Nat.le_of_ble_eq_true rfl, Nat.le_of_ble_eq_true rfl⟩ (gt_xI hr) (gs_t fun sz3 q0 => ?_)
  have hr := g_if1 q0 hr
  refine gb_run 4 (pc2 := 14) (ls2 := [(0, .ref (0)), (1, .int (seed)), (2, .int (many)), (3, .int (q)), (4, .int (what))]) (st2 := [.int (16), .int (0), .int (q), .ref (0)]) (M2 := s1.2) hC hqX11_days rfl ?_
  obtain ⟨s2, es2, hr⟩ := g_bd hr
  refine gt_cV (z := qX11_needIn) (a := 0) (av := [.int (q), .int (0), .int (16)]) (rest := []) (pl := 658) (kc2 := 2) (ks2 := 12) hC hqX11_days rfl kX11_needIn sX11_needIn (by decide +kernel) (c_FX_needIn hC q (0 : Int32) (16 : Int32)  (s1.2) sz3 (d - 1) (by omega) s2 es2) (by omega) rfl rfl rfl (Nat.le_of_ble_eq_true rfl) (Nat.le_of_ble_eq_true rfl) rfl rfl rfl (Nat.le_of_ble_eq_true rfl) ⟨Nat.le_of_ble_eq_true rfl, Nat.le_of_ble_eq_true rfl⟩ (gt_xI hr) (gs_t fun sz5 q0 => ?_)
  have hr := g_if1 q0 hr
  refine gb_run 4 (pc2 := 22) (ls2 := [(0, .ref (0)), (1, .int (seed)), (2, .int (many)), (3, .int (q)), (4, .int (what))]) (st2 := [.int (3), .int (0), .int (what), .ref (0)]) (M2 := s2.2) hC hqX11_days rfl ?_
  obtain ⟨s3, es3, hr⟩ := g_bd hr
  refine gt_cV (z := qX11_needIn) (a := 0) (av := [.int (what), .int (0), .int (3)]) (rest := []) (pl := 658) (kc2 := 3) (ks2 := 18) hC hqX11_days rfl kX11_needIn sX11_needIn (by decide +kernel) (c_FX_needIn hC what (0 : Int32) (3 : Int32)  (s2.2) sz5 (d - 1) (by omega) s3 es3) (by omega) rfl rfl rfl (Nat.le_of_ble_eq_true rfl) (Nat.le_of_ble_eq_true rfl) rfl rfl rfl (Nat.le_of_ble_eq_true rfl) ⟨Nat.le_of_ble_eq_true rfl, Nat.le_of_ble_eq_true rfl⟩ (gt_xI hr) (gs_t fun sz6 q0 => ?_)
  have hr := g_if1 q0 hr
  refine gb_run 8 (pc2 := 39) (ls2 := [(0, .ref (0)), (1, .int (seed)), (2, .int (many)), (3, .int (q)), (4, .int (what))]) (st2 := [.int (q), .int (many), .int (seed), .ref (48), .ref (32)]) (M2 := s3.2) hC hqX11_days rfl ?_
  obtain ⟨s4, es4, hr⟩ := g_bd hr
  refine gz_cV (z := qX1_passDays) (a := 32) (av := [.ref (48), .int (seed), .int (many), .int (q)]) (rest := []) (pl := 1354) hC hqX11_days rfl kX1_passDays sX1_passDays (by decide +kernel) (c_FG_passDays hC seed many q  (s3.2) sz6 (d - 1) (by omega) s4 es4) (by omega) ⟨rfl, rfl⟩ rfl (Nat.le_of_ble_eq_true rfl) (Nat.le_of_ble_eq_true rfl) rfl rfl rfl (Nat.le_of_ble_eq_true rfl) ⟨Nat.le_of_ble_eq_true rfl, Nat.le_of_ble_eq_true rfl⟩ (gs_V ?_)
  refine gb_run 1 (pc2 := 44) (ls2 := [(0, .ref (0)), (1, .int (seed)), (2, .int (many)), (3, .int (q)), (4, .int (what))]) (st2 := [.int (what)]) (M2 := s4) hC hqX11_days rfl ?_
  by_cases h5 : what = (0 : Int32)
  ·
    have hr := g_if1 h5 hr
    refine gb_tblIn (tgt := 72) hqX11_days rfl (by rw [h5]; first | done | decide) (by rw [h5]; first | done | decide) (by rw [h5]; first | done | rfl) (by decide) ?_
    refine gb_run 3 (pc2 := 79) (ls2 := [(0, .ref (0)), (1, .int (seed)), (2, .int (many)), (3, .int (q)), (4, .int (what))]) (st2 := [.int (s4 32 3)]) (M2 := s4) hC hqX11_days rfl ?_
    refine gb_iret hqX11_days rfl rfl (Nat.le_of_ble_eq_true rfl) (Nat.le_of_ble_eq_true rfl) ?_
    exact gl_tI hr
  have hr := g_if0 h5 hr
  by_cases h6 : what = (1 : Int32)
  ·
    have hr := g_if1 h6 hr
    refine gb_tblIn (tgt := 80) hqX11_days rfl (by rw [h6]; first | done | decide) (by rw [h6]; first | done | decide) (by rw [h6]; first | done | rfl) (by decide) ?_
    refine gb_run 3 (pc2 := 87) (ls2 := [(0, .ref (0)), (1, .int (seed)), (2, .int (many)), (3, .int (q)), (4, .int (what))]) (st2 := [.int (s4 32 5)]) (M2 := s4) hC hqX11_days rfl ?_
    refine gb_iret hqX11_days rfl rfl (Nat.le_of_ble_eq_true rfl) (Nat.le_of_ble_eq_true rfl) ?_
    exact gl_tI hr
  have hr := g_if0 h6 hr
  by_cases h7 : what = (2 : Int32)
  ·
    have hr := g_if1 h7 hr
    refine gb_tblIn (tgt := 88) hqX11_days rfl (by rw [h7]; first | done | decide) (by rw [h7]; first | done | decide) (by rw [h7]; first | done | rfl) (by decide) ?_
    refine gb_run 3 (pc2 := 95) (ls2 := [(0, .ref (0)), (1, .int (seed)), (2, .int (many)), (3, .int (q)), (4, .int (what))]) (st2 := [.int (s4 32 6)]) (M2 := s4) hC hqX11_days rfl ?_
    refine gb_iret hqX11_days rfl rfl (Nat.le_of_ble_eq_true rfl) (Nat.le_of_ble_eq_true rfl) ?_
    exact gl_tI hr
  have hr := g_if0 h7 hr
  refine gb_tblOut (tgt := 96) hqX11_days rfl (by have q0 := gd_ne (z := 0) rfl h5; have q1 := gd_ne (z := 1) rfl h6; have q2 := gd_ne (z := 2) rfl h7; omega) (by decide) ?_
  refine gb_run 3 (pc2 := 103) (ls2 := [(0, .ref (0)), (1, .int (seed)), (2, .int (many)), (3, .int (q)), (4, .int (what))]) (st2 := [.ref (33)]) (M2 := s4) hC hqX11_days rfl ?_
  obtain ⟨s8, es8, hr⟩ := g_bd hr
  refine gz_cV (z := qX8_fines) (a := 33) (av := []) (rest := []) (pl := 1030) hC hqX11_days rfl kX8_fines sX8_fines (by decide +kernel) (c_FZ_fines hC 33 (by decide +kernel) s4 sz6 (d - 1) (by omega) s8 es8) (by omega) ⟨rfl, rfl⟩ rfl (Nat.le_of_ble_eq_true rfl) (Nat.le_of_ble_eq_true rfl) rfl rfl rfl (Nat.le_of_ble_eq_true rfl) ⟨Nat.le_of_ble_eq_true rfl, Nat.le_of_ble_eq_true rfl⟩ (gs_Ip ?_)
  refine gb_run 3 (pc2 := 113) (ls2 := [(0, .ref (0)), (1, .int (seed)), (2, .int (many)), (3, .int (q)), (4, .int (what))]) (st2 := [.ref (48), .int (s8)]) (M2 := s4) hC hqX11_days rfl ?_
  obtain ⟨s9, es9, hr⟩ := g_bd hr
  refine gz_cV (z := qX8_fines) (a := 48) (av := []) (rest := [.int (s8)]) (pl := 1030) hC hqX11_days rfl kX8_fines sX8_fines (by decide +kernel) (c_FZ_fines hC 48 (by decide +kernel) s4 sz6 (d - 1) (by omega) s9 es9) (by omega) ⟨rfl, rfl⟩ rfl (Nat.le_of_ble_eq_true rfl) (Nat.le_of_ble_eq_true rfl) rfl rfl rfl (Nat.le_of_ble_eq_true rfl) ⟨Nat.le_of_ble_eq_true rfl, Nat.le_of_ble_eq_true rfl⟩ (gs_Ip ?_)
  refine gb_run 1 (pc2 := 117) (ls2 := [(0, .ref (0)), (1, .int (seed)), (2, .int (many)), (3, .int (q)), (4, .int (what))]) (st2 := [.int (s8 - s9)]) (M2 := s4) hC hqX11_days rfl ?_
  refine gb_iret hqX11_days rfl rfl (Nat.le_of_ble_eq_true rfl) (Nat.le_of_ble_eq_true rfl) ?_
  exact gl_tI hr
def FX_span_L48 (seed : Int32) (seeds : Int32) (many : Int32) (q : Int32) (what : Int32) : Nat → Int32 → Int32 → Int32 → Int32 → gM → Option (Nat × Int32 × gM)
  | 0, _, _, _, _, _ => none
  | k + 1, x6, x7, x8, x9, M =>
  if seeds ≤ x9 then (if what = (0 : Int32) then (some (0, x6, M)) else (if what = (1 : Int32) then (some (0, x7, M)) else (some (0, x8, M)))) else ((FG_passDays (seed + x9) many q M).bind fun s4 => if (s4 32 5) = (0 : Int32) then (FX_span_L48 seed seeds many q what k (m_min x6 (s4 32 3)) (m_max x7 (s4 32 3)) (x8 + (1 : Int32)) (x9 + (1 : Int32)) s4) else (FX_span_L48 seed seeds many q what k (m_min x6 (s4 32 3)) (m_max x7 (s4 32 3)) (x8 + (0 : Int32)) (x9 + (1 : Int32)) s4))
set_option maxRecDepth 20000 in
theorem c_FX_span_L48 {l : Launch} {C : gC} (hC : g_ctx l C) (seed : Int32) (seeds : Int32) (many : Int32) (q : Int32) (what : Int32) (sz d : Nat) (hd : 8 ≤ d) (R : Nat × Int32 × gM) : ∀ (k : Nat) (x6 : Int32) (x7 : Int32) (x8 : Int32) (x9 : Int32) (M : gM), FX_span_L48 seed seeds many q what k x6 x7 x8 x9 M = some R → GW l C qX11_span d (gQt (qtI R)) (gNt (xtI R)) 4 24 48 [(0, .ref (0)), (1, .int (seed)), (2, .int (seeds)), (3, .int (many)), (4, .int (q)), (5, .int (what)), (6, .int (x6)), (7, .int (x7)), (8, .int (x8)), (9, .int (x9))] [] (956, g_S0, M, sz) := by
  intro k
  induction k with
  | zero => intro x6 x7 x8 x9 M hr; exact nomatch (show (none : Option (Nat × Int32 × gM)) = some R from hr)
  | succ k ih =>
    intro x6 x7 x8 x9 M hr
    unfold FX_span_L48 at hr
    refine gb_run 2 (pc2 := 51) (ls2 := [(0, .ref (0)), (1, .int (seed)), (2, .int (seeds)), (3, .int (many)), (4, .int (q)), (5, .int (what)), (6, .int (x6)), (7, .int (x7)), (8, .int (x8)), (9, .int (x9))]) (st2 := [.int (seeds), .int (x9)]) (M2 := M) hC hqX11_span rfl ?_
    refine gb_icmp_ge hqX11_span rfl (fun h1 => ?_) (fun h1 => ?_)
    ·
      have hr := g_if1 h1 hr
      refine gb_run 1 (pc2 := 131) (ls2 := [(0, .ref (0)), (1, .int (seed)), (2, .int (seeds)), (3, .int (many)), (4, .int (q)), (5, .int (what)), (6, .int (x6)), (7, .int (x7)), (8, .int (x8)), (9, .int (x9))]) (st2 := [.int (what)]) (M2 := M) hC hqX11_span rfl ?_
      refine gb_if_ne hqX11_span rfl (fun h2 => ?_) (fun h2 => ?_)
      ·
        have hr := g_if0 h2 hr
        refine gb_run 2 (pc2 := 142) (ls2 := [(0, .ref (0)), (1, .int (seed)), (2, .int (seeds)), (3, .int (many)), (4, .int (q)), (5, .int (what)), (6, .int (x6)), (7, .int (x7)), (8, .int (x8)), (9, .int (x9))]) (st2 := [.int (1), .int (what)]) (M2 := M) hC hqX11_span rfl ?_
        refine gb_icmp_ne hqX11_span rfl (fun h3 => ?_) (fun h3 => ?_)
        ·
          have hr := g_if0 h3 hr
          refine gb_run 1 (pc2 := 152) (ls2 := [(0, .ref (0)), (1, .int (seed)), (2, .int (seeds)), (3, .int (many)), (4, .int (q)), (5, .int (what)), (6, .int (x6)), (7, .int (x7)), (8, .int (x8)), (9, .int (x9))]) (st2 := [.int (x8)]) (M2 := M) hC hqX11_span rfl ?_
          refine gb_iret hqX11_span rfl rfl (Nat.le_of_ble_eq_true rfl) (Nat.le_of_ble_eq_true rfl) ?_
          exact gl_tI hr
        ·
          have hr := g_if1 h3 hr
          refine gb_run 2 (pc2 := 152) (ls2 := [(0, .ref (0)), (1, .int (seed)), (2, .int (seeds)), (3, .int (many)), (4, .int (q)), (5, .int (what)), (6, .int (x6)), (7, .int (x7)), (8, .int (x8)), (9, .int (x9))]) (st2 := [.int (x7)]) (M2 := M) hC hqX11_span rfl ?_
          refine gb_iret hqX11_span rfl rfl (Nat.le_of_ble_eq_true rfl) (Nat.le_of_ble_eq_true rfl) ?_
          exact gl_tI hr
      ·
        have hr := g_if1 h2 hr
        refine gb_run 2 (pc2 := 152) (ls2 := [(0, .ref (0)), (1, .int (seed)), (2, .int (seeds)), (3, .int (many)), (4, .int (q)), (5, .int (what)), (6, .int (x6)), (7, .int (x7)), (8, .int (x8)), (9, .int (x9))]) (st2 := [.int (x6)]) (M2 := M) hC hqX11_span rfl ?_
        refine gb_iret hqX11_span rfl rfl (Nat.le_of_ble_eq_true rfl) (Nat.le_of_ble_eq_true rfl) ?_
        exact gl_tI hr
    ·
      have hr := g_if0 h1 hr
      refine gb_run 10 (pc2 := 72) (ls2 := [(0, .ref (0)), (1, .int (seed)), (2, .int (seeds)), (3, .int (many)), (4, .int (q)), (5, .int (what)), (6, .int (x6)), (7, .int (x7)), (8, .int (x8)), (9, .int (x9))]) (st2 := [.int (q), .int (many), .int (seed + x9), .ref (48), .ref (32)]) (M2 := M) hC hqX11_span rfl ?_
      obtain ⟨s4, es4, hr⟩ := g_bd hr
      refine gz_cV (z := qX1_passDays) (a := 32) (av := [.ref (48), .int (seed + x9), .int (many), .int (q)]) (rest := []) (pl := 1354) hC hqX11_span rfl kX1_passDays sX1_passDays (by decide +kernel) (c_FG_passDays hC (seed + x9) many q  M sz (d - 1) (by omega) s4 es4) (by omega) ⟨rfl, rfl⟩ rfl (Nat.le_of_ble_eq_true rfl) (Nat.le_of_ble_eq_true rfl) rfl rfl rfl (Nat.le_of_ble_eq_true rfl) ⟨Nat.le_of_ble_eq_true rfl, Nat.le_of_ble_eq_true rfl⟩ (gs_V ?_)
      refine gb_run 4 (pc2 := 84) (ls2 := [(0, .ref (0)), (1, .int (seed)), (2, .int (seeds)), (3, .int (many)), (4, .int (q)), (5, .int (what)), (6, .int (x6)), (7, .int (x7)), (8, .int (x8)), (9, .int (x9))]) (st2 := [.int (s4 32 3), .int (x6)]) (M2 := s4) hC hqX11_span rfl ?_
      refine gb_min (pl := 657) hC hqX11_span rfl (by decide +kernel) (Nat.le_of_ble_eq_true rfl) (by omega) (Nat.le_of_ble_eq_true rfl) (Nat.le_of_ble_eq_true rfl) ?_
      refine gb_run 5 (pc2 := 98) (ls2 := [(6, .int (m_min x6 (s4 32 3))), (0, .ref (0)), (1, .int (seed)), (2, .int (seeds)), (3, .int (many)), (4, .int (q)), (5, .int (what)), (7, .int (x7)), (8, .int (x8)), (9, .int (x9))]) (st2 := [.int (s4 32 3), .int (x7)]) (M2 := s4) hC hqX11_span rfl ?_
      refine gb_max (pl := 1374) hC hqX11_span rfl (by decide +kernel) (Nat.le_of_ble_eq_true rfl) (by omega) (Nat.le_of_ble_eq_true rfl) (Nat.le_of_ble_eq_true rfl) ?_
      refine gb_run 5 (pc2 := 112) (ls2 := [(7, .int (m_max x7 (s4 32 3))), (6, .int (m_min x6 (s4 32 3))), (0, .ref (0)), (1, .int (seed)), (2, .int (seeds)), (3, .int (many)), (4, .int (q)), (5, .int (what)), (8, .int (x8)), (9, .int (x9))]) (st2 := [.int (s4 32 5), .int (x8)]) (M2 := s4) hC hqX11_span rfl ?_
      refine gb_if_ne hqX11_span rfl (fun h5 => ?_) (fun h5 => ?_)
      ·
        have hr := g_if0 h5 hr
        refine gb_run 5 (pc2 := 48) (ls2 := [(9, .int (x9 + (1 : Int32))), (8, .int (x8 + (0 : Int32))), (7, .int (m_max x7 (s4 32 3))), (6, .int (m_min x6 (s4 32 3))), (0, .ref (0)), (1, .int (seed)), (2, .int (seeds)), (3, .int (many)), (4, .int (q)), (5, .int (what))]) (st2 := []) (M2 := s4) hC hqX11_span rfl ?_
        refine gw_pick [4, 5, 6, 7, 8, 9, 3, 2, 1, 0] (ls2 := [(0, .ref (0)), (1, .int (seed)), (2, .int (seeds)), (3, .int (many)), (4, .int (q)), (5, .int (what)), (6, .int (m_min x6 (s4 32 3))), (7, .int (m_max x7 (s4 32 3))), (8, .int (x8 + (0 : Int32))), (9, .int (x9 + (1 : Int32)))]) rfl ?_
        exact ih (m_min x6 (s4 32 3)) (m_max x7 (s4 32 3)) (x8 + (0 : Int32)) (x9 + (1 : Int32)) s4 hr
      ·
        have hr := g_if1 h5 hr
        refine gb_run 6 (pc2 := 48) (ls2 := [(9, .int (x9 + (1 : Int32))), (8, .int (x8 + (1 : Int32))), (7, .int (m_max x7 (s4 32 3))), (6, .int (m_min x6 (s4 32 3))), (0, .ref (0)), (1, .int (seed)), (2, .int (seeds)), (3, .int (many)), (4, .int (q)), (5, .int (what))]) (st2 := []) (M2 := s4) hC hqX11_span rfl ?_
        refine gw_pick [4, 5, 6, 7, 8, 9, 3, 2, 1, 0] (ls2 := [(0, .ref (0)), (1, .int (seed)), (2, .int (seeds)), (3, .int (many)), (4, .int (q)), (5, .int (what)), (6, .int (m_min x6 (s4 32 3))), (7, .int (m_max x7 (s4 32 3))), (8, .int (x8 + (1 : Int32))), (9, .int (x9 + (1 : Int32)))]) rfl ?_
        exact ih (m_min x6 (s4 32 3)) (m_max x7 (s4 32 3)) (x8 + (1 : Int32)) (x9 + (1 : Int32)) s4 hr
def FX_span (seed : Int32) (seeds : Int32) (many : Int32) (q : Int32) (what : Int32) (M : gM) : Option (Nat × Int32 × gM) :=
  (FX_needIn seeds (1 : Int32) (20 : Int32) M).bind fun s1 => if s1.1 = 0 then ((FX_needIn many (1 : Int32) (200 : Int32) (s1.2)).bind fun s2 => if s2.1 = 0 then ((FX_needIn q (0 : Int32) (16 : Int32) (s2.2)).bind fun s3 => if s3.1 = 0 then ((FX_needIn what (0 : Int32) (2 : Int32) (s3.2)).bind fun s4 => if s4.1 = 0 then (FX_span_L48 seed seeds many q what 1000 (1000000000 : Int32) (0 : Int32) (0 : Int32) (0 : Int32) (s4.2)) else some (s4.1, 0, s4.2)) else some (s3.1, 0, s3.2)) else some (s2.1, 0, s2.2)) else some (s1.1, 0, s1.2)
set_option maxRecDepth 20000 in
theorem c_FX_span {l : Launch} {C : gC} (hC : g_ctx l C) (seed : Int32) (seeds : Int32) (many : Int32) (q : Int32) (what : Int32)  (M : gM) (sz d : Nat) (hd : 8 ≤ d) (R : Nat × Int32 × gM) (hr : FX_span seed seeds many q what M = some R) : gPt l C qX11_span d [.ref (0), .int (seed), .int (seeds), .int (many), .int (q), .int (what)] M sz (qtI R) (xtI R) := by
  refine gPt.of (ls := [(0, .ref (0)), (1, .int (seed)), (2, .int (seeds)), (3, .int (many)), (4, .int (q)), (5, .int (what))]) (by decide +kernel) (Nat.le_of_ble_eq_true rfl) rfl ?_
  unfold FX_span at hr
  refine gb_run 4 (pc2 := 5) (ls2 := [(0, .ref (0)), (1, .int (seed)), (2, .int (seeds)), (3, .int (many)), (4, .int (q)), (5, .int (what))]) (st2 := [.int (20), .int (1), .int (seeds), .ref (0)]) (M2 := M) hC hqX11_span rfl ?_
  obtain ⟨s1, es1, hr⟩ := g_bd hr
  refine gt_cV (z := qX11_needIn) (a := 0) (av := [.int (seeds), .int (1), .int (20)]) (rest := []) (pl := 658) (kc2 := 1) (ks2 := 6) hC hqX11_span rfl kX11_needIn sX11_needIn (by decide +kernel) (c_FX_needIn hC seeds (1 : Int32) (20 : Int32)  M sz (d - 1) (by omega) s1 es1) (by omega) rfl rfl rfl (Nat.le_of_ble_eq_true rfl) (Nat.le_of_ble_eq_true rfl) rfl rfl rfl (Nat.le_of_ble_eq_true rfl) ⟨Nat.le_of_ble_eq_true rfl, Nat.le_of_ble_eq_true rfl⟩ (gt_xI hr) (gs_t fun sz3 q0 => ?_)
  have hr := g_if1 q0 hr
  refine gb_run 4 (pc2 := 14) (ls2 := [(0, .ref (0)), (1, .int (seed)), (2, .int (seeds)), (3, .int (many)), (4, .int (q)), (5, .int (what))]) (st2 := [.int (200), .int (1), .int (many), .ref (0)]) (M2 := s1.2) hC hqX11_span rfl ?_
  obtain ⟨s2, es2, hr⟩ := g_bd hr
  refine gt_cV (z := qX11_needIn) (a := 0) (av := [.int (many), .int (1), .int (200)]) (rest := []) (pl := 658) (kc2 := 2) (ks2 := 12) hC hqX11_span rfl kX11_needIn sX11_needIn (by decide +kernel) (c_FX_needIn hC many (1 : Int32) (200 : Int32)  (s1.2) sz3 (d - 1) (by omega) s2 es2) (by omega) rfl rfl rfl (Nat.le_of_ble_eq_true rfl) (Nat.le_of_ble_eq_true rfl) rfl rfl rfl (Nat.le_of_ble_eq_true rfl) ⟨Nat.le_of_ble_eq_true rfl, Nat.le_of_ble_eq_true rfl⟩ (gt_xI hr) (gs_t fun sz5 q0 => ?_)
  have hr := g_if1 q0 hr
  refine gb_run 4 (pc2 := 23) (ls2 := [(0, .ref (0)), (1, .int (seed)), (2, .int (seeds)), (3, .int (many)), (4, .int (q)), (5, .int (what))]) (st2 := [.int (16), .int (0), .int (q), .ref (0)]) (M2 := s2.2) hC hqX11_span rfl ?_
  obtain ⟨s3, es3, hr⟩ := g_bd hr
  refine gt_cV (z := qX11_needIn) (a := 0) (av := [.int (q), .int (0), .int (16)]) (rest := []) (pl := 658) (kc2 := 3) (ks2 := 18) hC hqX11_span rfl kX11_needIn sX11_needIn (by decide +kernel) (c_FX_needIn hC q (0 : Int32) (16 : Int32)  (s2.2) sz5 (d - 1) (by omega) s3 es3) (by omega) rfl rfl rfl (Nat.le_of_ble_eq_true rfl) (Nat.le_of_ble_eq_true rfl) rfl rfl rfl (Nat.le_of_ble_eq_true rfl) ⟨Nat.le_of_ble_eq_true rfl, Nat.le_of_ble_eq_true rfl⟩ (gt_xI hr) (gs_t fun sz6 q0 => ?_)
  have hr := g_if1 q0 hr
  refine gb_run 4 (pc2 := 31) (ls2 := [(0, .ref (0)), (1, .int (seed)), (2, .int (seeds)), (3, .int (many)), (4, .int (q)), (5, .int (what))]) (st2 := [.int (2), .int (0), .int (what), .ref (0)]) (M2 := s3.2) hC hqX11_span rfl ?_
  obtain ⟨s4, es4, hr⟩ := g_bd hr
  refine gt_cV (z := qX11_needIn) (a := 0) (av := [.int (what), .int (0), .int (2)]) (rest := []) (pl := 658) (kc2 := 4) (ks2 := 24) hC hqX11_span rfl kX11_needIn sX11_needIn (by decide +kernel) (c_FX_needIn hC what (0 : Int32) (2 : Int32)  (s3.2) sz6 (d - 1) (by omega) s4 es4) (by omega) rfl rfl rfl (Nat.le_of_ble_eq_true rfl) (Nat.le_of_ble_eq_true rfl) rfl rfl rfl (Nat.le_of_ble_eq_true rfl) ⟨Nat.le_of_ble_eq_true rfl, Nat.le_of_ble_eq_true rfl⟩ (gt_xI hr) (gs_t fun sz7 q0 => ?_)
  have hr := g_if1 q0 hr
  refine gb_run 8 (pc2 := 48) (ls2 := [(9, .int (0)), (8, .int (0)), (7, .int (0)), (6, .int (1000000000)), (0, .ref (0)), (1, .int (seed)), (2, .int (seeds)), (3, .int (many)), (4, .int (q)), (5, .int (what))]) (st2 := []) (M2 := s4.2) hC hqX11_span rfl ?_
  refine gw_pick [4, 5, 6, 7, 8, 9, 3, 2, 1, 0] (ls2 := [(0, .ref (0)), (1, .int (seed)), (2, .int (seeds)), (3, .int (many)), (4, .int (q)), (5, .int (what)), (6, .int (1000000000)), (7, .int (0)), (8, .int (0)), (9, .int (0))]) rfl ?_
  exact c_FX_span_L48 hC seed seeds many q what sz7 d (by omega) R 1000 (1000000000 : Int32) (0 : Int32) (0 : Int32) (0 : Int32) (s4.2) hr
def FX_image  (M : gM) : Option (Int32 × gM) :=
  if (M 0 14) < (0 : Int32) then (some (-1, M)) else (if (M 0 14) < (nI 3) then (g_ix (M 0 14) 3 fun j3 => (FH_copy (152 + 104 * j3) 47 M).bind fun s4 => some ((s4 0 14) + (1 : Int32), g_set s4 0 14 ((s4 0 14) + (1 : Int32)))) else (some (-1, M)))
set_option maxRecDepth 20000 in
theorem c_FX_image {l : Launch} {C : gC} (hC : g_ctx l C)   (M : gM) (sz d : Nat) (hd : 4 ≤ d) (R : Int32 × gM) (hr : FX_image M = some R) : gPg l C qX11_image d [.ref (0)] 956 g_S0 M sz (qI R) := by
  refine gPg.of (ls := [(0, .ref (0))]) (by decide +kernel) (Nat.le_of_ble_eq_true rfl) rfl ?_
  unfold FX_image at hr
  refine gb_run 2 (pc2 := 4) (ls2 := [(0, .ref (0))]) (st2 := [.int (M 0 14)]) (M2 := M) hC hqX11_image rfl ?_
  refine gb_if_lt hqX11_image rfl (fun h1 => ?_) (fun h1 => ?_)
  ·
    have hr := g_if1 h1 hr
    refine gb_run 1 (pc2 := 20) (ls2 := [(0, .ref (0))]) (st2 := [.int (-1)]) (M2 := M) hC hqX11_image rfl ?_
    refine gb_iret hqX11_image rfl rfl (Nat.le_of_ble_eq_true rfl) (Nat.le_of_ble_eq_true rfl) ?_
    exact gl_I hr
  ·
    have hr := g_if0 h1 hr
    refine gb_run 4 (pc2 := 15) (ls2 := [(0, .ref (0))]) (st2 := [.ref (151), .int (M 0 14)]) (M2 := M) hC hqX11_image rfl ?_
    refine gb_alenq (k0 := 0) hC hqX11_image rfl (Nat.le_of_ble_eq_true rfl) rfl (Nat.le_of_ble_eq_true rfl) ?_
    refine gb_icmp_lt hqX11_image rfl (fun h2 => ?_) (fun h2 => ?_)
    ·
      have hr := g_if1 h2 hr
      refine gb_run 4 (pc2 := 29) (ls2 := [(0, .ref (0))]) (st2 := [.int (M 0 14), .ref (151)]) (M2 := M) hC hqX11_image rfl ?_
      obtain ⟨j3, ej3, ij3, lj3, hr⟩ := g_ixo hr
      have tj3 := g_t151 j3 lj3
      refine gz_aaload (k0 := 0) (q := 152 + 104 * j3) hC hqX11_image rfl (Nat.le_of_ble_eq_true rfl) rfl (Nat.le_of_ble_eq_true rfl) ij3 ej3 tj3.1 ?_
      refine gb_run 6 (pc2 := 40) (ls2 := [(1, .ref (152 + 104 * j3)), (0, .ref (0))]) (st2 := [.ref (47), .ref (152 + 104 * j3)]) (M2 := M) hC hqX11_image rfl ?_
      obtain ⟨s4, es4, hr⟩ := g_bd hr
      refine gz_cV (z := qX3_copy) (a := 152 + 104 * j3) (av := [.ref (47)]) (rest := []) (pl := 629) hC hqX11_image rfl kX3_copy sX3_copy (by decide +kernel) (c_FH_copy hC (152 + 104 * j3) 47 tj3.2 g_h47 (by first | decide | omega) M sz (d - 1) (by omega) s4 es4) (by omega) ⟨rfl, rfl⟩ rfl (Nat.le_of_ble_eq_true rfl) tj3.2.1.1 (g_S3 tj3.2.1.2.1 tj3.2.1.2.2) rfl rfl (Nat.le_of_ble_eq_true rfl) ⟨Nat.le_of_ble_eq_true rfl, Nat.le_of_ble_eq_true rfl⟩ (gs_V ?_)
      refine gb_run 8 (pc2 := 57) (ls2 := [(1, .ref (152 + 104 * j3)), (0, .ref (0))]) (st2 := [.int ((s4 0 14) + (1 : Int32))]) (M2 := g_set s4 0 14 ((s4 0 14) + (1 : Int32))) hC hqX11_image rfl ?_
      refine gb_iret hqX11_image rfl rfl (Nat.le_of_ble_eq_true rfl) (Nat.le_of_ble_eq_true rfl) ?_
      exact gl_I hr
    ·
      have hr := g_if0 h2 hr
      refine gb_run 1 (pc2 := 20) (ls2 := [(0, .ref (0))]) (st2 := [.int (-1)]) (M2 := M) hC hqX11_image rfl ?_
      refine gb_iret hqX11_image rfl rfl (Nat.le_of_ble_eq_true rfl) (Nat.le_of_ble_eq_true rfl) ?_
      exact gl_I hr
def FX_restore  (M : gM) : Option (Int32 × gM) :=
  if (M 0 14) ≤ (0 : Int32) then (some (-1, M)) else (if (M 0 14) ≤ (nI 3) then (g_ix ((M 0 14) - (1 : Int32)) 3 fun j3 => (FH_copy 47 (152 + 104 * j3) (g_set M 0 14 ((M 0 14) - (1 : Int32)))).bind fun s4 => some (s4 0 14, g_set s4 0 15 (0 : Int32))) else (some (-1, M)))
set_option maxRecDepth 20000 in
theorem c_FX_restore {l : Launch} {C : gC} (hC : g_ctx l C)   (M : gM) (sz d : Nat) (hd : 4 ≤ d) (R : Int32 × gM) (hr : FX_restore M = some R) : gPg l C qX11_restore d [.ref (0)] 956 g_S0 M sz (qI R) := by
  refine gPg.of (ls := [(0, .ref (0))]) (by decide +kernel) (Nat.le_of_ble_eq_true rfl) rfl ?_
  unfold FX_restore at hr
  refine gb_run 2 (pc2 := 4) (ls2 := [(0, .ref (0))]) (st2 := [.int (M 0 14)]) (M2 := M) hC hqX11_restore rfl ?_
  refine gb_if_le hqX11_restore rfl (fun h1 => ?_) (fun h1 => ?_)
  ·
    have hr := g_if1 h1 hr
    refine gb_run 1 (pc2 := 20) (ls2 := [(0, .ref (0))]) (st2 := [.int (-1)]) (M2 := M) hC hqX11_restore rfl ?_
    refine gb_iret hqX11_restore rfl rfl (Nat.le_of_ble_eq_true rfl) (Nat.le_of_ble_eq_true rfl) ?_
    exact gl_I hr
  ·
    have hr := g_if0 h1 hr
    refine gb_run 4 (pc2 := 15) (ls2 := [(0, .ref (0))]) (st2 := [.ref (151), .int (M 0 14)]) (M2 := M) hC hqX11_restore rfl ?_
    refine gb_alenq (k0 := 0) hC hqX11_restore rfl (Nat.le_of_ble_eq_true rfl) rfl (Nat.le_of_ble_eq_true rfl) ?_
    refine gb_icmp_le hqX11_restore rfl (fun h2 => ?_) (fun h2 => ?_)
    ·
      have hr := g_if1 h2 hr
      refine gb_run 10 (pc2 := 39) (ls2 := [(0, .ref (0))]) (st2 := [.int ((M 0 14) - (1 : Int32)), .ref (151)]) (M2 := g_set M 0 14 ((M 0 14) - (1 : Int32))) hC hqX11_restore rfl ?_
      obtain ⟨j3, ej3, ij3, lj3, hr⟩ := g_ixo hr
      have tj3 := g_t151 j3 lj3
      refine gz_aaload (k0 := 0) (q := 152 + 104 * j3) hC hqX11_restore rfl (Nat.le_of_ble_eq_true rfl) rfl (Nat.le_of_ble_eq_true rfl) ij3 ej3 tj3.1 ?_
      refine gb_run 6 (pc2 := 50) (ls2 := [(1, .ref (152 + 104 * j3)), (0, .ref (0))]) (st2 := [.ref (152 + 104 * j3), .ref (47)]) (M2 := g_set M 0 14 ((M 0 14) - (1 : Int32))) hC hqX11_restore rfl ?_
      obtain ⟨s4, es4, hr⟩ := g_bd hr
      refine gz_cV (z := qX3_copy) (a := 47) (av := [.ref (152 + 104 * j3)]) (rest := []) (pl := 629) hC hqX11_restore rfl kX3_copy sX3_copy (by decide +kernel) (c_FH_copy hC 47 (152 + 104 * j3) g_h47 tj3.2 (by first | decide | omega) (g_set M 0 14 ((M 0 14) - (1 : Int32))) sz (d - 1) (by omega) s4 es4) (by omega) ⟨rfl, rfl⟩ rfl (Nat.le_of_ble_eq_true rfl) (Nat.le_of_ble_eq_true rfl) rfl rfl rfl (Nat.le_of_ble_eq_true rfl) ⟨Nat.le_of_ble_eq_true rfl, Nat.le_of_ble_eq_true rfl⟩ (gs_V ?_)
      refine gb_run 5 (pc2 := 62) (ls2 := [(1, .ref (152 + 104 * j3)), (0, .ref (0))]) (st2 := [.int (s4 0 14)]) (M2 := g_set s4 0 15 (0 : Int32)) hC hqX11_restore rfl ?_
      refine gb_iret hqX11_restore rfl rfl (Nat.le_of_ble_eq_true rfl) (Nat.le_of_ble_eq_true rfl) ?_
      exact gl_I hr
    ·
      have hr := g_if0 h2 hr
      refine gb_run 1 (pc2 := 20) (ls2 := [(0, .ref (0))]) (st2 := [.int (-1)]) (M2 := M) hC hqX11_restore rfl ?_
      refine gb_iret hqX11_restore rfl rfl (Nat.le_of_ble_eq_true rfl) (Nat.le_of_ble_eq_true rfl) ?_
      exact gl_I hr
def FX_status (what : Int32) (M : gM) : Int32 :=
  if what = (0 : Int32) then (M 0 16) else (if what = (1 : Int32) then (M 0 17) else -1)
set_option maxRecDepth 20000 in
theorem c_FX_status {l : Launch} {C : gC} (hC : g_ctx l C) (what : Int32)  (M : gM) (sz d : Nat) (hd : 1 ≤ d) : gPg l C qX11_status d [.ref (0), .int (what)] 956 g_S0 M sz (qIp M (FX_status what M)) := by
  refine gPg.of (ls := [(0, .ref (0)), (1, .int (what))]) (by decide +kernel) (Nat.le_of_ble_eq_true rfl) rfl ?_
  obtain ⟨R, hr⟩ : ∃ R, FX_status what M = R := ⟨_, rfl⟩
  rw [hr]
  unfold FX_status at hr
  refine gb_run 1 (pc2 := 1) (ls2 := [(0, .ref (0)), (1, .int (what))]) (st2 := [.int (what)]) (M2 := M) hC hqX11_status rfl ?_
  refine gb_if_ne hqX11_status rfl (fun h1 => ?_) (fun h1 => ?_)
  ·
    have hr := g_if0 h1 hr
    refine gb_run 2 (pc2 := 13) (ls2 := [(0, .ref (0)), (1, .int (what))]) (st2 := [.int (1), .int (what)]) (M2 := M) hC hqX11_status rfl ?_
    refine gb_icmp_ne hqX11_status rfl (fun h2 => ?_) (fun h2 => ?_)
    ·
      have hr := g_if0 h2 hr
      refine gb_run 1 (pc2 := 24) (ls2 := [(0, .ref (0)), (1, .int (what))]) (st2 := [.int (-1)]) (M2 := M) hC hqX11_status rfl ?_
      refine gb_iret hqX11_status rfl rfl (Nat.le_of_ble_eq_true rfl) (Nat.le_of_ble_eq_true rfl) ?_
      exact gl_It hr
    ·
      have hr := g_if1 h2 hr
      refine gb_run 3 (pc2 := 24) (ls2 := [(0, .ref (0)), (1, .int (what))]) (st2 := [.int (M 0 17)]) (M2 := M) hC hqX11_status rfl ?_
      refine gb_iret hqX11_status rfl rfl (Nat.le_of_ble_eq_true rfl) (Nat.le_of_ble_eq_true rfl) ?_
      exact gl_It hr
  ·
    have hr := g_if1 h1 hr
    refine gb_run 3 (pc2 := 24) (ls2 := [(0, .ref (0)), (1, .int (what))]) (st2 := [.int (M 0 16)]) (M2 := M) hC hqX11_status rfl ?_
    refine gb_iret hqX11_status rfl rfl (Nat.le_of_ble_eq_true rfl) (Nat.le_of_ble_eq_true rfl) ?_
    exact gl_It hr
def FX_count (what : Int32) (M : gM) : Int32 :=
  if what = (0 : Int32) then (M 0 14) else if what = (1 : Int32) then (M 1 1) else if what = (2 : Int32) then (M 47 2) else -1
set_option maxRecDepth 20000 in
theorem c_FX_count {l : Launch} {C : gC} (hC : g_ctx l C) (what : Int32)  (M : gM) (sz d : Nat) (hd : 1 ≤ d) : gPg l C qX11_count d [.ref (0), .int (what)] 956 g_S0 M sz (qIp M (FX_count what M)) := by
  refine gPg.of (ls := [(0, .ref (0)), (1, .int (what))]) (by decide +kernel) (Nat.le_of_ble_eq_true rfl) rfl ?_
  obtain ⟨R, hr⟩ : ∃ R, FX_count what M = R := ⟨_, rfl⟩
  rw [hr]
  unfold FX_count at hr
  refine gb_run 1 (pc2 := 1) (ls2 := [(0, .ref (0)), (1, .int (what))]) (st2 := [.int (what)]) (M2 := M) hC hqX11_count rfl ?_
  by_cases h1 : what = (0 : Int32)
  ·
    have hr := g_if1 h1 hr
    refine gb_tblIn (tgt := 28) hqX11_count rfl (by rw [h1]; first | done | decide) (by rw [h1]; first | done | decide) (by rw [h1]; first | done | rfl) (by decide) ?_
    refine gb_run 2 (pc2 := 32) (ls2 := [(0, .ref (0)), (1, .int (what))]) (st2 := [.int (M 0 14)]) (M2 := M) hC hqX11_count rfl ?_
    refine gb_iret hqX11_count rfl rfl (Nat.le_of_ble_eq_true rfl) (Nat.le_of_ble_eq_true rfl) ?_
    exact gl_It hr
  have hr := g_if0 h1 hr
  by_cases h2 : what = (1 : Int32)
  ·
    have hr := g_if1 h2 hr
    refine gb_tblIn (tgt := 33) hqX11_count rfl (by rw [h2]; first | done | decide) (by rw [h2]; first | done | decide) (by rw [h2]; first | done | rfl) (by decide) ?_
    refine gb_run 3 (pc2 := 40) (ls2 := [(0, .ref (0)), (1, .int (what))]) (st2 := [.int (M 1 1)]) (M2 := M) hC hqX11_count rfl ?_
    refine gb_iret hqX11_count rfl rfl (Nat.le_of_ble_eq_true rfl) (Nat.le_of_ble_eq_true rfl) ?_
    exact gl_It hr
  have hr := g_if0 h2 hr
  by_cases h3 : what = (2 : Int32)
  ·
    have hr := g_if1 h3 hr
    refine gb_tblIn (tgt := 41) hqX11_count rfl (by rw [h3]; first | done | decide) (by rw [h3]; first | done | decide) (by rw [h3]; first | done | rfl) (by decide) ?_
    refine gb_run 3 (pc2 := 48) (ls2 := [(0, .ref (0)), (1, .int (what))]) (st2 := [.int (M 47 2)]) (M2 := M) hC hqX11_count rfl ?_
    refine gb_iret hqX11_count rfl rfl (Nat.le_of_ble_eq_true rfl) (Nat.le_of_ble_eq_true rfl) ?_
    exact gl_It hr
  have hr := g_if0 h3 hr
  refine gb_tblOut (tgt := 49) hqX11_count rfl (by have q0 := gd_ne (z := 0) rfl h1; have q1 := gd_ne (z := 1) rfl h2; have q2 := gd_ne (z := 2) rfl h3; omega) (by decide) ?_
  refine gb_run 1 (pc2 := 50) (ls2 := [(0, .ref (0)), (1, .int (what))]) (st2 := [.int (-1)]) (M2 := M) hC hqX11_count rfl ?_
  refine gb_iret hqX11_count rfl rfl (Nat.le_of_ble_eq_true rfl) (Nat.le_of_ble_eq_true rfl) ?_
  exact gl_It hr
