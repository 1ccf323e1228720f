/-! guess, decompiled. -/
def FU_isRight_J49 (c : Int32) (h : Int32) (c6 : Int32 → Int32 → gM → Option (Int32 × gM)) (x4 : Int32) (x5 : Int32) (M : gM) : Option (Int32 × gM) :=
  (FB_minutesOf 48 x5 c h x5 M).bind fun s1 => c6 (x4 + s1.1) (x5 + (1 : Int32)) (s1.2)
set_option maxRecDepth 20000 in
theorem c_FU_isRight_J49 {l : Launch} {C : gC} (hC : g_ctx l C) (c : Int32) (h : Int32) (sz d : Nat) (hd : 4 ≤ d) (R : Int32 × gM) (c6 : Int32 → Int32 → gM → Option (Int32 × gM)) (hc6 : ∀ (x4 : Int32) (x5 : Int32) (M : gM), c6 x4 x5 M = some R → GW l C qX2_isRight d (gQg 956 g_S0 (qZ R) sz) gN 0 0 6 [(0, .ref (44)), (1, .ref (48)), (2, .int (c)), (3, .int (h)), (4, .int (x4)), (5, .int (x5))] [] (956, g_S0, M, sz)) (x4 : Int32) (x5 : Int32) (M : gM) (hr : FU_isRight_J49 c h c6 x4 x5 M = some R) : GW l C qX2_isRight d (gQg 956 g_S0 (qZ R) sz) gN 0 0 49 [(0, .ref (44)), (1, .ref (48)), (2, .int (c)), (3, .int (h)), (4, .int (x4)), (5, .int (x5))] [] (956, g_S0, M, sz) := by
  unfold FU_isRight_J49 at hr
  refine gb_run 8 (pc2 := 62) (ls2 := [(0, .ref (44)), (1, .ref (48)), (2, .int (c)), (3, .int (h)), (4, .int (x4)), (5, .int (x5))]) (st2 := [.int (x5), .int (h), .int (c), .int (x5), .ref (48), .ref (27), .int (x4)]) (M2 := M) hC hqX2_isRight rfl ?_
  obtain ⟨s1, es1, hr⟩ := g_bd hr
  refine gz_cV (z := qX0_minutesOf) (a := 27) (av := [.ref (48), .int (x5), .int (c), .int (h), .int (x5)]) (rest := [.int (x4)]) (pl := 1210) hC hqX2_isRight rfl kX0_minutesOf sX0_minutesOf (by decide +kernel) (c_FB_minutesOf hC 48 x5 c h x5 (by decide +kernel) M sz (d - 1) (by omega) s1 es1) (by omega) ⟨rfl, rfl⟩ rfl (Nat.le_of_ble_eq_true rfl) (Nat.le_of_ble_eq_true rfl) rfl rfl rfl (Nat.le_of_ble_eq_true rfl) ⟨Nat.le_of_ble_eq_true rfl, Nat.le_of_ble_eq_true rfl⟩ (gs_I ?_)
  refine gb_run 4 (pc2 := 6) (ls2 := [(5, .int (x5 + (1 : Int32))), (4, .int (x4 + s1.1)), (0, .ref (44)), (1, .ref (48)), (2, .int (c)), (3, .int (h))]) (st2 := []) (M2 := s1.2) hC hqX2_isRight rfl ?_
  refine gw_pick [2, 3, 4, 5, 1, 0] (ls2 := [(0, .ref (44)), (1, .ref (48)), (2, .int (c)), (3, .int (h)), (4, .int (x4 + s1.1)), (5, .int (x5 + (1 : Int32)))]) rfl ?_
  exact hc6 (x4 + s1.1) (x5 + (1 : Int32)) (s1.2) hr
def FU_isRight_L6 (c : Int32) (h : Int32) : Nat → Int32 → Int32 → gM → Option (Int32 × gM)
  | 0, _, _, _ => none
  | k + 1, x4, x5, M =>
  if (M 3 5) ≤ x5 then (some (1, M)) else (if (FS_hasGate x5 M) = (0 : Int32) then (FU_isRight_J49 c h (FU_isRight_L6 c h k) x4 x5 M) else (if (r_at (M 24) 8 x5) = x4 then (FU_isRight_J49 c h (FU_isRight_L6 c h k) x4 x5 M) else (some (0, M))))
set_option maxRecDepth 20000 in
theorem c_FU_isRight_L6 {l : Launch} {C : gC} (hC : g_ctx l C) (c : Int32) (h : Int32) (sz d : Nat) (hd : 4 ≤ d) (R : Int32 × gM) : ∀ (k : Nat) (x4 : Int32) (x5 : Int32) (M : gM), FU_isRight_L6 c h k x4 x5 M = some R → GW l C qX2_isRight d (gQg 956 g_S0 (qZ R) sz) gN 0 0 6 [(0, .ref (44)), (1, .ref (48)), (2, .int (c)), (3, .int (h)), (4, .int (x4)), (5, .int (x5))] [] (956, g_S0, M, sz) := by
  intro k
  induction k with
  | zero => intro x4 x5 M hr; exact nomatch (show (none : Option (Int32 × gM)) = some R from hr)
  | succ k ih =>
    intro x4 x5 M hr
    unfold FU_isRight_L6 at hr
    refine gb_run 4 (pc2 := 15) (ls2 := [(0, .ref (44)), (1, .ref (48)), (2, .int (c)), (3, .int (h)), (4, .int (x4)), (5, .int (x5))]) (st2 := [.int (M 3 5), .int (x5)]) (M2 := M) hC hqX2_isRight rfl ?_
    refine gb_icmp_ge hqX2_isRight rfl (fun h1 => ?_) (fun h1 => ?_)
    ·
      have hr := g_if1 h1 hr
      refine gb_run 1 (pc2 := 75) (ls2 := [(0, .ref (44)), (1, .ref (48)), (2, .int (c)), (3, .int (h)), (4, .int (x4)), (5, .int (x5))]) (st2 := [.int (1)]) (M2 := M) hC hqX2_isRight rfl ?_
      refine gb_zret hqX2_isRight rfl rfl (Nat.le_of_ble_eq_true rfl) (Nat.le_of_ble_eq_true rfl) (Or.inr rfl) ?_
      exact gl_Z (Or.inr rfl) hr
    ·
      have hr := g_if0 h1 hr
      refine gb_run 3 (pc2 := 24) (ls2 := [(0, .ref (44)), (1, .ref (48)), (2, .int (c)), (3, .int (h)), (4, .int (x4)), (5, .int (x5))]) (st2 := [.int (x5), .ref (23)]) (M2 := M) hC hqX2_isRight rfl ?_
      refine gz_cV (z := qX7_hasGate) (a := 23) (av := [.int (x5)]) (rest := []) (pl := 1208) hC hqX2_isRight rfl kX7_hasGate sX7_hasGate (by decide +kernel) (c_FS_hasGate hC x5  M sz (d - 1) (by omega)) (by omega) ⟨rfl, rfl⟩ rfl (Nat.le_of_ble_eq_true rfl) (Nat.le_of_ble_eq_true rfl) rfl rfl rfl (Nat.le_of_ble_eq_true rfl) ⟨Nat.le_of_ble_eq_true rfl, Nat.le_of_ble_eq_true rfl⟩ (gs_Zp fun z3 => ?_)
      refine gb_if_eq hqX2_isRight rfl (fun h4 => ?_) (fun h4 => ?_)
      ·
        have hr := g_if1 h4 hr
        exact c_FU_isRight_J49 hC c h sz d (by omega) R (FU_isRight_L6 c h k) ih x4 x5 M hr
      ·
        have hr := g_if0 h4 hr
        refine gb_run 4 (pc2 := 39) (ls2 := [(0, .ref (44)), (1, .ref (48)), (2, .int (c)), (3, .int (h)), (4, .int (x4)), (5, .int (x5))]) (st2 := [.int (x5), .ref (24)]) (M2 := M) hC hqX2_isRight rfl ?_
        refine gz_cSN (host := "HoopHours") (z := qX11_at) (av := [.ref (24), .int (x5)]) (rest := []) (pl := 1209) hC hqX2_isRight rfl kX11_at (by decide +kernel) (c_at hC 24 8 _ x5 M sz (d - 1) (by omega) (Nat.le_of_ble_eq_true rfl) rfl (Nat.le_of_ble_eq_true rfl)) (by omega) ⟨rfl, rfl⟩ rfl rfl (Nat.le_of_ble_eq_true rfl) ⟨Nat.le_of_ble_eq_true rfl, Nat.le_of_ble_eq_true rfl⟩ (gs_Ip (x := r_at (M 24) 8 x5) ?_)
        refine gb_run 1 (pc2 := 44) (ls2 := [(0, .ref (44)), (1, .ref (48)), (2, .int (c)), (3, .int (h)), (4, .int (x4)), (5, .int (x5))]) (st2 := [.int (x4), .int (r_at (M 24) 8 x5)]) (M2 := M) hC hqX2_isRight rfl ?_
        refine gb_icmp_eq hqX2_isRight rfl (fun h5 => ?_) (fun h5 => ?_)
        ·
          have hr := g_if1 h5 hr
          exact c_FU_isRight_J49 hC c h sz d (by omega) R (FU_isRight_L6 c h k) ih x4 x5 M hr
        ·
          have hr := g_if0 h5 hr
          refine gb_run 1 (pc2 := 48) (ls2 := [(0, .ref (44)), (1, .ref (48)), (2, .int (c)), (3, .int (h)), (4, .int (x4)), (5, .int (x5))]) (st2 := [.int (0)]) (M2 := M) hC hqX2_isRight rfl ?_
          refine gb_zret hqX2_isRight rfl rfl (Nat.le_of_ble_eq_true rfl) (Nat.le_of_ble_eq_true rfl) (Or.inl rfl) ?_
          exact gl_Z (Or.inl rfl) hr
def FU_isRight (c : Int32) (h : Int32) (M : gM) : Option (Int32 × gM) :=
  FU_isRight_L6 c h 1000 (0 : Int32) (0 : Int32) M
set_option maxRecDepth 20000 in
theorem c_FU_isRight {l : Launch} {C : gC} (hC : g_ctx l C) (c : Int32) (h : Int32)  (M : gM) (sz d : Nat) (hd : 4 ≤ d) (R : Int32 × gM) (hr : FU_isRight c h M = some R) : gPg l C qX2_isRight d [.ref (44), .ref (48), .int (c), .int (h)] 956 g_S0 M sz (qZ R) := by
  refine gPg.of (ls := [(0, .ref (44)), (1, .ref (48)), (2, .int (c)), (3, .int (h))]) (by decide +kernel) (Nat.le_of_ble_eq_true rfl) rfl ?_
  unfold FU_isRight at hr
  refine gb_run 4 (pc2 := 6) (ls2 := [(5, .int (0)), (4, .int (0)), (0, .ref (44)), (1, .ref (48)), (2, .int (c)), (3, .int (h))]) (st2 := []) (M2 := M) hC hqX2_isRight rfl ?_
  refine gw_pick [2, 3, 4, 5, 1, 0] (ls2 := [(0, .ref (44)), (1, .ref (48)), (2, .int (c)), (3, .int (h)), (4, .int (0)), (5, .int (0))]) rfl ?_
  exact c_FU_isRight_L6 hC c h sz d (by omega) R 1000 (0 : Int32) (0 : Int32) M hr
def FU_findFits_L20 (c7 : Int32 → gM → Option (gM)) : Nat → Int32 → Int32 → gM → Option (gM)
  | 0, _, _, _ => none
  | k + 1, x2, x3, M =>
  if (M 3 7) ≤ x3 then (c7 (x2 + (1 : Int32)) M) else ((FU_isRight x2 x3 M).bind fun s2 => if s2.1 = (0 : Int32) then (FU_findFits_L20 c7 k x2 (x3 + (1 : Int32)) (s2.2)) else (g_let (r_put (s2.2) 45 64 ((s2.2) 44 5) (((10 : Int32) * x2) + x3)) fun M5 => FU_findFits_L20 c7 k x2 (x3 + (1 : Int32)) (g_set M5 44 5 ((M5 44 5) + (1 : Int32)))))
set_option maxRecDepth 20000 in
theorem c_FU_findFits_L20 {l : Launch} {C : gC} (hC : g_ctx l C) (sz d : Nat) (hd : 5 ≤ d) (R : gM) (c7 : Int32 → gM → Option (gM)) (hc7 : ∀ (x2 : Int32) (M : gM), c7 x2 M = some R → GW l C qX2_findFits d (gQg 956 g_S0 (qV R) sz) gN 0 0 7 [(0, .ref (44)), (1, .ref (48)), (2, .int (x2))] [] (956, g_S0, M, sz)) : ∀ (k : Nat) (x2 : Int32) (x3 : Int32) (M : gM), FU_findFits_L20 c7 k x2 x3 M = some R → GW l C qX2_findFits d (gQg 956 g_S0 (qV R) sz) gN 0 0 20 [(0, .ref (44)), (1, .ref (48)), (2, .int (x2)), (3, .int (x3))] [] (956, g_S0, M, sz) := by
  intro k
  induction k with
  | zero => intro x2 x3 M hr; exact nomatch (show (none : Option (gM)) = some R from hr)
  | succ k ih =>
    intro x2 x3 M hr
    unfold FU_findFits_L20 at hr
    refine gb_run 4 (pc2 := 28) (ls2 := [(0, .ref (44)), (1, .ref (48)), (2, .int (x2)), (3, .int (x3))]) (st2 := [.int (M 3 7), .int (x3)]) (M2 := M) hC hqX2_findFits rfl ?_
    refine gb_icmp_ge hqX2_findFits rfl (fun h1 => ?_) (fun h1 => ?_)
    ·
      have hr := g_if1 h1 hr
      refine gb_run 2 (pc2 := 7) (ls2 := [(2, .int (x2 + (1 : Int32))), (0, .ref (44)), (1, .ref (48)), (3, .int (x3))]) (st2 := []) (M2 := M) hC hqX2_findFits rfl ?_
      refine gw_pick [1, 2, 0] (ls2 := [(0, .ref (44)), (1, .ref (48)), (2, .int (x2 + (1 : Int32)))]) rfl ?_
      exact hc7 (x2 + (1 : Int32)) M hr
    ·
      have hr := g_if0 h1 hr
      refine gb_run 4 (pc2 := 35) (ls2 := [(0, .ref (44)), (1, .ref (48)), (2, .int (x2)), (3, .int (x3))]) (st2 := [.int (x3), .int (x2), .ref (48), .ref (44)]) (M2 := M) hC hqX2_findFits rfl ?_
      obtain ⟨s2, es2, hr⟩ := g_bd hr
      refine gz_cV (z := qX2_isRight) (a := 44) (av := [.ref (48), .int (x2), .int (x3)]) (rest := []) (pl := 1204) hC hqX2_findFits rfl kX2_isRight sX2_isRight (by decide +kernel) (c_FU_isRight hC x2 x3  M sz (d - 1) (by omega) s2 es2) (by omega) ⟨rfl, rfl⟩ rfl (Nat.le_of_ble_eq_true rfl) (Nat.le_of_ble_eq_true rfl) rfl rfl rfl (Nat.le_of_ble_eq_true rfl) ⟨Nat.le_of_ble_eq_true rfl, Nat.le_of_ble_eq_true rfl⟩ (gs_Z fun z3 => ?_)
      refine gb_if_eq hqX2_findFits rfl (fun h4 => ?_) (fun h4 => ?_)
      ·
        have hr := g_if1 h4 hr
        refine gb_run 2 (pc2 := 20) (ls2 := [(3, .int (x3 + (1 : Int32))), (0, .ref (44)), (1, .ref (48)), (2, .int (x2))]) (st2 := []) (M2 := s2.2) hC hqX2_findFits rfl ?_
        refine gw_pick [1, 2, 3, 0] (ls2 := [(0, .ref (44)), (1, .ref (48)), (2, .int (x2)), (3, .int (x3 + (1 : Int32)))]) rfl ?_
        exact ih x2 (x3 + (1 : Int32)) (s2.2) hr
      ·
        have hr := g_if0 h4 hr
        refine gb_run 9 (pc2 := 55) (ls2 := [(0, .ref (44)), (1, .ref (48)), (2, .int (x2)), (3, .int (x3))]) (st2 := [.int (((10 : Int32) * x2) + x3), .int ((s2.2) 44 5), .ref (45)]) (M2 := s2.2) hC hqX2_findFits rfl ?_
        refine gz_cSN (host := "HoopHours") (z := qX11_put) (av := [.ref (45), .int ((s2.2) 44 5), .int (((10 : Int32) * x2) + x3)]) (rest := []) (pl := 1211) hC hqX2_findFits rfl kX11_put (by decide +kernel) (c_put hC 45 64 _ ((s2.2) 44 5) (((10 : Int32) * x2) + x3) (s2.2) sz (d - 1) (by omega) (Nat.le_of_ble_eq_true rfl) rfl (Nat.le_of_ble_eq_true rfl)) (by omega) ⟨rfl, rfl⟩ rfl rfl (Nat.le_of_ble_eq_true rfl) ⟨Nat.le_of_ble_eq_true rfl, Nat.le_of_ble_eq_true rfl⟩ (gs_V ?_)
        refine g_letP (P := fun M5 => GW l C qX2_findFits d (gQg 956 g_S0 (qV R) sz) gN 0 0 58 [(0, .ref (44)), (1, .ref (48)), (2, .int (x2)), (3, .int (x3))] [] (956, g_S0, M5, sz)) hr (fun M5 hr => ?_)
        refine gb_run 8 (pc2 := 20) (ls2 := [(3, .int (x3 + (1 : Int32))), (0, .ref (44)), (1, .ref (48)), (2, .int (x2))]) (st2 := []) (M2 := g_set M5 44 5 ((M5 44 5) + (1 : Int32))) hC hqX2_findFits rfl ?_
        refine gw_pick [1, 2, 3, 0] (ls2 := [(0, .ref (44)), (1, .ref (48)), (2, .int (x2)), (3, .int (x3 + (1 : Int32)))]) rfl ?_
        exact ih x2 (x3 + (1 : Int32)) (g_set M5 44 5 ((M5 44 5) + (1 : Int32))) hr
def FU_findFits_L7 : Nat → Int32 → gM → Option (gM)
  | 0, _, _ => none
  | k + 1, x2, M =>
  if (M 3 6) ≤ x2 then (if (M 44 5) = (0 : Int32) then (some (g_set M 44 6 (-1 : Int32))) else (some (g_set M 44 6 (r_at (M 45) 64 (0 : Int32))))) else (FU_findFits_L20 (FU_findFits_L7 k) 1000 x2 (0 : Int32) M)
set_option maxRecDepth 20000 in
theorem c_FU_findFits_L7 {l : Launch} {C : gC} (hC : g_ctx l C) (sz d : Nat) (hd : 5 ≤ d) (R : gM) : ∀ (k : Nat) (x2 : Int32) (M : gM), FU_findFits_L7 k x2 M = some R → GW l C qX2_findFits d (gQg 956 g_S0 (qV R) sz) gN 0 0 7 [(0, .ref (44)), (1, .ref (48)), (2, .int (x2))] [] (956, g_S0, M, sz) := by
  intro k
  induction k with
  | zero => intro x2 M hr; exact nomatch (show (none : Option (gM)) = some R from hr)
  | succ k ih =>
    intro x2 M hr
    unfold FU_findFits_L7 at hr
    refine gb_run 4 (pc2 := 15) (ls2 := [(0, .ref (44)), (1, .ref (48)), (2, .int (x2))]) (st2 := [.int (M 3 6), .int (x2)]) (M2 := M) hC hqX2_findFits rfl ?_
    refine gb_icmp_ge hqX2_findFits rfl (fun h1 => ?_) (fun h1 => ?_)
    ·
      have hr := g_if1 h1 hr
      refine gb_run 3 (pc2 := 85) (ls2 := [(0, .ref (44)), (1, .ref (48)), (2, .int (x2))]) (st2 := [.int (M 44 5), .ref (44)]) (M2 := M) hC hqX2_findFits rfl ?_
      refine gb_if_ne hqX2_findFits rfl (fun h2 => ?_) (fun h2 => ?_)
      ·
        have hr := g_if0 h2 hr
        refine gb_run 3 (pc2 := 97) (ls2 := [(0, .ref (44)), (1, .ref (48)), (2, .int (x2))]) (st2 := [.int (0), .ref (45), .ref (44)]) (M2 := M) hC hqX2_findFits rfl ?_
        refine gz_cSN (host := "HoopHours") (z := qX11_at) (av := [.ref (45), .int (0)]) (rest := [.ref (44)]) (pl := 1209) hC hqX2_findFits rfl kX11_at (by decide +kernel) (c_at hC 45 64 _ (0 : Int32) M sz (d - 1) (by omega) (Nat.le_of_ble_eq_true rfl) rfl (Nat.le_of_ble_eq_true rfl)) (by omega) ⟨rfl, rfl⟩ rfl rfl (Nat.le_of_ble_eq_true rfl) ⟨Nat.le_of_ble_eq_true rfl, Nat.le_of_ble_eq_true rfl⟩ (gs_Ip (x := r_at (M 45) 64 (0 : Int32)) ?_)
        refine gb_run 1 (pc2 := 103) (ls2 := [(0, .ref (44)), (1, .ref (48)), (2, .int (x2))]) (st2 := []) (M2 := g_set M 44 6 (r_at (M 45) 64 (0 : Int32))) hC hqX2_findFits rfl ?_
        refine gb_vret hqX2_findFits rfl rfl (Nat.le_of_ble_eq_true rfl) (Nat.le_of_ble_eq_true rfl) ?_
        exact gl_V hr
      ·
        have hr := g_if1 h2 hr
        refine gb_run 3 (pc2 := 103) (ls2 := [(0, .ref (44)), (1, .ref (48)), (2, .int (x2))]) (st2 := []) (M2 := g_set M 44 6 (-1 : Int32)) hC hqX2_findFits rfl ?_
        refine gb_vret hqX2_findFits rfl rfl (Nat.le_of_ble_eq_true rfl) (Nat.le_of_ble_eq_true rfl) ?_
        exact gl_V hr
    ·
      have hr := g_if0 h1 hr
      refine gb_run 2 (pc2 := 20) (ls2 := [(3, .int (0)), (0, .ref (44)), (1, .ref (48)), (2, .int (x2))]) (st2 := []) (M2 := M) hC hqX2_findFits rfl ?_
      refine gw_pick [1, 2, 3, 0] (ls2 := [(0, .ref (44)), (1, .ref (48)), (2, .int (x2)), (3, .int (0))]) rfl ?_
      exact c_FU_findFits_L20 hC sz d (by omega) R (FU_findFits_L7 k) ih 1000 x2 (0 : Int32) M hr
def FU_findFits  (M : gM) : Option (gM) :=
  FU_findFits_L7 1000 (0 : Int32) (g_set M 44 5 (0 : Int32))
set_option maxRecDepth 20000 in
theorem c_FU_findFits {l : Launch} {C : gC} (hC : g_ctx l C)   (M : gM) (sz d : Nat) (hd : 5 ≤ d) (R : gM) (hr : FU_findFits M = some R) : gPg l C qX2_findFits d [.ref (44), .ref (48)] 956 g_S0 M sz (qV R) := by
  refine gPg.of (ls := [(0, .ref (44)), (1, .ref (48))]) (by decide +kernel) (Nat.le_of_ble_eq_true rfl) rfl ?_
  unfold FU_findFits at hr
  refine gb_run 5 (pc2 := 7) (ls2 := [(2, .int (0)), (0, .ref (44)), (1, .ref (48))]) (st2 := []) (M2 := g_set M 44 5 (0 : Int32)) hC hqX2_findFits rfl ?_
  refine gw_pick [1, 2, 0] (ls2 := [(0, .ref (44)), (1, .ref (48)), (2, .int (0))]) rfl ?_
  exact c_FU_findFits_L7 hC sz d (by omega) R 1000 (0 : Int32) (g_set M 44 5 (0 : Int32)) hr
def FU_minuteAt_L6 (c : Int32) (h : Int32) (g : Int32) : Nat → Int32 → Int32 → gM → Option (Int32 × gM)
  | 0, _, _, _ => none
  | k + 1, x5, x6, M =>
  if g ≤ x6 then (some (x5, M)) else ((FB_minutesOf 48 x6 c h x6 M).bind fun s2 => FU_minuteAt_L6 c h g k (x5 + s2.1) (x6 + (1 : Int32)) (s2.2))
set_option maxRecDepth 20000 in
theorem c_FU_minuteAt_L6 {l : Launch} {C : gC} (hC : g_ctx l C) (c : Int32) (h : Int32) (g : Int32) (sz d : Nat) (hd : 4 ≤ d) (R : Int32 × gM) : ∀ (k : Nat) (x5 : Int32) (x6 : Int32) (M : gM), FU_minuteAt_L6 c h g k x5 x6 M = some R → GW l C qX2_minuteAt d (gQg 956 g_S0 (qI R) sz) gN 0 0 6 [(0, .ref (44)), (1, .ref (48)), (2, .int (c)), (3, .int (h)), (4, .int (g)), (5, .int (x5)), (6, .int (x6))] [] (956, g_S0, M, sz) := by
  intro k
  induction k with
  | zero => intro x5 x6 M hr; exact nomatch (show (none : Option (Int32 × gM)) = some R from hr)
  | succ k ih =>
    intro x5 x6 M hr
    unfold FU_minuteAt_L6 at hr
    refine gb_run 2 (pc2 := 10) (ls2 := [(0, .ref (44)), (1, .ref (48)), (2, .int (c)), (3, .int (h)), (4, .int (g)), (5, .int (x5)), (6, .int (x6))]) (st2 := [.int (g), .int (x6)]) (M2 := M) hC hqX2_minuteAt rfl ?_
    refine gb_icmp_ge hqX2_minuteAt rfl (fun h1 => ?_) (fun h1 => ?_)
    ·
      have hr := g_if1 h1 hr
      refine gb_run 1 (pc2 := 40) (ls2 := [(0, .ref (44)), (1, .ref (48)), (2, .int (c)), (3, .int (h)), (4, .int (g)), (5, .int (x5)), (6, .int (x6))]) (st2 := [.int (x5)]) (M2 := M) hC hqX2_minuteAt rfl ?_
      refine gb_iret hqX2_minuteAt rfl rfl (Nat.le_of_ble_eq_true rfl) (Nat.le_of_ble_eq_true rfl) ?_
      exact gl_I hr
    ·
      have hr := g_if0 h1 hr
      refine gb_run 8 (pc2 := 26) (ls2 := [(0, .ref (44)), (1, .ref (48)), (2, .int (c)), (3, .int (h)), (4, .int (g)), (5, .int (x5)), (6, .int (x6))]) (st2 := [.int (x6), .int (h), .int (c), .int (x6), .ref (48), .ref (27), .int (x5)]) (M2 := M) hC hqX2_minuteAt rfl ?_
      obtain ⟨s2, es2, hr⟩ := g_bd hr
      refine gz_cV (z := qX0_minutesOf) (a := 27) (av := [.ref (48), .int (x6), .int (c), .int (h), .int (x6)]) (rest := [.int (x5)]) (pl := 1210) hC hqX2_minuteAt rfl kX0_minutesOf sX0_minutesOf (by decide +kernel) (c_FB_minutesOf hC 48 x6 c h x6 (by decide +kernel) M sz (d - 1) (by omega) s2 es2) (by omega) ⟨rfl, rfl⟩ rfl (Nat.le_of_ble_eq_true rfl) (Nat.le_of_ble_eq_true rfl) rfl rfl rfl (Nat.le_of_ble_eq_true rfl) ⟨Nat.le_of_ble_eq_true rfl, Nat.le_of_ble_eq_true rfl⟩ (gs_I ?_)
      refine gb_run 4 (pc2 := 6) (ls2 := [(6, .int (x6 + (1 : Int32))), (5, .int (x5 + s2.1)), (0, .ref (44)), (1, .ref (48)), (2, .int (c)), (3, .int (h)), (4, .int (g))]) (st2 := []) (M2 := s2.2) hC hqX2_minuteAt rfl ?_
      refine gw_pick [2, 3, 4, 5, 6, 1, 0] (ls2 := [(0, .ref (44)), (1, .ref (48)), (2, .int (c)), (3, .int (h)), (4, .int (g)), (5, .int (x5 + s2.1)), (6, .int (x6 + (1 : Int32)))]) rfl ?_
      exact ih (x5 + s2.1) (x6 + (1 : Int32)) (s2.2) hr
def FU_minuteAt (c : Int32) (h : Int32) (g : Int32) (M : gM) : Option (Int32 × gM) :=
  FU_minuteAt_L6 c h g 1000 (0 : Int32) (0 : Int32) M
set_option maxRecDepth 20000 in
theorem c_FU_minuteAt {l : Launch} {C : gC} (hC : g_ctx l C) (c : Int32) (h : Int32) (g : Int32)  (M : gM) (sz d : Nat) (hd : 4 ≤ d) (R : Int32 × gM) (hr : FU_minuteAt c h g M = some R) : gPg l C qX2_minuteAt d [.ref (44), .ref (48), .int (c), .int (h), .int (g)] 956 g_S0 M sz (qI R) := by
  refine gPg.of (ls := [(0, .ref (44)), (1, .ref (48)), (2, .int (c)), (3, .int (h)), (4, .int (g))]) (by decide +kernel) (Nat.le_of_ble_eq_true rfl) rfl ?_
  unfold FU_minuteAt at hr
  refine gb_run 4 (pc2 := 6) (ls2 := [(6, .int (0)), (5, .int (0)), (0, .ref (44)), (1, .ref (48)), (2, .int (c)), (3, .int (h)), (4, .int (g))]) (st2 := []) (M2 := M) hC hqX2_minuteAt rfl ?_
  refine gw_pick [2, 3, 4, 5, 6, 1, 0] (ls2 := [(0, .ref (44)), (1, .ref (48)), (2, .int (c)), (3, .int (h)), (4, .int (g)), (5, .int (0)), (6, .int (0))]) rfl ?_
  exact c_FU_minuteAt_L6 hC c h g sz d (by omega) R 1000 (0 : Int32) (0 : Int32) M hr
def FU_mostAlike_L13 (g : Int32) : Nat → Int32 → Int32 → gM → Option (Int32 × gM)
  | 0, _, _, _ => none
  | k + 1, x3, x4, M =>
  if (M 44 5) ≤ x4 then (some (x3, M)) else ((FU_minuteAt ((r_at (M 45) 64 x4) / (10 : Int32)) ((r_at (M 45) 64 x4) - (r_at (M 45) 64 x4) / (10 : Int32) * (10 : Int32)) g M).bind fun s2 => g_let (r_put (s2.2) 46 1000 s2.1 ((r_at ((s2.2) 46) 1000 s2.1) + (1 : Int32))) fun M3 => FU_mostAlike_L13 g k (m_max x3 ((r_at ((s2.2) 46) 1000 s2.1) + (1 : Int32))) (x4 + (1 : Int32)) M3)
set_option maxRecDepth 20000 in
theorem c_FU_mostAlike_L13 {l : Launch} {C : gC} (hC : g_ctx l C) (g : Int32) (sz d : Nat) (hd : 5 ≤ d) (R : Int32 × gM) : ∀ (k : Nat) (x3 : Int32) (x4 : Int32) (M : gM), FU_mostAlike_L13 g k x3 x4 M = some R → GW l C qX2_mostAlike d (gQg 956 g_S0 (qI R) sz) gN 0 0 13 [(0, .ref (44)), (1, .ref (48)), (2, .int (g)), (3, .int (x3)), (4, .int (x4))] [] (956, g_S0, M, sz) := by
  intro k
  induction k with
  | zero => intro x3 x4 M hr; exact nomatch (show (none : Option (Int32 × gM)) = some R from hr)
  | succ k ih =>
    intro x3 x4 M hr
    unfold FU_mostAlike_L13 at hr
    refine gb_run 3 (pc2 := 19) (ls2 := [(0, .ref (44)), (1, .ref (48)), (2, .int (g)), (3, .int (x3)), (4, .int (x4))]) (st2 := [.int (M 44 5), .int (x4)]) (M2 := M) hC hqX2_mostAlike rfl ?_
    refine gb_icmp_ge hqX2_mostAlike rfl (fun h1 => ?_) (fun h1 => ?_)
    ·
      have hr := g_if1 h1 hr
      refine gb_run 1 (pc2 := 89) (ls2 := [(0, .ref (44)), (1, .ref (48)), (2, .int (g)), (3, .int (x3)), (4, .int (x4))]) (st2 := [.int (x3)]) (M2 := M) hC hqX2_mostAlike rfl ?_
      refine gb_iret hqX2_mostAlike rfl rfl (Nat.le_of_ble_eq_true rfl) (Nat.le_of_ble_eq_true rfl) ?_
      exact gl_I hr
    ·
      have hr := g_if0 h1 hr
      refine gb_run 3 (pc2 := 28) (ls2 := [(0, .ref (44)), (1, .ref (48)), (2, .int (g)), (3, .int (x3)), (4, .int (x4))]) (st2 := [.int (x4), .ref (45)]) (M2 := M) hC hqX2_mostAlike rfl ?_
      refine gz_cSN (host := "HoopHours") (z := qX11_at) (av := [.ref (45), .int (x4)]) (rest := []) (pl := 1209) hC hqX2_mostAlike rfl kX11_at (by decide +kernel) (c_at hC 45 64 _ x4 M sz (d - 1) (by omega) (Nat.le_of_ble_eq_true rfl) rfl (Nat.le_of_ble_eq_true rfl)) (by omega) ⟨rfl, rfl⟩ rfl rfl (Nat.le_of_ble_eq_true rfl) ⟨Nat.le_of_ble_eq_true rfl, Nat.le_of_ble_eq_true rfl⟩ (gs_Ip (x := r_at (M 45) 64 x4) ?_)
      refine gb_run 5 (pc2 := 39) (ls2 := [(5, .int (r_at (M 45) 64 x4)), (0, .ref (44)), (1, .ref (48)), (2, .int (g)), (3, .int (x3)), (4, .int (x4))]) (st2 := [.int (10), .int (r_at (M 45) 64 x4), .ref (48), .ref (44)]) (M2 := M) hC hqX2_mostAlike rfl ?_
      refine gb_idiv hqX2_mostAlike rfl (by decide) ?_
      refine gb_run 2 (pc2 := 44) (ls2 := [(5, .int (r_at (M 45) 64 x4)), (0, .ref (44)), (1, .ref (48)), (2, .int (g)), (3, .int (x3)), (4, .int (x4))]) (st2 := [.int (10), .int (r_at (M 45) 64 x4), .int ((r_at (M 45) 64 x4) / (10 : Int32)), .ref (48), .ref (44)]) (M2 := M) hC hqX2_mostAlike rfl ?_
      refine gb_irem hqX2_mostAlike rfl (by decide) ?_
      refine gb_run 1 (pc2 := 46) (ls2 := [(5, .int (r_at (M 45) 64 x4)), (0, .ref (44)), (1, .ref (48)), (2, .int (g)), (3, .int (x3)), (4, .int (x4))]) (st2 := [.int (g), .int ((r_at (M 45) 64 x4) - (r_at (M 45) 64 x4) / (10 : Int32) * (10 : Int32)), .int ((r_at (M 45) 64 x4) / (10 : Int32)), .ref (48), .ref (44)]) (M2 := M) hC hqX2_mostAlike rfl ?_
      obtain ⟨s2, es2, hr⟩ := g_bd hr
      refine gz_cV (z := qX2_minuteAt) (a := 44) (av := [.ref (48), .int ((r_at (M 45) 64 x4) / (10 : Int32)), .int ((r_at (M 45) 64 x4) - (r_at (M 45) 64 x4) / (10 : Int32) * (10 : Int32)), .int (g)]) (rest := []) (pl := 1229) hC hqX2_mostAlike rfl kX2_minuteAt sX2_minuteAt (by decide +kernel) (c_FU_minuteAt hC ((r_at (M 45) 64 x4) / (10 : Int32)) ((r_at (M 45) 64 x4) - (r_at (M 45) 64 x4) / (10 : Int32) * (10 : Int32)) g  M sz (d - 1) (by omega) s2 es2) (by omega) ⟨rfl, rfl⟩ rfl (Nat.le_of_ble_eq_true rfl) (Nat.le_of_ble_eq_true rfl) rfl rfl rfl (Nat.le_of_ble_eq_true rfl) ⟨Nat.le_of_ble_eq_true rfl, Nat.le_of_ble_eq_true rfl⟩ (gs_I ?_)
      refine gb_run 4 (pc2 := 57) (ls2 := [(6, .int (s2.1)), (5, .int (r_at (M 45) 64 x4)), (0, .ref (44)), (1, .ref (48)), (2, .int (g)), (3, .int (x3)), (4, .int (x4))]) (st2 := [.int (s2.1), .ref (46)]) (M2 := s2.2) hC hqX2_mostAlike rfl ?_
      refine gz_cSN (host := "HoopHours") (z := qX11_at) (av := [.ref (46), .int (s2.1)]) (rest := []) (pl := 1209) hC hqX2_mostAlike rfl kX11_at (by decide +kernel) (c_at hC 46 1000 _ s2.1 (s2.2) sz (d - 1) (by omega) (Nat.le_of_ble_eq_true rfl) rfl (Nat.le_of_ble_eq_true rfl)) (by omega) ⟨rfl, rfl⟩ rfl rfl (Nat.le_of_ble_eq_true rfl) ⟨Nat.le_of_ble_eq_true rfl, Nat.le_of_ble_eq_true rfl⟩ (gs_Ip (x := r_at ((s2.2) 46) 1000 s2.1) ?_)
      refine gb_run 7 (pc2 := 72) (ls2 := [(7, .int ((r_at ((s2.2) 46) 1000 s2.1) + (1 : Int32))), (6, .int (s2.1)), (5, .int (r_at (M 45) 64 x4)), (0, .ref (44)), (1, .ref (48)), (2, .int (g)), (3, .int (x3)), (4, .int (x4))]) (st2 := [.int ((r_at ((s2.2) 46) 1000 s2.1) + (1 : Int32)), .int (s2.1), .ref (46)]) (M2 := s2.2) hC hqX2_mostAlike rfl ?_
      refine gz_cSN (host := "HoopHours") (z := qX11_put) (av := [.ref (46), .int (s2.1), .int ((r_at ((s2.2) 46) 1000 s2.1) + (1 : Int32))]) (rest := []) (pl := 1211) hC hqX2_mostAlike rfl kX11_put (by decide +kernel) (c_put hC 46 1000 _ s2.1 ((r_at ((s2.2) 46) 1000 s2.1) + (1 : Int32)) (s2.2) sz (d - 1) (by omega) (Nat.le_of_ble_eq_true rfl) rfl (Nat.le_of_ble_eq_true rfl)) (by omega) ⟨rfl, rfl⟩ rfl rfl (Nat.le_of_ble_eq_true rfl) ⟨Nat.le_of_ble_eq_true rfl, Nat.le_of_ble_eq_true rfl⟩ (gs_V ?_)
      refine g_letP (P := fun M3 => GW l C qX2_mostAlike d (gQg 956 g_S0 (qI R) sz) gN 0 0 75 [(7, .int ((r_at ((s2.2) 46) 1000 s2.1) + (1 : Int32))), (6, .int (s2.1)), (5, .int (r_at (M 45) 64 x4)), (0, .ref (44)), (1, .ref (48)), (2, .int (g)), (3, .int (x3)), (4, .int (x4))] [] (956, g_S0, M3, sz)) hr (fun M3 hr => ?_)
      refine gb_run 2 (pc2 := 78) (ls2 := [(7, .int ((r_at ((s2.2) 46) 1000 s2.1) + (1 : Int32))), (6, .int (s2.1)), (5, .int (r_at (M 45) 64 x4)), (0, .ref (44)), (1, .ref (48)), (2, .int (g)), (3, .int (x3)), (4, .int (x4))]) (st2 := [.int ((r_at ((s2.2) 46) 1000 s2.1) + (1 : Int32)), .int (x3)]) (M2 := M3) hC hqX2_mostAlike rfl ?_
      refine gb_max (pl := 1233) hC hqX2_mostAlike rfl (by decide +kernel) (Nat.le_of_ble_eq_true rfl) (by omega) (Nat.le_of_ble_eq_true rfl) (Nat.le_of_ble_eq_true rfl) ?_
      refine gb_run 3 (pc2 := 13) (ls2 := [(4, .int (x4 + (1 : Int32))), (3, .int (m_max x3 ((r_at ((s2.2) 46) 1000 s2.1) + (1 : Int32)))), (7, .int ((r_at ((s2.2) 46) 1000 s2.1) + (1 : Int32))), (6, .int (s2.1)), (5, .int (r_at (M 45) 64 x4)), (0, .ref (44)), (1, .ref (48)), (2, .int (g))]) (st2 := []) (M2 := M3) hC hqX2_mostAlike rfl ?_
      refine gw_pick [5, 6, 7, 1, 0] (ls2 := [(0, .ref (44)), (1, .ref (48)), (2, .int (g)), (3, .int (m_max x3 ((r_at ((s2.2) 46) 1000 s2.1) + (1 : Int32)))), (4, .int (x4 + (1 : Int32)))]) rfl ?_
      exact ih (m_max x3 ((r_at ((s2.2) 46) 1000 s2.1) + (1 : Int32))) (x4 + (1 : Int32)) M3 hr
def FU_mostAlike (g : Int32) (M : gM) : Option (Int32 × gM) :=
  g_let (r_fill M 46 1000 (0 : Int32)) fun M1 => FU_mostAlike_L13 g 1000 (0 : Int32) (0 : Int32) M1
set_option maxRecDepth 20000 in
theorem c_FU_mostAlike {l : Launch} {C : gC} (hC : g_ctx l C) (g : Int32)  (M : gM) (sz d : Nat) (hd : 5 ≤ d) (R : Int32 × gM) (hr : FU_mostAlike g M = some R) : gPg l C qX2_mostAlike d [.ref (44), .ref (48), .int (g)] 956 g_S0 M sz (qI R) := by
  refine gPg.of (ls := [(0, .ref (44)), (1, .ref (48)), (2, .int (g))]) (by decide +kernel) (Nat.le_of_ble_eq_true rfl) rfl ?_
  unfold FU_mostAlike at hr
  refine gb_run 3 (pc2 := 5) (ls2 := [(0, .ref (44)), (1, .ref (48)), (2, .int (g))]) (st2 := [.int (0), .ref (46)]) (M2 := M) hC hqX2_mostAlike rfl ?_
  refine gz_cSN (host := "HoopHours") (z := qX11_fill) (av := [.ref (46), .int (0)]) (rest := []) (pl := 1228) hC hqX2_mostAlike rfl kX11_fill (by decide +kernel) (c_fill hC 956 g_S0 46 1000 _ (0 : Int32) M sz (d - 1) (by omega) (Nat.le_of_ble_eq_true rfl) rfl (Nat.le_of_ble_eq_true rfl)) (by omega) ⟨rfl, rfl⟩ rfl rfl (Nat.le_of_ble_eq_true rfl) ⟨Nat.le_of_ble_eq_true rfl, Nat.le_of_ble_eq_true rfl⟩ (gs_V ?_)
  refine g_letP (P := fun M1 => GW l C qX2_mostAlike d (gQg 956 g_S0 (qI R) sz) gN 0 0 8 [(0, .ref (44)), (1, .ref (48)), (2, .int (g))] [] (956, g_S0, M1, sz)) hr (fun M1 hr => ?_)
  refine gb_run 4 (pc2 := 13) (ls2 := [(4, .int (0)), (3, .int (0)), (0, .ref (44)), (1, .ref (48)), (2, .int (g))]) (st2 := []) (M2 := M1) hC hqX2_mostAlike rfl ?_
  refine gw_pick [2, 3, 4, 1, 0] (ls2 := [(0, .ref (44)), (1, .ref (48)), (2, .int (g)), (3, .int (0)), (4, .int (0))]) rfl ?_
  exact c_FU_mostAlike_L13 hC g sz d (by omega) R 1000 (0 : Int32) (0 : Int32) M1 hr
def FU_chooseGate_L17 : Nat → Int32 → gM → Option (gM)
  | 0, _, _ => none
  | k + 1, x2, M =>
  if (M 3 5) ≤ x2 then (some M) else (if (FS_hasGate x2 M) = (0 : Int32) then ((FU_mostAlike x2 M).bind fun s5 => if ((s5.2) 44 7) = (-1 : Int32) then (FU_chooseGate_L17 k (x2 + (1 : Int32)) (g_set (g_set (s5.2) 44 7 x2) 44 8 s5.1)) else (if ((s5.2) 44 8) ≤ s5.1 then (FU_chooseGate_L17 k (x2 + (1 : Int32)) (s5.2)) else (FU_chooseGate_L17 k (x2 + (1 : Int32)) (g_set (g_set (s5.2) 44 7 x2) 44 8 s5.1)))) else (FU_chooseGate_L17 k (x2 + (1 : Int32)) M))
set_option maxRecDepth 20000 in
theorem c_FU_chooseGate_L17 {l : Launch} {C : gC} (hC : g_ctx l C) (sz d : Nat) (hd : 6 ≤ d) (R : gM) : ∀ (k : Nat) (x2 : Int32) (M : gM), FU_chooseGate_L17 k x2 M = some R → GW l C qX2_chooseGate d (gQg 956 g_S0 (qV R) sz) gN 0 0 17 [(0, .ref (44)), (1, .ref (48)), (2, .int (x2))] [] (956, g_S0, M, sz) := by
  intro k
  induction k with
  | zero => intro x2 M hr; exact nomatch (show (none : Option (gM)) = some R from hr)
  | succ k ih =>
    intro x2 M hr
    unfold FU_chooseGate_L17 at hr
    refine gb_run 4 (pc2 := 25) (ls2 := [(0, .ref (44)), (1, .ref (48)), (2, .int (x2))]) (st2 := [.int (M 3 5), .int (x2)]) (M2 := M) hC hqX2_chooseGate rfl ?_
    refine gb_icmp_ge hqX2_chooseGate rfl (fun h1 => ?_) (fun h1 => ?_)
    ·
      have hr := g_if1 h1 hr
      refine gb_vret hqX2_chooseGate rfl rfl (Nat.le_of_ble_eq_true rfl) (Nat.le_of_ble_eq_true rfl) ?_
      exact gl_V hr
    ·
      have hr := g_if0 h1 hr
      refine gb_run 3 (pc2 := 33) (ls2 := [(0, .ref (44)), (1, .ref (48)), (2, .int (x2))]) (st2 := [.int (x2), .ref (23)]) (M2 := M) hC hqX2_chooseGate rfl ?_
      refine gz_cV (z := qX7_hasGate) (a := 23) (av := [.int (x2)]) (rest := []) (pl := 1208) hC hqX2_chooseGate rfl kX7_hasGate sX7_hasGate (by decide +kernel) (c_FS_hasGate hC x2  M sz (d - 1) (by omega)) (by omega) ⟨rfl, rfl⟩ rfl (Nat.le_of_ble_eq_true rfl) (Nat.le_of_ble_eq_true rfl) rfl rfl rfl (Nat.le_of_ble_eq_true rfl) ⟨Nat.le_of_ble_eq_true rfl, Nat.le_of_ble_eq_true rfl⟩ (gs_Zp fun z3 => ?_)
      refine gb_if_eq hqX2_chooseGate rfl (fun h4 => ?_) (fun h4 => ?_)
      ·
        have hr := g_if1 h4 hr
        refine gb_run 3 (pc2 := 45) (ls2 := [(0, .ref (44)), (1, .ref (48)), (2, .int (x2))]) (st2 := [.int (x2), .ref (48), .ref (44)]) (M2 := M) hC hqX2_chooseGate rfl ?_
        obtain ⟨s5, es5, hr⟩ := g_bd hr
        refine gz_cV (z := qX2_mostAlike) (a := 44) (av := [.ref (48), .int (x2)]) (rest := []) (pl := 1224) hC hqX2_chooseGate rfl kX2_mostAlike sX2_mostAlike (by decide +kernel) (c_FU_mostAlike hC x2  M sz (d - 1) (by omega) s5 es5) (by omega) ⟨rfl, rfl⟩ rfl (Nat.le_of_ble_eq_true rfl) (Nat.le_of_ble_eq_true rfl) rfl rfl rfl (Nat.le_of_ble_eq_true rfl) ⟨Nat.le_of_ble_eq_true rfl, Nat.le_of_ble_eq_true rfl⟩ (gs_I ?_)
        refine gb_run 4 (pc2 := 54) (ls2 := [(3, .int (s5.1)), (0, .ref (44)), (1, .ref (48)), (2, .int (x2))]) (st2 := [.int (-1), .int ((s5.2) 44 7)]) (M2 := s5.2) hC hqX2_chooseGate rfl ?_
        refine gb_icmp_eq hqX2_chooseGate rfl (fun h6 => ?_) (fun h6 => ?_)
        ·
          have hr := g_if1 h6 hr
          refine gb_run 8 (pc2 := 17) (ls2 := [(2, .int (x2 + (1 : Int32))), (3, .int (s5.1)), (0, .ref (44)), (1, .ref (48))]) (st2 := []) (M2 := g_set (g_set (s5.2) 44 7 x2) 44 8 s5.1) hC hqX2_chooseGate rfl ?_
          refine gw_pick [2, 3, 0] (ls2 := [(0, .ref (44)), (1, .ref (48)), (2, .int (x2 + (1 : Int32)))]) rfl ?_
          exact ih (x2 + (1 : Int32)) (g_set (g_set (s5.2) 44 7 x2) 44 8 s5.1) hr
        ·
          have hr := g_if0 h6 hr
          refine gb_run 3 (pc2 := 62) (ls2 := [(3, .int (s5.1)), (0, .ref (44)), (1, .ref (48)), (2, .int (x2))]) (st2 := [.int ((s5.2) 44 8), .int (s5.1)]) (M2 := s5.2) hC hqX2_chooseGate rfl ?_
          refine gb_icmp_ge hqX2_chooseGate rfl (fun h7 => ?_) (fun h7 => ?_)
          ·
            have hr := g_if1 h7 hr
            refine gb_run 2 (pc2 := 17) (ls2 := [(2, .int (x2 + (1 : Int32))), (3, .int (s5.1)), (0, .ref (44)), (1, .ref (48))]) (st2 := []) (M2 := s5.2) hC hqX2_chooseGate rfl ?_
            refine gw_pick [2, 3, 0] (ls2 := [(0, .ref (44)), (1, .ref (48)), (2, .int (x2 + (1 : Int32)))]) rfl ?_
            exact ih (x2 + (1 : Int32)) (s5.2) hr
          ·
            have hr := g_if0 h7 hr
            refine gb_run 8 (pc2 := 17) (ls2 := [(2, .int (x2 + (1 : Int32))), (3, .int (s5.1)), (0, .ref (44)), (1, .ref (48))]) (st2 := []) (M2 := g_set (g_set (s5.2) 44 7 x2) 44 8 s5.1) hC hqX2_chooseGate rfl ?_
            refine gw_pick [2, 3, 0] (ls2 := [(0, .ref (44)), (1, .ref (48)), (2, .int (x2 + (1 : Int32)))]) rfl ?_
            exact ih (x2 + (1 : Int32)) (g_set (g_set (s5.2) 44 7 x2) 44 8 s5.1) hr
      ·
        have hr := g_if0 h4 hr
        refine gb_run 3 (pc2 := 17) (ls2 := [(2, .int (x2 + (1 : Int32))), (0, .ref (44)), (1, .ref (48))]) (st2 := []) (M2 := M) hC hqX2_chooseGate rfl ?_
        refine gw_pick [1, 2, 0] (ls2 := [(0, .ref (44)), (1, .ref (48)), (2, .int (x2 + (1 : Int32)))]) rfl ?_
        exact ih (x2 + (1 : Int32)) M hr
def FU_chooseGate  (M : gM) : Option (gM) :=
  (FU_findFits M).bind fun s1 => FU_chooseGate_L17 1000 (1 : Int32) (g_set (g_set s1 44 7 (-1 : Int32)) 44 8 (-1 : Int32))
set_option maxRecDepth 20000 in
theorem c_FU_chooseGate {l : Launch} {C : gC} (hC : g_ctx l C)   (M : gM) (sz d : Nat) (hd : 6 ≤ d) (R : gM) (hr : FU_chooseGate M = some R) : gPg l C qX2_chooseGate d [.ref (44), .ref (48)] 956 g_S0 M sz (qV R) := by
  refine gPg.of (ls := [(0, .ref (44)), (1, .ref (48))]) (by decide +kernel) (Nat.le_of_ble_eq_true rfl) rfl ?_
  unfold FU_chooseGate at hr
  refine gb_run 2 (pc2 := 2) (ls2 := [(0, .ref (44)), (1, .ref (48))]) (st2 := [.ref (48), .ref (44)]) (M2 := M) hC hqX2_chooseGate rfl ?_
  obtain ⟨s1, es1, hr⟩ := g_bd hr
  refine gz_cV (z := qX2_findFits) (a := 44) (av := [.ref (48)]) (rest := []) (pl := 1223) hC hqX2_chooseGate rfl kX2_findFits sX2_findFits (by decide +kernel) (c_FU_findFits hC   M sz (d - 1) (by omega) s1 es1) (by omega) ⟨rfl, rfl⟩ rfl (Nat.le_of_ble_eq_true rfl) (Nat.le_of_ble_eq_true rfl) rfl rfl rfl (Nat.le_of_ble_eq_true rfl) ⟨Nat.le_of_ble_eq_true rfl, Nat.le_of_ble_eq_true rfl⟩ (gs_V ?_)
  refine gb_run 8 (pc2 := 17) (ls2 := [(2, .int (1)), (0, .ref (44)), (1, .ref (48))]) (st2 := []) (M2 := g_set (g_set s1 44 7 (-1 : Int32)) 44 8 (-1 : Int32)) hC hqX2_chooseGate rfl ?_
  refine gw_pick [1, 2, 0] (ls2 := [(0, .ref (44)), (1, .ref (48)), (2, .int (1))]) rfl ?_
  exact c_FU_chooseGate_L17 hC sz d (by omega) R 1000 (1 : Int32) (g_set (g_set s1 44 7 (-1 : Int32)) 44 8 (-1 : Int32)) hr
