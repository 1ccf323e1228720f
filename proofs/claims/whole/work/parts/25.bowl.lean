/-! bowl, decompiled. -/
def FB_minutesOf (a : Nat) (w : Int32) (c : Int32) (h : Int32) (t : Int32) (M : gM) : Option (Int32 × gM) :=
  (FL_outcome (g_set (g_set (g_set (g_set (g_set (g_set (g_set (g_set (g_set M 15 5 (r_at (M 4) 8 w)) 15 6 (r_at (M 6) 8 c)) 15 7 (r_at (M 7) 8 c)) 15 8 (r_at (M 8) 8 h)) 15 9 (m_min (99 : Int32) t)) 15 10 ((g_set (g_set (g_set (g_set (g_set M 15 5 (r_at (M 4) 8 w)) 15 6 (r_at (M 6) 8 c)) 15 7 (r_at (M 7) 8 c)) 15 8 (r_at (M 8) 8 h)) 15 9 (m_min (99 : Int32) t)) a 10)) 15 11 w) 15 12 h) 15 13 (r_at ((g_set (g_set (g_set (g_set (g_set (g_set (g_set (g_set M 15 5 (r_at (M 4) 8 w)) 15 6 (r_at (M 6) 8 c)) 15 7 (r_at (M 7) 8 c)) 15 8 (r_at (M 8) 8 h)) 15 9 (m_min (99 : Int32) t)) 15 10 ((g_set (g_set (g_set (g_set (g_set M 15 5 (r_at (M 4) 8 w)) 15 6 (r_at (M 6) 8 c)) 15 7 (r_at (M 7) 8 c)) 15 8 (r_at (M 8) 8 h)) 15 9 (m_min (99 : Int32) t)) a 10)) 15 11 w) 15 12 h) (a + 2)) 8 c))).bind fun s1 => some (s1.1, s1.2)
set_option maxRecDepth 20000 in
theorem c_FB_minutesOf {l : Launch} {C : gC} (hC : g_ctx l C) (a : Nat) (w : Int32) (c : Int32) (h : Int32) (t : Int32) (ha : g_St 956 g_S0 a) (M : gM) (sz d : Nat) (hd : 3 ≤ d) (R : Int32 × gM) (hr : FB_minutesOf a w c h t M = some R) : gPg l C qX0_minutesOf d [.ref (27), .ref (a), .int (w), .int (c), .int (h), .int (t)] 956 g_S0 M sz (qI R) := by
  refine gPg.of (ls := [(0, .ref (27)), (1, .ref (a)), (2, .int (w)), (3, .int (c)), (4, .int (h)), (5, .int (t))]) (by decide +kernel) (Nat.le_of_ble_eq_true rfl) rfl ?_
  unfold FB_minutesOf at hr
  refine gb_run 6 (pc2 := 12) (ls2 := [(0, .ref (27)), (1, .ref (a)), (2, .int (w)), (3, .int (c)), (4, .int (h)), (5, .int (t))]) (st2 := [.int (w), .ref (4), .ref (15)]) (M2 := M) hC hqX0_minutesOf rfl ?_
  refine gz_cSN (host := "HoopHours") (z := qX11_at) (av := [.ref (4), .int (w)]) (rest := [.ref (15)]) (pl := 581) hC hqX0_minutesOf rfl kX11_at (by decide +kernel) (c_at hC 4 8 _ w M sz (d - 1) (by omega) (Nat.le_of_ble_eq_true rfl) rfl (Nat.le_of_ble_eq_true rfl)) (by omega) ⟨rfl, rfl⟩ rfl rfl (Nat.le_of_ble_eq_true rfl) ⟨Nat.le_of_ble_eq_true rfl, Nat.le_of_ble_eq_true rfl⟩ (gs_Ip (x := r_at (M 4) 8 w) ?_)
  refine gb_run 7 (pc2 := 30) (ls2 := [(0, .ref (27)), (1, .ref (a)), (2, .int (w)), (3, .int (c)), (4, .int (h)), (5, .int (t))]) (st2 := [.int (c), .ref (6), .ref (15)]) (M2 := g_set M 15 5 (r_at (M 4) 8 w)) hC hqX0_minutesOf rfl ?_
  refine gz_cSN (host := "HoopHours") (z := qX11_at) (av := [.ref (6), .int (c)]) (rest := [.ref (15)]) (pl := 581) hC hqX0_minutesOf rfl kX11_at (by decide +kernel) (c_at hC 6 8 _ c (g_set M 15 5 (r_at (M 4) 8 w)) sz (d - 1) (by omega) (Nat.le_of_ble_eq_true rfl) rfl (Nat.le_of_ble_eq_true rfl)) (by omega) ⟨rfl, rfl⟩ rfl rfl (Nat.le_of_ble_eq_true rfl) ⟨Nat.le_of_ble_eq_true rfl, Nat.le_of_ble_eq_true rfl⟩ (gs_Ip (x := r_at (M 6) 8 c) ?_)
  refine gb_run 7 (pc2 := 48) (ls2 := [(0, .ref (27)), (1, .ref (a)), (2, .int (w)), (3, .int (c)), (4, .int (h)), (5, .int (t))]) (st2 := [.int (c), .ref (7), .ref (15)]) (M2 := g_set (g_set M 15 5 (r_at (M 4) 8 w)) 15 6 (r_at (M 6) 8 c)) hC hqX0_minutesOf rfl ?_
  refine gz_cSN (host := "HoopHours") (z := qX11_at) (av := [.ref (7), .int (c)]) (rest := [.ref (15)]) (pl := 581) hC hqX0_minutesOf rfl kX11_at (by decide +kernel) (c_at hC 7 8 _ c (g_set (g_set M 15 5 (r_at (M 4) 8 w)) 15 6 (r_at (M 6) 8 c)) sz (d - 1) (by omega) (Nat.le_of_ble_eq_true rfl) rfl (Nat.le_of_ble_eq_true rfl)) (by omega) ⟨rfl, rfl⟩ rfl rfl (Nat.le_of_ble_eq_true rfl) ⟨Nat.le_of_ble_eq_true rfl, Nat.le_of_ble_eq_true rfl⟩ (gs_Ip (x := r_at (M 7) 8 c) ?_)
  refine gb_run 7 (pc2 := 67) (ls2 := [(0, .ref (27)), (1, .ref (a)), (2, .int (w)), (3, .int (c)), (4, .int (h)), (5, .int (t))]) (st2 := [.int (h), .ref (8), .ref (15)]) (M2 := g_set (g_set (g_set M 15 5 (r_at (M 4) 8 w)) 15 6 (r_at (M 6) 8 c)) 15 7 (r_at (M 7) 8 c)) hC hqX0_minutesOf rfl ?_
  refine gz_cSN (host := "HoopHours") (z := qX11_at) (av := [.ref (8), .int (h)]) (rest := [.ref (15)]) (pl := 581) hC hqX0_minutesOf rfl kX11_at (by decide +kernel) (c_at hC 8 8 _ h (g_set (g_set (g_set M 15 5 (r_at (M 4) 8 w)) 15 6 (r_at (M 6) 8 c)) 15 7 (r_at (M 7) 8 c)) sz (d - 1) (by omega) (Nat.le_of_ble_eq_true rfl) rfl (Nat.le_of_ble_eq_true rfl)) (by omega) ⟨rfl, rfl⟩ rfl rfl (Nat.le_of_ble_eq_true rfl) ⟨Nat.le_of_ble_eq_true rfl, Nat.le_of_ble_eq_true rfl⟩ (gs_Ip (x := r_at (M 8) 8 h) ?_)
  refine gb_run 5 (pc2 := 81) (ls2 := [(0, .ref (27)), (1, .ref (a)), (2, .int (w)), (3, .int (c)), (4, .int (h)), (5, .int (t))]) (st2 := [.int (t), .int (99), .ref (15)]) (M2 := g_set (g_set (g_set (g_set M 15 5 (r_at (M 4) 8 w)) 15 6 (r_at (M 6) 8 c)) 15 7 (r_at (M 7) 8 c)) 15 8 (r_at (M 8) 8 h)) hC hqX0_minutesOf rfl ?_
  refine gb_min (pl := 592) hC hqX0_minutesOf rfl (by decide +kernel) (Nat.le_of_ble_eq_true rfl) (by omega) (Nat.le_of_ble_eq_true rfl) (Nat.le_of_ble_eq_true rfl) ?_
  refine gb_run 4 (pc2 := 92) (ls2 := [(0, .ref (27)), (1, .ref (a)), (2, .int (w)), (3, .int (c)), (4, .int (h)), (5, .int (t))]) (st2 := [.ref (a), .ref (15)]) (M2 := g_set (g_set (g_set (g_set (g_set M 15 5 (r_at (M 4) 8 w)) 15 6 (r_at (M 6) 8 c)) 15 7 (r_at (M 7) 8 c)) 15 8 (r_at (M 8) 8 h)) 15 9 (m_min (99 : Int32) t)) hC hqX0_minutesOf rfl ?_
  refine gz_geti hC hqX0_minutesOf rfl ha.1.1 (g_S3 ha.1.2.1 ha.1.2.2) rfl ((ha.2.1 10 (by decide)).trans rfl) ?_
  refine gb_run 12 (pc2 := 120) (ls2 := [(0, .ref (27)), (1, .ref (a)), (2, .int (w)), (3, .int (c)), (4, .int (h)), (5, .int (t))]) (st2 := [.ref (a), .ref (15)]) (M2 := g_set (g_set (g_set (g_set (g_set (g_set (g_set (g_set M 15 5 (r_at (M 4) 8 w)) 15 6 (r_at (M 6) 8 c)) 15 7 (r_at (M 7) 8 c)) 15 8 (r_at (M 8) 8 h)) 15 9 (m_min (99 : Int32) t)) 15 10 ((g_set (g_set (g_set (g_set (g_set M 15 5 (r_at (M 4) 8 w)) 15 6 (r_at (M 6) 8 c)) 15 7 (r_at (M 7) 8 c)) 15 8 (r_at (M 8) 8 h)) 15 9 (m_min (99 : Int32) t)) a 10)) 15 11 w) 15 12 h) hC hqX0_minutesOf rfl ?_
  refine gz_getr (q := a + 2) hC hqX0_minutesOf rfl ha.1.1 (g_S3 ha.1.2.1 ha.1.2.2) rfl ((ha.2.1 1 (by decide)).trans rfl) ?_
  refine gb_run 1 (pc2 := 124) (ls2 := [(0, .ref (27)), (1, .ref (a)), (2, .int (w)), (3, .int (c)), (4, .int (h)), (5, .int (t))]) (st2 := [.int (c), .ref (a + 2), .ref (15)]) (M2 := g_set (g_set (g_set (g_set (g_set (g_set (g_set (g_set M 15 5 (r_at (M 4) 8 w)) 15 6 (r_at (M 6) 8 c)) 15 7 (r_at (M 7) 8 c)) 15 8 (r_at (M 8) 8 h)) 15 9 (m_min (99 : Int32) t)) 15 10 ((g_set (g_set (g_set (g_set (g_set M 15 5 (r_at (M 4) 8 w)) 15 6 (r_at (M 6) 8 c)) 15 7 (r_at (M 7) 8 c)) 15 8 (r_at (M 8) 8 h)) 15 9 (m_min (99 : Int32) t)) a 10)) 15 11 w) 15 12 h) hC hqX0_minutesOf rfl ?_
  refine gz_cSN (host := "HoopHours") (z := qX11_at) (av := [.ref (a + 2), .int (c)]) (rest := [.ref (15)]) (pl := 581) hC hqX0_minutesOf rfl kX11_at (by decide +kernel) (c_at hC (a + 2) 8 _ c (g_set (g_set (g_set (g_set (g_set (g_set (g_set (g_set M 15 5 (r_at (M 4) 8 w)) 15 6 (r_at (M 6) 8 c)) 15 7 (r_at (M 7) 8 c)) 15 8 (r_at (M 8) 8 h)) 15 9 (m_min (99 : Int32) t)) 15 10 ((g_set (g_set (g_set (g_set (g_set M 15 5 (r_at (M 4) 8 w)) 15 6 (r_at (M 6) 8 c)) 15 7 (r_at (M 7) 8 c)) 15 8 (r_at (M 8) 8 h)) 15 9 (m_min (99 : Int32) t)) a 10)) 15 11 w) 15 12 h) sz (d - 1) (by omega) (ha.2.2 1 (by decide)).1 (g_S3 (ha.2.2 1 (by decide)).2.1 (ha.2.2 1 (by decide)).2.2) (Nat.le_of_ble_eq_true rfl)) (by omega) ⟨rfl, rfl⟩ rfl rfl (Nat.le_of_ble_eq_true rfl) ⟨Nat.le_of_ble_eq_true rfl, Nat.le_of_ble_eq_true rfl⟩ (gs_Ip (x := r_at ((g_set (g_set (g_set (g_set (g_set (g_set (g_set (g_set M 15 5 (r_at (M 4) 8 w)) 15 6 (r_at (M 6) 8 c)) 15 7 (r_at (M 7) 8 c)) 15 8 (r_at (M 8) 8 h)) 15 9 (m_min (99 : Int32) t)) 15 10 ((g_set (g_set (g_set (g_set (g_set M 15 5 (r_at (M 4) 8 w)) 15 6 (r_at (M 6) 8 c)) 15 7 (r_at (M 7) 8 c)) 15 8 (r_at (M 8) 8 h)) 15 9 (m_min (99 : Int32) t)) a 10)) 15 11 w) 15 12 h) (a + 2)) 8 c) ?_)
  refine gb_run 3 (pc2 := 134) (ls2 := [(0, .ref (27)), (1, .ref (a)), (2, .int (w)), (3, .int (c)), (4, .int (h)), (5, .int (t))]) (st2 := [.ref (15)]) (M2 := g_set (g_set (g_set (g_set (g_set (g_set (g_set (g_set (g_set M 15 5 (r_at (M 4) 8 w)) 15 6 (r_at (M 6) 8 c)) 15 7 (r_at (M 7) 8 c)) 15 8 (r_at (M 8) 8 h)) 15 9 (m_min (99 : Int32) t)) 15 10 ((g_set (g_set (g_set (g_set (g_set M 15 5 (r_at (M 4) 8 w)) 15 6 (r_at (M 6) 8 c)) 15 7 (r_at (M 7) 8 c)) 15 8 (r_at (M 8) 8 h)) 15 9 (m_min (99 : Int32) t)) a 10)) 15 11 w) 15 12 h) 15 13 (r_at ((g_set (g_set (g_set (g_set (g_set (g_set (g_set (g_set M 15 5 (r_at (M 4) 8 w)) 15 6 (r_at (M 6) 8 c)) 15 7 (r_at (M 7) 8 c)) 15 8 (r_at (M 8) 8 h)) 15 9 (m_min (99 : Int32) t)) 15 10 ((g_set (g_set (g_set (g_set (g_set M 15 5 (r_at (M 4) 8 w)) 15 6 (r_at (M 6) 8 c)) 15 7 (r_at (M 7) 8 c)) 15 8 (r_at (M 8) 8 h)) 15 9 (m_min (99 : Int32) t)) a 10)) 15 11 w) 15 12 h) (a + 2)) 8 c)) hC hqX0_minutesOf rfl ?_
  obtain ⟨s1, es1, hr⟩ := g_bd hr
  refine gz_cV (z := qX4_outcome) (a := 15) (av := []) (rest := []) (pl := 595) hC hqX0_minutesOf rfl kX4_outcome sX4_outcome (by decide +kernel) (c_FL_outcome hC   (g_set (g_set (g_set (g_set (g_set (g_set (g_set (g_set (g_set M 15 5 (r_at (M 4) 8 w)) 15 6 (r_at (M 6) 8 c)) 15 7 (r_at (M 7) 8 c)) 15 8 (r_at (M 8) 8 h)) 15 9 (m_min (99 : Int32) t)) 15 10 ((g_set (g_set (g_set (g_set (g_set M 15 5 (r_at (M 4) 8 w)) 15 6 (r_at (M 6) 8 c)) 15 7 (r_at (M 7) 8 c)) 15 8 (r_at (M 8) 8 h)) 15 9 (m_min (99 : Int32) t)) a 10)) 15 11 w) 15 12 h) 15 13 (r_at ((g_set (g_set (g_set (g_set (g_set (g_set (g_set (g_set M 15 5 (r_at (M 4) 8 w)) 15 6 (r_at (M 6) 8 c)) 15 7 (r_at (M 7) 8 c)) 15 8 (r_at (M 8) 8 h)) 15 9 (m_min (99 : Int32) t)) 15 10 ((g_set (g_set (g_set (g_set (g_set M 15 5 (r_at (M 4) 8 w)) 15 6 (r_at (M 6) 8 c)) 15 7 (r_at (M 7) 8 c)) 15 8 (r_at (M 8) 8 h)) 15 9 (m_min (99 : Int32) t)) a 10)) 15 11 w) 15 12 h) (a + 2)) 8 c)) sz (d - 1) (by omega) s1 es1) (by omega) ⟨rfl, rfl⟩ rfl (Nat.le_of_ble_eq_true rfl) (Nat.le_of_ble_eq_true rfl) rfl rfl rfl (Nat.le_of_ble_eq_true rfl) ⟨Nat.le_of_ble_eq_true rfl, Nat.le_of_ble_eq_true rfl⟩ (gs_I ?_)
  refine gb_iret hqX0_minutesOf rfl rfl (Nat.le_of_ble_eq_true rfl) (Nat.le_of_ble_eq_true rfl) ?_
  exact gl_I hr
def FB_longOf_L16 (a : Nat) (h : Int32) (c : Int32) : Nat → Int32 → Int32 → Int32 → gM → Option (Int32 × gM)
  | 0, _, _, _, _ => none
  | k + 1, x4, x5, x6, M =>
  if (M 3 5) ≤ x6 then (some (x5, M)) else ((FB_minutesOf a x6 c h (x4 + x6) M).bind fun s2 => FB_longOf_L16 a h c k x4 (x5 + s2.1) (x6 + (1 : Int32)) (s2.2))
set_option maxRecDepth 20000 in
theorem c_FB_longOf_L16 {l : Launch} {C : gC} (hC : g_ctx l C) (a : Nat) (h : Int32) (c : Int32) (ha : g_St 956 g_S0 a) (sz d : Nat) (hd : 4 ≤ d) (R : Int32 × gM) : ∀ (k : Nat) (x4 : Int32) (x5 : Int32) (x6 : Int32) (M : gM), FB_longOf_L16 a h c k x4 x5 x6 M = some R → GW l C qX0_longOf d (gQg 956 g_S0 (qI R) sz) gN 0 0 16 [(0, .ref (27)), (1, .ref (a)), (2, .int (h)), (3, .int (c)), (4, .int (x4)), (5, .int (x5)), (6, .int (x6))] [] (956, g_S0, M, sz) := by
  intro k
  induction k with
  | zero => intro x4 x5 x6 M hr; exact nomatch (show (none : Option (Int32 × gM)) = some R from hr)
  | succ k ih =>
    intro x4 x5 x6 M hr
    unfold FB_longOf_L16 at hr
    refine gb_run 4 (pc2 := 25) (ls2 := [(0, .ref (27)), (1, .ref (a)), (2, .int (h)), (3, .int (c)), (4, .int (x4)), (5, .int (x5)), (6, .int (x6))]) (st2 := [.int (M 3 5), .int (x6)]) (M2 := M) hC hqX0_longOf rfl ?_
    refine gb_icmp_ge hqX0_longOf rfl (fun h1 => ?_) (fun h1 => ?_)
    ·
      have hr := g_if1 h1 hr
      refine gb_run 1 (pc2 := 55) (ls2 := [(0, .ref (27)), (1, .ref (a)), (2, .int (h)), (3, .int (c)), (4, .int (x4)), (5, .int (x5)), (6, .int (x6))]) (st2 := [.int (x5)]) (M2 := M) hC hqX0_longOf rfl ?_
      refine gb_iret hqX0_longOf rfl rfl (Nat.le_of_ble_eq_true rfl) (Nat.le_of_ble_eq_true rfl) ?_
      exact gl_I hr
    ·
      have hr := g_if0 h1 hr
      refine gb_run 9 (pc2 := 41) (ls2 := [(0, .ref (27)), (1, .ref (a)), (2, .int (h)), (3, .int (c)), (4, .int (x4)), (5, .int (x5)), (6, .int (x6))]) (st2 := [.int (x4 + x6), .int (h), .int (c), .int (x6), .ref (a), .ref (27), .int (x5)]) (M2 := M) hC hqX0_longOf rfl ?_
      obtain ⟨s2, es2, hr⟩ := g_bd hr
      refine gz_cV (z := qX0_minutesOf) (a := 27) (av := [.ref (a), .int (x6), .int (c), .int (h), .int (x4 + x6)]) (rest := [.int (x5)]) (pl := 588) hC hqX0_longOf rfl kX0_minutesOf sX0_minutesOf (by decide +kernel) (c_FB_minutesOf hC a x6 c h (x4 + x6) ha M sz (d - 1) (by omega) s2 es2) (by omega) ⟨rfl, rfl⟩ rfl (Nat.le_of_ble_eq_true rfl) (Nat.le_of_ble_eq_true rfl) rfl rfl rfl (Nat.le_of_ble_eq_true rfl) ⟨Nat.le_of_ble_eq_true rfl, Nat.le_of_ble_eq_true rfl⟩ (gs_I ?_)
      refine gb_run 4 (pc2 := 16) (ls2 := [(6, .int (x6 + (1 : Int32))), (5, .int (x5 + s2.1)), (0, .ref (27)), (1, .ref (a)), (2, .int (h)), (3, .int (c)), (4, .int (x4))]) (st2 := []) (M2 := s2.2) hC hqX0_longOf rfl ?_
      refine gw_pick [2, 3, 4, 5, 6, 1, 0] (ls2 := [(0, .ref (27)), (1, .ref (a)), (2, .int (h)), (3, .int (c)), (4, .int (x4)), (5, .int (x5 + s2.1)), (6, .int (x6 + (1 : Int32)))]) rfl ?_
      exact ih x4 (x5 + s2.1) (x6 + (1 : Int32)) (s2.2) hr
def FB_longOf (a : Nat) (h : Int32) (c : Int32) (M : gM) : Option (Int32 × gM) :=
  FB_longOf_L16 a h c 1000 (r_at (M (a + 1)) 8 c) (0 : Int32) (0 : Int32) M
set_option maxRecDepth 20000 in
theorem c_FB_longOf {l : Launch} {C : gC} (hC : g_ctx l C) (a : Nat) (h : Int32) (c : Int32) (ha : g_St 956 g_S0 a) (M : gM) (sz d : Nat) (hd : 4 ≤ d) (R : Int32 × gM) (hr : FB_longOf a h c M = some R) : gPg l C qX0_longOf d [.ref (27), .ref (a), .int (h), .int (c)] 956 g_S0 M sz (qI R) := by
  refine gPg.of (ls := [(0, .ref (27)), (1, .ref (a)), (2, .int (h)), (3, .int (c))]) (by decide +kernel) (Nat.le_of_ble_eq_true rfl) rfl ?_
  unfold FB_longOf at hr
  refine gb_run 1 (pc2 := 1) (ls2 := [(0, .ref (27)), (1, .ref (a)), (2, .int (h)), (3, .int (c))]) (st2 := [.ref (a)]) (M2 := M) hC hqX0_longOf rfl ?_
  refine gz_getr (q := a + 1) hC hqX0_longOf rfl ha.1.1 (g_S3 ha.1.2.1 ha.1.2.2) rfl ((ha.2.1 0 (by decide)).trans rfl) ?_
  refine gb_run 1 (pc2 := 5) (ls2 := [(0, .ref (27)), (1, .ref (a)), (2, .int (h)), (3, .int (c))]) (st2 := [.int (c), .ref (a + 1)]) (M2 := M) hC hqX0_longOf rfl ?_
  refine gz_cSN (host := "HoopHours") (z := qX11_at) (av := [.ref (a + 1), .int (c)]) (rest := []) (pl := 581) hC hqX0_longOf rfl kX11_at (by decide +kernel) (c_at hC (a + 1) 8 _ c M sz (d - 1) (by omega) (ha.2.2 0 (by decide)).1 (g_S3 (ha.2.2 0 (by decide)).2.1 (ha.2.2 0 (by decide)).2.2) (Nat.le_of_ble_eq_true rfl)) (by omega) ⟨rfl, rfl⟩ rfl rfl (Nat.le_of_ble_eq_true rfl) ⟨Nat.le_of_ble_eq_true rfl, Nat.le_of_ble_eq_true rfl⟩ (gs_Ip (x := r_at (M (a + 1)) 8 c) ?_)
  refine gb_run 5 (pc2 := 16) (ls2 := [(6, .int (0)), (5, .int (0)), (4, .int (r_at (M (a + 1)) 8 c)), (0, .ref (27)), (1, .ref (a)), (2, .int (h)), (3, .int (c))]) (st2 := []) (M2 := M) hC hqX0_longOf rfl ?_
  refine gw_pick [3, 4, 5, 6, 2, 1, 0] (ls2 := [(0, .ref (27)), (1, .ref (a)), (2, .int (h)), (3, .int (c)), (4, .int (r_at (M (a + 1)) 8 c)), (5, .int (0)), (6, .int (0))]) rfl ?_
  exact c_FB_longOf_L16 hC a h c ha sz d (by omega) R 1000 (r_at (M (a + 1)) 8 c) (0 : Int32) (0 : Int32) M hr
def FB_canBowl (a : Nat) (M : gM) : Int32 :=
  if (M 3 5) ≤ (0 : Int32) then 0 else (if (M 3 7) ≤ (0 : Int32) then 0 else (if (r_at (M (a + 4)) 8 (M a 5)) = (-1 : Int32) then 0 else 1))
set_option maxRecDepth 20000 in
theorem c_FB_canBowl {l : Launch} {C : gC} (hC : g_ctx l C) (a : Nat) (ha : g_St 956 g_S0 a) (M : gM) (sz d : Nat) (hd : 2 ≤ d) : gPg l C qX0_canBowl d [.ref (27), .ref (a)] 956 g_S0 M sz (qZp M (FB_canBowl a M)) := by
  refine gPg.of (ls := [(0, .ref (27)), (1, .ref (a))]) (by decide +kernel) (Nat.le_of_ble_eq_true rfl) rfl ?_
  obtain ⟨R, hr⟩ : ∃ R, FB_canBowl a M = R := ⟨_, rfl⟩
  rw [hr]
  unfold FB_canBowl at hr
  refine gb_run 3 (pc2 := 7) (ls2 := [(0, .ref (27)), (1, .ref (a))]) (st2 := [.int (M 3 5)]) (M2 := M) hC hqX0_canBowl rfl ?_
  refine gb_if_le hqX0_canBowl rfl (fun h1 => ?_) (fun h1 => ?_)
  ·
    have hr := g_if1 h1 hr
    refine gb_run 1 (pc2 := 40) (ls2 := [(0, .ref (27)), (1, .ref (a))]) (st2 := [.int (0)]) (M2 := M) hC hqX0_canBowl rfl ?_
    refine gb_zret hqX0_canBowl rfl rfl (Nat.le_of_ble_eq_true rfl) (Nat.le_of_ble_eq_true rfl) (Or.inl rfl) ?_
    exact gl_Zt (Or.inl rfl) hr
  ·
    have hr := g_if0 h1 hr
    refine gb_run 3 (pc2 := 17) (ls2 := [(0, .ref (27)), (1, .ref (a))]) (st2 := [.int (M 3 7)]) (M2 := M) hC hqX0_canBowl rfl ?_
    refine gb_if_le hqX0_canBowl rfl (fun h2 => ?_) (fun h2 => ?_)
    ·
      have hr := g_if1 h2 hr
      refine gb_run 1 (pc2 := 40) (ls2 := [(0, .ref (27)), (1, .ref (a))]) (st2 := [.int (0)]) (M2 := M) hC hqX0_canBowl rfl ?_
      refine gb_zret hqX0_canBowl rfl rfl (Nat.le_of_ble_eq_true rfl) (Nat.le_of_ble_eq_true rfl) (Or.inl rfl) ?_
      exact gl_Zt (Or.inl rfl) hr
    ·
      have hr := g_if0 h2 hr
      refine gb_run 1 (pc2 := 21) (ls2 := [(0, .ref (27)), (1, .ref (a))]) (st2 := [.ref (a)]) (M2 := M) hC hqX0_canBowl rfl ?_
      refine gz_getr (q := a + 4) hC hqX0_canBowl rfl ha.1.1 (g_S3 ha.1.2.1 ha.1.2.2) rfl ((ha.2.1 3 (by decide)).trans rfl) ?_
      refine gb_run 1 (pc2 := 25) (ls2 := [(0, .ref (27)), (1, .ref (a))]) (st2 := [.ref (a), .ref (a + 4)]) (M2 := M) hC hqX0_canBowl rfl ?_
      refine gz_geti hC hqX0_canBowl rfl ha.1.1 (g_S3 ha.1.2.1 ha.1.2.2) rfl ((ha.2.1 5 (by decide)).trans rfl) ?_
      refine gz_cSN (host := "HoopHours") (z := qX11_at) (av := [.ref (a + 4), .int (M a 5)]) (rest := []) (pl := 581) hC hqX0_canBowl rfl kX11_at (by decide +kernel) (c_at hC (a + 4) 8 _ (M a 5) M sz (d - 1) (by omega) (ha.2.2 3 (by decide)).1 (g_S3 (ha.2.2 3 (by decide)).2.1 (ha.2.2 3 (by decide)).2.2) (Nat.le_of_ble_eq_true rfl)) (by omega) ⟨rfl, rfl⟩ rfl rfl (Nat.le_of_ble_eq_true rfl) ⟨Nat.le_of_ble_eq_true rfl, Nat.le_of_ble_eq_true rfl⟩ (gs_Ip (x := r_at (M (a + 4)) 8 (M a 5)) ?_)
      refine gb_run 1 (pc2 := 32) (ls2 := [(0, .ref (27)), (1, .ref (a))]) (st2 := [.int (-1), .int (r_at (M (a + 4)) 8 (M a 5))]) (M2 := M) hC hqX0_canBowl rfl ?_
      refine gb_icmp_eq hqX0_canBowl rfl (fun h3 => ?_) (fun h3 => ?_)
      ·
        have hr := g_if1 h3 hr
        refine gb_run 1 (pc2 := 40) (ls2 := [(0, .ref (27)), (1, .ref (a))]) (st2 := [.int (0)]) (M2 := M) hC hqX0_canBowl rfl ?_
        refine gb_zret hqX0_canBowl rfl rfl (Nat.le_of_ble_eq_true rfl) (Nat.le_of_ble_eq_true rfl) (Or.inl rfl) ?_
        exact gl_Zt (Or.inl rfl) hr
      ·
        have hr := g_if0 h3 hr
        refine gb_run 2 (pc2 := 40) (ls2 := [(0, .ref (27)), (1, .ref (a))]) (st2 := [.int (1)]) (M2 := M) hC hqX0_canBowl rfl ?_
        refine gb_zret hqX0_canBowl rfl rfl (Nat.le_of_ble_eq_true rfl) (Nat.le_of_ble_eq_true rfl) (Or.inr rfl) ?_
        exact gl_Zt (Or.inr rfl) hr
def FB_endHour_J63 (a : Nat) (c : Int32) (M : gM) : Option (gM) :=
  g_let (r_put M (a + 2) 8 c (0 : Int32)) fun M1 => g_let (g_set M1 a 7 (0 : Int32)) fun M2 => g_let (g_set M2 a 6 (0 : Int32)) fun M3 => g_let (g_set M3 a 5 ((M3 a 5) + (1 : Int32))) fun M4 => if (M4 a 5) < (M4 3 7) then (some M4) else (g_let (g_set M4 a 5 (0 : Int32)) fun M6 => g_let (g_set M6 a 8 ((M6 a 8) + (1 : Int32))) fun M7 => g_let (g_set M7 a 9 (0 : Int32)) fun M8 => some M8)
set_option maxRecDepth 20000 in
theorem c_FB_endHour_J63 {l : Launch} {C : gC} (hC : g_ctx l C) (a : Nat) (c : Int32) (ha : g_St 956 g_S0 a) (sz d : Nat) (hd : 2 ≤ d) (R : gM) (M : gM) (hr : FB_endHour_J63 a c M = some R) : GW l C qX0_endHour d (gQg 956 g_S0 (qV R) sz) gN 0 0 63 [(0, .ref (27)), (1, .ref (a)), (2, .int (c))] [] (956, g_S0, M, sz) := by
  unfold FB_endHour_J63 at hr
  refine gb_run 1 (pc2 := 64) (ls2 := [(0, .ref (27)), (1, .ref (a)), (2, .int (c))]) (st2 := [.ref (a)]) (M2 := M) hC hqX0_endHour rfl ?_
  refine gz_getr (q := a + 2) hC hqX0_endHour rfl ha.1.1 (g_S3 ha.1.2.1 ha.1.2.2) rfl ((ha.2.1 1 (by decide)).trans rfl) ?_
  refine gb_run 2 (pc2 := 69) (ls2 := [(0, .ref (27)), (1, .ref (a)), (2, .int (c))]) (st2 := [.int (0), .int (c), .ref (a + 2)]) (M2 := M) hC hqX0_endHour rfl ?_
  refine gz_cSN (host := "HoopHours") (z := qX11_put) (av := [.ref (a + 2), .int (c), .int (0)]) (rest := []) (pl := 612) hC hqX0_endHour rfl kX11_put (by decide +kernel) (c_put hC (a + 2) 8 _ c (0 : Int32) M sz (d - 1) (by omega) (ha.2.2 1 (by decide)).1 (g_S3 (ha.2.2 1 (by decide)).2.1 (ha.2.2 1 (by decide)).2.2) (Nat.le_of_ble_eq_true rfl)) (by omega) ⟨rfl, rfl⟩ rfl rfl (Nat.le_of_ble_eq_true rfl) ⟨Nat.le_of_ble_eq_true rfl, Nat.le_of_ble_eq_true rfl⟩ (gs_V ?_)
  refine g_letP (P := fun M1 => GW l C qX0_endHour d (gQg 956 g_S0 (qV R) sz) gN 0 0 72 [(0, .ref (27)), (1, .ref (a)), (2, .int (c))] [] (956, g_S0, M1, sz)) hr (fun M1 hr => ?_)
  refine gb_run 2 (pc2 := 74) (ls2 := [(0, .ref (27)), (1, .ref (a)), (2, .int (c))]) (st2 := [.int (0), .ref (a)]) (M2 := M1) hC hqX0_endHour rfl ?_
  refine gb_putf hC hqX0_endHour rfl ha.1.1 (g_S3 ha.1.2.1 ha.1.2.2) rfl ((ha.2.1 7 (by decide)).trans rfl) rfl ?_
  refine g_letP (P := fun M2 => GW l C qX0_endHour d (gQg 956 g_S0 (qV R) sz) gN 0 0 77 [(0, .ref (27)), (1, .ref (a)), (2, .int (c))] [] (956, g_S0, M2, sz)) hr (fun M2 hr => ?_)
  refine gb_run 2 (pc2 := 79) (ls2 := [(0, .ref (27)), (1, .ref (a)), (2, .int (c))]) (st2 := [.int (0), .ref (a)]) (M2 := M2) hC hqX0_endHour rfl ?_
  refine gb_putf hC hqX0_endHour rfl ha.1.1 (g_S3 ha.1.2.1 ha.1.2.2) rfl ((ha.2.1 6 (by decide)).trans rfl) rfl ?_
  refine g_letP (P := fun M3 => GW l C qX0_endHour d (gQg 956 g_S0 (qV R) sz) gN 0 0 82 [(0, .ref (27)), (1, .ref (a)), (2, .int (c))] [] (956, g_S0, M3, sz)) hr (fun M3 hr => ?_)
  refine gb_run 2 (pc2 := 84) (ls2 := [(0, .ref (27)), (1, .ref (a)), (2, .int (c))]) (st2 := [.ref (a), .ref (a)]) (M2 := M3) hC hqX0_endHour rfl ?_
  refine gz_geti hC hqX0_endHour rfl ha.1.1 (g_S3 ha.1.2.1 ha.1.2.2) rfl ((ha.2.1 5 (by decide)).trans rfl) ?_
  refine gb_run 2 (pc2 := 89) (ls2 := [(0, .ref (27)), (1, .ref (a)), (2, .int (c))]) (st2 := [.int ((M3 a 5) + (1 : Int32)), .ref (a)]) (M2 := M3) hC hqX0_endHour rfl ?_
  refine gb_putf hC hqX0_endHour rfl ha.1.1 (g_S3 ha.1.2.1 ha.1.2.2) rfl ((ha.2.1 5 (by decide)).trans rfl) rfl ?_
  refine g_letP (P := fun M4 => GW l C qX0_endHour d (gQg 956 g_S0 (qV R) sz) gN 0 0 92 [(0, .ref (27)), (1, .ref (a)), (2, .int (c))] [] (956, g_S0, M4, sz)) hr (fun M4 hr => ?_)
  refine gb_run 1 (pc2 := 93) (ls2 := [(0, .ref (27)), (1, .ref (a)), (2, .int (c))]) (st2 := [.ref (a)]) (M2 := M4) hC hqX0_endHour rfl ?_
  refine gz_geti hC hqX0_endHour rfl ha.1.1 (g_S3 ha.1.2.1 ha.1.2.2) rfl ((ha.2.1 5 (by decide)).trans rfl) ?_
  refine gb_run 3 (pc2 := 103) (ls2 := [(0, .ref (27)), (1, .ref (a)), (2, .int (c))]) (st2 := [.int (M4 3 7), .int (M4 a 5)]) (M2 := M4) hC hqX0_endHour rfl ?_
  refine gb_icmp_lt hqX0_endHour rfl (fun h5 => ?_) (fun h5 => ?_)
  ·
    have hr := g_if1 h5 hr
    refine gb_vret hqX0_endHour rfl rfl (Nat.le_of_ble_eq_true rfl) (Nat.le_of_ble_eq_true rfl) ?_
    exact gl_V hr
  ·
    have hr := g_if0 h5 hr
    refine gb_run 2 (pc2 := 108) (ls2 := [(0, .ref (27)), (1, .ref (a)), (2, .int (c))]) (st2 := [.int (0), .ref (a)]) (M2 := M4) hC hqX0_endHour rfl ?_
    refine gb_putf hC hqX0_endHour rfl ha.1.1 (g_S3 ha.1.2.1 ha.1.2.2) rfl ((ha.2.1 5 (by decide)).trans rfl) rfl ?_
    refine g_letP (P := fun M6 => GW l C qX0_endHour d (gQg 956 g_S0 (qV R) sz) gN 0 0 111 [(0, .ref (27)), (1, .ref (a)), (2, .int (c))] [] (956, g_S0, M6, sz)) hr (fun M6 hr => ?_)
    refine gb_run 2 (pc2 := 113) (ls2 := [(0, .ref (27)), (1, .ref (a)), (2, .int (c))]) (st2 := [.ref (a), .ref (a)]) (M2 := M6) hC hqX0_endHour rfl ?_
    refine gz_geti hC hqX0_endHour rfl ha.1.1 (g_S3 ha.1.2.1 ha.1.2.2) rfl ((ha.2.1 8 (by decide)).trans rfl) ?_
    refine gb_run 2 (pc2 := 118) (ls2 := [(0, .ref (27)), (1, .ref (a)), (2, .int (c))]) (st2 := [.int ((M6 a 8) + (1 : Int32)), .ref (a)]) (M2 := M6) hC hqX0_endHour rfl ?_
    refine gb_putf hC hqX0_endHour rfl ha.1.1 (g_S3 ha.1.2.1 ha.1.2.2) rfl ((ha.2.1 8 (by decide)).trans rfl) rfl ?_
    refine g_letP (P := fun M7 => GW l C qX0_endHour d (gQg 956 g_S0 (qV R) sz) gN 0 0 121 [(0, .ref (27)), (1, .ref (a)), (2, .int (c))] [] (956, g_S0, M7, sz)) hr (fun M7 hr => ?_)
    refine gb_run 2 (pc2 := 123) (ls2 := [(0, .ref (27)), (1, .ref (a)), (2, .int (c))]) (st2 := [.int (0), .ref (a)]) (M2 := M7) hC hqX0_endHour rfl ?_
    refine gb_putf hC hqX0_endHour rfl ha.1.1 (g_S3 ha.1.2.1 ha.1.2.2) rfl ((ha.2.1 9 (by decide)).trans rfl) rfl ?_
    refine g_letP (P := fun M8 => GW l C qX0_endHour d (gQg 956 g_S0 (qV R) sz) gN 0 0 126 [(0, .ref (27)), (1, .ref (a)), (2, .int (c))] [] (956, g_S0, M8, sz)) hr (fun M8 hr => ?_)
    refine gb_vret hqX0_endHour rfl rfl (Nat.le_of_ble_eq_true rfl) (Nat.le_of_ble_eq_true rfl) ?_
    exact gl_V hr
def FB_endHour (a : Nat) (c : Int32) (M : gM) : Option (gM) :=
  g_let (r_put M (a + 5) 8 (M a 5) (M a 7)) fun M1 => if (M1 a 7) ≤ (M1 3 8) then (FB_endHour_J63 a c M1) else (g_let (g_set M1 a 11 ((M1 a 11) + (1 : Int32))) fun M3 => g_let (r_put M3 (a + 3) 8 c ((r_at (M3 (a + 3)) 8 c) + (M3 3 9))) fun M4 => FB_endHour_J63 a c M4)
set_option maxRecDepth 20000 in
theorem c_FB_endHour {l : Launch} {C : gC} (hC : g_ctx l C) (a : Nat) (c : Int32) (ha : g_St 956 g_S0 a) (M : gM) (sz d : Nat) (hd : 2 ≤ d) (R : gM) (hr : FB_endHour a c M = some R) : gPg l C qX0_endHour d [.ref (27), .ref (a), .int (c)] 956 g_S0 M sz (qV R) := by
  refine gPg.of (ls := [(0, .ref (27)), (1, .ref (a)), (2, .int (c))]) (by decide +kernel) (Nat.le_of_ble_eq_true rfl) rfl ?_
  unfold FB_endHour at hr
  refine gb_run 1 (pc2 := 1) (ls2 := [(0, .ref (27)), (1, .ref (a)), (2, .int (c))]) (st2 := [.ref (a)]) (M2 := M) hC hqX0_endHour rfl ?_
  refine gz_getr (q := a + 5) hC hqX0_endHour rfl ha.1.1 (g_S3 ha.1.2.1 ha.1.2.2) rfl ((ha.2.1 4 (by decide)).trans rfl) ?_
  refine gb_run 1 (pc2 := 5) (ls2 := [(0, .ref (27)), (1, .ref (a)), (2, .int (c))]) (st2 := [.ref (a), .ref (a + 5)]) (M2 := M) hC hqX0_endHour rfl ?_
  refine gz_geti hC hqX0_endHour rfl ha.1.1 (g_S3 ha.1.2.1 ha.1.2.2) rfl ((ha.2.1 5 (by decide)).trans rfl) ?_
  refine gb_run 1 (pc2 := 9) (ls2 := [(0, .ref (27)), (1, .ref (a)), (2, .int (c))]) (st2 := [.ref (a), .int (M a 5), .ref (a + 5)]) (M2 := M) hC hqX0_endHour rfl ?_
  refine gz_geti hC hqX0_endHour rfl ha.1.1 (g_S3 ha.1.2.1 ha.1.2.2) rfl ((ha.2.1 7 (by decide)).trans rfl) ?_
  refine gz_cSN (host := "HoopHours") (z := qX11_put) (av := [.ref (a + 5), .int (M a 5), .int (M a 7)]) (rest := []) (pl := 612) hC hqX0_endHour rfl kX11_put (by decide +kernel) (c_put hC (a + 5) 8 _ (M a 5) (M a 7) M sz (d - 1) (by omega) (ha.2.2 4 (by decide)).1 (g_S3 (ha.2.2 4 (by decide)).2.1 (ha.2.2 4 (by decide)).2.2) (Nat.le_of_ble_eq_true rfl)) (by omega) ⟨rfl, rfl⟩ rfl rfl (Nat.le_of_ble_eq_true rfl) ⟨Nat.le_of_ble_eq_true rfl, Nat.le_of_ble_eq_true rfl⟩ (gs_V ?_)
  refine g_letP (P := fun M1 => GW l C qX0_endHour d (gQg 956 g_S0 (qV R) sz) gN 0 0 15 [(0, .ref (27)), (1, .ref (a)), (2, .int (c))] [] (956, g_S0, M1, sz)) hr (fun M1 hr => ?_)
  refine gb_run 1 (pc2 := 16) (ls2 := [(0, .ref (27)), (1, .ref (a)), (2, .int (c))]) (st2 := [.ref (a)]) (M2 := M1) hC hqX0_endHour rfl ?_
  refine gz_geti hC hqX0_endHour rfl ha.1.1 (g_S3 ha.1.2.1 ha.1.2.2) rfl ((ha.2.1 7 (by decide)).trans rfl) ?_
  refine gb_run 3 (pc2 := 26) (ls2 := [(0, .ref (27)), (1, .ref (a)), (2, .int (c))]) (st2 := [.int (M1 3 8), .int (M1 a 7)]) (M2 := M1) hC hqX0_endHour rfl ?_
  refine gb_icmp_le hqX0_endHour rfl (fun h2 => ?_) (fun h2 => ?_)
  ·
    have hr := g_if1 h2 hr
    exact c_FB_endHour_J63 hC a c ha sz d (by omega) R M1 hr
  ·
    have hr := g_if0 h2 hr
    refine gb_run 2 (pc2 := 31) (ls2 := [(0, .ref (27)), (1, .ref (a)), (2, .int (c))]) (st2 := [.ref (a), .ref (a)]) (M2 := M1) hC hqX0_endHour rfl ?_
    refine gz_geti hC hqX0_endHour rfl ha.1.1 (g_S3 ha.1.2.1 ha.1.2.2) rfl ((ha.2.1 11 (by decide)).trans rfl) ?_
    refine gb_run 2 (pc2 := 36) (ls2 := [(0, .ref (27)), (1, .ref (a)), (2, .int (c))]) (st2 := [.int ((M1 a 11) + (1 : Int32)), .ref (a)]) (M2 := M1) hC hqX0_endHour rfl ?_
    refine gb_putf hC hqX0_endHour rfl ha.1.1 (g_S3 ha.1.2.1 ha.1.2.2) rfl ((ha.2.1 11 (by decide)).trans rfl) rfl ?_
    refine g_letP (P := fun M3 => GW l C qX0_endHour d (gQg 956 g_S0 (qV R) sz) gN 0 0 39 [(0, .ref (27)), (1, .ref (a)), (2, .int (c))] [] (956, g_S0, M3, sz)) hr (fun M3 hr => ?_)
    refine gb_run 1 (pc2 := 40) (ls2 := [(0, .ref (27)), (1, .ref (a)), (2, .int (c))]) (st2 := [.ref (a)]) (M2 := M3) hC hqX0_endHour rfl ?_
    refine gz_getr (q := a + 3) hC hqX0_endHour rfl ha.1.1 (g_S3 ha.1.2.1 ha.1.2.2) rfl ((ha.2.1 2 (by decide)).trans rfl) ?_
    refine gb_run 2 (pc2 := 45) (ls2 := [(0, .ref (27)), (1, .ref (a)), (2, .int (c))]) (st2 := [.ref (a), .int (c), .ref (a + 3)]) (M2 := M3) hC hqX0_endHour rfl ?_
    refine gz_getr (q := a + 3) hC hqX0_endHour rfl ha.1.1 (g_S3 ha.1.2.1 ha.1.2.2) rfl ((ha.2.1 2 (by decide)).trans rfl) ?_
    refine gb_run 1 (pc2 := 49) (ls2 := [(0, .ref (27)), (1, .ref (a)), (2, .int (c))]) (st2 := [.int (c), .ref (a + 3), .int (c), .ref (a + 3)]) (M2 := M3) hC hqX0_endHour rfl ?_
    refine gz_cSN (host := "HoopHours") (z := qX11_at) (av := [.ref (a + 3), .int (c)]) (rest := [.int (c), .ref (a + 3)]) (pl := 581) hC hqX0_endHour rfl kX11_at (by decide +kernel) (c_at hC (a + 3) 8 _ c M3 sz (d - 1) (by omega) (ha.2.2 2 (by decide)).1 (g_S3 (ha.2.2 2 (by decide)).2.1 (ha.2.2 2 (by decide)).2.2) (Nat.le_of_ble_eq_true rfl)) (by omega) ⟨rfl, rfl⟩ rfl rfl (Nat.le_of_ble_eq_true rfl) ⟨Nat.le_of_ble_eq_true rfl, Nat.le_of_ble_eq_true rfl⟩ (gs_Ip (x := r_at (M3 (a + 3)) 8 c) ?_)
    refine gb_run 4 (pc2 := 60) (ls2 := [(0, .ref (27)), (1, .ref (a)), (2, .int (c))]) (st2 := [.int ((r_at (M3 (a + 3)) 8 c) + (M3 3 9)), .int (c), .ref (a + 3)]) (M2 := M3) hC hqX0_endHour rfl ?_
    refine gz_cSN (host := "HoopHours") (z := qX11_put) (av := [.ref (a + 3), .int (c), .int ((r_at (M3 (a + 3)) 8 c) + (M3 3 9))]) (rest := []) (pl := 612) hC hqX0_endHour rfl kX11_put (by decide +kernel) (c_put hC (a + 3) 8 _ c ((r_at (M3 (a + 3)) 8 c) + (M3 3 9)) M3 sz (d - 1) (by omega) (ha.2.2 2 (by decide)).1 (g_S3 (ha.2.2 2 (by decide)).2.1 (ha.2.2 2 (by decide)).2.2) (Nat.le_of_ble_eq_true rfl)) (by omega) ⟨rfl, rfl⟩ rfl rfl (Nat.le_of_ble_eq_true rfl) ⟨Nat.le_of_ble_eq_true rfl, Nat.le_of_ble_eq_true rfl⟩ (gs_V ?_)
    refine g_letP (P := fun M4 => GW l C qX0_endHour d (gQg 956 g_S0 (qV R) sz) gN 0 0 63 [(0, .ref (27)), (1, .ref (a)), (2, .int (c))] [] (956, g_S0, M4, sz)) hr (fun M4 hr => ?_)
    exact c_FB_endHour_J63 hC a c ha sz d (by omega) R M4 hr
def FB_bowl (a : Nat) (fall : Int32) (M : gM) : Option (Int32 × gM) :=
  (FB_minutesOf a (M a 6) (r_at (M (a + 4)) 8 (M a 5)) (M a 5) (r_at (M (a + 1)) 8 (r_at (M (a + 4)) 8 (M a 5))) M).bind fun s1 => g_let (r_put (s1.2) (a + 1) 8 (r_at (M (a + 4)) 8 (M a 5)) (m_min (99 : Int32) ((r_at (M (a + 1)) 8 (r_at (M (a + 4)) 8 (M a 5))) + (1 : Int32)))) fun M2 => g_let (g_set M2 a 7 ((M2 a 7) + (s1.1 + fall))) fun M3 => g_let (g_set M3 a 9 ((M3 a 9) + (s1.1 + fall))) fun M4 => g_let (g_set M4 a 6 ((M4 a 6) + (1 : Int32))) fun M5 => if (M5 a 6) < (M5 3 5) then (some (s1.1 + fall, M5)) else ((FB_endHour a (r_at (M (a + 4)) 8 (M a 5)) M5).bind fun s7 => some (s1.1 + fall, s7))
set_option maxRecDepth 20000 in
theorem c_FB_bowl {l : Launch} {C : gC} (hC : g_ctx l C) (a : Nat) (fall : Int32) (ha : g_St 956 g_S0 a) (M : gM) (sz d : Nat) (hd : 4 ≤ d) (R : Int32 × gM) (hr : FB_bowl a fall M = some R) : gPg l C qX0_bowl d [.ref (27), .ref (a), .int (fall)] 956 g_S0 M sz (qI R) := by
  refine gPg.of (ls := [(0, .ref (27)), (1, .ref (a)), (2, .int (fall))]) (by decide +kernel) (Nat.le_of_ble_eq_true rfl) rfl ?_
  unfold FB_bowl at hr
  refine gb_run 1 (pc2 := 1) (ls2 := [(0, .ref (27)), (1, .ref (a)), (2, .int (fall))]) (st2 := [.ref (a)]) (M2 := M) hC hqX0_bowl rfl ?_
  refine gz_geti hC hqX0_bowl rfl ha.1.1 (g_S3 ha.1.2.1 ha.1.2.2) rfl ((ha.2.1 5 (by decide)).trans rfl) ?_
  refine gb_run 2 (pc2 := 6) (ls2 := [(3, .int (M a 5)), (0, .ref (27)), (1, .ref (a)), (2, .int (fall))]) (st2 := [.ref (a)]) (M2 := M) hC hqX0_bowl rfl ?_
  refine gz_getr (q := a + 4) hC hqX0_bowl rfl ha.1.1 (g_S3 ha.1.2.1 ha.1.2.2) rfl ((ha.2.1 3 (by decide)).trans rfl) ?_
  refine gb_run 1 (pc2 := 10) (ls2 := [(3, .int (M a 5)), (0, .ref (27)), (1, .ref (a)), (2, .int (fall))]) (st2 := [.int (M a 5), .ref (a + 4)]) (M2 := M) hC hqX0_bowl rfl ?_
  refine gz_cSN (host := "HoopHours") (z := qX11_at) (av := [.ref (a + 4), .int (M a 5)]) (rest := []) (pl := 581) hC hqX0_bowl rfl kX11_at (by decide +kernel) (c_at hC (a + 4) 8 _ (M a 5) M sz (d - 1) (by omega) (ha.2.2 3 (by decide)).1 (g_S3 (ha.2.2 3 (by decide)).2.1 (ha.2.2 3 (by decide)).2.2) (Nat.le_of_ble_eq_true rfl)) (by omega) ⟨rfl, rfl⟩ rfl rfl (Nat.le_of_ble_eq_true rfl) ⟨Nat.le_of_ble_eq_true rfl, Nat.le_of_ble_eq_true rfl⟩ (gs_Ip (x := r_at (M (a + 4)) 8 (M a 5)) ?_)
  refine gb_run 2 (pc2 := 16) (ls2 := [(4, .int (r_at (M (a + 4)) 8 (M a 5))), (3, .int (M a 5)), (0, .ref (27)), (1, .ref (a)), (2, .int (fall))]) (st2 := [.ref (a)]) (M2 := M) hC hqX0_bowl rfl ?_
  refine gz_getr (q := a + 1) hC hqX0_bowl rfl ha.1.1 (g_S3 ha.1.2.1 ha.1.2.2) rfl ((ha.2.1 0 (by decide)).trans rfl) ?_
  refine gb_run 1 (pc2 := 21) (ls2 := [(4, .int (r_at (M (a + 4)) 8 (M a 5))), (3, .int (M a 5)), (0, .ref (27)), (1, .ref (a)), (2, .int (fall))]) (st2 := [.int (r_at (M (a + 4)) 8 (M a 5)), .ref (a + 1)]) (M2 := M) hC hqX0_bowl rfl ?_
  refine gz_cSN (host := "HoopHours") (z := qX11_at) (av := [.ref (a + 1), .int (r_at (M (a + 4)) 8 (M a 5))]) (rest := []) (pl := 581) hC hqX0_bowl rfl kX11_at (by decide +kernel) (c_at hC (a + 1) 8 _ (r_at (M (a + 4)) 8 (M a 5)) M sz (d - 1) (by omega) (ha.2.2 0 (by decide)).1 (g_S3 (ha.2.2 0 (by decide)).2.1 (ha.2.2 0 (by decide)).2.2) (Nat.le_of_ble_eq_true rfl)) (by omega) ⟨rfl, rfl⟩ rfl rfl (Nat.le_of_ble_eq_true rfl) ⟨Nat.le_of_ble_eq_true rfl, Nat.le_of_ble_eq_true rfl⟩ (gs_Ip (x := r_at (M (a + 1)) 8 (r_at (M (a + 4)) 8 (M a 5))) ?_)
  refine gb_run 4 (pc2 := 29) (ls2 := [(5, .int (r_at (M (a + 1)) 8 (r_at (M (a + 4)) 8 (M a 5)))), (4, .int (r_at (M (a + 4)) 8 (M a 5))), (3, .int (M a 5)), (0, .ref (27)), (1, .ref (a)), (2, .int (fall))]) (st2 := [.ref (a), .ref (a), .ref (27)]) (M2 := M) hC hqX0_bowl rfl ?_
  refine gz_geti hC hqX0_bowl rfl ha.1.1 (g_S3 ha.1.2.1 ha.1.2.2) rfl ((ha.2.1 6 (by decide)).trans rfl) ?_
  refine gb_run 3 (pc2 := 37) (ls2 := [(5, .int (r_at (M (a + 1)) 8 (r_at (M (a + 4)) 8 (M a 5)))), (4, .int (r_at (M (a + 4)) 8 (M a 5))), (3, .int (M a 5)), (0, .ref (27)), (1, .ref (a)), (2, .int (fall))]) (st2 := [.int (r_at (M (a + 1)) 8 (r_at (M (a + 4)) 8 (M a 5))), .int (M a 5), .int (r_at (M (a + 4)) 8 (M a 5)), .int (M a 6), .ref (a), .ref (27)]) (M2 := M) hC hqX0_bowl rfl ?_
  obtain ⟨s1, es1, hr⟩ := g_bd hr
  refine gz_cV (z := qX0_minutesOf) (a := 27) (av := [.ref (a), .int (M a 6), .int (r_at (M (a + 4)) 8 (M a 5)), .int (M a 5), .int (r_at (M (a + 1)) 8 (r_at (M (a + 4)) 8 (M a 5)))]) (rest := []) (pl := 588) hC hqX0_bowl rfl kX0_minutesOf sX0_minutesOf (by decide +kernel) (c_FB_minutesOf hC a (M a 6) (r_at (M (a + 4)) 8 (M a 5)) (M a 5) (r_at (M (a + 1)) 8 (r_at (M (a + 4)) 8 (M a 5))) ha M sz (d - 1) (by omega) s1 es1) (by omega) ⟨rfl, rfl⟩ rfl (Nat.le_of_ble_eq_true rfl) (Nat.le_of_ble_eq_true rfl) rfl rfl rfl (Nat.le_of_ble_eq_true rfl) ⟨Nat.le_of_ble_eq_true rfl, Nat.le_of_ble_eq_true rfl⟩ (gs_I ?_)
  refine gb_run 4 (pc2 := 45) (ls2 := [(6, .int (s1.1 + fall)), (5, .int (r_at (M (a + 1)) 8 (r_at (M (a + 4)) 8 (M a 5)))), (4, .int (r_at (M (a + 4)) 8 (M a 5))), (3, .int (M a 5)), (0, .ref (27)), (1, .ref (a)), (2, .int (fall))]) (st2 := [.ref (a)]) (M2 := s1.2) hC hqX0_bowl rfl ?_
  refine gz_getr (q := a + 1) hC hqX0_bowl rfl ha.1.1 (g_S3 ha.1.2.1 ha.1.2.2) rfl ((ha.2.1 0 (by decide)).trans rfl) ?_
  refine gb_run 5 (pc2 := 56) (ls2 := [(6, .int (s1.1 + fall)), (5, .int (r_at (M (a + 1)) 8 (r_at (M (a + 4)) 8 (M a 5)))), (4, .int (r_at (M (a + 4)) 8 (M a 5))), (3, .int (M a 5)), (0, .ref (27)), (1, .ref (a)), (2, .int (fall))]) (st2 := [.int ((r_at (M (a + 1)) 8 (r_at (M (a + 4)) 8 (M a 5))) + (1 : Int32)), .int (99), .int (r_at (M (a + 4)) 8 (M a 5)), .ref (a + 1)]) (M2 := s1.2) hC hqX0_bowl rfl ?_
  refine gb_min (pl := 592) hC hqX0_bowl rfl (by decide +kernel) (Nat.le_of_ble_eq_true rfl) (by omega) (Nat.le_of_ble_eq_true rfl) (Nat.le_of_ble_eq_true rfl) ?_
  refine gz_cSN (host := "HoopHours") (z := qX11_put) (av := [.ref (a + 1), .int (r_at (M (a + 4)) 8 (M a 5)), .int (m_min (99 : Int32) ((r_at (M (a + 1)) 8 (r_at (M (a + 4)) 8 (M a 5))) + (1 : Int32)))]) (rest := []) (pl := 612) hC hqX0_bowl rfl kX11_put (by decide +kernel) (c_put hC (a + 1) 8 _ (r_at (M (a + 4)) 8 (M a 5)) (m_min (99 : Int32) ((r_at (M (a + 1)) 8 (r_at (M (a + 4)) 8 (M a 5))) + (1 : Int32))) (s1.2) sz (d - 1) (by omega) (ha.2.2 0 (by decide)).1 (g_S3 (ha.2.2 0 (by decide)).2.1 (ha.2.2 0 (by decide)).2.2) (Nat.le_of_ble_eq_true rfl)) (by omega) ⟨rfl, rfl⟩ rfl rfl (Nat.le_of_ble_eq_true rfl) ⟨Nat.le_of_ble_eq_true rfl, Nat.le_of_ble_eq_true rfl⟩ (gs_V ?_)
  refine g_letP (P := fun M2 => GW l C qX0_bowl d (gQg 956 g_S0 (qI R) sz) gN 0 0 62 [(6, .int (s1.1 + fall)), (5, .int (r_at (M (a + 1)) 8 (r_at (M (a + 4)) 8 (M a 5)))), (4, .int (r_at (M (a + 4)) 8 (M a 5))), (3, .int (M a 5)), (0, .ref (27)), (1, .ref (a)), (2, .int (fall))] [] (956, g_S0, M2, sz)) hr (fun M2 hr => ?_)
  refine gb_run 2 (pc2 := 64) (ls2 := [(6, .int (s1.1 + fall)), (5, .int (r_at (M (a + 1)) 8 (r_at (M (a + 4)) 8 (M a 5)))), (4, .int (r_at (M (a + 4)) 8 (M a 5))), (3, .int (M a 5)), (0, .ref (27)), (1, .ref (a)), (2, .int (fall))]) (st2 := [.ref (a), .ref (a)]) (M2 := M2) hC hqX0_bowl rfl ?_
  refine gz_geti hC hqX0_bowl rfl ha.1.1 (g_S3 ha.1.2.1 ha.1.2.2) rfl ((ha.2.1 7 (by decide)).trans rfl) ?_
  refine gb_run 2 (pc2 := 70) (ls2 := [(6, .int (s1.1 + fall)), (5, .int (r_at (M (a + 1)) 8 (r_at (M (a + 4)) 8 (M a 5)))), (4, .int (r_at (M (a + 4)) 8 (M a 5))), (3, .int (M a 5)), (0, .ref (27)), (1, .ref (a)), (2, .int (fall))]) (st2 := [.int ((M2 a 7) + (s1.1 + fall)), .ref (a)]) (M2 := M2) hC hqX0_bowl rfl ?_
  refine gb_putf hC hqX0_bowl rfl ha.1.1 (g_S3 ha.1.2.1 ha.1.2.2) rfl ((ha.2.1 7 (by decide)).trans rfl) rfl ?_
  refine g_letP (P := fun M3 => GW l C qX0_bowl d (gQg 956 g_S0 (qI R) sz) gN 0 0 73 [(6, .int (s1.1 + fall)), (5, .int (r_at (M (a + 1)) 8 (r_at (M (a + 4)) 8 (M a 5)))), (4, .int (r_at (M (a + 4)) 8 (M a 5))), (3, .int (M a 5)), (0, .ref (27)), (1, .ref (a)), (2, .int (fall))] [] (956, g_S0, M3, sz)) hr (fun M3 hr => ?_)
  refine gb_run 2 (pc2 := 75) (ls2 := [(6, .int (s1.1 + fall)), (5, .int (r_at (M (a + 1)) 8 (r_at (M (a + 4)) 8 (M a 5)))), (4, .int (r_at (M (a + 4)) 8 (M a 5))), (3, .int (M a 5)), (0, .ref (27)), (1, .ref (a)), (2, .int (fall))]) (st2 := [.ref (a), .ref (a)]) (M2 := M3) hC hqX0_bowl rfl ?_
  refine gz_geti hC hqX0_bowl rfl ha.1.1 (g_S3 ha.1.2.1 ha.1.2.2) rfl ((ha.2.1 9 (by decide)).trans rfl) ?_
  refine gb_run 2 (pc2 := 81) (ls2 := [(6, .int (s1.1 + fall)), (5, .int (r_at (M (a + 1)) 8 (r_at (M (a + 4)) 8 (M a 5)))), (4, .int (r_at (M (a + 4)) 8 (M a 5))), (3, .int (M a 5)), (0, .ref (27)), (1, .ref (a)), (2, .int (fall))]) (st2 := [.int ((M3 a 9) + (s1.1 + fall)), .ref (a)]) (M2 := M3) hC hqX0_bowl rfl ?_
  refine gb_putf hC hqX0_bowl rfl ha.1.1 (g_S3 ha.1.2.1 ha.1.2.2) rfl ((ha.2.1 9 (by decide)).trans rfl) rfl ?_
  refine g_letP (P := fun M4 => GW l C qX0_bowl d (gQg 956 g_S0 (qI R) sz) gN 0 0 84 [(6, .int (s1.1 + fall)), (5, .int (r_at (M (a + 1)) 8 (r_at (M (a + 4)) 8 (M a 5)))), (4, .int (r_at (M (a + 4)) 8 (M a 5))), (3, .int (M a 5)), (0, .ref (27)), (1, .ref (a)), (2, .int (fall))] [] (956, g_S0, M4, sz)) hr (fun M4 hr => ?_)
  refine gb_run 2 (pc2 := 86) (ls2 := [(6, .int (s1.1 + fall)), (5, .int (r_at (M (a + 1)) 8 (r_at (M (a + 4)) 8 (M a 5)))), (4, .int (r_at (M (a + 4)) 8 (M a 5))), (3, .int (M a 5)), (0, .ref (27)), (1, .ref (a)), (2, .int (fall))]) (st2 := [.ref (a), .ref (a)]) (M2 := M4) hC hqX0_bowl rfl ?_
  refine gz_geti hC hqX0_bowl rfl ha.1.1 (g_S3 ha.1.2.1 ha.1.2.2) rfl ((ha.2.1 6 (by decide)).trans rfl) ?_
  refine gb_run 2 (pc2 := 91) (ls2 := [(6, .int (s1.1 + fall)), (5, .int (r_at (M (a + 1)) 8 (r_at (M (a + 4)) 8 (M a 5)))), (4, .int (r_at (M (a + 4)) 8 (M a 5))), (3, .int (M a 5)), (0, .ref (27)), (1, .ref (a)), (2, .int (fall))]) (st2 := [.int ((M4 a 6) + (1 : Int32)), .ref (a)]) (M2 := M4) hC hqX0_bowl rfl ?_
  refine gb_putf hC hqX0_bowl rfl ha.1.1 (g_S3 ha.1.2.1 ha.1.2.2) rfl ((ha.2.1 6 (by decide)).trans rfl) rfl ?_
  refine g_letP (P := fun M5 => GW l C qX0_bowl d (gQg 956 g_S0 (qI R) sz) gN 0 0 94 [(6, .int (s1.1 + fall)), (5, .int (r_at (M (a + 1)) 8 (r_at (M (a + 4)) 8 (M a 5)))), (4, .int (r_at (M (a + 4)) 8 (M a 5))), (3, .int (M a 5)), (0, .ref (27)), (1, .ref (a)), (2, .int (fall))] [] (956, g_S0, M5, sz)) hr (fun M5 hr => ?_)
  refine gb_run 1 (pc2 := 95) (ls2 := [(6, .int (s1.1 + fall)), (5, .int (r_at (M (a + 1)) 8 (r_at (M (a + 4)) 8 (M a 5)))), (4, .int (r_at (M (a + 4)) 8 (M a 5))), (3, .int (M a 5)), (0, .ref (27)), (1, .ref (a)), (2, .int (fall))]) (st2 := [.ref (a)]) (M2 := M5) hC hqX0_bowl rfl ?_
  refine gz_geti hC hqX0_bowl rfl ha.1.1 (g_S3 ha.1.2.1 ha.1.2.2) rfl ((ha.2.1 6 (by decide)).trans rfl) ?_
  refine gb_run 3 (pc2 := 105) (ls2 := [(6, .int (s1.1 + fall)), (5, .int (r_at (M (a + 1)) 8 (r_at (M (a + 4)) 8 (M a 5)))), (4, .int (r_at (M (a + 4)) 8 (M a 5))), (3, .int (M a 5)), (0, .ref (27)), (1, .ref (a)), (2, .int (fall))]) (st2 := [.int (M5 3 5), .int (M5 a 6)]) (M2 := M5) hC hqX0_bowl rfl ?_
  refine gb_icmp_lt hqX0_bowl rfl (fun h6 => ?_) (fun h6 => ?_)
  ·
    have hr := g_if1 h6 hr
    refine gb_run 1 (pc2 := 117) (ls2 := [(6, .int (s1.1 + fall)), (5, .int (r_at (M (a + 1)) 8 (r_at (M (a + 4)) 8 (M a 5)))), (4, .int (r_at (M (a + 4)) 8 (M a 5))), (3, .int (M a 5)), (0, .ref (27)), (1, .ref (a)), (2, .int (fall))]) (st2 := [.int (s1.1 + fall)]) (M2 := M5) hC hqX0_bowl rfl ?_
    refine gb_iret hqX0_bowl rfl rfl (Nat.le_of_ble_eq_true rfl) (Nat.le_of_ble_eq_true rfl) ?_
    exact gl_I hr
  ·
    have hr := g_if0 h6 hr
    refine gb_run 3 (pc2 := 112) (ls2 := [(6, .int (s1.1 + fall)), (5, .int (r_at (M (a + 1)) 8 (r_at (M (a + 4)) 8 (M a 5)))), (4, .int (r_at (M (a + 4)) 8 (M a 5))), (3, .int (M a 5)), (0, .ref (27)), (1, .ref (a)), (2, .int (fall))]) (st2 := [.int (r_at (M (a + 4)) 8 (M a 5)), .ref (a), .ref (27)]) (M2 := M5) hC hqX0_bowl rfl ?_
    obtain ⟨s7, es7, hr⟩ := g_bd hr
    refine gz_cV (z := qX0_endHour) (a := 27) (av := [.ref (a), .int (r_at (M (a + 4)) 8 (M a 5))]) (rest := []) (pl := 613) hC hqX0_bowl rfl kX0_endHour sX0_endHour (by decide +kernel) (c_FB_endHour hC a (r_at (M (a + 4)) 8 (M a 5)) ha M5 sz (d - 1) (by omega) s7 es7) (by omega) ⟨rfl, rfl⟩ rfl (Nat.le_of_ble_eq_true rfl) (Nat.le_of_ble_eq_true rfl) rfl rfl rfl (Nat.le_of_ble_eq_true rfl) ⟨Nat.le_of_ble_eq_true rfl, Nat.le_of_ble_eq_true rfl⟩ (gs_V ?_)
    refine gb_run 1 (pc2 := 117) (ls2 := [(6, .int (s1.1 + fall)), (5, .int (r_at (M (a + 1)) 8 (r_at (M (a + 4)) 8 (M a 5)))), (4, .int (r_at (M (a + 4)) 8 (M a 5))), (3, .int (M a 5)), (0, .ref (27)), (1, .ref (a)), (2, .int (fall))]) (st2 := [.int (s1.1 + fall)]) (M2 := s7) hC hqX0_bowl rfl ?_
    refine gb_iret hqX0_bowl rfl rfl (Nat.le_of_ble_eq_true rfl) (Nat.le_of_ble_eq_true rfl) ?_
    exact gl_I hr
