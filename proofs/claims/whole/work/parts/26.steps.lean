/-! steps, decompiled. -/
def FT_write (kind : Int32) (u : Int32) (v : Int32) (M : gM) : Option (gM) :=
  g_let (r_put M 29 150 (M 28 5) kind) fun M1 => g_let (r_put M1 30 150 (M1 28 5) u) fun M2 => g_let (r_put M2 31 150 (M2 28 5) v) fun M3 => some (g_set M3 28 5 ((M3 28 5) + (1 : Int32)))
set_option maxRecDepth 20000 in
theorem c_FT_write {l : Launch} {C : gC} (hC : g_ctx l C) (kind : Int32) (u : Int32) (v : Int32)  (M : gM) (sz d : Nat) (hd : 2 ≤ d) (R : gM) (hr : FT_write kind u v M = some R) : gPg l C qX9_write d [.ref (28), .int (kind), .int (u), .int (v)] 956 g_S0 M sz (qV R) := by
  refine gPg.of (ls := [(0, .ref (28)), (1, .int (kind)), (2, .int (u)), (3, .int (v))]) (by decide +kernel) (Nat.le_of_ble_eq_true rfl) rfl ?_
  unfold FT_write at hr
  refine gb_run 5 (pc2 := 9) (ls2 := [(0, .ref (28)), (1, .int (kind)), (2, .int (u)), (3, .int (v))]) (st2 := [.int (kind), .int (M 28 5), .ref (29)]) (M2 := M) hC hqX9_write rfl ?_
  refine gz_cSN (host := "HoopHours") (z := qX11_put) (av := [.ref (29), .int (M 28 5), .int (kind)]) (rest := []) (pl := 955) hC hqX9_write rfl kX11_put (by decide +kernel) (c_put hC 29 150 _ (M 28 5) kind M sz (d - 1) (by omega) (Nat.le_of_ble_eq_true rfl) rfl (Nat.le_of_ble_eq_true rfl)) (by omega) ⟨rfl, rfl⟩ rfl rfl (Nat.le_of_ble_eq_true rfl) ⟨Nat.le_of_ble_eq_true rfl, Nat.le_of_ble_eq_true rfl⟩ (gs_V ?_)
  refine g_letP (P := fun M1 => GW l C qX9_write d (gQg 956 g_S0 (qV R) sz) gN 0 0 12 [(0, .ref (28)), (1, .int (kind)), (2, .int (u)), (3, .int (v))] [] (956, g_S0, M1, sz)) hr (fun M1 hr => ?_)
  refine gb_run 5 (pc2 := 21) (ls2 := [(0, .ref (28)), (1, .int (kind)), (2, .int (u)), (3, .int (v))]) (st2 := [.int (u), .int (M1 28 5), .ref (30)]) (M2 := M1) hC hqX9_write rfl ?_
  refine gz_cSN (host := "HoopHours") (z := qX11_put) (av := [.ref (30), .int (M1 28 5), .int (u)]) (rest := []) (pl := 955) hC hqX9_write rfl kX11_put (by decide +kernel) (c_put hC 30 150 _ (M1 28 5) u M1 sz (d - 1) (by omega) (Nat.le_of_ble_eq_true rfl) rfl (Nat.le_of_ble_eq_true rfl)) (by omega) ⟨rfl, rfl⟩ rfl rfl (Nat.le_of_ble_eq_true rfl) ⟨Nat.le_of_ble_eq_true rfl, Nat.le_of_ble_eq_true rfl⟩ (gs_V ?_)
  refine g_letP (P := fun M2 => GW l C qX9_write d (gQg 956 g_S0 (qV R) sz) gN 0 0 24 [(0, .ref (28)), (1, .int (kind)), (2, .int (u)), (3, .int (v))] [] (956, g_S0, M2, sz)) hr (fun M2 hr => ?_)
  refine gb_run 5 (pc2 := 33) (ls2 := [(0, .ref (28)), (1, .int (kind)), (2, .int (u)), (3, .int (v))]) (st2 := [.int (v), .int (M2 28 5), .ref (31)]) (M2 := M2) hC hqX9_write rfl ?_
  refine gz_cSN (host := "HoopHours") (z := qX11_put) (av := [.ref (31), .int (M2 28 5), .int (v)]) (rest := []) (pl := 955) hC hqX9_write rfl kX11_put (by decide +kernel) (c_put hC 31 150 _ (M2 28 5) v M2 sz (d - 1) (by omega) (Nat.le_of_ble_eq_true rfl) rfl (Nat.le_of_ble_eq_true rfl)) (by omega) ⟨rfl, rfl⟩ rfl rfl (Nat.le_of_ble_eq_true rfl) ⟨Nat.le_of_ble_eq_true rfl, Nat.le_of_ble_eq_true rfl⟩ (gs_V ?_)
  refine g_letP (P := fun M3 => GW l C qX9_write d (gQg 956 g_S0 (qV R) sz) gN 0 0 36 [(0, .ref (28)), (1, .int (kind)), (2, .int (u)), (3, .int (v))] [] (956, g_S0, M3, sz)) hr (fun M3 hr => ?_)
  refine gb_run 6 (pc2 := 46) (ls2 := [(0, .ref (28)), (1, .int (kind)), (2, .int (u)), (3, .int (v))]) (st2 := []) (M2 := g_set M3 28 5 ((M3 28 5) + (1 : Int32))) hC hqX9_write rfl ?_
  refine gb_vret hqX9_write rfl rfl (Nat.le_of_ble_eq_true rfl) (Nat.le_of_ble_eq_true rfl) ?_
  exact gl_V hr
def FT_readAll_L14 (op : Int32) (rreadOne : Int32 → gM → Option (gM)) : Nat → Int32 → Int32 → gM → Option (gM)
  | 0, _, _, _ => none
  | k + 1, x3, x4, M =>
  if (150 : Int32) ≤ x4 then (some M) else (if (F_faulty M) = (0 : Int32) then ((F_next M).bind fun s5 => if s5.1 = x3 then (some (s5.2)) else ((rreadOne op (s5.2)).bind fun s7 => (F_need (59 : Int32) s7).bind fun s8 => FT_readAll_L14 op rreadOne k x3 (x4 + (1 : Int32)) s8)) else (some M))
set_option maxRecDepth 20000 in
theorem c_FT_readAll_L14 {l : Launch} {C : gC} (hC : g_ctx l C) (op : Int32) (sz d : Nat) (hd : 3 ≤ d) (rreadOne : Int32 → gM → Option (gM)) (hrreadOne : ∀ (v2 : Int32) (M : gM) (R : gM), rreadOne v2 M = some R → gPg l C qX9_readOne (d - 1) [.ref (28), .ref (1), .int (v2)] 956 g_S0 M sz (qV R)) (R : gM) : ∀ (k : Nat) (x3 : Int32) (x4 : Int32) (M : gM), FT_readAll_L14 op rreadOne k x3 x4 M = some R → GW l C qX9_readAll d (gQg 956 g_S0 (qV R) sz) gN 0 0 14 [(0, .ref (28)), (1, .ref (1)), (2, .int (op)), (3, .int (x3)), (4, .int (x4))] [] (956, g_S0, M, sz) := by
  intro k
  induction k with
  | zero => intro x3 x4 M hr; exact nomatch (show (none : Option (gM)) = some R from hr)
  | succ k ih =>
    intro x3 x4 M hr
    unfold FT_readAll_L14 at hr
    refine gb_run 2 (pc2 := 19) (ls2 := [(0, .ref (28)), (1, .ref (1)), (2, .int (op)), (3, .int (x3)), (4, .int (x4))]) (st2 := [.int (150), .int (x4)]) (M2 := M) hC hqX9_readAll rfl ?_
    refine gb_icmp_ge hqX9_readAll rfl (fun h1 => ?_) (fun h1 => ?_)
    ·
      have hr := g_if1 h1 hr
      refine gb_vret hqX9_readAll rfl rfl (Nat.le_of_ble_eq_true rfl) (Nat.le_of_ble_eq_true rfl) ?_
      exact gl_V hr
    ·
      have hr := g_if0 h1 hr
      refine gb_run 1 (pc2 := 23) (ls2 := [(0, .ref (28)), (1, .ref (1)), (2, .int (op)), (3, .int (x3)), (4, .int (x4))]) (st2 := [.ref (1)]) (M2 := M) hC hqX9_readAll rfl ?_
      refine gz_cV (z := qX10_faulty) (a := 1) (av := []) (rest := []) (pl := 941) hC hqX9_readAll rfl kX10_faulty sX10_faulty (by decide +kernel) (c_F_faulty hC   M sz (d - 1) (by omega)) (by omega) ⟨rfl, rfl⟩ rfl (Nat.le_of_ble_eq_true rfl) (Nat.le_of_ble_eq_true rfl) rfl rfl rfl (Nat.le_of_ble_eq_true rfl) ⟨Nat.le_of_ble_eq_true rfl, Nat.le_of_ble_eq_true rfl⟩ (gs_Zp fun z3 => ?_)
      refine gb_if_ne hqX9_readAll rfl (fun h4 => ?_) (fun h4 => ?_)
      ·
        have hr := g_if0 h4 hr
        refine gb_vret hqX9_readAll rfl rfl (Nat.le_of_ble_eq_true rfl) (Nat.le_of_ble_eq_true rfl) ?_
        exact gl_V hr
      ·
        have hr := g_if1 h4 hr
        refine gb_run 1 (pc2 := 30) (ls2 := [(0, .ref (28)), (1, .ref (1)), (2, .int (op)), (3, .int (x3)), (4, .int (x4))]) (st2 := [.ref (1)]) (M2 := M) hC hqX9_readAll rfl ?_
        obtain ⟨s5, es5, hr⟩ := g_bd hr
        refine gz_cV (z := qX10_next) (a := 1) (av := []) (rest := []) (pl := 942) hC hqX9_readAll rfl kX10_next sX10_next (by decide +kernel) (c_F_next hC   M sz (d - 1) (by omega) s5 es5) (by omega) ⟨rfl, rfl⟩ rfl (Nat.le_of_ble_eq_true rfl) (Nat.le_of_ble_eq_true rfl) rfl rfl rfl (Nat.le_of_ble_eq_true rfl) ⟨Nat.le_of_ble_eq_true rfl, Nat.le_of_ble_eq_true rfl⟩ (gs_I ?_)
        refine gb_run 1 (pc2 := 34) (ls2 := [(0, .ref (28)), (1, .ref (1)), (2, .int (op)), (3, .int (x3)), (4, .int (x4))]) (st2 := [.int (x3), .int (s5.1)]) (M2 := s5.2) hC hqX9_readAll rfl ?_
        refine gb_icmp_ne hqX9_readAll rfl (fun h6 => ?_) (fun h6 => ?_)
        ·
          have hr := g_if0 h6 hr
          refine gb_run 3 (pc2 := 41) (ls2 := [(0, .ref (28)), (1, .ref (1)), (2, .int (op)), (3, .int (x3)), (4, .int (x4))]) (st2 := [.int (op), .ref (1), .ref (28)]) (M2 := s5.2) hC hqX9_readAll rfl ?_
          obtain ⟨s7, es7, hr⟩ := g_bd hr
          refine gz_cV (z := qX9_readOne) (a := 28) (av := [.ref (1), .int (op)]) (rest := []) (pl := 943) hC hqX9_readAll rfl kX9_readOne sX9_readOne (by decide +kernel) (hrreadOne op (s5.2) s7 es7) (by omega) ⟨rfl, rfl⟩ rfl (Nat.le_of_ble_eq_true rfl) (Nat.le_of_ble_eq_true rfl) rfl rfl rfl (Nat.le_of_ble_eq_true rfl) ⟨Nat.le_of_ble_eq_true rfl, Nat.le_of_ble_eq_true rfl⟩ (gs_V ?_)
          refine gb_run 2 (pc2 := 47) (ls2 := [(0, .ref (28)), (1, .ref (1)), (2, .int (op)), (3, .int (x3)), (4, .int (x4))]) (st2 := [.int (59), .ref (1)]) (M2 := s7) hC hqX9_readAll rfl ?_
          obtain ⟨s8, es8, hr⟩ := g_bd hr
          refine gz_cV (z := qX10_need) (a := 1) (av := [.int (59)]) (rest := []) (pl := 966) hC hqX9_readAll rfl kX10_need sX10_need (by decide +kernel) (c_F_need hC (59 : Int32)  s7 sz (d - 1) (by omega) s8 es8) (by omega) ⟨rfl, rfl⟩ rfl (Nat.le_of_ble_eq_true rfl) (Nat.le_of_ble_eq_true rfl) rfl rfl rfl (Nat.le_of_ble_eq_true rfl) ⟨Nat.le_of_ble_eq_true rfl, Nat.le_of_ble_eq_true rfl⟩ (gs_V ?_)
          refine gb_run 2 (pc2 := 14) (ls2 := [(4, .int (x4 + (1 : Int32))), (0, .ref (28)), (1, .ref (1)), (2, .int (op)), (3, .int (x3))]) (st2 := []) (M2 := s8) hC hqX9_readAll rfl ?_
          refine gw_pick [1, 2, 3, 4, 0] (ls2 := [(0, .ref (28)), (1, .ref (1)), (2, .int (op)), (3, .int (x3)), (4, .int (x4 + (1 : Int32)))]) rfl ?_
          exact ih x3 (x4 + (1 : Int32)) s8 hr
        ·
          have hr := g_if1 h6 hr
          refine gb_vret hqX9_readAll rfl rfl (Nat.le_of_ble_eq_true rfl) (Nat.le_of_ble_eq_true rfl) ?_
          exact gl_V hr
def FT_readAll_B (rreadOne : Int32 → gM → Option (gM)) (op : Int32) (M : gM) : Option (gM) :=
  if op = (0 : Int32) then (FT_readAll_L14 op rreadOne 1000 (-1 : Int32) (0 : Int32) M) else (FT_readAll_L14 op rreadOne 1000 (93 : Int32) (0 : Int32) M)
set_option maxRecDepth 20000 in
theorem c_FT_readAll_B {l : Launch} {C : gC} (hC : g_ctx l C) (op : Int32)  (M : gM) (sz d : Nat) (hd : 3 ≤ d) (rreadOne : Int32 → gM → Option (gM)) (hrreadOne : ∀ (v2 : Int32) (M : gM) (R : gM), rreadOne v2 M = some R → gPg l C qX9_readOne (d - 1) [.ref (28), .ref (1), .int (v2)] 956 g_S0 M sz (qV R)) (R : gM) (hr : FT_readAll_B rreadOne op M = some R) : gPg l C qX9_readAll d [.ref (28), .ref (1), .int (op)] 956 g_S0 M sz (qV R) := by
  refine gPg.of (ls := [(0, .ref (28)), (1, .ref (1)), (2, .int (op))]) (by decide +kernel) (Nat.le_of_ble_eq_true rfl) rfl ?_
  unfold FT_readAll_B at hr
  refine gb_run 1 (pc2 := 1) (ls2 := [(0, .ref (28)), (1, .ref (1)), (2, .int (op))]) (st2 := [.int (op)]) (M2 := M) hC hqX9_readAll rfl ?_
  refine gb_if_ne hqX9_readAll rfl (fun h1 => ?_) (fun h1 => ?_)
  ·
    have hr := g_if0 h1 hr
    refine gb_run 4 (pc2 := 14) (ls2 := [(4, .int (0)), (3, .int (93)), (0, .ref (28)), (1, .ref (1)), (2, .int (op))]) (st2 := []) (M2 := M) hC hqX9_readAll rfl ?_
    refine gw_pick [2, 3, 4, 1, 0] (ls2 := [(0, .ref (28)), (1, .ref (1)), (2, .int (op)), (3, .int (93)), (4, .int (0))]) rfl ?_
    exact c_FT_readAll_L14 hC op sz d (by omega) rreadOne hrreadOne R 1000 (93 : Int32) (0 : Int32) M hr
  ·
    have hr := g_if1 h1 hr
    refine gb_run 5 (pc2 := 14) (ls2 := [(4, .int (0)), (3, .int (-1)), (0, .ref (28)), (1, .ref (1)), (2, .int (op))]) (st2 := []) (M2 := M) hC hqX9_readAll rfl ?_
    refine gw_pick [2, 3, 4, 1, 0] (ls2 := [(0, .ref (28)), (1, .ref (1)), (2, .int (op)), (3, .int (-1)), (4, .int (0))]) rfl ?_
    exact c_FT_readAll_L14 hC op sz d (by omega) rreadOne hrreadOne R 1000 (-1 : Int32) (0 : Int32) M hr
def FT_readOne_B (rreadAgain : Int32 → gM → Option (gM)) (op : Int32) (M : gM) : Option (gM) :=
  (F_word M).bind fun s1 => (F_was 15 s1).bind fun s2 => if s2 = (0 : Int32) then ((F_was 16 s1).bind fun s5 => if s5 = (0 : Int32) then ((F_was 11 s1).bind fun s8 => if s8 = (0 : Int32) then ((F_was 17 s1).bind fun s11 => if s11 = (0 : Int32) then ((F_was 12 s1).bind fun s14 => if s14 = (0 : Int32) then ((F_was 18 s1).bind fun s17 => if s17 = (0 : Int32) then ((F_fail (1 : Int32) (s1 1 4) s1).bind fun s20 => some s20) else ((rreadAgain op s1).bind fun s21 => some s21)) else ((F_number (0 : Int32) ((s1 3 6) - (1 : Int32)) s1).bind fun s22 => (F_number (1 : Int32) (9 : Int32) (s22.2)).bind fun s23 => (FT_write (4 : Int32) s22.1 s23.1 (s23.2)).bind fun s24 => some s24)) else ((F_number (0 : Int32) ((s1 3 6) - (1 : Int32)) s1).bind fun s25 => (FT_write (3 : Int32) s25.1 (0 : Int32) (s25.2)).bind fun s26 => some s26)) else ((FT_write (2 : Int32) (0 : Int32) (0 : Int32) s1).bind fun s27 => some s27)) else ((FT_write (1 : Int32) (0 : Int32) (0 : Int32) s1).bind fun s28 => some s28)) else ((F_number (0 : Int32) ((s1 3 7) - (1 : Int32)) s1).bind fun s29 => (F_number (0 : Int32) (((s29.2) 3 6) - (1 : Int32)) (s29.2)).bind fun s30 => (FT_write (0 : Int32) s29.1 s30.1 (s30.2)).bind fun s31 => some s31)
set_option maxRecDepth 20000 in
theorem c_FT_readOne_B {l : Launch} {C : gC} (hC : g_ctx l C) (op : Int32)  (M : gM) (sz d : Nat) (hd : 6 ≤ d) (rreadAgain : Int32 → gM → Option (gM)) (hrreadAgain : ∀ (v2 : Int32) (M : gM) (R : gM), rreadAgain v2 M = some R → gPg l C qX9_readAgain (d - 1) [.ref (28), .ref (1), .int (v2)] 956 g_S0 M sz (qV R)) (R : gM) (hr : FT_readOne_B rreadAgain op M = some R) : gPg l C qX9_readOne d [.ref (28), .ref (1), .int (op)] 956 g_S0 M sz (qV R) := by
  refine gPg.of (ls := [(0, .ref (28)), (1, .ref (1)), (2, .int (op))]) (by decide +kernel) (Nat.le_of_ble_eq_true rfl) rfl ?_
  unfold FT_readOne_B at hr
  refine gb_run 1 (pc2 := 1) (ls2 := [(0, .ref (28)), (1, .ref (1)), (2, .int (op))]) (st2 := [.ref (1)]) (M2 := M) hC hqX9_readOne rfl ?_
  obtain ⟨s1, es1, hr⟩ := g_bd hr
  refine gz_cV (z := qX10_word) (a := 1) (av := []) (rest := []) (pl := 947) hC hqX9_readOne rfl kX10_word sX10_word (by decide +kernel) (c_F_word hC   M sz (d - 1) (by omega) s1 es1) (by omega) ⟨rfl, rfl⟩ rfl (Nat.le_of_ble_eq_true rfl) (Nat.le_of_ble_eq_true rfl) rfl rfl rfl (Nat.le_of_ble_eq_true rfl) ⟨Nat.le_of_ble_eq_true rfl, Nat.le_of_ble_eq_true rfl⟩ (gs_V ?_)
  refine gb_run 2 (pc2 := 7) (ls2 := [(0, .ref (28)), (1, .ref (1)), (2, .int (op))]) (st2 := [.retAddr 15, .ref (1)]) (M2 := s1) hC hqX9_readOne rfl ?_
  obtain ⟨s2, es2, hr⟩ := g_bd hr
  refine gz_cV (z := qX10_was) (a := 1) (av := [.retAddr 15]) (rest := []) (pl := 949) hC hqX9_readOne rfl kX10_was sX10_was (by decide +kernel) (c_F_was hC 15 (by decide) s1 sz (d - 1) (by omega) s2 es2) (by omega) ⟨rfl, rfl⟩ rfl (Nat.le_of_ble_eq_true rfl) (Nat.le_of_ble_eq_true rfl) rfl rfl rfl (Nat.le_of_ble_eq_true rfl) ⟨Nat.le_of_ble_eq_true rfl, Nat.le_of_ble_eq_true rfl⟩ (gs_Zp fun z3 => ?_)
  refine gb_if_eq hqX9_readOne rfl (fun h4 => ?_) (fun h4 => ?_)
  ·
    have hr := g_if1 h4 hr
    refine gb_run 2 (pc2 := 54) (ls2 := [(0, .ref (28)), (1, .ref (1)), (2, .int (op))]) (st2 := [.retAddr 16, .ref (1)]) (M2 := s1) hC hqX9_readOne rfl ?_
    obtain ⟨s5, es5, hr⟩ := g_bd hr
    refine gz_cV (z := qX10_was) (a := 1) (av := [.retAddr 16]) (rest := []) (pl := 949) hC hqX9_readOne rfl kX10_was sX10_was (by decide +kernel) (c_F_was hC 16 (by decide) s1 sz (d - 1) (by omega) s5 es5) (by omega) ⟨rfl, rfl⟩ rfl (Nat.le_of_ble_eq_true rfl) (Nat.le_of_ble_eq_true rfl) rfl rfl rfl (Nat.le_of_ble_eq_true rfl) ⟨Nat.le_of_ble_eq_true rfl, Nat.le_of_ble_eq_true rfl⟩ (gs_Zp fun z6 => ?_)
    refine gb_if_eq hqX9_readOne rfl (fun h7 => ?_) (fun h7 => ?_)
    ·
      have hr := g_if1 h7 hr
      refine gb_run 2 (pc2 := 73) (ls2 := [(0, .ref (28)), (1, .ref (1)), (2, .int (op))]) (st2 := [.retAddr 11, .ref (1)]) (M2 := s1) hC hqX9_readOne rfl ?_
      obtain ⟨s8, es8, hr⟩ := g_bd hr
      refine gz_cV (z := qX10_was) (a := 1) (av := [.retAddr 11]) (rest := []) (pl := 949) hC hqX9_readOne rfl kX10_was sX10_was (by decide +kernel) (c_F_was hC 11 (by decide) s1 sz (d - 1) (by omega) s8 es8) (by omega) ⟨rfl, rfl⟩ rfl (Nat.le_of_ble_eq_true rfl) (Nat.le_of_ble_eq_true rfl) rfl rfl rfl (Nat.le_of_ble_eq_true rfl) ⟨Nat.le_of_ble_eq_true rfl, Nat.le_of_ble_eq_true rfl⟩ (gs_Zp fun z9 => ?_)
      refine gb_if_eq hqX9_readOne rfl (fun h10 => ?_) (fun h10 => ?_)
      ·
        have hr := g_if1 h10 hr
        refine gb_run 2 (pc2 := 92) (ls2 := [(0, .ref (28)), (1, .ref (1)), (2, .int (op))]) (st2 := [.retAddr 17, .ref (1)]) (M2 := s1) hC hqX9_readOne rfl ?_
        obtain ⟨s11, es11, hr⟩ := g_bd hr
        refine gz_cV (z := qX10_was) (a := 1) (av := [.retAddr 17]) (rest := []) (pl := 949) hC hqX9_readOne rfl kX10_was sX10_was (by decide +kernel) (c_F_was hC 17 (by decide) s1 sz (d - 1) (by omega) s11 es11) (by omega) ⟨rfl, rfl⟩ rfl (Nat.le_of_ble_eq_true rfl) (Nat.le_of_ble_eq_true rfl) rfl rfl rfl (Nat.le_of_ble_eq_true rfl) ⟨Nat.le_of_ble_eq_true rfl, Nat.le_of_ble_eq_true rfl⟩ (gs_Zp fun z12 => ?_)
        refine gb_if_eq hqX9_readOne rfl (fun h13 => ?_) (fun h13 => ?_)
        ·
          have hr := g_if1 h13 hr
          refine gb_run 2 (pc2 := 124) (ls2 := [(0, .ref (28)), (1, .ref (1)), (2, .int (op))]) (st2 := [.retAddr 12, .ref (1)]) (M2 := s1) hC hqX9_readOne rfl ?_
          obtain ⟨s14, es14, hr⟩ := g_bd hr
          refine gz_cV (z := qX10_was) (a := 1) (av := [.retAddr 12]) (rest := []) (pl := 949) hC hqX9_readOne rfl kX10_was sX10_was (by decide +kernel) (c_F_was hC 12 (by decide) s1 sz (d - 1) (by omega) s14 es14) (by omega) ⟨rfl, rfl⟩ rfl (Nat.le_of_ble_eq_true rfl) (Nat.le_of_ble_eq_true rfl) rfl rfl rfl (Nat.le_of_ble_eq_true rfl) ⟨Nat.le_of_ble_eq_true rfl, Nat.le_of_ble_eq_true rfl⟩ (gs_Zp fun z15 => ?_)
          refine gb_if_eq hqX9_readOne rfl (fun h16 => ?_) (fun h16 => ?_)
          ·
            have hr := g_if1 h16 hr
            refine gb_run 2 (pc2 := 164) (ls2 := [(0, .ref (28)), (1, .ref (1)), (2, .int (op))]) (st2 := [.retAddr 18, .ref (1)]) (M2 := s1) hC hqX9_readOne rfl ?_
            obtain ⟨s17, es17, hr⟩ := g_bd hr
            refine gz_cV (z := qX10_was) (a := 1) (av := [.retAddr 18]) (rest := []) (pl := 949) hC hqX9_readOne rfl kX10_was sX10_was (by decide +kernel) (c_F_was hC 18 (by decide) s1 sz (d - 1) (by omega) s17 es17) (by omega) ⟨rfl, rfl⟩ rfl (Nat.le_of_ble_eq_true rfl) (Nat.le_of_ble_eq_true rfl) rfl rfl rfl (Nat.le_of_ble_eq_true rfl) ⟨Nat.le_of_ble_eq_true rfl, Nat.le_of_ble_eq_true rfl⟩ (gs_Zp fun z18 => ?_)
            refine gb_if_eq hqX9_readOne rfl (fun h19 => ?_) (fun h19 => ?_)
            ·
              have hr := g_if1 h19 hr
              refine gb_run 4 (pc2 := 185) (ls2 := [(0, .ref (28)), (1, .ref (1)), (2, .int (op))]) (st2 := [.int (s1 1 4), .int (1), .ref (1)]) (M2 := s1) hC hqX9_readOne rfl ?_
              obtain ⟨s20, es20, hr⟩ := g_bd hr
              refine gz_cV (z := qX10_fail) (a := 1) (av := [.int (1), .int (s1 1 4)]) (rest := []) (pl := 965) hC hqX9_readOne rfl kX10_fail sX10_fail (by decide +kernel) (c_F_fail hC (1 : Int32) (s1 1 4)  s1 sz (d - 1) (by omega) s20 es20) (by omega) ⟨rfl, rfl⟩ rfl (Nat.le_of_ble_eq_true rfl) (Nat.le_of_ble_eq_true rfl) rfl rfl rfl (Nat.le_of_ble_eq_true rfl) ⟨Nat.le_of_ble_eq_true rfl, Nat.le_of_ble_eq_true rfl⟩ (gs_V ?_)
              refine gb_vret hqX9_readOne rfl rfl (Nat.le_of_ble_eq_true rfl) (Nat.le_of_ble_eq_true rfl) ?_
              exact gl_V hr
            ·
              have hr := g_if0 h19 hr
              refine gb_run 3 (pc2 := 173) (ls2 := [(0, .ref (28)), (1, .ref (1)), (2, .int (op))]) (st2 := [.int (op), .ref (1), .ref (28)]) (M2 := s1) hC hqX9_readOne rfl ?_
              obtain ⟨s21, es21, hr⟩ := g_bd hr
              refine gz_cV (z := qX9_readAgain) (a := 28) (av := [.ref (1), .int (op)]) (rest := []) (pl := 961) hC hqX9_readOne rfl kX9_readAgain sX9_readAgain (by decide +kernel) (hrreadAgain op s1 s21 es21) (by omega) ⟨rfl, rfl⟩ rfl (Nat.le_of_ble_eq_true rfl) (Nat.le_of_ble_eq_true rfl) rfl rfl rfl (Nat.le_of_ble_eq_true rfl) ⟨Nat.le_of_ble_eq_true rfl, Nat.le_of_ble_eq_true rfl⟩ (gs_V ?_)
              refine gb_run 1 (pc2 := 188) (ls2 := [(0, .ref (28)), (1, .ref (1)), (2, .int (op))]) (st2 := []) (M2 := s21) hC hqX9_readOne rfl ?_
              refine gb_vret hqX9_readOne rfl rfl (Nat.le_of_ble_eq_true rfl) (Nat.le_of_ble_eq_true rfl) ?_
              exact gl_V hr
          ·
            have hr := g_if0 h16 hr
            refine gb_run 7 (pc2 := 141) (ls2 := [(0, .ref (28)), (1, .ref (1)), (2, .int (op))]) (st2 := [.int ((s1 3 6) - (1 : Int32)), .int (0), .ref (1)]) (M2 := s1) hC hqX9_readOne rfl ?_
            obtain ⟨s22, es22, hr⟩ := g_bd hr
            refine gz_cV (z := qX10_number) (a := 1) (av := [.int (0), .int ((s1 3 6) - (1 : Int32))]) (rest := []) (pl := 950) hC hqX9_readOne rfl kX10_number sX10_number (by decide +kernel) (c_F_number hC (0 : Int32) ((s1 3 6) - (1 : Int32))  s1 sz (d - 1) (by omega) s22 es22) (by omega) ⟨rfl, rfl⟩ rfl (Nat.le_of_ble_eq_true rfl) (Nat.le_of_ble_eq_true rfl) rfl rfl rfl (Nat.le_of_ble_eq_true rfl) ⟨Nat.le_of_ble_eq_true rfl, Nat.le_of_ble_eq_true rfl⟩ (gs_I ?_)
            refine gb_run 7 (pc2 := 152) (ls2 := [(3, .int (s22.1)), (0, .ref (28)), (1, .ref (1)), (2, .int (op))]) (st2 := [.int (9), .int (1), .ref (1), .int (s22.1), .int (4), .ref (28)]) (M2 := s22.2) hC hqX9_readOne rfl ?_
            obtain ⟨s23, es23, hr⟩ := g_bd hr
            refine gz_cV (z := qX10_number) (a := 1) (av := [.int (1), .int (9)]) (rest := [.int (s22.1), .int (4), .ref (28)]) (pl := 950) hC hqX9_readOne rfl kX10_number sX10_number (by decide +kernel) (c_F_number hC (1 : Int32) (9 : Int32)  (s22.2) sz (d - 1) (by omega) s23 es23) (by omega) ⟨rfl, rfl⟩ rfl (Nat.le_of_ble_eq_true rfl) (Nat.le_of_ble_eq_true rfl) rfl rfl rfl (Nat.le_of_ble_eq_true rfl) ⟨Nat.le_of_ble_eq_true rfl, Nat.le_of_ble_eq_true rfl⟩ (gs_I ?_)
            obtain ⟨s24, es24, hr⟩ := g_bd hr
            refine gz_cV (z := qX9_write) (a := 28) (av := [.int (4), .int (s22.1), .int (s23.1)]) (rest := []) (pl := 951) hC hqX9_readOne rfl kX9_write sX9_write (by decide +kernel) (c_FT_write hC (4 : Int32) s22.1 s23.1  (s23.2) sz (d - 1) (by omega) s24 es24) (by omega) ⟨rfl, rfl⟩ rfl (Nat.le_of_ble_eq_true rfl) (Nat.le_of_ble_eq_true rfl) rfl rfl rfl (Nat.le_of_ble_eq_true rfl) ⟨Nat.le_of_ble_eq_true rfl, Nat.le_of_ble_eq_true rfl⟩ (gs_V ?_)
            refine gb_run 1 (pc2 := 188) (ls2 := [(3, .int (s22.1)), (0, .ref (28)), (1, .ref (1)), (2, .int (op))]) (st2 := []) (M2 := s24) hC hqX9_readOne rfl ?_
            refine gb_vret hqX9_readOne rfl rfl (Nat.le_of_ble_eq_true rfl) (Nat.le_of_ble_eq_true rfl) ?_
            exact gl_V hr
        ·
          have hr := g_if0 h13 hr
          refine gb_run 9 (pc2 := 111) (ls2 := [(0, .ref (28)), (1, .ref (1)), (2, .int (op))]) (st2 := [.int ((s1 3 6) - (1 : Int32)), .int (0), .ref (1), .int (3), .ref (28)]) (M2 := s1) hC hqX9_readOne rfl ?_
          obtain ⟨s25, es25, hr⟩ := g_bd hr
          refine gz_cV (z := qX10_number) (a := 1) (av := [.int (0), .int ((s1 3 6) - (1 : Int32))]) (rest := [.int (3), .ref (28)]) (pl := 950) hC hqX9_readOne rfl kX10_number sX10_number (by decide +kernel) (c_F_number hC (0 : Int32) ((s1 3 6) - (1 : Int32))  s1 sz (d - 1) (by omega) s25 es25) (by omega) ⟨rfl, rfl⟩ rfl (Nat.le_of_ble_eq_true rfl) (Nat.le_of_ble_eq_true rfl) rfl rfl rfl (Nat.le_of_ble_eq_true rfl) ⟨Nat.le_of_ble_eq_true rfl, Nat.le_of_ble_eq_true rfl⟩ (gs_I ?_)
          refine gb_run 1 (pc2 := 115) (ls2 := [(0, .ref (28)), (1, .ref (1)), (2, .int (op))]) (st2 := [.int (0), .int (s25.1), .int (3), .ref (28)]) (M2 := s25.2) hC hqX9_readOne rfl ?_
          obtain ⟨s26, es26, hr⟩ := g_bd hr
          refine gz_cV (z := qX9_write) (a := 28) (av := [.int (3), .int (s25.1), .int (0)]) (rest := []) (pl := 951) hC hqX9_readOne rfl kX9_write sX9_write (by decide +kernel) (c_FT_write hC (3 : Int32) s25.1 (0 : Int32)  (s25.2) sz (d - 1) (by omega) s26 es26) (by omega) ⟨rfl, rfl⟩ rfl (Nat.le_of_ble_eq_true rfl) (Nat.le_of_ble_eq_true rfl) rfl rfl rfl (Nat.le_of_ble_eq_true rfl) ⟨Nat.le_of_ble_eq_true rfl, Nat.le_of_ble_eq_true rfl⟩ (gs_V ?_)
          refine gb_run 1 (pc2 := 188) (ls2 := [(0, .ref (28)), (1, .ref (1)), (2, .int (op))]) (st2 := []) (M2 := s26) hC hqX9_readOne rfl ?_
          refine gb_vret hqX9_readOne rfl rfl (Nat.le_of_ble_eq_true rfl) (Nat.le_of_ble_eq_true rfl) ?_
          exact gl_V hr
      ·
        have hr := g_if0 h10 hr
        refine gb_run 4 (pc2 := 83) (ls2 := [(0, .ref (28)), (1, .ref (1)), (2, .int (op))]) (st2 := [.int (0), .int (0), .int (2), .ref (28)]) (M2 := s1) hC hqX9_readOne rfl ?_
        obtain ⟨s27, es27, hr⟩ := g_bd hr
        refine gz_cV (z := qX9_write) (a := 28) (av := [.int (2), .int (0), .int (0)]) (rest := []) (pl := 951) hC hqX9_readOne rfl kX9_write sX9_write (by decide +kernel) (c_FT_write hC (2 : Int32) (0 : Int32) (0 : Int32)  s1 sz (d - 1) (by omega) s27 es27) (by omega) ⟨rfl, rfl⟩ rfl (Nat.le_of_ble_eq_true rfl) (Nat.le_of_ble_eq_true rfl) rfl rfl rfl (Nat.le_of_ble_eq_true rfl) ⟨Nat.le_of_ble_eq_true rfl, Nat.le_of_ble_eq_true rfl⟩ (gs_V ?_)
        refine gb_run 1 (pc2 := 188) (ls2 := [(0, .ref (28)), (1, .ref (1)), (2, .int (op))]) (st2 := []) (M2 := s27) hC hqX9_readOne rfl ?_
        refine gb_vret hqX9_readOne rfl rfl (Nat.le_of_ble_eq_true rfl) (Nat.le_of_ble_eq_true rfl) ?_
        exact gl_V hr
    ·
      have hr := g_if0 h7 hr
      refine gb_run 4 (pc2 := 64) (ls2 := [(0, .ref (28)), (1, .ref (1)), (2, .int (op))]) (st2 := [.int (0), .int (0), .int (1), .ref (28)]) (M2 := s1) hC hqX9_readOne rfl ?_
      obtain ⟨s28, es28, hr⟩ := g_bd hr
      refine gz_cV (z := qX9_write) (a := 28) (av := [.int (1), .int (0), .int (0)]) (rest := []) (pl := 951) hC hqX9_readOne rfl kX9_write sX9_write (by decide +kernel) (c_FT_write hC (1 : Int32) (0 : Int32) (0 : Int32)  s1 sz (d - 1) (by omega) s28 es28) (by omega) ⟨rfl, rfl⟩ rfl (Nat.le_of_ble_eq_true rfl) (Nat.le_of_ble_eq_true rfl) rfl rfl rfl (Nat.le_of_ble_eq_true rfl) ⟨Nat.le_of_ble_eq_true rfl, Nat.le_of_ble_eq_true rfl⟩ (gs_V ?_)
      refine gb_run 1 (pc2 := 188) (ls2 := [(0, .ref (28)), (1, .ref (1)), (2, .int (op))]) (st2 := []) (M2 := s28) hC hqX9_readOne rfl ?_
      refine gb_vret hqX9_readOne rfl rfl (Nat.le_of_ble_eq_true rfl) (Nat.le_of_ble_eq_true rfl) ?_
      exact gl_V hr
  ·
    have hr := g_if0 h4 hr
    refine gb_run 7 (pc2 := 24) (ls2 := [(0, .ref (28)), (1, .ref (1)), (2, .int (op))]) (st2 := [.int ((s1 3 7) - (1 : Int32)), .int (0), .ref (1)]) (M2 := s1) hC hqX9_readOne rfl ?_
    obtain ⟨s29, es29, hr⟩ := g_bd hr
    refine gz_cV (z := qX10_number) (a := 1) (av := [.int (0), .int ((s1 3 7) - (1 : Int32))]) (rest := []) (pl := 950) hC hqX9_readOne rfl kX10_number sX10_number (by decide +kernel) (c_F_number hC (0 : Int32) ((s1 3 7) - (1 : Int32))  s1 sz (d - 1) (by omega) s29 es29) (by omega) ⟨rfl, rfl⟩ rfl (Nat.le_of_ble_eq_true rfl) (Nat.le_of_ble_eq_true rfl) rfl rfl rfl (Nat.le_of_ble_eq_true rfl) ⟨Nat.le_of_ble_eq_true rfl, Nat.le_of_ble_eq_true rfl⟩ (gs_I ?_)
    refine gb_run 11 (pc2 := 42) (ls2 := [(3, .int (s29.1)), (0, .ref (28)), (1, .ref (1)), (2, .int (op))]) (st2 := [.int (((s29.2) 3 6) - (1 : Int32)), .int (0), .ref (1), .int (s29.1), .int (0), .ref (28)]) (M2 := s29.2) hC hqX9_readOne rfl ?_
    obtain ⟨s30, es30, hr⟩ := g_bd hr
    refine gz_cV (z := qX10_number) (a := 1) (av := [.int (0), .int (((s29.2) 3 6) - (1 : Int32))]) (rest := [.int (s29.1), .int (0), .ref (28)]) (pl := 950) hC hqX9_readOne rfl kX10_number sX10_number (by decide +kernel) (c_F_number hC (0 : Int32) (((s29.2) 3 6) - (1 : Int32))  (s29.2) sz (d - 1) (by omega) s30 es30) (by omega) ⟨rfl, rfl⟩ rfl (Nat.le_of_ble_eq_true rfl) (Nat.le_of_ble_eq_true rfl) rfl rfl rfl (Nat.le_of_ble_eq_true rfl) ⟨Nat.le_of_ble_eq_true rfl, Nat.le_of_ble_eq_true rfl⟩ (gs_I ?_)
    obtain ⟨s31, es31, hr⟩ := g_bd hr
    refine gz_cV (z := qX9_write) (a := 28) (av := [.int (0), .int (s29.1), .int (s30.1)]) (rest := []) (pl := 951) hC hqX9_readOne rfl kX9_write sX9_write (by decide +kernel) (c_FT_write hC (0 : Int32) s29.1 s30.1  (s30.2) sz (d - 1) (by omega) s31 es31) (by omega) ⟨rfl, rfl⟩ rfl (Nat.le_of_ble_eq_true rfl) (Nat.le_of_ble_eq_true rfl) rfl rfl rfl (Nat.le_of_ble_eq_true rfl) ⟨Nat.le_of_ble_eq_true rfl, Nat.le_of_ble_eq_true rfl⟩ (gs_V ?_)
    refine gb_run 1 (pc2 := 188) (ls2 := [(3, .int (s29.1)), (0, .ref (28)), (1, .ref (1)), (2, .int (op))]) (st2 := []) (M2 := s31) hC hqX9_readOne rfl ?_
    refine gb_vret hqX9_readOne rfl rfl (Nat.le_of_ble_eq_true rfl) (Nat.le_of_ble_eq_true rfl) ?_
    exact gl_V hr
def FT_readAgain_B (rreadAll : Int32 → gM → Option (gM)) (op : Int32) (M : gM) : Option (gM) :=
  if op < (6 : Int32) then ((F_number (0 : Int32) (60 : Int32) M).bind fun s2 => (FT_write (5 : Int32) s2.1 (0 : Int32) (s2.2)).bind fun s3 => (F_need (91 : Int32) s3).bind fun s4 => (rreadAll (op + (1 : Int32)) s4).bind fun s5 => (F_need (93 : Int32) s5).bind fun s6 => g_let (r_put s6 31 150 (M 28 5) (s6 28 5)) fun M7 => some M7) else ((F_fail (3 : Int32) (M 1 4) M).bind fun s8 => some s8)
set_option maxRecDepth 20000 in
theorem c_FT_readAgain_B {l : Launch} {C : gC} (hC : g_ctx l C) (op : Int32)  (M : gM) (sz d : Nat) (hd : 3 ≤ d) (rreadAll : Int32 → gM → Option (gM)) (hrreadAll : ∀ (v2 : Int32) (M : gM) (R : gM), rreadAll v2 M = some R → gPg l C qX9_readAll (d - 1) [.ref (28), .ref (1), .int (v2)] 956 g_S0 M sz (qV R)) (R : gM) (hr : FT_readAgain_B rreadAll op M = some R) : gPg l C qX9_readAgain d [.ref (28), .ref (1), .int (op)] 956 g_S0 M sz (qV R) := by
  refine gPg.of (ls := [(0, .ref (28)), (1, .ref (1)), (2, .int (op))]) (by decide +kernel) (Nat.le_of_ble_eq_true rfl) rfl ?_
  unfold FT_readAgain_B at hr
  refine gb_run 2 (pc2 := 3) (ls2 := [(0, .ref (28)), (1, .ref (1)), (2, .int (op))]) (st2 := [.int (6), .int (op)]) (M2 := M) hC hqX9_readAgain rfl ?_
  refine gb_icmp_lt hqX9_readAgain rfl (fun h1 => ?_) (fun h1 => ?_)
  ·
    have hr := g_if1 h1 hr
    refine gb_run 8 (pc2 := 27) (ls2 := [(3, .int (M 28 5)), (0, .ref (28)), (1, .ref (1)), (2, .int (op))]) (st2 := [.int (60), .int (0), .ref (1), .int (5), .ref (28)]) (M2 := M) hC hqX9_readAgain rfl ?_
    obtain ⟨s2, es2, hr⟩ := g_bd hr
    refine gz_cV (z := qX10_number) (a := 1) (av := [.int (0), .int (60)]) (rest := [.int (5), .ref (28)]) (pl := 950) hC hqX9_readAgain rfl kX10_number sX10_number (by decide +kernel) (c_F_number hC (0 : Int32) (60 : Int32)  M sz (d - 1) (by omega) s2 es2) (by omega) ⟨rfl, rfl⟩ rfl (Nat.le_of_ble_eq_true rfl) (Nat.le_of_ble_eq_true rfl) rfl rfl rfl (Nat.le_of_ble_eq_true rfl) ⟨Nat.le_of_ble_eq_true rfl, Nat.le_of_ble_eq_true rfl⟩ (gs_I ?_)
    refine gb_run 1 (pc2 := 31) (ls2 := [(3, .int (M 28 5)), (0, .ref (28)), (1, .ref (1)), (2, .int (op))]) (st2 := [.int (0), .int (s2.1), .int (5), .ref (28)]) (M2 := s2.2) hC hqX9_readAgain rfl ?_
    obtain ⟨s3, es3, hr⟩ := g_bd hr
    refine gz_cV (z := qX9_write) (a := 28) (av := [.int (5), .int (s2.1), .int (0)]) (rest := []) (pl := 951) hC hqX9_readAgain rfl kX9_write sX9_write (by decide +kernel) (c_FT_write hC (5 : Int32) s2.1 (0 : Int32)  (s2.2) sz (d - 1) (by omega) s3 es3) (by omega) ⟨rfl, rfl⟩ rfl (Nat.le_of_ble_eq_true rfl) (Nat.le_of_ble_eq_true rfl) rfl rfl rfl (Nat.le_of_ble_eq_true rfl) ⟨Nat.le_of_ble_eq_true rfl, Nat.le_of_ble_eq_true rfl⟩ (gs_V ?_)
    refine gb_run 2 (pc2 := 37) (ls2 := [(3, .int (M 28 5)), (0, .ref (28)), (1, .ref (1)), (2, .int (op))]) (st2 := [.int (91), .ref (1)]) (M2 := s3) hC hqX9_readAgain rfl ?_
    obtain ⟨s4, es4, hr⟩ := g_bd hr
    refine gz_cV (z := qX10_need) (a := 1) (av := [.int (91)]) (rest := []) (pl := 966) hC hqX9_readAgain rfl kX10_need sX10_need (by decide +kernel) (c_F_need hC (91 : Int32)  s3 sz (d - 1) (by omega) s4 es4) (by omega) ⟨rfl, rfl⟩ rfl (Nat.le_of_ble_eq_true rfl) (Nat.le_of_ble_eq_true rfl) rfl rfl rfl (Nat.le_of_ble_eq_true rfl) ⟨Nat.le_of_ble_eq_true rfl, Nat.le_of_ble_eq_true rfl⟩ (gs_V ?_)
    refine gb_run 5 (pc2 := 45) (ls2 := [(3, .int (M 28 5)), (0, .ref (28)), (1, .ref (1)), (2, .int (op))]) (st2 := [.int (op + (1 : Int32)), .ref (1), .ref (28)]) (M2 := s4) hC hqX9_readAgain rfl ?_
    obtain ⟨s5, es5, hr⟩ := g_bd hr
    refine gz_cV (z := qX9_readAll) (a := 28) (av := [.ref (1), .int (op + (1 : Int32))]) (rest := []) (pl := 937) hC hqX9_readAgain rfl kX9_readAll sX9_readAll (by decide +kernel) (hrreadAll (op + (1 : Int32)) s4 s5 es5) (by omega) ⟨rfl, rfl⟩ rfl (Nat.le_of_ble_eq_true rfl) (Nat.le_of_ble_eq_true rfl) rfl rfl rfl (Nat.le_of_ble_eq_true rfl) ⟨Nat.le_of_ble_eq_true rfl, Nat.le_of_ble_eq_true rfl⟩ (gs_V ?_)
    refine gb_run 2 (pc2 := 51) (ls2 := [(3, .int (M 28 5)), (0, .ref (28)), (1, .ref (1)), (2, .int (op))]) (st2 := [.int (93), .ref (1)]) (M2 := s5) hC hqX9_readAgain rfl ?_
    obtain ⟨s6, es6, hr⟩ := g_bd hr
    refine gz_cV (z := qX10_need) (a := 1) (av := [.int (93)]) (rest := []) (pl := 966) hC hqX9_readAgain rfl kX10_need sX10_need (by decide +kernel) (c_F_need hC (93 : Int32)  s5 sz (d - 1) (by omega) s6 es6) (by omega) ⟨rfl, rfl⟩ rfl (Nat.le_of_ble_eq_true rfl) (Nat.le_of_ble_eq_true rfl) rfl rfl rfl (Nat.le_of_ble_eq_true rfl) ⟨Nat.le_of_ble_eq_true rfl, Nat.le_of_ble_eq_true rfl⟩ (gs_V ?_)
    refine gb_run 5 (pc2 := 63) (ls2 := [(3, .int (M 28 5)), (0, .ref (28)), (1, .ref (1)), (2, .int (op))]) (st2 := [.int (s6 28 5), .int (M 28 5), .ref (31)]) (M2 := s6) hC hqX9_readAgain rfl ?_
    refine gz_cSN (host := "HoopHours") (z := qX11_put) (av := [.ref (31), .int (M 28 5), .int (s6 28 5)]) (rest := []) (pl := 955) hC hqX9_readAgain rfl kX11_put (by decide +kernel) (c_put hC 31 150 _ (M 28 5) (s6 28 5) s6 sz (d - 1) (by omega) (Nat.le_of_ble_eq_true rfl) rfl (Nat.le_of_ble_eq_true rfl)) (by omega) ⟨rfl, rfl⟩ rfl rfl (Nat.le_of_ble_eq_true rfl) ⟨Nat.le_of_ble_eq_true rfl, Nat.le_of_ble_eq_true rfl⟩ (gs_V ?_)
    refine g_letP (P := fun M7 => GW l C qX9_readAgain d (gQg 956 g_S0 (qV R) sz) gN 0 0 66 [(3, .int (M 28 5)), (0, .ref (28)), (1, .ref (1)), (2, .int (op))] [] (956, g_S0, M7, sz)) hr (fun M7 hr => ?_)
    refine gb_vret hqX9_readAgain rfl rfl (Nat.le_of_ble_eq_true rfl) (Nat.le_of_ble_eq_true rfl) ?_
    exact gl_V hr
  ·
    have hr := g_if0 h1 hr
    refine gb_run 4 (pc2 := 12) (ls2 := [(0, .ref (28)), (1, .ref (1)), (2, .int (op))]) (st2 := [.int (M 1 4), .int (3), .ref (1)]) (M2 := M) hC hqX9_readAgain rfl ?_
    obtain ⟨s8, es8, hr⟩ := g_bd hr
    refine gz_cV (z := qX10_fail) (a := 1) (av := [.int (3), .int (M 1 4)]) (rest := []) (pl := 965) hC hqX9_readAgain rfl kX10_fail sX10_fail (by decide +kernel) (c_F_fail hC (3 : Int32) (M 1 4)  M sz (d - 1) (by omega) s8 es8) (by omega) ⟨rfl, rfl⟩ rfl (Nat.le_of_ble_eq_true rfl) (Nat.le_of_ble_eq_true rfl) rfl rfl rfl (Nat.le_of_ble_eq_true rfl) ⟨Nat.le_of_ble_eq_true rfl, Nat.le_of_ble_eq_true rfl⟩ (gs_V ?_)
    refine gb_vret hqX9_readAgain rfl rfl (Nat.le_of_ble_eq_true rfl) (Nat.le_of_ble_eq_true rfl) ?_
    exact gl_V hr
def FT_reads_all : Nat → (Int32 → gM → Option (gM)) × (Int32 → gM → Option (gM)) × (Int32 → gM → Option (gM))
  | 0 => (fun _ _ => none, fun _ _ => none, fun _ _ => none)
  | f + 1 => (fun op M => FT_readAll_B (FT_reads_all f).2.1 op M, fun op M => FT_readOne_B (FT_reads_all f).2.2 op M, fun op M => FT_readAgain_B (FT_reads_all f).1 op M)
def FT_readAll (f : Nat) (op : Int32) (M : gM) : Option (gM) := (FT_reads_all f).1 op M
def FT_readOne (f : Nat) (op : Int32) (M : gM) : Option (gM) := (FT_reads_all f).2.1 op M
def FT_readAgain (f : Nat) (op : Int32) (M : gM) : Option (gM) := (FT_reads_all f).2.2 op M
theorem FT_readAll_s (f : Nat) (op : Int32) (M : gM) : FT_readAll (f + 1) op M = FT_readAll_B (FT_readOne f) op M := rfl
theorem FT_readOne_s (f : Nat) (op : Int32) (M : gM) : FT_readOne (f + 1) op M = FT_readOne_B (FT_readAgain f) op M := rfl
theorem FT_readAgain_s (f : Nat) (op : Int32) (M : gM) : FT_readAgain (f + 1) op M = FT_readAgain_B (FT_readAll f) op M := rfl
theorem c_FT_reads {l : Launch} {C : gC} (hC : g_ctx l C) : ∀ f : Nat, (∀ (op : Int32) (M : gM) (sz d : Nat) (R : gM), 6 + f ≤ d → FT_readAll f op M = some R → gPg l C qX9_readAll d [.ref (28), .ref (1), .int (op)] 956 g_S0 M sz (qV R)) ∧ (∀ (op : Int32) (M : gM) (sz d : Nat) (R : gM), 6 + f ≤ d → FT_readOne f op M = some R → gPg l C qX9_readOne d [.ref (28), .ref (1), .int (op)] 956 g_S0 M sz (qV R)) ∧ (∀ (op : Int32) (M : gM) (sz d : Nat) (R : gM), 6 + f ≤ d → FT_readAgain f op M = some R → gPg l C qX9_readAgain d [.ref (28), .ref (1), .int (op)] 956 g_S0 M sz (qV R)) := by
  intro f
  induction f with
  | zero => exact ⟨fun _ M sz d R _ hr => (nomatch (show (none : Option (gM)) = some R from hr)), fun _ M sz d R _ hr => (nomatch (show (none : Option (gM)) = some R from hr)), fun _ M sz d R _ hr => (nomatch (show (none : Option (gM)) = some R from hr))⟩
  | succ f ih =>
    have g0 : ∀ (op : Int32) (M : gM) (sz d : Nat) (R : gM), 6 + (f + 1) ≤ d → FT_readAll_B (FT_readOne f) op M = some R → gPg l C qX9_readAll d [.ref (28), .ref (1), .int (op)] 956 g_S0 M sz (qV R) :=
      fun op M sz d R hd hr => c_FT_readAll_B hC op  M sz d (by omega) (FT_readOne f) (fun v2 M R hr => ih.2.1 v2 M sz (d - 1) R (by omega) hr) R hr
    have g1 : ∀ (op : Int32) (M : gM) (sz d : Nat) (R : gM), 6 + (f + 1) ≤ d → FT_readOne_B (FT_readAgain f) op M = some R → gPg l C qX9_readOne d [.ref (28), .ref (1), .int (op)] 956 g_S0 M sz (qV R) :=
      fun op M sz d R hd hr => c_FT_readOne_B hC op  M sz d (by omega) (FT_readAgain f) (fun v2 M R hr => ih.2.2 v2 M sz (d - 1) R (by omega) hr) R hr
    have g2 : ∀ (op : Int32) (M : gM) (sz d : Nat) (R : gM), 6 + (f + 1) ≤ d → FT_readAgain_B (FT_readAll f) op M = some R → gPg l C qX9_readAgain d [.ref (28), .ref (1), .int (op)] 956 g_S0 M sz (qV R) :=
      fun op M sz d R hd hr => c_FT_readAgain_B hC op  M sz d (by omega) (FT_readAll f) (fun v2 M R hr => ih.1 v2 M sz (d - 1) R (by omega) hr) R hr
    exact ⟨fun op M sz d R hd hr => g0 op M sz d R hd hr, fun op M sz d R hd hr => g1 op M sz d R hd hr, fun op M sz d R hd hr => g2 op M sz d R hd hr⟩
theorem c_FT_readAll {l : Launch} {C : gC} (hC : g_ctx l C) (f : Nat) (op : Int32) (M : gM) (sz d : Nat) (hd : 6 + f ≤ d) (R : gM) (hr : FT_readAll f op M = some R) : gPg l C qX9_readAll d [.ref (28), .ref (1), .int (op)] 956 g_S0 M sz (qV R) := (c_FT_reads hC f).1 op M sz d R hd hr
theorem c_FT_readOne {l : Launch} {C : gC} (hC : g_ctx l C) (f : Nat) (op : Int32) (M : gM) (sz d : Nat) (hd : 6 + f ≤ d) (R : gM) (hr : FT_readOne f op M = some R) : gPg l C qX9_readOne d [.ref (28), .ref (1), .int (op)] 956 g_S0 M sz (qV R) := (c_FT_reads hC f).2.1 op M sz d R hd hr
theorem c_FT_readAgain {l : Launch} {C : gC} (hC : g_ctx l C) (f : Nat) (op : Int32) (M : gM) (sz d : Nat) (hd : 6 + f ≤ d) (R : gM) (hr : FT_readAgain f op M = some R) : gPg l C qX9_readAgain d [.ref (28), .ref (1), .int (op)] 956 g_S0 M sz (qV R) := (c_FT_reads hC f).2.2 op M sz d R hd hr
def FT_read  (M : gM) : Option (gM) :=
  (FT_readAll 30 (0 : Int32) (g_set M 28 5 (0 : Int32))).bind fun s1 => some s1
set_option maxRecDepth 20000 in
theorem c_FT_read {l : Launch} {C : gC} (hC : g_ctx l C)   (M : gM) (sz d : Nat) (hd : 37 ≤ d) (R : gM) (hr : FT_read M = some R) : gPg l C qX9_read d [.ref (28), .ref (1)] 956 g_S0 M sz (qV R) := by
  refine gPg.of (ls := [(0, .ref (28)), (1, .ref (1))]) (by decide +kernel) (Nat.le_of_ble_eq_true rfl) rfl ?_
  unfold FT_read at hr
  refine gb_run 6 (pc2 := 8) (ls2 := [(0, .ref (28)), (1, .ref (1))]) (st2 := [.int (0), .ref (1), .ref (28)]) (M2 := g_set M 28 5 (0 : Int32)) hC hqX9_read rfl ?_
  obtain ⟨s1, es1, hr⟩ := g_bd hr
  refine gz_cV (z := qX9_readAll) (a := 28) (av := [.ref (1), .int (0)]) (rest := []) (pl := 937) hC hqX9_read rfl kX9_readAll sX9_readAll (by decide +kernel) (c_FT_readAll hC 30 (0 : Int32)  (g_set M 28 5 (0 : Int32)) sz (d - 1) (by omega) s1 es1) (by omega) ⟨rfl, rfl⟩ rfl (Nat.le_of_ble_eq_true rfl) (Nat.le_of_ble_eq_true rfl) rfl rfl rfl (Nat.le_of_ble_eq_true rfl) ⟨Nat.le_of_ble_eq_true rfl, Nat.le_of_ble_eq_true rfl⟩ (gs_V ?_)
  refine gb_vret hqX9_read rfl rfl (Nat.le_of_ble_eq_true rfl) (Nat.le_of_ble_eq_true rfl) ?_
  exact gl_V hr
def FT_start  (M : gM) : Option (gM) :=
  some (g_set (g_set (g_set M 28 6 (0 : Int32)) 28 7 (0 : Int32)) 28 8 (0 : Int32))
set_option maxRecDepth 20000 in
theorem c_FT_start {l : Launch} {C : gC} (hC : g_ctx l C)   (M : gM) (sz d : Nat) (hd : 1 ≤ d) (R : gM) (hr : FT_start M = some R) : gPg l C qX9_start d [.ref (28)] 956 g_S0 M sz (qV R) := by
  refine gPg.of (ls := [(0, .ref (28))]) (by decide +kernel) (Nat.le_of_ble_eq_true rfl) rfl ?_
  unfold FT_start at hr
  refine gb_run 9 (pc2 := 15) (ls2 := [(0, .ref (28))]) (st2 := []) (M2 := g_set (g_set (g_set M 28 6 (0 : Int32)) 28 7 (0 : Int32)) 28 8 (0 : Int32)) hC hqX9_start rfl ?_
  refine gb_vret hqX9_start rfl rfl (Nat.le_of_ble_eq_true rfl) (Nat.le_of_ble_eq_true rfl) ?_
  exact gl_V hr
def FT_isRefused (kind : Int32) (u : Int32) (v : Int32) (M : gM) : Int32 :=
  if kind = (0 : Int32) then (if (r_at (M 52) 8 u) = v then 1 else 0) else if kind = (1 : Int32) then (if (200 : Int32) ≤ (M 48 8) then 1 else (if (FB_canBowl 48 M) = (0 : Int32) then 1 else 0)) else if kind = (2 : Int32) then 0 else if kind = (3 : Int32) then (if (r_at (M 49) 8 u) = (0 : Int32) then 1 else 0) else (if (r_at (M 50) 8 u) < (99 : Int32) then 0 else 1)
set_option maxRecDepth 20000 in
theorem c_FT_isRefused {l : Launch} {C : gC} (hC : g_ctx l C) (kind : Int32) (u : Int32) (v : Int32)  (M : gM) (sz d : Nat) (hd : 3 ≤ d) : gPg l C qX9_isRefused d [.ref (28), .ref (48), .int (kind), .int (u), .int (v)] 956 g_S0 M sz (qZp M (FT_isRefused kind u v M)) := by
  refine gPg.of (ls := [(0, .ref (28)), (1, .ref (48)), (2, .int (kind)), (3, .int (u)), (4, .int (v))]) (by decide +kernel) (Nat.le_of_ble_eq_true rfl) rfl ?_
  obtain ⟨R, hr⟩ : ∃ R, FT_isRefused kind u v M = R := ⟨_, rfl⟩
  rw [hr]
  unfold FT_isRefused at hr
  refine gb_run 1 (pc2 := 1) (ls2 := [(0, .ref (28)), (1, .ref (48)), (2, .int (kind)), (3, .int (u)), (4, .int (v))]) (st2 := [.int (kind)]) (M2 := M) hC hqX9_isRefused rfl ?_
  by_cases h1 : kind = (0 : Int32)
  ·
    have hr := g_if1 h1 hr
    refine gb_tblIn (tgt := 32) hqX9_isRefused rfl (by rw [h1]; first | done | decide) (by rw [h1]; first | done | decide) (by rw [h1]; first | done | rfl) (by decide) ?_
    refine gb_run 3 (pc2 := 37) (ls2 := [(0, .ref (28)), (1, .ref (48)), (2, .int (kind)), (3, .int (u)), (4, .int (v))]) (st2 := [.int (u), .ref (52)]) (M2 := M) hC hqX9_isRefused rfl ?_
    refine gz_cSN (host := "HoopHours") (z := qX11_at) (av := [.ref (52), .int (u)]) (rest := []) (pl := 979) hC hqX9_isRefused rfl kX11_at (by decide +kernel) (c_at hC 52 8 _ u M sz (d - 1) (by omega) (Nat.le_of_ble_eq_true rfl) rfl (Nat.le_of_ble_eq_true rfl)) (by omega) ⟨rfl, rfl⟩ rfl rfl (Nat.le_of_ble_eq_true rfl) ⟨Nat.le_of_ble_eq_true rfl, Nat.le_of_ble_eq_true rfl⟩ (gs_Ip (x := r_at (M 52) 8 u) ?_)
    refine gb_run 1 (pc2 := 42) (ls2 := [(0, .ref (28)), (1, .ref (48)), (2, .int (kind)), (3, .int (u)), (4, .int (v))]) (st2 := [.int (v), .int (r_at (M 52) 8 u)]) (M2 := M) hC hqX9_isRefused rfl ?_
    refine gb_icmp_ne hqX9_isRefused rfl (fun h2 => ?_) (fun h2 => ?_)
    ·
      have hr := g_if0 h2 hr
      refine gb_run 1 (pc2 := 50) (ls2 := [(0, .ref (28)), (1, .ref (48)), (2, .int (kind)), (3, .int (u)), (4, .int (v))]) (st2 := [.int (0)]) (M2 := M) hC hqX9_isRefused rfl ?_
      refine gb_zret hqX9_isRefused rfl rfl (Nat.le_of_ble_eq_true rfl) (Nat.le_of_ble_eq_true rfl) (Or.inl rfl) ?_
      exact gl_Zt (Or.inl rfl) hr
    ·
      have hr := g_if1 h2 hr
      refine gb_run 2 (pc2 := 50) (ls2 := [(0, .ref (28)), (1, .ref (48)), (2, .int (kind)), (3, .int (u)), (4, .int (v))]) (st2 := [.int (1)]) (M2 := M) hC hqX9_isRefused rfl ?_
      refine gb_zret hqX9_isRefused rfl rfl (Nat.le_of_ble_eq_true rfl) (Nat.le_of_ble_eq_true rfl) (Or.inr rfl) ?_
      exact gl_Zt (Or.inr rfl) hr
  have hr := g_if0 h1 hr
  by_cases h3 : kind = (1 : Int32)
  ·
    have hr := g_if1 h3 hr
    refine gb_tblIn (tgt := 51) hqX9_isRefused rfl (by rw [h3]; first | done | decide) (by rw [h3]; first | done | decide) (by rw [h3]; first | done | rfl) (by decide) ?_
    refine gb_run 3 (pc2 := 58) (ls2 := [(0, .ref (28)), (1, .ref (48)), (2, .int (kind)), (3, .int (u)), (4, .int (v))]) (st2 := [.int (200), .int (M 48 8)]) (M2 := M) hC hqX9_isRefused rfl ?_
    refine gb_icmp_ge hqX9_isRefused rfl (fun h4 => ?_) (fun h4 => ?_)
    ·
      have hr := g_if1 h4 hr
      refine gb_run 2 (pc2 := 77) (ls2 := [(0, .ref (28)), (1, .ref (48)), (2, .int (kind)), (3, .int (u)), (4, .int (v))]) (st2 := [.int (1)]) (M2 := M) hC hqX9_isRefused rfl ?_
      refine gb_zret hqX9_isRefused rfl rfl (Nat.le_of_ble_eq_true rfl) (Nat.le_of_ble_eq_true rfl) (Or.inr rfl) ?_
      exact gl_Zt (Or.inr rfl) hr
    ·
      have hr := g_if0 h4 hr
      refine gb_run 3 (pc2 := 66) (ls2 := [(0, .ref (28)), (1, .ref (48)), (2, .int (kind)), (3, .int (u)), (4, .int (v))]) (st2 := [.ref (48), .ref (27)]) (M2 := M) hC hqX9_isRefused rfl ?_
      refine gz_cV (z := qX0_canBowl) (a := 27) (av := [.ref (48)]) (rest := []) (pl := 989) hC hqX9_isRefused rfl kX0_canBowl sX0_canBowl (by decide +kernel) (c_FB_canBowl hC 48 (by decide +kernel) M sz (d - 1) (by omega)) (by omega) ⟨rfl, rfl⟩ rfl (Nat.le_of_ble_eq_true rfl) (Nat.le_of_ble_eq_true rfl) rfl rfl rfl (Nat.le_of_ble_eq_true rfl) ⟨Nat.le_of_ble_eq_true rfl, Nat.le_of_ble_eq_true rfl⟩ (gs_Zp fun z6 => ?_)
      refine gb_if_ne hqX9_isRefused rfl (fun h7 => ?_) (fun h7 => ?_)
      ·
        have hr := g_if0 h7 hr
        refine gb_run 1 (pc2 := 77) (ls2 := [(0, .ref (28)), (1, .ref (48)), (2, .int (kind)), (3, .int (u)), (4, .int (v))]) (st2 := [.int (0)]) (M2 := M) hC hqX9_isRefused rfl ?_
        refine gb_zret hqX9_isRefused rfl rfl (Nat.le_of_ble_eq_true rfl) (Nat.le_of_ble_eq_true rfl) (Or.inl rfl) ?_
        exact gl_Zt (Or.inl rfl) hr
      ·
        have hr := g_if1 h7 hr
        refine gb_run 2 (pc2 := 77) (ls2 := [(0, .ref (28)), (1, .ref (48)), (2, .int (kind)), (3, .int (u)), (4, .int (v))]) (st2 := [.int (1)]) (M2 := M) hC hqX9_isRefused rfl ?_
        refine gb_zret hqX9_isRefused rfl rfl (Nat.le_of_ble_eq_true rfl) (Nat.le_of_ble_eq_true rfl) (Or.inr rfl) ?_
        exact gl_Zt (Or.inr rfl) hr
  have hr := g_if0 h3 hr
  by_cases h8 : kind = (2 : Int32)
  ·
    have hr := g_if1 h8 hr
    refine gb_tblIn (tgt := 78) hqX9_isRefused rfl (by rw [h8]; first | done | decide) (by rw [h8]; first | done | decide) (by rw [h8]; first | done | rfl) (by decide) ?_
    refine gb_run 1 (pc2 := 79) (ls2 := [(0, .ref (28)), (1, .ref (48)), (2, .int (kind)), (3, .int (u)), (4, .int (v))]) (st2 := [.int (0)]) (M2 := M) hC hqX9_isRefused rfl ?_
    refine gb_zret hqX9_isRefused rfl rfl (Nat.le_of_ble_eq_true rfl) (Nat.le_of_ble_eq_true rfl) (Or.inl rfl) ?_
    exact gl_Zt (Or.inl rfl) hr
  have hr := g_if0 h8 hr
  by_cases h9 : kind = (3 : Int32)
  ·
    have hr := g_if1 h9 hr
    refine gb_tblIn (tgt := 80) hqX9_isRefused rfl (by rw [h9]; first | done | decide) (by rw [h9]; first | done | decide) (by rw [h9]; first | done | rfl) (by decide) ?_
    refine gb_run 3 (pc2 := 85) (ls2 := [(0, .ref (28)), (1, .ref (48)), (2, .int (kind)), (3, .int (u)), (4, .int (v))]) (st2 := [.int (u), .ref (49)]) (M2 := M) hC hqX9_isRefused rfl ?_
    refine gz_cSN (host := "HoopHours") (z := qX11_at) (av := [.ref (49), .int (u)]) (rest := []) (pl := 979) hC hqX9_isRefused rfl kX11_at (by decide +kernel) (c_at hC 49 8 _ u M sz (d - 1) (by omega) (Nat.le_of_ble_eq_true rfl) rfl (Nat.le_of_ble_eq_true rfl)) (by omega) ⟨rfl, rfl⟩ rfl rfl (Nat.le_of_ble_eq_true rfl) ⟨Nat.le_of_ble_eq_true rfl, Nat.le_of_ble_eq_true rfl⟩ (gs_Ip (x := r_at (M 49) 8 u) ?_)
    refine gb_if_ne hqX9_isRefused rfl (fun h10 => ?_) (fun h10 => ?_)
    ·
      have hr := g_if0 h10 hr
      refine gb_run 1 (pc2 := 96) (ls2 := [(0, .ref (28)), (1, .ref (48)), (2, .int (kind)), (3, .int (u)), (4, .int (v))]) (st2 := [.int (0)]) (M2 := M) hC hqX9_isRefused rfl ?_
      refine gb_zret hqX9_isRefused rfl rfl (Nat.le_of_ble_eq_true rfl) (Nat.le_of_ble_eq_true rfl) (Or.inl rfl) ?_
      exact gl_Zt (Or.inl rfl) hr
    ·
      have hr := g_if1 h10 hr
      refine gb_run 2 (pc2 := 96) (ls2 := [(0, .ref (28)), (1, .ref (48)), (2, .int (kind)), (3, .int (u)), (4, .int (v))]) (st2 := [.int (1)]) (M2 := M) hC hqX9_isRefused rfl ?_
      refine gb_zret hqX9_isRefused rfl rfl (Nat.le_of_ble_eq_true rfl) (Nat.le_of_ble_eq_true rfl) (Or.inr rfl) ?_
      exact gl_Zt (Or.inr rfl) hr
  have hr := g_if0 h9 hr
  refine gb_tblOut (tgt := 97) hqX9_isRefused rfl (by have q0 := gd_ne (z := 0) rfl h1; have q1 := gd_ne (z := 1) rfl h3; have q2 := gd_ne (z := 2) rfl h8; have q3 := gd_ne (z := 3) rfl h9; omega) (by decide) ?_
  refine gb_run 3 (pc2 := 102) (ls2 := [(0, .ref (28)), (1, .ref (48)), (2, .int (kind)), (3, .int (u)), (4, .int (v))]) (st2 := [.int (u), .ref (50)]) (M2 := M) hC hqX9_isRefused rfl ?_
  refine gz_cSN (host := "HoopHours") (z := qX11_at) (av := [.ref (50), .int (u)]) (rest := []) (pl := 979) hC hqX9_isRefused rfl kX11_at (by decide +kernel) (c_at hC 50 8 _ u M sz (d - 1) (by omega) (Nat.le_of_ble_eq_true rfl) rfl (Nat.le_of_ble_eq_true rfl)) (by omega) ⟨rfl, rfl⟩ rfl rfl (Nat.le_of_ble_eq_true rfl) ⟨Nat.le_of_ble_eq_true rfl, Nat.le_of_ble_eq_true rfl⟩ (gs_Ip (x := r_at (M 50) 8 u) ?_)
  refine gb_run 1 (pc2 := 107) (ls2 := [(0, .ref (28)), (1, .ref (48)), (2, .int (kind)), (3, .int (u)), (4, .int (v))]) (st2 := [.int (99), .int (r_at (M 50) 8 u)]) (M2 := M) hC hqX9_isRefused rfl ?_
  refine gb_icmp_lt hqX9_isRefused rfl (fun h11 => ?_) (fun h11 => ?_)
  ·
    have hr := g_if1 h11 hr
    refine gb_run 1 (pc2 := 115) (ls2 := [(0, .ref (28)), (1, .ref (48)), (2, .int (kind)), (3, .int (u)), (4, .int (v))]) (st2 := [.int (0)]) (M2 := M) hC hqX9_isRefused rfl ?_
    refine gb_zret hqX9_isRefused rfl rfl (Nat.le_of_ble_eq_true rfl) (Nat.le_of_ble_eq_true rfl) (Or.inl rfl) ?_
    exact gl_Zt (Or.inl rfl) hr
  ·
    have hr := g_if0 h11 hr
    refine gb_run 2 (pc2 := 115) (ls2 := [(0, .ref (28)), (1, .ref (48)), (2, .int (kind)), (3, .int (u)), (4, .int (v))]) (st2 := [.int (1)]) (M2 := M) hC hqX9_isRefused rfl ?_
    refine gb_zret hqX9_isRefused rfl rfl (Nat.le_of_ble_eq_true rfl) (Nat.le_of_ble_eq_true rfl) (Or.inr rfl) ?_
    exact gl_Zt (Or.inr rfl) hr
def FT_performOne (step : Int32) (M : gM) : Option (gM) :=
  if (FT_isRefused (r_at (M 29) 150 step) (r_at (M 30) 150 step) (r_at (M 31) 150 step) M) = (0 : Int32) then (if (r_at (M 29) 150 step) = (0 : Int32) then (g_let (r_put (g_set M 28 7 ((M 28 7) + (1 : Int32))) 52 8 (r_at (M 30) 150 step) (r_at (M 31) 150 step)) fun M5 => some M5) else if (r_at (M 29) 150 step) = (1 : Int32) then ((FB_bowl 48 (0 : Int32) (g_set M 28 7 ((M 28 7) + (1 : Int32)))).bind fun s7 => some (s7.2)) else if (r_at (M 29) 150 step) = (2 : Int32) then (some (g_set (g_set M 28 7 ((M 28 7) + (1 : Int32))) 48 10 ((1 : Int32) - (M 48 10)))) else if (r_at (M 29) 150 step) = (3 : Int32) then (g_let (r_put (g_set M 28 7 ((M 28 7) + (1 : Int32))) 49 8 (r_at (M 30) 150 step) (0 : Int32)) fun M10 => some M10) else (g_let (r_put (g_set M 28 7 ((M 28 7) + (1 : Int32))) 50 8 (r_at (M 30) 150 step) (m_min (99 : Int32) ((r_at (M 50) 8 (r_at (M 30) 150 step)) + (r_at (M 31) 150 step)))) fun M11 => some M11)) else (some (g_set M 28 8 ((M 28 8) + (1 : Int32))))
set_option maxRecDepth 20000 in
theorem c_FT_performOne {l : Launch} {C : gC} (hC : g_ctx l C) (step : Int32)  (M : gM) (sz d : Nat) (hd : 5 ≤ d) (R : gM) (hr : FT_performOne step M = some R) : gPg l C qX9_performOne d [.ref (28), .ref (48), .int (step)] 956 g_S0 M sz (qV R) := by
  refine gPg.of (ls := [(0, .ref (28)), (1, .ref (48)), (2, .int (step))]) (by decide +kernel) (Nat.le_of_ble_eq_true rfl) rfl ?_
  unfold FT_performOne at hr
  refine gb_run 3 (pc2 := 5) (ls2 := [(0, .ref (28)), (1, .ref (48)), (2, .int (step))]) (st2 := [.int (step), .ref (30)]) (M2 := M) hC hqX9_performOne rfl ?_
  refine gz_cSN (host := "HoopHours") (z := qX11_at) (av := [.ref (30), .int (step)]) (rest := []) (pl := 979) hC hqX9_performOne rfl kX11_at (by decide +kernel) (c_at hC 30 150 _ step M sz (d - 1) (by omega) (Nat.le_of_ble_eq_true rfl) rfl (Nat.le_of_ble_eq_true rfl)) (by omega) ⟨rfl, rfl⟩ rfl rfl (Nat.le_of_ble_eq_true rfl) ⟨Nat.le_of_ble_eq_true rfl, Nat.le_of_ble_eq_true rfl⟩ (gs_Ip (x := r_at (M 30) 150 step) ?_)
  refine gb_run 4 (pc2 := 14) (ls2 := [(3, .int (r_at (M 30) 150 step)), (0, .ref (28)), (1, .ref (48)), (2, .int (step))]) (st2 := [.int (step), .ref (31)]) (M2 := M) hC hqX9_performOne rfl ?_
  refine gz_cSN (host := "HoopHours") (z := qX11_at) (av := [.ref (31), .int (step)]) (rest := []) (pl := 979) hC hqX9_performOne rfl kX11_at (by decide +kernel) (c_at hC 31 150 _ step M sz (d - 1) (by omega) (Nat.le_of_ble_eq_true rfl) rfl (Nat.le_of_ble_eq_true rfl)) (by omega) ⟨rfl, rfl⟩ rfl rfl (Nat.le_of_ble_eq_true rfl) ⟨Nat.le_of_ble_eq_true rfl, Nat.le_of_ble_eq_true rfl⟩ (gs_Ip (x := r_at (M 31) 150 step) ?_)
  refine gb_run 6 (pc2 := 26) (ls2 := [(4, .int (r_at (M 31) 150 step)), (3, .int (r_at (M 30) 150 step)), (0, .ref (28)), (1, .ref (48)), (2, .int (step))]) (st2 := [.int (step), .ref (29), .ref (48), .ref (28)]) (M2 := M) hC hqX9_performOne rfl ?_
  refine gz_cSN (host := "HoopHours") (z := qX11_at) (av := [.ref (29), .int (step)]) (rest := [.ref (48), .ref (28)]) (pl := 979) hC hqX9_performOne rfl kX11_at (by decide +kernel) (c_at hC 29 150 _ step M sz (d - 1) (by omega) (Nat.le_of_ble_eq_true rfl) rfl (Nat.le_of_ble_eq_true rfl)) (by omega) ⟨rfl, rfl⟩ rfl rfl (Nat.le_of_ble_eq_true rfl) ⟨Nat.le_of_ble_eq_true rfl, Nat.le_of_ble_eq_true rfl⟩ (gs_Ip (x := r_at (M 29) 150 step) ?_)
  refine gb_run 2 (pc2 := 32) (ls2 := [(4, .int (r_at (M 31) 150 step)), (3, .int (r_at (M 30) 150 step)), (0, .ref (28)), (1, .ref (48)), (2, .int (step))]) (st2 := [.int (r_at (M 31) 150 step), .int (r_at (M 30) 150 step), .int (r_at (M 29) 150 step), .ref (48), .ref (28)]) (M2 := M) hC hqX9_performOne rfl ?_
  refine gz_cV (z := qX9_isRefused) (a := 28) (av := [.ref (48), .int (r_at (M 29) 150 step), .int (r_at (M 30) 150 step), .int (r_at (M 31) 150 step)]) (rest := []) (pl := 985) hC hqX9_performOne rfl kX9_isRefused sX9_isRefused (by decide +kernel) (c_FT_isRefused hC (r_at (M 29) 150 step) (r_at (M 30) 150 step) (r_at (M 31) 150 step)  M sz (d - 1) (by omega)) (by omega) ⟨rfl, rfl⟩ rfl (Nat.le_of_ble_eq_true rfl) (Nat.le_of_ble_eq_true rfl) rfl rfl rfl (Nat.le_of_ble_eq_true rfl) ⟨Nat.le_of_ble_eq_true rfl, Nat.le_of_ble_eq_true rfl⟩ (gs_Zp fun z2 => ?_)
  refine gb_if_eq hqX9_performOne rfl (fun h3 => ?_) (fun h3 => ?_)
  ·
    have hr := g_if1 h3 hr
    refine gb_run 9 (pc2 := 64) (ls2 := [(4, .int (r_at (M 31) 150 step)), (3, .int (r_at (M 30) 150 step)), (0, .ref (28)), (1, .ref (48)), (2, .int (step))]) (st2 := [.int (step), .ref (29)]) (M2 := g_set M 28 7 ((M 28 7) + (1 : Int32))) hC hqX9_performOne rfl ?_
    refine gz_cSN (host := "HoopHours") (z := qX11_at) (av := [.ref (29), .int (step)]) (rest := []) (pl := 979) hC hqX9_performOne rfl kX11_at (by decide +kernel) (c_at hC 29 150 _ step (g_set M 28 7 ((M 28 7) + (1 : Int32))) sz (d - 1) (by omega) (Nat.le_of_ble_eq_true rfl) rfl (Nat.le_of_ble_eq_true rfl)) (by omega) ⟨rfl, rfl⟩ rfl rfl (Nat.le_of_ble_eq_true rfl) ⟨Nat.le_of_ble_eq_true rfl, Nat.le_of_ble_eq_true rfl⟩ (gs_Ip (x := r_at (M 29) 150 step) ?_)
    by_cases h4 : (r_at (M 29) 150 step) = (0 : Int32)
    ·
      have hr := g_if1 h4 hr
      refine gb_tblIn (tgt := 96) hqX9_performOne rfl (by rw [h4]; first | done | decide) (by rw [h4]; first | done | decide) (by rw [h4]; first | done | rfl) (by decide) ?_
      refine gb_run 4 (pc2 := 103) (ls2 := [(4, .int (r_at (M 31) 150 step)), (3, .int (r_at (M 30) 150 step)), (0, .ref (28)), (1, .ref (48)), (2, .int (step))]) (st2 := [.int (r_at (M 31) 150 step), .int (r_at (M 30) 150 step), .ref (52)]) (M2 := g_set M 28 7 ((M 28 7) + (1 : Int32))) hC hqX9_performOne rfl ?_
      refine gz_cSN (host := "HoopHours") (z := qX11_put) (av := [.ref (52), .int (r_at (M 30) 150 step), .int (r_at (M 31) 150 step)]) (rest := []) (pl := 955) hC hqX9_performOne rfl kX11_put (by decide +kernel) (c_put hC 52 8 _ (r_at (M 30) 150 step) (r_at (M 31) 150 step) (g_set M 28 7 ((M 28 7) + (1 : Int32))) sz (d - 1) (by omega) (Nat.le_of_ble_eq_true rfl) rfl (Nat.le_of_ble_eq_true rfl)) (by omega) ⟨rfl, rfl⟩ rfl rfl (Nat.le_of_ble_eq_true rfl) ⟨Nat.le_of_ble_eq_true rfl, Nat.le_of_ble_eq_true rfl⟩ (gs_V ?_)
      refine g_letP (P := fun M5 => GW l C qX9_performOne d (gQg 956 g_S0 (qV R) sz) gN 0 0 106 [(4, .int (r_at (M 31) 150 step)), (3, .int (r_at (M 30) 150 step)), (0, .ref (28)), (1, .ref (48)), (2, .int (step))] [] (956, g_S0, M5, sz)) hr (fun M5 hr => ?_)
      refine gb_run 1 (pc2 := 171) (ls2 := [(4, .int (r_at (M 31) 150 step)), (3, .int (r_at (M 30) 150 step)), (0, .ref (28)), (1, .ref (48)), (2, .int (step))]) (st2 := []) (M2 := M5) hC hqX9_performOne rfl ?_
      refine gb_vret hqX9_performOne rfl rfl (Nat.le_of_ble_eq_true rfl) (Nat.le_of_ble_eq_true rfl) ?_
      exact gl_V hr
    have hr := g_if0 h4 hr
    by_cases h6 : (r_at (M 29) 150 step) = (1 : Int32)
    ·
      have hr := g_if1 h6 hr
      refine gb_tblIn (tgt := 109) hqX9_performOne rfl (by rw [h6]; first | done | decide) (by rw [h6]; first | done | decide) (by rw [h6]; first | done | rfl) (by decide) ?_
      refine gb_run 4 (pc2 := 115) (ls2 := [(4, .int (r_at (M 31) 150 step)), (3, .int (r_at (M 30) 150 step)), (0, .ref (28)), (1, .ref (48)), (2, .int (step))]) (st2 := [.int (0), .ref (48), .ref (27)]) (M2 := g_set M 28 7 ((M 28 7) + (1 : Int32))) hC hqX9_performOne rfl ?_
      obtain ⟨s7, es7, hr⟩ := g_bd hr
      refine gz_cV (z := qX0_bowl) (a := 27) (av := [.ref (48), .int (0)]) (rest := []) (pl := 990) hC hqX9_performOne rfl kX0_bowl sX0_bowl (by decide +kernel) (c_FB_bowl hC 48 (0 : Int32) (by decide +kernel) (g_set M 28 7 ((M 28 7) + (1 : Int32))) sz (d - 1) (by omega) s7 es7) (by omega) ⟨rfl, rfl⟩ rfl (Nat.le_of_ble_eq_true rfl) (Nat.le_of_ble_eq_true rfl) rfl rfl rfl (Nat.le_of_ble_eq_true rfl) ⟨Nat.le_of_ble_eq_true rfl, Nat.le_of_ble_eq_true rfl⟩ (gs_I ?_)
      refine gb_run 2 (pc2 := 171) (ls2 := [(4, .int (r_at (M 31) 150 step)), (3, .int (r_at (M 30) 150 step)), (0, .ref (28)), (1, .ref (48)), (2, .int (step))]) (st2 := []) (M2 := s7.2) hC hqX9_performOne rfl ?_
      refine gb_vret hqX9_performOne rfl rfl (Nat.le_of_ble_eq_true rfl) (Nat.le_of_ble_eq_true rfl) ?_
      exact gl_V hr
    have hr := g_if0 h6 hr
    by_cases h8 : (r_at (M 29) 150 step) = (2 : Int32)
    ·
      have hr := g_if1 h8 hr
      refine gb_tblIn (tgt := 122) hqX9_performOne rfl (by rw [h8]; first | done | decide) (by rw [h8]; first | done | decide) (by rw [h8]; first | done | rfl) (by decide) ?_
      refine gb_run 7 (pc2 := 171) (ls2 := [(4, .int (r_at (M 31) 150 step)), (3, .int (r_at (M 30) 150 step)), (0, .ref (28)), (1, .ref (48)), (2, .int (step))]) (st2 := []) (M2 := g_set (g_set M 28 7 ((M 28 7) + (1 : Int32))) 48 10 ((1 : Int32) - (M 48 10))) hC hqX9_performOne rfl ?_
      refine gb_vret hqX9_performOne rfl rfl (Nat.le_of_ble_eq_true rfl) (Nat.le_of_ble_eq_true rfl) ?_
      exact gl_V hr
    have hr := g_if0 h8 hr
    by_cases h9 : (r_at (M 29) 150 step) = (3 : Int32)
    ·
      have hr := g_if1 h9 hr
      refine gb_tblIn (tgt := 135) hqX9_performOne rfl (by rw [h9]; first | done | decide) (by rw [h9]; first | done | decide) (by rw [h9]; first | done | rfl) (by decide) ?_
      refine gb_run 4 (pc2 := 141) (ls2 := [(4, .int (r_at (M 31) 150 step)), (3, .int (r_at (M 30) 150 step)), (0, .ref (28)), (1, .ref (48)), (2, .int (step))]) (st2 := [.int (0), .int (r_at (M 30) 150 step), .ref (49)]) (M2 := g_set M 28 7 ((M 28 7) + (1 : Int32))) hC hqX9_performOne rfl ?_
      refine gz_cSN (host := "HoopHours") (z := qX11_put) (av := [.ref (49), .int (r_at (M 30) 150 step), .int (0)]) (rest := []) (pl := 955) hC hqX9_performOne rfl kX11_put (by decide +kernel) (c_put hC 49 8 _ (r_at (M 30) 150 step) (0 : Int32) (g_set M 28 7 ((M 28 7) + (1 : Int32))) sz (d - 1) (by omega) (Nat.le_of_ble_eq_true rfl) rfl (Nat.le_of_ble_eq_true rfl)) (by omega) ⟨rfl, rfl⟩ rfl rfl (Nat.le_of_ble_eq_true rfl) ⟨Nat.le_of_ble_eq_true rfl, Nat.le_of_ble_eq_true rfl⟩ (gs_V ?_)
      refine g_letP (P := fun M10 => GW l C qX9_performOne d (gQg 956 g_S0 (qV R) sz) gN 0 0 144 [(4, .int (r_at (M 31) 150 step)), (3, .int (r_at (M 30) 150 step)), (0, .ref (28)), (1, .ref (48)), (2, .int (step))] [] (956, g_S0, M10, sz)) hr (fun M10 hr => ?_)
      refine gb_run 1 (pc2 := 171) (ls2 := [(4, .int (r_at (M 31) 150 step)), (3, .int (r_at (M 30) 150 step)), (0, .ref (28)), (1, .ref (48)), (2, .int (step))]) (st2 := []) (M2 := M10) hC hqX9_performOne rfl ?_
      refine gb_vret hqX9_performOne rfl rfl (Nat.le_of_ble_eq_true rfl) (Nat.le_of_ble_eq_true rfl) ?_
      exact gl_V hr
    have hr := g_if0 h9 hr
    refine gb_tblOut (tgt := 147) hqX9_performOne rfl (by have q0 := gd_ne (z := 0) rfl h4; have q1 := gd_ne (z := 1) rfl h6; have q2 := gd_ne (z := 2) rfl h8; have q3 := gd_ne (z := 3) rfl h9; omega) (by decide) ?_
    refine gb_run 7 (pc2 := 159) (ls2 := [(4, .int (r_at (M 31) 150 step)), (3, .int (r_at (M 30) 150 step)), (0, .ref (28)), (1, .ref (48)), (2, .int (step))]) (st2 := [.int (r_at (M 30) 150 step), .ref (50), .int (99), .int (r_at (M 30) 150 step), .ref (50)]) (M2 := g_set M 28 7 ((M 28 7) + (1 : Int32))) hC hqX9_performOne rfl ?_
    refine gz_cSN (host := "HoopHours") (z := qX11_at) (av := [.ref (50), .int (r_at (M 30) 150 step)]) (rest := [.int (99), .int (r_at (M 30) 150 step), .ref (50)]) (pl := 979) hC hqX9_performOne rfl kX11_at (by decide +kernel) (c_at hC 50 8 _ (r_at (M 30) 150 step) (g_set M 28 7 ((M 28 7) + (1 : Int32))) sz (d - 1) (by omega) (Nat.le_of_ble_eq_true rfl) rfl (Nat.le_of_ble_eq_true rfl)) (by omega) ⟨rfl, rfl⟩ rfl rfl (Nat.le_of_ble_eq_true rfl) ⟨Nat.le_of_ble_eq_true rfl, Nat.le_of_ble_eq_true rfl⟩ (gs_Ip (x := r_at (M 50) 8 (r_at (M 30) 150 step)) ?_)
    refine gb_run 2 (pc2 := 165) (ls2 := [(4, .int (r_at (M 31) 150 step)), (3, .int (r_at (M 30) 150 step)), (0, .ref (28)), (1, .ref (48)), (2, .int (step))]) (st2 := [.int ((r_at (M 50) 8 (r_at (M 30) 150 step)) + (r_at (M 31) 150 step)), .int (99), .int (r_at (M 30) 150 step), .ref (50)]) (M2 := g_set M 28 7 ((M 28 7) + (1 : Int32))) hC hqX9_performOne rfl ?_
    refine gb_min (pl := 991) hC hqX9_performOne rfl (by decide +kernel) (Nat.le_of_ble_eq_true rfl) (by omega) (Nat.le_of_ble_eq_true rfl) (Nat.le_of_ble_eq_true rfl) ?_
    refine gz_cSN (host := "HoopHours") (z := qX11_put) (av := [.ref (50), .int (r_at (M 30) 150 step), .int (m_min (99 : Int32) ((r_at (M 50) 8 (r_at (M 30) 150 step)) + (r_at (M 31) 150 step)))]) (rest := []) (pl := 955) hC hqX9_performOne rfl kX11_put (by decide +kernel) (c_put hC 50 8 _ (r_at (M 30) 150 step) (m_min (99 : Int32) ((r_at (M 50) 8 (r_at (M 30) 150 step)) + (r_at (M 31) 150 step))) (g_set M 28 7 ((M 28 7) + (1 : Int32))) sz (d - 1) (by omega) (Nat.le_of_ble_eq_true rfl) rfl (Nat.le_of_ble_eq_true rfl)) (by omega) ⟨rfl, rfl⟩ rfl rfl (Nat.le_of_ble_eq_true rfl) ⟨Nat.le_of_ble_eq_true rfl, Nat.le_of_ble_eq_true rfl⟩ (gs_V ?_)
    refine g_letP (P := fun M11 => GW l C qX9_performOne d (gQg 956 g_S0 (qV R) sz) gN 0 0 171 [(4, .int (r_at (M 31) 150 step)), (3, .int (r_at (M 30) 150 step)), (0, .ref (28)), (1, .ref (48)), (2, .int (step))] [] (956, g_S0, M11, sz)) hr (fun M11 hr => ?_)
    refine gb_vret hqX9_performOne rfl rfl (Nat.le_of_ble_eq_true rfl) (Nat.le_of_ble_eq_true rfl) ?_
    exact gl_V hr
  ·
    have hr := g_if0 h3 hr
    refine gb_run 6 (pc2 := 48) (ls2 := [(4, .int (r_at (M 31) 150 step)), (3, .int (r_at (M 30) 150 step)), (0, .ref (28)), (1, .ref (48)), (2, .int (step))]) (st2 := []) (M2 := g_set M 28 8 ((M 28 8) + (1 : Int32))) hC hqX9_performOne rfl ?_
    refine gb_vret hqX9_performOne rfl rfl (Nat.le_of_ble_eq_true rfl) (Nat.le_of_ble_eq_true rfl) ?_
    exact gl_V hr
def FT_perform_L83 (p : Int32) (q : Int32) (op : Int32) (rperform : Int32 → Int32 → Int32 → gM → Option (gM)) (c14 : Int32 → Int32 → gM → Option (gM)) : Nat → Int32 → Int32 → Int32 → Int32 → gM → Option (gM)
  | 0, _, _, _, _, _ => none
  | k + 1, x5, x6, x7, x8, M =>
  if x8 ≤ (0 : Int32) then (c14 x7 (x6 + (1 : Int32)) M) else ((rperform (x5 + (1 : Int32)) x7 (op + (1 : Int32)) M).bind fun s2 => FT_perform_L83 p q op rperform c14 k x5 x6 x7 (x8 + (-1 : Int32)) s2)
set_option maxRecDepth 20000 in
theorem c_FT_perform_L83 {l : Launch} {C : gC} (hC : g_ctx l C) (p : Int32) (q : Int32) (op : Int32) (sz d : Nat) (hd : 6 ≤ d) (rperform : Int32 → Int32 → Int32 → gM → Option (gM)) (hrperform : ∀ (v2 : Int32) (v3 : Int32) (v4 : Int32) (M : gM) (R : gM), rperform v2 v3 v4 M = some R → gPg l C qX9_perform (d - 1) [.ref (28), .ref (48), .int (v2), .int (v3), .int (v4)] 956 g_S0 M sz (qV R)) (R : gM) (c14 : Int32 → Int32 → gM → Option (gM)) (hc14 : ∀ (x5 : Int32) (x6 : Int32) (M : gM), c14 x5 x6 M = some R → GW l C qX9_perform d (gQg 956 g_S0 (qV R) sz) gN 0 0 14 [(0, .ref (28)), (1, .ref (48)), (3, .int (q)), (4, .int (op)), (5, .int (x5)), (6, .int (x6))] [] (956, g_S0, M, sz)) : ∀ (k : Nat) (x5 : Int32) (x6 : Int32) (x7 : Int32) (x8 : Int32) (M : gM), FT_perform_L83 p q op rperform c14 k x5 x6 x7 x8 M = some R → GW l C qX9_perform d (gQg 956 g_S0 (qV R) sz) gN 0 0 83 [(0, .ref (28)), (1, .ref (48)), (3, .int (q)), (4, .int (op)), (5, .int (x5)), (6, .int (x6)), (7, .int (x7)), (8, .int (x8))] [] (956, g_S0, M, sz) := by
  intro k
  induction k with
  | zero => intro x5 x6 x7 x8 M hr; exact nomatch (show (none : Option (gM)) = some R from hr)
  | succ k ih =>
    intro x5 x6 x7 x8 M hr
    unfold FT_perform_L83 at hr
    refine gb_run 1 (pc2 := 85) (ls2 := [(0, .ref (28)), (1, .ref (48)), (3, .int (q)), (4, .int (op)), (5, .int (x5)), (6, .int (x6)), (7, .int (x7)), (8, .int (x8))]) (st2 := [.int (x8)]) (M2 := M) hC hqX9_perform rfl ?_
    refine gb_if_le hqX9_perform rfl (fun h1 => ?_) (fun h1 => ?_)
    ·
      have hr := g_if1 h1 hr
      refine gb_run 5 (pc2 := 14) (ls2 := [(6, .int (x6 + (1 : Int32))), (5, .int (x7)), (0, .ref (28)), (1, .ref (48)), (3, .int (q)), (4, .int (op)), (7, .int (x7)), (8, .int (x8))]) (st2 := []) (M2 := M) hC hqX9_perform rfl ?_
      refine gw_pick [2, 3, 4, 5, 1, 0] (ls2 := [(0, .ref (28)), (1, .ref (48)), (3, .int (q)), (4, .int (op)), (5, .int (x7)), (6, .int (x6 + (1 : Int32)))]) rfl ?_
      exact hc14 x7 (x6 + (1 : Int32)) M hr
    ·
      have hr := g_if0 h1 hr
      refine gb_run 9 (pc2 := 100) (ls2 := [(0, .ref (28)), (1, .ref (48)), (3, .int (q)), (4, .int (op)), (5, .int (x5)), (6, .int (x6)), (7, .int (x7)), (8, .int (x8))]) (st2 := [.int (op + (1 : Int32)), .int (x7), .int (x5 + (1 : Int32)), .ref (48), .ref (28)]) (M2 := M) hC hqX9_perform rfl ?_
      obtain ⟨s2, es2, hr⟩ := g_bd hr
      refine gz_cV (z := qX9_perform) (a := 28) (av := [.ref (48), .int (x5 + (1 : Int32)), .int (x7), .int (op + (1 : Int32))]) (rest := []) (pl := 980) hC hqX9_perform rfl kX9_perform sX9_perform (by decide +kernel) (hrperform (x5 + (1 : Int32)) x7 (op + (1 : Int32)) M s2 es2) (by omega) ⟨rfl, rfl⟩ rfl (Nat.le_of_ble_eq_true rfl) (Nat.le_of_ble_eq_true rfl) rfl rfl rfl (Nat.le_of_ble_eq_true rfl) ⟨Nat.le_of_ble_eq_true rfl, Nat.le_of_ble_eq_true rfl⟩ (gs_V ?_)
      refine gb_run 2 (pc2 := 83) (ls2 := [(8, .int (x8 + (-1 : Int32))), (0, .ref (28)), (1, .ref (48)), (3, .int (q)), (4, .int (op)), (5, .int (x5)), (6, .int (x6)), (7, .int (x7))]) (st2 := []) (M2 := s2) hC hqX9_perform rfl ?_
      refine gw_pick [1, 2, 3, 4, 5, 6, 7, 0] (ls2 := [(0, .ref (28)), (1, .ref (48)), (3, .int (q)), (4, .int (op)), (5, .int (x5)), (6, .int (x6)), (7, .int (x7)), (8, .int (x8 + (-1 : Int32)))]) rfl ?_
      exact ih x5 x6 x7 (x8 + (-1 : Int32)) s2 hr
def FT_perform_L14 (p : Int32) (q : Int32) (op : Int32) (rperform : Int32 → Int32 → Int32 → gM → Option (gM)) : Nat → Int32 → Int32 → gM → Option (gM)
  | 0, _, _, _ => none
  | k + 1, x5, x6, M =>
  if (150 : Int32) ≤ x6 then (some M) else (if q ≤ x5 then (some M) else (if (200 : Int32) ≤ (M 28 6) then (some M) else (if (r_at (M 29) 150 x5) = (5 : Int32) then (FT_perform_L83 p q op rperform (FT_perform_L14 p q op rperform k) 1000 x5 x6 (r_at (M 31) 150 x5) (r_at (M 30) 150 x5) (g_set M 28 6 ((M 28 6) + (1 : Int32)))) else ((FT_performOne x5 (g_set M 28 6 ((M 28 6) + (1 : Int32)))).bind fun s5 => FT_perform_L14 p q op rperform k (x5 + (1 : Int32)) (x6 + (1 : Int32)) s5))))
set_option maxRecDepth 20000 in
theorem c_FT_perform_L14 {l : Launch} {C : gC} (hC : g_ctx l C) (p : Int32) (q : Int32) (op : Int32) (sz d : Nat) (hd : 6 ≤ d) (rperform : Int32 → Int32 → Int32 → gM → Option (gM)) (hrperform : ∀ (v2 : Int32) (v3 : Int32) (v4 : Int32) (M : gM) (R : gM), rperform v2 v3 v4 M = some R → gPg l C qX9_perform (d - 1) [.ref (28), .ref (48), .int (v2), .int (v3), .int (v4)] 956 g_S0 M sz (qV R)) (R : gM) : ∀ (k : Nat) (x5 : Int32) (x6 : Int32) (M : gM), FT_perform_L14 p q op rperform k x5 x6 M = some R → GW l C qX9_perform d (gQg 956 g_S0 (qV R) sz) gN 0 0 14 [(0, .ref (28)), (1, .ref (48)), (3, .int (q)), (4, .int (op)), (5, .int (x5)), (6, .int (x6))] [] (956, g_S0, M, sz) := by
  intro k
  induction k with
  | zero => intro x5 x6 M hr; exact nomatch (show (none : Option (gM)) = some R from hr)
  | succ k ih =>
    intro x5 x6 M hr
    unfold FT_perform_L14 at hr
    refine gb_run 2 (pc2 := 19) (ls2 := [(0, .ref (28)), (1, .ref (48)), (3, .int (q)), (4, .int (op)), (5, .int (x5)), (6, .int (x6))]) (st2 := [.int (150), .int (x6)]) (M2 := M) hC hqX9_perform rfl ?_
    refine gb_icmp_ge hqX9_perform rfl (fun h1 => ?_) (fun h1 => ?_)
    ·
      have hr := g_if1 h1 hr
      refine gb_vret hqX9_perform rfl rfl (Nat.le_of_ble_eq_true rfl) (Nat.le_of_ble_eq_true rfl) ?_
      exact gl_V hr
    ·
      have hr := g_if0 h1 hr
      refine gb_run 2 (pc2 := 25) (ls2 := [(0, .ref (28)), (1, .ref (48)), (3, .int (q)), (4, .int (op)), (5, .int (x5)), (6, .int (x6))]) (st2 := [.int (q), .int (x5)]) (M2 := M) hC hqX9_perform rfl ?_
      refine gb_icmp_ge hqX9_perform rfl (fun h2 => ?_) (fun h2 => ?_)
      ·
        have hr := g_if1 h2 hr
        refine gb_vret hqX9_perform rfl rfl (Nat.le_of_ble_eq_true rfl) (Nat.le_of_ble_eq_true rfl) ?_
        exact gl_V hr
      ·
        have hr := g_if0 h2 hr
        refine gb_run 3 (pc2 := 35) (ls2 := [(0, .ref (28)), (1, .ref (48)), (3, .int (q)), (4, .int (op)), (5, .int (x5)), (6, .int (x6))]) (st2 := [.int (200), .int (M 28 6)]) (M2 := M) hC hqX9_perform rfl ?_
        refine gb_icmp_ge hqX9_perform rfl (fun h3 => ?_) (fun h3 => ?_)
        ·
          have hr := g_if1 h3 hr
          refine gb_vret hqX9_perform rfl rfl (Nat.le_of_ble_eq_true rfl) (Nat.le_of_ble_eq_true rfl) ?_
          exact gl_V hr
        ·
          have hr := g_if0 h3 hr
          refine gb_run 9 (pc2 := 54) (ls2 := [(0, .ref (28)), (1, .ref (48)), (3, .int (q)), (4, .int (op)), (5, .int (x5)), (6, .int (x6))]) (st2 := [.int (x5), .ref (29)]) (M2 := g_set M 28 6 ((M 28 6) + (1 : Int32))) hC hqX9_perform rfl ?_
          refine gz_cSN (host := "HoopHours") (z := qX11_at) (av := [.ref (29), .int (x5)]) (rest := []) (pl := 979) hC hqX9_perform rfl kX11_at (by decide +kernel) (c_at hC 29 150 _ x5 (g_set M 28 6 ((M 28 6) + (1 : Int32))) sz (d - 1) (by omega) (Nat.le_of_ble_eq_true rfl) rfl (Nat.le_of_ble_eq_true rfl)) (by omega) ⟨rfl, rfl⟩ rfl rfl (Nat.le_of_ble_eq_true rfl) ⟨Nat.le_of_ble_eq_true rfl, Nat.le_of_ble_eq_true rfl⟩ (gs_Ip (x := r_at (M 29) 150 x5) ?_)
          refine gb_run 1 (pc2 := 58) (ls2 := [(0, .ref (28)), (1, .ref (48)), (3, .int (q)), (4, .int (op)), (5, .int (x5)), (6, .int (x6))]) (st2 := [.int (5), .int (r_at (M 29) 150 x5)]) (M2 := g_set M 28 6 ((M 28 6) + (1 : Int32))) hC hqX9_perform rfl ?_
          refine gb_icmp_ne hqX9_perform rfl (fun h4 => ?_) (fun h4 => ?_)
          ·
            have hr := g_if0 h4 hr
            refine gb_run 3 (pc2 := 120) (ls2 := [(0, .ref (28)), (1, .ref (48)), (3, .int (q)), (4, .int (op)), (5, .int (x5)), (6, .int (x6))]) (st2 := [.int (x5), .ref (48), .ref (28)]) (M2 := g_set M 28 6 ((M 28 6) + (1 : Int32))) hC hqX9_perform rfl ?_
            obtain ⟨s5, es5, hr⟩ := g_bd hr
            refine gz_cV (z := qX9_performOne) (a := 28) (av := [.ref (48), .int (x5)]) (rest := []) (pl := 981) hC hqX9_perform rfl kX9_performOne sX9_performOne (by decide +kernel) (c_FT_performOne hC x5  (g_set M 28 6 ((M 28 6) + (1 : Int32))) sz (d - 1) (by omega) s5 es5) (by omega) ⟨rfl, rfl⟩ rfl (Nat.le_of_ble_eq_true rfl) (Nat.le_of_ble_eq_true rfl) rfl rfl rfl (Nat.le_of_ble_eq_true rfl) ⟨Nat.le_of_ble_eq_true rfl, Nat.le_of_ble_eq_true rfl⟩ (gs_V ?_)
            refine gb_run 3 (pc2 := 14) (ls2 := [(6, .int (x6 + (1 : Int32))), (5, .int (x5 + (1 : Int32))), (0, .ref (28)), (1, .ref (48)), (3, .int (q)), (4, .int (op))]) (st2 := []) (M2 := s5) hC hqX9_perform rfl ?_
            refine gw_pick [2, 3, 4, 5, 1, 0] (ls2 := [(0, .ref (28)), (1, .ref (48)), (3, .int (q)), (4, .int (op)), (5, .int (x5 + (1 : Int32))), (6, .int (x6 + (1 : Int32)))]) rfl ?_
            exact ih (x5 + (1 : Int32)) (x6 + (1 : Int32)) s5 hr
          ·
            have hr := g_if1 h4 hr
            refine gb_run 3 (pc2 := 67) (ls2 := [(0, .ref (28)), (1, .ref (48)), (3, .int (q)), (4, .int (op)), (5, .int (x5)), (6, .int (x6))]) (st2 := [.int (x5), .ref (31)]) (M2 := g_set M 28 6 ((M 28 6) + (1 : Int32))) hC hqX9_perform rfl ?_
            refine gz_cSN (host := "HoopHours") (z := qX11_at) (av := [.ref (31), .int (x5)]) (rest := []) (pl := 979) hC hqX9_perform rfl kX11_at (by decide +kernel) (c_at hC 31 150 _ x5 (g_set M 28 6 ((M 28 6) + (1 : Int32))) sz (d - 1) (by omega) (Nat.le_of_ble_eq_true rfl) rfl (Nat.le_of_ble_eq_true rfl)) (by omega) ⟨rfl, rfl⟩ rfl rfl (Nat.le_of_ble_eq_true rfl) ⟨Nat.le_of_ble_eq_true rfl, Nat.le_of_ble_eq_true rfl⟩ (gs_Ip (x := r_at (M 31) 150 x5) ?_)
            refine gb_run 4 (pc2 := 78) (ls2 := [(7, .int (r_at (M 31) 150 x5)), (0, .ref (28)), (1, .ref (48)), (3, .int (q)), (4, .int (op)), (5, .int (x5)), (6, .int (x6))]) (st2 := [.int (x5), .ref (30)]) (M2 := g_set M 28 6 ((M 28 6) + (1 : Int32))) hC hqX9_perform rfl ?_
            refine gz_cSN (host := "HoopHours") (z := qX11_at) (av := [.ref (30), .int (x5)]) (rest := []) (pl := 979) hC hqX9_perform rfl kX11_at (by decide +kernel) (c_at hC 30 150 _ x5 (g_set M 28 6 ((M 28 6) + (1 : Int32))) sz (d - 1) (by omega) (Nat.le_of_ble_eq_true rfl) rfl (Nat.le_of_ble_eq_true rfl)) (by omega) ⟨rfl, rfl⟩ rfl rfl (Nat.le_of_ble_eq_true rfl) ⟨Nat.le_of_ble_eq_true rfl, Nat.le_of_ble_eq_true rfl⟩ (gs_Ip (x := r_at (M 30) 150 x5) ?_)
            refine gb_run 1 (pc2 := 83) (ls2 := [(8, .int (r_at (M 30) 150 x5)), (7, .int (r_at (M 31) 150 x5)), (0, .ref (28)), (1, .ref (48)), (3, .int (q)), (4, .int (op)), (5, .int (x5)), (6, .int (x6))]) (st2 := []) (M2 := g_set M 28 6 ((M 28 6) + (1 : Int32))) hC hqX9_perform rfl ?_
            refine gw_pick [2, 3, 4, 5, 6, 7, 1, 0] (ls2 := [(0, .ref (28)), (1, .ref (48)), (3, .int (q)), (4, .int (op)), (5, .int (x5)), (6, .int (x6)), (7, .int (r_at (M 31) 150 x5)), (8, .int (r_at (M 30) 150 x5))]) rfl ?_
            exact c_FT_perform_L83 hC p q op sz d (by omega) rperform hrperform R (FT_perform_L14 p q op rperform k) ih 1000 x5 x6 (r_at (M 31) 150 x5) (r_at (M 30) 150 x5) (g_set M 28 6 ((M 28 6) + (1 : Int32))) hr
def FT_perform_B (rperform : Int32 → Int32 → Int32 → gM → Option (gM)) (p : Int32) (q : Int32) (op : Int32) (M : gM) : Option (gM) :=
  if op ≤ (6 : Int32) then (FT_perform_L14 p q op rperform 1000 p (0 : Int32) M) else (some M)
set_option maxRecDepth 20000 in
theorem c_FT_perform_B {l : Launch} {C : gC} (hC : g_ctx l C) (p : Int32) (q : Int32) (op : Int32)  (M : gM) (sz d : Nat) (hd : 6 ≤ d) (rperform : Int32 → Int32 → Int32 → gM → Option (gM)) (hrperform : ∀ (v2 : Int32) (v3 : Int32) (v4 : Int32) (M : gM) (R : gM), rperform v2 v3 v4 M = some R → gPg l C qX9_perform (d - 1) [.ref (28), .ref (48), .int (v2), .int (v3), .int (v4)] 956 g_S0 M sz (qV R)) (R : gM) (hr : FT_perform_B rperform p q op M = some R) : gPg l C qX9_perform d [.ref (28), .ref (48), .int (p), .int (q), .int (op)] 956 g_S0 M sz (qV R) := by
  refine gPg.of (ls := [(0, .ref (28)), (1, .ref (48)), (2, .int (p)), (3, .int (q)), (4, .int (op))]) (by decide +kernel) (Nat.le_of_ble_eq_true rfl) rfl ?_
  unfold FT_perform_B at hr
  refine gb_run 2 (pc2 := 4) (ls2 := [(0, .ref (28)), (1, .ref (48)), (2, .int (p)), (3, .int (q)), (4, .int (op))]) (st2 := [.int (6), .int (op)]) (M2 := M) hC hqX9_perform rfl ?_
  refine gb_icmp_le hqX9_perform rfl (fun h1 => ?_) (fun h1 => ?_)
  ·
    have hr := g_if1 h1 hr
    refine gb_run 4 (pc2 := 14) (ls2 := [(6, .int (0)), (5, .int (p)), (0, .ref (28)), (1, .ref (48)), (2, .int (p)), (3, .int (q)), (4, .int (op))]) (st2 := []) (M2 := M) hC hqX9_perform rfl ?_
    refine gw_pick [2, 3, 5, 6, 1, 0] (ls2 := [(0, .ref (28)), (1, .ref (48)), (3, .int (q)), (4, .int (op)), (5, .int (p)), (6, .int (0))]) rfl ?_
    exact c_FT_perform_L14 hC p q op sz d (by omega) rperform hrperform R 1000 p (0 : Int32) M hr
  ·
    have hr := g_if0 h1 hr
    refine gb_vret hqX9_perform rfl rfl (Nat.le_of_ble_eq_true rfl) (Nat.le_of_ble_eq_true rfl) ?_
    exact gl_V hr
def FT_perform : Nat → Int32 → Int32 → Int32 → gM → Option (gM)
  | 0, _, _, _, _ => none
  | f + 1, p, q, op, M => FT_perform_B (FT_perform f) p q op M
theorem FT_perform_s (f : Nat) (p : Int32) (q : Int32) (op : Int32) (M : gM) : FT_perform (f + 1) p q op M = FT_perform_B (FT_perform f) p q op M := rfl
theorem c_FT_performs {l : Launch} {C : gC} (hC : g_ctx l C) : ∀ f : Nat, (∀ (p : Int32) (q : Int32) (op : Int32) (M : gM) (sz d : Nat) (R : gM), 6 + f ≤ d → FT_perform f p q op M = some R → gPg l C qX9_perform d [.ref (28), .ref (48), .int (p), .int (q), .int (op)] 956 g_S0 M sz (qV R)) := by
  intro f
  induction f with
  | zero => exact fun _ _ _ M sz d R _ hr => (nomatch (show (none : Option (gM)) = some R from hr))
  | succ f ih =>
    have g0 : ∀ (p : Int32) (q : Int32) (op : Int32) (M : gM) (sz d : Nat) (R : gM), 6 + (f + 1) ≤ d → FT_perform_B (FT_perform f) p q op M = some R → gPg l C qX9_perform d [.ref (28), .ref (48), .int (p), .int (q), .int (op)] 956 g_S0 M sz (qV R) :=
      fun p q op M sz d R hd hr => c_FT_perform_B hC p q op  M sz d (by omega) (FT_perform f) (fun v2 v3 v4 M R hr => ih v2 v3 v4 M sz (d - 1) R (by omega) hr) R hr
    exact fun p q op M sz d R hd hr => g0 p q op M sz d R hd hr
theorem c_FT_perform {l : Launch} {C : gC} (hC : g_ctx l C) (f : Nat) (p : Int32) (q : Int32) (op : Int32) (M : gM) (sz d : Nat) (hd : 6 + f ≤ d) (R : gM) (hr : FT_perform f p q op M = some R) : gPg l C qX9_perform d [.ref (28), .ref (48), .int (p), .int (q), .int (op)] 956 g_S0 M sz (qV R) := (c_FT_performs hC f) p q op M sz d R hd hr
