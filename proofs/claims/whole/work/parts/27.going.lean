/-! going, decompiled. -/
def FG_start  (M : gM) : Option (gM) :=
  (FZ_copy 33 48 M).bind fun s1 => some (g_set (g_set (g_set (g_set s1 32 3 (0 : Int32)) 32 4 (0 : Int32)) 32 5 (0 : Int32)) 32 6 (0 : Int32))
set_option maxRecDepth 20000 in
theorem c_FG_start {l : Launch} {C : gC} (hC : g_ctx l C)   (M : gM) (sz d : Nat) (hd : 3 ≤ d) (R : gM) (hr : FG_start M = some R) : gPg l C qX1_start d [.ref (32), .ref (48)] 956 g_S0 M sz (qV R) := by
  refine gPg.of (ls := [(0, .ref (32)), (1, .ref (48))]) (by decide +kernel) (Nat.le_of_ble_eq_true rfl) rfl ?_
  unfold FG_start at hr
  refine gb_run 3 (pc2 := 5) (ls2 := [(0, .ref (32)), (1, .ref (48))]) (st2 := [.ref (48), .ref (33)]) (M2 := M) hC hqX1_start rfl ?_
  obtain ⟨s1, es1, hr⟩ := g_bd hr
  refine gz_cV (z := qX8_copy) (a := 33) (av := [.ref (48)]) (rest := []) (pl := 572) hC hqX1_start rfl kX8_copy sX8_copy (by decide +kernel) (c_FZ_copy hC 33 48 (by decide +kernel) (by decide +kernel) (by first | decide | omega) M sz (d - 1) (by omega) s1 es1) (by omega) ⟨rfl, rfl⟩ rfl (Nat.le_of_ble_eq_true rfl) (Nat.le_of_ble_eq_true rfl) rfl rfl rfl (Nat.le_of_ble_eq_true rfl) ⟨Nat.le_of_ble_eq_true rfl, Nat.le_of_ble_eq_true rfl⟩ (gs_V ?_)
  refine gb_run 12 (pc2 := 28) (ls2 := [(0, .ref (32)), (1, .ref (48))]) (st2 := []) (M2 := g_set (g_set (g_set (g_set s1 32 3 (0 : Int32)) 32 4 (0 : Int32)) 32 5 (0 : Int32)) 32 6 (0 : Int32)) hC hqX1_start rfl ?_
  refine gb_vret hqX1_start rfl rfl (Nat.le_of_ble_eq_true rfl) (Nat.le_of_ble_eq_true rfl) ?_
  exact gl_V hr
def FG_begins (h : Int32) (M : gM) : Int32 :=
  if (M 33 5) = h then (if (M 33 6) = (0 : Int32) then 1 else 0) else 0
set_option maxRecDepth 20000 in
theorem c_FG_begins {l : Launch} {C : gC} (hC : g_ctx l C) (h : Int32)  (M : gM) (sz d : Nat) (hd : 1 ≤ d) : gPg l C qX1_begins d [.ref (32), .int (h)] 956 g_S0 M sz (qZp M (FG_begins h M)) := by
  refine gPg.of (ls := [(0, .ref (32)), (1, .int (h))]) (by decide +kernel) (Nat.le_of_ble_eq_true rfl) rfl ?_
  obtain ⟨R, hr⟩ : ∃ R, FG_begins h M = R := ⟨_, rfl⟩
  rw [hr]
  unfold FG_begins at hr
  refine gb_run 4 (pc2 := 8) (ls2 := [(0, .ref (32)), (1, .int (h))]) (st2 := [.int (h), .int (M 33 5)]) (M2 := M) hC hqX1_begins rfl ?_
  refine gb_icmp_ne hqX1_begins rfl (fun h1 => ?_) (fun h1 => ?_)
  ·
    have hr := g_if0 h1 hr
    refine gb_run 1 (pc2 := 26) (ls2 := [(0, .ref (32)), (1, .int (h))]) (st2 := [.int (0)]) (M2 := M) hC hqX1_begins rfl ?_
    refine gb_zret hqX1_begins rfl rfl (Nat.le_of_ble_eq_true rfl) (Nat.le_of_ble_eq_true rfl) (Or.inl rfl) ?_
    exact gl_Zt (Or.inl rfl) hr
  ·
    have hr := g_if1 h1 hr
    refine gb_run 3 (pc2 := 18) (ls2 := [(0, .ref (32)), (1, .int (h))]) (st2 := [.int (M 33 6)]) (M2 := M) hC hqX1_begins rfl ?_
    refine gb_if_ne hqX1_begins rfl (fun h2 => ?_) (fun h2 => ?_)
    ·
      have hr := g_if0 h2 hr
      refine gb_run 1 (pc2 := 26) (ls2 := [(0, .ref (32)), (1, .int (h))]) (st2 := [.int (0)]) (M2 := M) hC hqX1_begins rfl ?_
      refine gb_zret hqX1_begins rfl rfl (Nat.le_of_ble_eq_true rfl) (Nat.le_of_ble_eq_true rfl) (Or.inl rfl) ?_
      exact gl_Zt (Or.inl rfl) hr
    ·
      have hr := g_if1 h2 hr
      refine gb_run 2 (pc2 := 26) (ls2 := [(0, .ref (32)), (1, .int (h))]) (st2 := [.int (1)]) (M2 := M) hC hqX1_begins rfl ?_
      refine gb_zret hqX1_begins rfl rfl (Nat.le_of_ble_eq_true rfl) (Nat.le_of_ble_eq_true rfl) (Or.inr rfl) ?_
      exact gl_Zt (Or.inr rfl) hr
def FG_goOn (fall : Int32) (M : gM) : Option (Int32 × gM) :=
  if (FB_canBowl 33 M) = (0 : Int32) then (some (0, M)) else ((FB_bowl 33 fall M).bind fun s4 => some (1, g_set (g_set (s4.2) 32 3 ((M 32 3) + s4.1)) 32 4 (((s4.2) 32 4) + (1 : Int32))))
set_option maxRecDepth 20000 in
theorem c_FG_goOn {l : Launch} {C : gC} (hC : g_ctx l C) (fall : Int32)  (M : gM) (sz d : Nat) (hd : 5 ≤ d) (R : Int32 × gM) (hr : FG_goOn fall M = some R) : gPg l C qX1_goOn d [.ref (32), .int (fall)] 956 g_S0 M sz (qZ R) := by
  refine gPg.of (ls := [(0, .ref (32)), (1, .int (fall))]) (by decide +kernel) (Nat.le_of_ble_eq_true rfl) rfl ?_
  unfold FG_goOn at hr
  refine gb_run 4 (pc2 := 8) (ls2 := [(0, .ref (32)), (1, .int (fall))]) (st2 := [.ref (33), .ref (27)]) (M2 := M) hC hqX1_goOn rfl ?_
  refine gz_cV (z := qX0_canBowl) (a := 27) (av := [.ref (33)]) (rest := []) (pl := 577) hC hqX1_goOn rfl kX0_canBowl sX0_canBowl (by decide +kernel) (c_FB_canBowl hC 33 (by decide +kernel) M sz (d - 1) (by omega)) (by omega) ⟨rfl, rfl⟩ rfl (Nat.le_of_ble_eq_true rfl) (Nat.le_of_ble_eq_true rfl) rfl rfl rfl (Nat.le_of_ble_eq_true rfl) ⟨Nat.le_of_ble_eq_true rfl, Nat.le_of_ble_eq_true rfl⟩ (gs_Zp fun z2 => ?_)
  refine gb_if_ne hqX1_goOn rfl (fun h3 => ?_) (fun h3 => ?_)
  ·
    have hr := g_if0 h3 hr
    refine gb_run 8 (pc2 := 30) (ls2 := [(0, .ref (32)), (1, .int (fall))]) (st2 := [.int (fall), .ref (33), .ref (27), .int (M 32 3), .ref (32)]) (M2 := M) hC hqX1_goOn rfl ?_
    obtain ⟨s4, es4, hr⟩ := g_bd hr
    refine gz_cV (z := qX0_bowl) (a := 27) (av := [.ref (33), .int (fall)]) (rest := [.int (M 32 3), .ref (32)]) (pl := 584) hC hqX1_goOn rfl kX0_bowl sX0_bowl (by decide +kernel) (c_FB_bowl hC 33 fall (by decide +kernel) M sz (d - 1) (by omega) s4 es4) (by omega) ⟨rfl, rfl⟩ rfl (Nat.le_of_ble_eq_true rfl) (Nat.le_of_ble_eq_true rfl) rfl rfl rfl (Nat.le_of_ble_eq_true rfl) ⟨Nat.le_of_ble_eq_true rfl, Nat.le_of_ble_eq_true rfl⟩ (gs_I ?_)
    refine gb_run 9 (pc2 := 48) (ls2 := [(0, .ref (32)), (1, .int (fall))]) (st2 := [.int (1)]) (M2 := g_set (g_set (s4.2) 32 3 ((M 32 3) + s4.1)) 32 4 (((s4.2) 32 4) + (1 : Int32))) hC hqX1_goOn rfl ?_
    refine gb_zret hqX1_goOn rfl rfl (Nat.le_of_ble_eq_true rfl) (Nat.le_of_ble_eq_true rfl) (Or.inr rfl) ?_
    exact gl_Z (Or.inr rfl) hr
  ·
    have hr := g_if1 h3 hr
    refine gb_run 1 (pc2 := 15) (ls2 := [(0, .ref (32)), (1, .int (fall))]) (st2 := [.int (0)]) (M2 := M) hC hqX1_goOn rfl ?_
    refine gb_zret hqX1_goOn rfl rfl (Nat.le_of_ble_eq_true rfl) (Nat.le_of_ble_eq_true rfl) (Or.inl rfl) ?_
    exact gl_Z (Or.inl rfl) hr
def FG_draw  (M : gM) : Option (Int32 × gM) :=
  some (((((((M 32 7) * (1103515245 : Int32)) + (12345 : Int32)).toUInt32 >>> ((16 : Int32).toUInt32 &&& Int32.toUInt32 31)).toInt32) &&& (32767 : Int32)) - ((((((M 32 7) * (1103515245 : Int32)) + (12345 : Int32)).toUInt32 >>> ((16 : Int32).toUInt32 &&& Int32.toUInt32 31)).toInt32) &&& (32767 : Int32)) / (16 : Int32) * (16 : Int32), g_set M 32 7 (((M 32 7) * (1103515245 : Int32)) + (12345 : Int32)))
set_option maxRecDepth 20000 in
theorem c_FG_draw {l : Launch} {C : gC} (hC : g_ctx l C)   (M : gM) (sz d : Nat) (hd : 1 ≤ d) (R : Int32 × gM) (hr : FG_draw M = some R) : gPg l C qX1_draw d [.ref (32)] 956 g_S0 M sz (qI R) := by
  refine gPg.of (ls := [(0, .ref (32))]) (by decide +kernel) (Nat.le_of_ble_eq_true rfl) rfl ?_
  unfold FG_draw at hr
  refine gb_run 15 (pc2 := 28) (ls2 := [(0, .ref (32))]) (st2 := [.int (16), .int ((((((M 32 7) * (1103515245 : Int32)) + (12345 : Int32)).toUInt32 >>> ((16 : Int32).toUInt32 &&& Int32.toUInt32 31)).toInt32) &&& (32767 : Int32))]) (M2 := g_set M 32 7 (((M 32 7) * (1103515245 : Int32)) + (12345 : Int32))) hC hqX1_draw rfl ?_
  refine gb_irem hqX1_draw rfl (by decide) ?_
  refine gb_iret hqX1_draw rfl rfl (Nat.le_of_ble_eq_true rfl) (Nat.le_of_ble_eq_true rfl) ?_
  exact gl_I hr
def FG_passDays_J131 (s : Int32) (many : Int32) (q : Int32) (c13 : Int32 → gM → Option (gM)) (x5 : Int32) (y0 : Int32) (M : gM) : Option (gM) :=
  (FG_goOn y0 M).bind fun s1 => c13 (x5 + (1 : Int32)) (s1.2)
set_option maxRecDepth 20000 in
theorem c_FG_passDays_J131 {l : Launch} {C : gC} (hC : g_ctx l C) (s : Int32) (many : Int32) (q : Int32) (sz d : Nat) (hd : 6 ≤ d) (R : gM) (c13 : Int32 → gM → Option (gM)) (hc13 : ∀ (x5 : Int32) (M : gM), c13 x5 M = some R → GW l C qX1_passDays d (gQg 956 g_S0 (qV R) sz) gN 0 0 13 [(0, .ref (32)), (3, .int (many)), (4, .int (q)), (5, .int (x5))] [] (956, g_S0, M, sz)) (x5 : Int32) (y0 : Int32) (M : gM) (hr : FG_passDays_J131 s many q c13 x5 y0 M = some R) : GW l C qX1_passDays d (gQg 956 g_S0 (qV R) sz) gN 0 0 131 [(0, .ref (32)), (3, .int (many)), (4, .int (q)), (5, .int (x5))] [.int (y0), .ref (32)] (956, g_S0, M, sz) := by
  unfold FG_passDays_J131 at hr
  obtain ⟨s1, es1, hr⟩ := g_bd hr
  refine gz_cV (z := qX1_goOn) (a := 32) (av := [.int (y0)]) (rest := []) (pl := 1365) hC hqX1_passDays rfl kX1_goOn sX1_goOn (by decide +kernel) (c_FG_goOn hC y0  M sz (d - 1) (by omega) s1 es1) (by omega) ⟨rfl, rfl⟩ rfl (Nat.le_of_ble_eq_true rfl) (Nat.le_of_ble_eq_true rfl) rfl rfl rfl (Nat.le_of_ble_eq_true rfl) ⟨Nat.le_of_ble_eq_true rfl, Nat.le_of_ble_eq_true rfl⟩ (gs_Z fun z2 => ?_)
  refine gb_run 3 (pc2 := 13) (ls2 := [(5, .int (x5 + (1 : Int32))), (0, .ref (32)), (3, .int (many)), (4, .int (q))]) (st2 := []) (M2 := s1.2) hC hqX1_passDays rfl ?_
  refine gw_pick [1, 2, 3, 0] (ls2 := [(0, .ref (32)), (3, .int (many)), (4, .int (q)), (5, .int (x5 + (1 : Int32)))]) rfl ?_
  exact hc13 (x5 + (1 : Int32)) (s1.2) hr
def FG_passDays_J116 (s : Int32) (many : Int32) (q : Int32) (c13 : Int32 → gM → Option (gM)) (x5 : Int32) (x6 : Int32) (y0 : Int32) (y1 : Int32) (M : gM) : Option (gM) :=
  if x6 = (0 : Int32) then (FG_passDays_J131 s many q c13 x5 (0 : Int32) (g_set M 32 5 (y1 + y0))) else (FG_passDays_J131 s many q c13 x5 (5 : Int32) (g_set M 32 5 (y1 + y0)))
set_option maxRecDepth 20000 in
theorem c_FG_passDays_J116 {l : Launch} {C : gC} (hC : g_ctx l C) (s : Int32) (many : Int32) (q : Int32) (sz d : Nat) (hd : 6 ≤ d) (R : gM) (c13 : Int32 → gM → Option (gM)) (hc13 : ∀ (x5 : Int32) (M : gM), c13 x5 M = some R → GW l C qX1_passDays d (gQg 956 g_S0 (qV R) sz) gN 0 0 13 [(0, .ref (32)), (3, .int (many)), (4, .int (q)), (5, .int (x5))] [] (956, g_S0, M, sz)) (x5 : Int32) (x6 : Int32) (y0 : Int32) (y1 : Int32) (M : gM) (hr : FG_passDays_J116 s many q c13 x5 x6 y0 y1 M = some R) : GW l C qX1_passDays d (gQg 956 g_S0 (qV R) sz) gN 0 0 116 [(0, .ref (32)), (3, .int (many)), (4, .int (q)), (5, .int (x5)), (6, .int (x6))] [.int (y0), .int (y1), .ref (32)] (956, g_S0, M, sz) := by
  unfold FG_passDays_J116 at hr
  refine gb_run 4 (pc2 := 123) (ls2 := [(0, .ref (32)), (3, .int (many)), (4, .int (q)), (5, .int (x5)), (6, .int (x6))]) (st2 := [.int (x6), .ref (32)]) (M2 := g_set M 32 5 (y1 + y0)) hC hqX1_passDays rfl ?_
  refine gb_if_eq hqX1_passDays rfl (fun h1 => ?_) (fun h1 => ?_)
  ·
    have hr := g_if1 h1 hr
    refine gb_run 1 (pc2 := 131) (ls2 := [(0, .ref (32)), (3, .int (many)), (4, .int (q)), (5, .int (x5)), (6, .int (x6))]) (st2 := [.int (0), .ref (32)]) (M2 := g_set M 32 5 (y1 + y0)) hC hqX1_passDays rfl ?_
    refine gw_pick [0, 1, 2, 3] (ls2 := [(0, .ref (32)), (3, .int (many)), (4, .int (q)), (5, .int (x5))]) rfl ?_
    exact c_FG_passDays_J131 hC s many q sz d (by omega) R c13 hc13 x5 (0 : Int32) (g_set M 32 5 (y1 + y0)) hr
  ·
    have hr := g_if0 h1 hr
    refine gb_run 2 (pc2 := 131) (ls2 := [(0, .ref (32)), (3, .int (many)), (4, .int (q)), (5, .int (x5)), (6, .int (x6))]) (st2 := [.int (5), .ref (32)]) (M2 := g_set M 32 5 (y1 + y0)) hC hqX1_passDays rfl ?_
    refine gw_pick [0, 1, 2, 3] (ls2 := [(0, .ref (32)), (3, .int (many)), (4, .int (q)), (5, .int (x5))]) rfl ?_
    exact c_FG_passDays_J131 hC s many q sz d (by omega) R c13 hc13 x5 (5 : Int32) (g_set M 32 5 (y1 + y0)) hr
def FG_passDays_J99 (s : Int32) (many : Int32) (q : Int32) (c13 : Int32 → gM → Option (gM)) (x5 : Int32) (y0 : Int32) (M : gM) : Option (gM) :=
  if y0 = (0 : Int32) then (FG_passDays_J116 s many q c13 x5 y0 (0 : Int32) (M 32 5) M) else (FG_passDays_J116 s many q c13 x5 y0 (1 : Int32) (M 32 5) M)
set_option maxRecDepth 20000 in
theorem c_FG_passDays_J99 {l : Launch} {C : gC} (hC : g_ctx l C) (s : Int32) (many : Int32) (q : Int32) (sz d : Nat) (hd : 6 ≤ d) (R : gM) (c13 : Int32 → gM → Option (gM)) (hc13 : ∀ (x5 : Int32) (M : gM), c13 x5 M = some R → GW l C qX1_passDays d (gQg 956 g_S0 (qV R) sz) gN 0 0 13 [(0, .ref (32)), (3, .int (many)), (4, .int (q)), (5, .int (x5))] [] (956, g_S0, M, sz)) (x5 : Int32) (y0 : Int32) (M : gM) (hr : FG_passDays_J99 s many q c13 x5 y0 M = some R) : GW l C qX1_passDays d (gQg 956 g_S0 (qV R) sz) gN 0 0 99 [(0, .ref (32)), (3, .int (many)), (4, .int (q)), (5, .int (x5))] [.int (y0)] (956, g_S0, M, sz) := by
  unfold FG_passDays_J99 at hr
  refine gb_run 5 (pc2 := 108) (ls2 := [(6, .int (y0)), (0, .ref (32)), (3, .int (many)), (4, .int (q)), (5, .int (x5))]) (st2 := [.int (y0), .int (M 32 5), .ref (32)]) (M2 := M) hC hqX1_passDays rfl ?_
  refine gb_if_eq hqX1_passDays rfl (fun h1 => ?_) (fun h1 => ?_)
  ·
    have hr := g_if1 h1 hr
    refine gb_run 1 (pc2 := 116) (ls2 := [(6, .int (y0)), (0, .ref (32)), (3, .int (many)), (4, .int (q)), (5, .int (x5))]) (st2 := [.int (0), .int (M 32 5), .ref (32)]) (M2 := M) hC hqX1_passDays rfl ?_
    refine gw_pick [1, 2, 3, 4, 0] (ls2 := [(0, .ref (32)), (3, .int (many)), (4, .int (q)), (5, .int (x5)), (6, .int (y0))]) rfl ?_
    exact c_FG_passDays_J116 hC s many q sz d (by omega) R c13 hc13 x5 y0 (0 : Int32) (M 32 5) M hr
  ·
    have hr := g_if0 h1 hr
    refine gb_run 2 (pc2 := 116) (ls2 := [(6, .int (y0)), (0, .ref (32)), (3, .int (many)), (4, .int (q)), (5, .int (x5))]) (st2 := [.int (1), .int (M 32 5), .ref (32)]) (M2 := M) hC hqX1_passDays rfl ?_
    refine gw_pick [1, 2, 3, 4, 0] (ls2 := [(0, .ref (32)), (3, .int (many)), (4, .int (q)), (5, .int (x5)), (6, .int (y0))]) rfl ?_
    exact c_FG_passDays_J116 hC s many q sz d (by omega) R c13 hc13 x5 y0 (1 : Int32) (M 32 5) M hr
def FG_passDays_J51 (s : Int32) (many : Int32) (q : Int32) (c13 : Int32 → gM → Option (gM)) (x5 : Int32) (y0 : Int32) (M : gM) : Option (gM) :=
  (FG_draw (g_set (g_set M 33 10 y0) 32 6 ((M 32 6) + y0))).bind fun s1 => if (r_at ((s1.2) 5) 8 ((s1.2) 33 6)) ≤ s1.1 then (FG_passDays_J99 s many q c13 x5 (0 : Int32) (s1.2)) else (FG_passDays_J99 s many q c13 x5 (1 : Int32) (s1.2))
set_option maxRecDepth 20000 in
theorem c_FG_passDays_J51 {l : Launch} {C : gC} (hC : g_ctx l C) (s : Int32) (many : Int32) (q : Int32) (sz d : Nat) (hd : 6 ≤ d) (R : gM) (c13 : Int32 → gM → Option (gM)) (hc13 : ∀ (x5 : Int32) (M : gM), c13 x5 M = some R → GW l C qX1_passDays d (gQg 956 g_S0 (qV R) sz) gN 0 0 13 [(0, .ref (32)), (3, .int (many)), (4, .int (q)), (5, .int (x5))] [] (956, g_S0, M, sz)) (x5 : Int32) (y0 : Int32) (M : gM) (hr : FG_passDays_J51 s many q c13 x5 y0 M = some R) : GW l C qX1_passDays d (gQg 956 g_S0 (qV R) sz) gN 0 0 51 [(0, .ref (32)), (3, .int (many)), (4, .int (q)), (5, .int (x5))] [.int (y0), .ref (33)] (956, g_S0, M, sz) := by
  unfold FG_passDays_J51 at hr
  refine gb_run 10 (pc2 := 71) (ls2 := [(0, .ref (32)), (3, .int (many)), (4, .int (q)), (5, .int (x5))]) (st2 := [.ref (32)]) (M2 := g_set (g_set M 33 10 y0) 32 6 ((M 32 6) + y0)) hC hqX1_passDays rfl ?_
  obtain ⟨s1, es1, hr⟩ := g_bd hr
  refine gz_cV (z := qX1_draw) (a := 32) (av := []) (rest := []) (pl := 1359) hC hqX1_passDays rfl kX1_draw sX1_draw (by decide +kernel) (c_FG_draw hC   (g_set (g_set M 33 10 y0) 32 6 ((M 32 6) + y0)) sz (d - 1) (by omega) s1 es1) (by omega) ⟨rfl, rfl⟩ rfl (Nat.le_of_ble_eq_true rfl) (Nat.le_of_ble_eq_true rfl) rfl rfl rfl (Nat.le_of_ble_eq_true rfl) ⟨Nat.le_of_ble_eq_true rfl, Nat.le_of_ble_eq_true rfl⟩ (gs_I ?_)
  refine gb_run 6 (pc2 := 88) (ls2 := [(0, .ref (32)), (3, .int (many)), (4, .int (q)), (5, .int (x5))]) (st2 := [.int ((s1.2) 33 6), .ref (5), .int (s1.1)]) (M2 := s1.2) hC hqX1_passDays rfl ?_
  refine gz_cSN (host := "HoopHours") (z := qX11_at) (av := [.ref (5), .int ((s1.2) 33 6)]) (rest := [.int (s1.1)]) (pl := 1364) hC hqX1_passDays rfl kX11_at (by decide +kernel) (c_at hC 5 8 _ ((s1.2) 33 6) (s1.2) sz (d - 1) (by omega) (Nat.le_of_ble_eq_true rfl) rfl (Nat.le_of_ble_eq_true rfl)) (by omega) ⟨rfl, rfl⟩ rfl rfl (Nat.le_of_ble_eq_true rfl) ⟨Nat.le_of_ble_eq_true rfl, Nat.le_of_ble_eq_true rfl⟩ (gs_Ip (x := r_at ((s1.2) 5) 8 ((s1.2) 33 6)) ?_)
  refine gb_icmp_ge hqX1_passDays rfl (fun h2 => ?_) (fun h2 => ?_)
  ·
    have hr := g_if1 h2 hr
    refine gb_run 1 (pc2 := 99) (ls2 := [(0, .ref (32)), (3, .int (many)), (4, .int (q)), (5, .int (x5))]) (st2 := [.int (0)]) (M2 := s1.2) hC hqX1_passDays rfl ?_
    exact c_FG_passDays_J99 hC s many q sz d (by omega) R c13 hc13 x5 (0 : Int32) (s1.2) hr
  ·
    have hr := g_if0 h2 hr
    refine gb_run 2 (pc2 := 99) (ls2 := [(0, .ref (32)), (3, .int (many)), (4, .int (q)), (5, .int (x5))]) (st2 := [.int (1)]) (M2 := s1.2) hC hqX1_passDays rfl ?_
    exact c_FG_passDays_J99 hC s many q sz d (by omega) R c13 hc13 x5 (1 : Int32) (s1.2) hr
def FG_passDays_L13 (s : Int32) (many : Int32) (q : Int32) : Nat → Int32 → gM → Option (gM)
  | 0, _, _ => none
  | k + 1, x5, M =>
  if many ≤ x5 then (some M) else (if (FB_canBowl 33 M) = (0 : Int32) then (some M) else ((FG_draw M).bind fun s5 => if q ≤ s5.1 then (FG_passDays_J51 s many q (FG_passDays_L13 s many q k) x5 (0 : Int32) (s5.2)) else (FG_passDays_J51 s many q (FG_passDays_L13 s many q k) x5 (1 : Int32) (s5.2))))
set_option maxRecDepth 20000 in
theorem c_FG_passDays_L13 {l : Launch} {C : gC} (hC : g_ctx l C) (s : Int32) (many : Int32) (q : Int32) (sz d : Nat) (hd : 6 ≤ d) (R : gM) : ∀ (k : Nat) (x5 : Int32) (M : gM), FG_passDays_L13 s many q k x5 M = some R → GW l C qX1_passDays d (gQg 956 g_S0 (qV R) sz) gN 0 0 13 [(0, .ref (32)), (3, .int (many)), (4, .int (q)), (5, .int (x5))] [] (956, g_S0, M, sz) := by
  intro k
  induction k with
  | zero => intro x5 M hr; exact nomatch (show (none : Option (gM)) = some R from hr)
  | succ k ih =>
    intro x5 M hr
    unfold FG_passDays_L13 at hr
    refine gb_run 2 (pc2 := 16) (ls2 := [(0, .ref (32)), (3, .int (many)), (4, .int (q)), (5, .int (x5))]) (st2 := [.int (many), .int (x5)]) (M2 := M) hC hqX1_passDays rfl ?_
    refine gb_icmp_ge hqX1_passDays rfl (fun h1 => ?_) (fun h1 => ?_)
    ·
      have hr := g_if1 h1 hr
      refine gb_vret hqX1_passDays rfl rfl (Nat.le_of_ble_eq_true rfl) (Nat.le_of_ble_eq_true rfl) ?_
      exact gl_V hr
    ·
      have hr := g_if0 h1 hr
      refine gb_run 4 (pc2 := 27) (ls2 := [(0, .ref (32)), (3, .int (many)), (4, .int (q)), (5, .int (x5))]) (st2 := [.ref (33), .ref (27)]) (M2 := M) hC hqX1_passDays rfl ?_
      refine gz_cV (z := qX0_canBowl) (a := 27) (av := [.ref (33)]) (rest := []) (pl := 577) hC hqX1_passDays rfl kX0_canBowl sX0_canBowl (by decide +kernel) (c_FB_canBowl hC 33 (by decide +kernel) M sz (d - 1) (by omega)) (by omega) ⟨rfl, rfl⟩ rfl (Nat.le_of_ble_eq_true rfl) (Nat.le_of_ble_eq_true rfl) rfl rfl rfl (Nat.le_of_ble_eq_true rfl) ⟨Nat.le_of_ble_eq_true rfl, Nat.le_of_ble_eq_true rfl⟩ (gs_Zp fun z3 => ?_)
      refine gb_if_eq hqX1_passDays rfl (fun h4 => ?_) (fun h4 => ?_)
      ·
        have hr := g_if1 h4 hr
        refine gb_vret hqX1_passDays rfl rfl (Nat.le_of_ble_eq_true rfl) (Nat.le_of_ble_eq_true rfl) ?_
        exact gl_V hr
      ·
        have hr := g_if0 h4 hr
        refine gb_run 3 (pc2 := 38) (ls2 := [(0, .ref (32)), (3, .int (many)), (4, .int (q)), (5, .int (x5))]) (st2 := [.ref (32), .ref (33)]) (M2 := M) hC hqX1_passDays rfl ?_
        obtain ⟨s5, es5, hr⟩ := g_bd hr
        refine gz_cV (z := qX1_draw) (a := 32) (av := []) (rest := [.ref (33)]) (pl := 1359) hC hqX1_passDays rfl kX1_draw sX1_draw (by decide +kernel) (c_FG_draw hC   M sz (d - 1) (by omega) s5 es5) (by omega) ⟨rfl, rfl⟩ rfl (Nat.le_of_ble_eq_true rfl) (Nat.le_of_ble_eq_true rfl) rfl rfl rfl (Nat.le_of_ble_eq_true rfl) ⟨Nat.le_of_ble_eq_true rfl, Nat.le_of_ble_eq_true rfl⟩ (gs_I ?_)
        refine gb_run 1 (pc2 := 43) (ls2 := [(0, .ref (32)), (3, .int (many)), (4, .int (q)), (5, .int (x5))]) (st2 := [.int (q), .int (s5.1), .ref (33)]) (M2 := s5.2) hC hqX1_passDays rfl ?_
        refine gb_icmp_ge hqX1_passDays rfl (fun h6 => ?_) (fun h6 => ?_)
        ·
          have hr := g_if1 h6 hr
          refine gb_run 1 (pc2 := 51) (ls2 := [(0, .ref (32)), (3, .int (many)), (4, .int (q)), (5, .int (x5))]) (st2 := [.int (0), .ref (33)]) (M2 := s5.2) hC hqX1_passDays rfl ?_
          exact c_FG_passDays_J51 hC s many q sz d (by omega) R (FG_passDays_L13 s many q k) ih x5 (0 : Int32) (s5.2) hr
        ·
          have hr := g_if0 h6 hr
          refine gb_run 2 (pc2 := 51) (ls2 := [(0, .ref (32)), (3, .int (many)), (4, .int (q)), (5, .int (x5))]) (st2 := [.int (1), .ref (33)]) (M2 := s5.2) hC hqX1_passDays rfl ?_
          exact c_FG_passDays_J51 hC s many q sz d (by omega) R (FG_passDays_L13 s many q k) ih x5 (1 : Int32) (s5.2) hr
def FG_passDays (s : Int32) (many : Int32) (q : Int32) (M : gM) : Option (gM) :=
  (FG_start M).bind fun s1 => FG_passDays_L13 s many q 1000 (0 : Int32) (g_set s1 32 7 s)
set_option maxRecDepth 20000 in
theorem c_FG_passDays {l : Launch} {C : gC} (hC : g_ctx l C) (s : Int32) (many : Int32) (q : Int32)  (M : gM) (sz d : Nat) (hd : 6 ≤ d) (R : gM) (hr : FG_passDays s many q M = some R) : gPg l C qX1_passDays d [.ref (32), .ref (48), .int (s), .int (many), .int (q)] 956 g_S0 M sz (qV R) := by
  refine gPg.of (ls := [(0, .ref (32)), (1, .ref (48)), (2, .int (s)), (3, .int (many)), (4, .int (q))]) (by decide +kernel) (Nat.le_of_ble_eq_true rfl) rfl ?_
  unfold FG_passDays at hr
  refine gb_run 2 (pc2 := 2) (ls2 := [(0, .ref (32)), (1, .ref (48)), (2, .int (s)), (3, .int (many)), (4, .int (q))]) (st2 := [.ref (48), .ref (32)]) (M2 := M) hC hqX1_passDays rfl ?_
  obtain ⟨s1, es1, hr⟩ := g_bd hr
  refine gz_cV (z := qX1_start) (a := 32) (av := [.ref (48)]) (rest := []) (pl := 1358) hC hqX1_passDays rfl kX1_start sX1_start (by decide +kernel) (c_FG_start hC   M sz (d - 1) (by omega) s1 es1) (by omega) ⟨rfl, rfl⟩ rfl (Nat.le_of_ble_eq_true rfl) (Nat.le_of_ble_eq_true rfl) rfl rfl rfl (Nat.le_of_ble_eq_true rfl) ⟨Nat.le_of_ble_eq_true rfl, Nat.le_of_ble_eq_true rfl⟩ (gs_V ?_)
  refine gb_run 5 (pc2 := 13) (ls2 := [(5, .int (0)), (0, .ref (32)), (1, .ref (48)), (2, .int (s)), (3, .int (many)), (4, .int (q))]) (st2 := []) (M2 := g_set s1 32 7 s) hC hqX1_passDays rfl ?_
  refine gw_pick [1, 4, 5, 0] (ls2 := [(0, .ref (32)), (3, .int (many)), (4, .int (q)), (5, .int (0))]) rfl ?_
  exact c_FG_passDays_L13 hC s many q sz d (by omega) R 1000 (0 : Int32) (g_set s1 32 7 s) hr
