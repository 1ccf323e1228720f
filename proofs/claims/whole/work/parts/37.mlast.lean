/-! mlast, decompiled. -/
def FM_ones_L4 (bits : Int32) : Nat → Int32 → Int32 → Option (Int32)
  | 0, _, _ => none
  | k + 1, x1, x2 =>
  if (8 : Int32) ≤ x2 then (some x1) else (FM_ones_L4 bits k (x1 + ((bits >>> (x2 &&& 31)) &&& (1 : Int32))) (x2 + (1 : Int32)))
set_option maxRecDepth 20000 in
theorem c_FM_ones_L4 {l : Launch} {C : gC} (hC : g_ctx l C) (bits : Int32) (M : gM) (sz d : Nat) (hd : 1 ≤ d) (R : Int32) : ∀ (k : Nat) (x1 : Int32) (x2 : Int32), FM_ones_L4 bits k x1 x2 = some R → GW l C qX12_ones d (gQg 956 g_S0 (qIp M R) sz) gN 0 0 4 [(0, .int (bits)), (1, .int (x1)), (2, .int (x2))] [] (956, g_S0, M, sz) := by
  intro k
  induction k with
  | zero => intro x1 x2 hr; exact nomatch (show (none : Option (Int32)) = some R from hr)
  | succ k ih =>
    intro x1 x2 hr
    unfold FM_ones_L4 at hr
    refine gb_run 2 (pc2 := 7) (ls2 := [(0, .int (bits)), (1, .int (x1)), (2, .int (x2))]) (st2 := [.int (8), .int (x2)]) (M2 := M) hC hqX12_ones rfl ?_
    refine gb_icmp_ge hqX12_ones rfl (fun h1 => ?_) (fun h1 => ?_)
    ·
      have hr := g_if1 h1 hr
      refine gb_run 1 (pc2 := 25) (ls2 := [(0, .int (bits)), (1, .int (x1)), (2, .int (x2))]) (st2 := [.int (x1)]) (M2 := M) hC hqX12_ones rfl ?_
      refine gb_iret hqX12_ones rfl rfl (Nat.le_of_ble_eq_true rfl) (Nat.le_of_ble_eq_true rfl) ?_
      exact gl_Ip hr
    ·
      have hr := g_if0 h1 hr
      refine gb_run 10 (pc2 := 4) (ls2 := [(2, .int (x2 + (1 : Int32))), (1, .int (x1 + ((bits >>> (x2 &&& 31)) &&& (1 : Int32)))), (0, .int (bits))]) (st2 := []) (M2 := M) hC hqX12_ones rfl ?_
      refine gw_pick [2, 1, 0] (ls2 := [(0, .int (bits)), (1, .int (x1 + ((bits >>> (x2 &&& 31)) &&& (1 : Int32)))), (2, .int (x2 + (1 : Int32)))]) rfl ?_
      exact ih (x1 + ((bits >>> (x2 &&& 31)) &&& (1 : Int32))) (x2 + (1 : Int32)) hr
def FM_ones (bits : Int32) : Option (Int32) :=
  FM_ones_L4 bits 1000 (0 : Int32) (0 : Int32)
set_option maxRecDepth 20000 in
theorem c_FM_ones {l : Launch} {C : gC} (hC : g_ctx l C) (bits : Int32)  (M : gM) (sz d : Nat) (hd : 1 ≤ d) (R : Int32) (hr : FM_ones bits = some R) : gPg l C qX12_ones d [.int (bits)] 956 g_S0 M sz (qIp M R) := by
  refine gPg.of (ls := [(0, .int (bits))]) (by decide +kernel) (Nat.le_of_ble_eq_true rfl) rfl ?_
  unfold FM_ones at hr
  refine gb_run 4 (pc2 := 4) (ls2 := [(2, .int (0)), (1, .int (0)), (0, .int (bits))]) (st2 := []) (M2 := M) hC hqX12_ones rfl ?_
  refine gw_pick [2, 1, 0] (ls2 := [(0, .int (bits)), (1, .int (0)), (2, .int (0))]) rfl ?_
  exact c_FM_ones_L4 hC bits M sz d (by omega) R 1000 (0 : Int32) (0 : Int32) hr
def FM_isCover_L2 (gates : Int32) (walks : Int32) (M : gM) : Nat → Int32 → Option (Int32)
  | 0, _ => none
  | k + 1, x3 =>
  if (M 468 0) ≤ x3 then (some (1 : Int32)) else (if (FM_has walks x3) = (0 : Int32) then (FM_isCover_L2 gates walks M k (x3 + (1 : Int32))) else ((FM_isWatched gates x3 M).bind fun s5 => if s5 = (0 : Int32) then (some (0 : Int32)) else (FM_isCover_L2 gates walks M k (x3 + (1 : Int32)))))
set_option maxRecDepth 20000 in
theorem c_FM_isCover_L2 {l : Launch} {C : gC} (hC : g_ctx l C) (gates : Int32) (walks : Int32) (M : gM) (sz d : Nat) (hd : 3 ≤ d) (R : Int32) : ∀ (k : Nat) (x3 : Int32), FM_isCover_L2 gates walks M k x3 = some R → GW l C qX12_isCover d (gQg 956 g_S0 (qZp M R) sz) gN 0 0 2 [(0, .ref (464)), (1, .int (gates)), (2, .int (walks)), (3, .int (x3))] [] (956, g_S0, M, sz) := by
  intro k
  induction k with
  | zero => intro x3 hr; exact nomatch (show (none : Option (Int32)) = some R from hr)
  | succ k ih =>
    intro x3 hr
    unfold FM_isCover_L2 at hr
    refine gb_run 4 (pc2 := 8) (ls2 := [(0, .ref (464)), (1, .int (gates)), (2, .int (walks)), (3, .int (x3))]) (st2 := [.int (0), .ref (468), .int (x3)]) (M2 := M) hC hqX12_isCover rfl ?_
    refine gb_iaload hC hqX12_isCover rfl (Nat.le_of_ble_eq_true rfl) rfl (by unfold vp_in; decide) ?_
    rw [show (0 : Int32).toNatClampNeg = 0 from rfl]
    refine gb_icmp_ge hqX12_isCover rfl (fun h1 => ?_) (fun h1 => ?_)
    ·
      have hr := g_if1 h1 hr
      refine gb_run 1 (pc2 := 38) (ls2 := [(0, .ref (464)), (1, .int (gates)), (2, .int (walks)), (3, .int (x3))]) (st2 := [.int (1)]) (M2 := M) hC hqX12_isCover rfl ?_
      refine gb_zret hqX12_isCover rfl rfl (Nat.le_of_ble_eq_true rfl) (Nat.le_of_ble_eq_true rfl) (Or.inr rfl) ?_
      exact gl_Zp (Or.inr rfl) hr
    ·
      have hr := g_if0 h1 hr
      refine gb_run 2 (pc2 := 14) (ls2 := [(0, .ref (464)), (1, .int (gates)), (2, .int (walks)), (3, .int (x3))]) (st2 := [.int (x3), .int (walks)]) (M2 := M) hC hqX12_isCover rfl ?_
      refine gz_cS (z := qX12_has) (av := [.int (walks), .int (x3)]) (rest := []) (pl := 1653) hC hqX12_isCover rfl kX12_has (by decide +kernel) (c_FM_has hC walks x3  M sz (d - 1) (by omega)) (by omega) ⟨rfl, rfl⟩ rfl rfl (Nat.le_of_ble_eq_true rfl) ⟨Nat.le_of_ble_eq_true rfl, Nat.le_of_ble_eq_true rfl⟩ (gs_Zp fun z3 => ?_)
      refine gb_if_eq hqX12_isCover rfl (fun h4 => ?_) (fun h4 => ?_)
      ·
        have hr := g_if1 h4 hr
        refine gb_run 2 (pc2 := 2) (ls2 := [(3, .int (x3 + (1 : Int32))), (0, .ref (464)), (1, .int (gates)), (2, .int (walks))]) (st2 := []) (M2 := M) hC hqX12_isCover rfl ?_
        refine gw_pick [1, 2, 3, 0] (ls2 := [(0, .ref (464)), (1, .int (gates)), (2, .int (walks)), (3, .int (x3 + (1 : Int32)))]) rfl ?_
        exact ih (x3 + (1 : Int32)) hr
      ·
        have hr := g_if0 h4 hr
        refine gb_run 3 (pc2 := 23) (ls2 := [(0, .ref (464)), (1, .int (gates)), (2, .int (walks)), (3, .int (x3))]) (st2 := [.int (x3), .int (gates), .ref (464)]) (M2 := M) hC hqX12_isCover rfl ?_
        obtain ⟨s5, es5, hr⟩ := g_bd hr
        refine gz_cV (z := qX12_isWatched) (a := 464) (av := [.int (gates), .int (x3)]) (rest := []) (pl := 1875) hC hqX12_isCover rfl kX12_isWatched sX12_isWatched (by decide +kernel) (c_FM_isWatched hC gates x3  M sz (d - 1) (by omega) s5 es5) (by omega) ⟨rfl, rfl⟩ rfl (Nat.le_of_ble_eq_true rfl) (Nat.le_of_ble_eq_true rfl) rfl rfl rfl (Nat.le_of_ble_eq_true rfl) ⟨Nat.le_of_ble_eq_true rfl, Nat.le_of_ble_eq_true rfl⟩ (gs_Zp fun z6 => ?_)
        refine gb_if_ne hqX12_isCover rfl (fun h7 => ?_) (fun h7 => ?_)
        ·
          have hr := g_if0 h7 hr
          refine gb_run 2 (pc2 := 2) (ls2 := [(3, .int (x3 + (1 : Int32))), (0, .ref (464)), (1, .int (gates)), (2, .int (walks))]) (st2 := []) (M2 := M) hC hqX12_isCover rfl ?_
          refine gw_pick [1, 2, 3, 0] (ls2 := [(0, .ref (464)), (1, .int (gates)), (2, .int (walks)), (3, .int (x3 + (1 : Int32)))]) rfl ?_
          exact ih (x3 + (1 : Int32)) hr
        ·
          have hr := g_if1 h7 hr
          refine gb_run 1 (pc2 := 30) (ls2 := [(0, .ref (464)), (1, .int (gates)), (2, .int (walks)), (3, .int (x3))]) (st2 := [.int (0)]) (M2 := M) hC hqX12_isCover rfl ?_
          refine gb_zret hqX12_isCover rfl rfl (Nat.le_of_ble_eq_true rfl) (Nat.le_of_ble_eq_true rfl) (Or.inl rfl) ?_
          exact gl_Zp (Or.inl rfl) hr
def FM_isCover (gates : Int32) (walks : Int32) (M : gM) : Option (Int32) :=
  FM_isCover_L2 gates walks M 1000 (0 : Int32)
set_option maxRecDepth 20000 in
theorem c_FM_isCover {l : Launch} {C : gC} (hC : g_ctx l C) (gates : Int32) (walks : Int32)  (M : gM) (sz d : Nat) (hd : 3 ≤ d) (R : Int32) (hr : FM_isCover gates walks M = some R) : gPg l C qX12_isCover d [.ref (464), .int (gates), .int (walks)] 956 g_S0 M sz (qZp M R) := by
  refine gPg.of (ls := [(0, .ref (464)), (1, .int (gates)), (2, .int (walks))]) (by decide +kernel) (Nat.le_of_ble_eq_true rfl) rfl ?_
  unfold FM_isCover at hr
  refine gb_run 2 (pc2 := 2) (ls2 := [(3, .int (0)), (0, .ref (464)), (1, .int (gates)), (2, .int (walks))]) (st2 := []) (M2 := M) hC hqX12_isCover rfl ?_
  refine gw_pick [1, 2, 3, 0] (ls2 := [(0, .ref (464)), (1, .int (gates)), (2, .int (walks)), (3, .int (0))]) rfl ?_
  exact c_FM_isCover_L2 hC gates walks M sz d (by omega) R 1000 (0 : Int32) hr
def FM_cover_L42 (walks : Int32) : Nat → Int32 → Int32 → gM → Option (Int32 × gM)
  | 0, _, _, _ => none
  | k + 1, x2, x3, M =>
  if x3 < (0 : Int32) then (some (x2, M)) else ((FM_isCover x3 walks M).bind fun s2 => if s2 = (0 : Int32) then (FM_cover_L42 walks k x2 (x3 + (-1 : Int32)) M) else ((FM_ones x3).bind fun s5 => (FM_ones x2).bind fun s6 => if s6 < s5 then (FM_cover_L42 walks k x2 (x3 + (-1 : Int32)) M) else (FM_cover_L42 walks k x3 (x3 + (-1 : Int32)) M)))
set_option maxRecDepth 20000 in
theorem c_FM_cover_L42 {l : Launch} {C : gC} (hC : g_ctx l C) (walks : Int32) (sz d : Nat) (hd : 4 ≤ d) (R : Int32 × gM) : ∀ (k : Nat) (x2 : Int32) (x3 : Int32) (M : gM), FM_cover_L42 walks k x2 x3 M = some R → GW l C qX12_cover d (gQg 956 g_S0 (qI R) sz) gN 0 0 42 [(0, .ref (464)), (1, .int (walks)), (2, .int (x2)), (3, .int (x3))] [] (956, g_S0, M, sz) := by
  intro k
  induction k with
  | zero => intro x2 x3 M hr; exact nomatch (show (none : Option (Int32 × gM)) = some R from hr)
  | succ k ih =>
    intro x2 x3 M hr
    unfold FM_cover_L42 at hr
    refine gb_run 1 (pc2 := 43) (ls2 := [(0, .ref (464)), (1, .int (walks)), (2, .int (x2)), (3, .int (x3))]) (st2 := [.int (x3)]) (M2 := M) hC hqX12_cover rfl ?_
    refine gb_if_lt hqX12_cover rfl (fun h1 => ?_) (fun h1 => ?_)
    ·
      have hr := g_if1 h1 hr
      refine gb_run 1 (pc2 := 79) (ls2 := [(0, .ref (464)), (1, .int (walks)), (2, .int (x2)), (3, .int (x3))]) (st2 := [.int (x2)]) (M2 := M) hC hqX12_cover rfl ?_
      refine gb_iret hqX12_cover rfl rfl (Nat.le_of_ble_eq_true rfl) (Nat.le_of_ble_eq_true rfl) ?_
      exact gl_I hr
    ·
      have hr := g_if0 h1 hr
      refine gb_run 3 (pc2 := 49) (ls2 := [(0, .ref (464)), (1, .int (walks)), (2, .int (x2)), (3, .int (x3))]) (st2 := [.int (walks), .int (x3), .ref (464)]) (M2 := M) hC hqX12_cover rfl ?_
      obtain ⟨s2, es2, hr⟩ := g_bd hr
      refine gz_cV (z := qX12_isCover) (a := 464) (av := [.int (x3), .int (walks)]) (rest := []) (pl := 1887) hC hqX12_cover rfl kX12_isCover sX12_isCover (by decide +kernel) (c_FM_isCover hC x3 walks  M sz (d - 1) (by omega) s2 es2) (by omega) ⟨rfl, rfl⟩ rfl (Nat.le_of_ble_eq_true rfl) (Nat.le_of_ble_eq_true rfl) rfl rfl rfl (Nat.le_of_ble_eq_true rfl) ⟨Nat.le_of_ble_eq_true rfl, Nat.le_of_ble_eq_true rfl⟩ (gs_Zp fun z3 => ?_)
      refine gb_if_eq hqX12_cover rfl (fun h4 => ?_) (fun h4 => ?_)
      ·
        have hr := g_if1 h4 hr
        refine gb_run 4 (pc2 := 42) (ls2 := [(3, .int (x3 + (-1 : Int32))), (2, .int (x2)), (0, .ref (464)), (1, .int (walks))]) (st2 := []) (M2 := M) hC hqX12_cover rfl ?_
        refine gw_pick [2, 3, 1, 0] (ls2 := [(0, .ref (464)), (1, .int (walks)), (2, .int (x2)), (3, .int (x3 + (-1 : Int32)))]) rfl ?_
        exact ih x2 (x3 + (-1 : Int32)) M hr
      ·
        have hr := g_if0 h4 hr
        refine gb_run 1 (pc2 := 56) (ls2 := [(0, .ref (464)), (1, .int (walks)), (2, .int (x2)), (3, .int (x3))]) (st2 := [.int (x3)]) (M2 := M) hC hqX12_cover rfl ?_
        obtain ⟨s5, es5, hr⟩ := g_bd hr
        refine gz_cS (z := qX12_ones) (av := [.int (x3)]) (rest := []) (pl := 1891) hC hqX12_cover rfl kX12_ones (by decide +kernel) (c_FM_ones hC x3  M sz (d - 1) (by omega) s5 es5) (by omega) ⟨rfl, rfl⟩ rfl rfl (Nat.le_of_ble_eq_true rfl) ⟨Nat.le_of_ble_eq_true rfl, Nat.le_of_ble_eq_true rfl⟩ (gs_Ip ?_)
        refine gb_run 1 (pc2 := 60) (ls2 := [(0, .ref (464)), (1, .int (walks)), (2, .int (x2)), (3, .int (x3))]) (st2 := [.int (x2), .int (s5)]) (M2 := M) hC hqX12_cover rfl ?_
        obtain ⟨s6, es6, hr⟩ := g_bd hr
        refine gz_cS (z := qX12_ones) (av := [.int (x2)]) (rest := [.int (s5)]) (pl := 1891) hC hqX12_cover rfl kX12_ones (by decide +kernel) (c_FM_ones hC x2  M sz (d - 1) (by omega) s6 es6) (by omega) ⟨rfl, rfl⟩ rfl rfl (Nat.le_of_ble_eq_true rfl) ⟨Nat.le_of_ble_eq_true rfl, Nat.le_of_ble_eq_true rfl⟩ (gs_Ip ?_)
        refine gb_icmp_gt hqX12_cover rfl (fun h7 => ?_) (fun h7 => ?_)
        ·
          have hr := g_if1 h7 hr
          refine gb_run 4 (pc2 := 42) (ls2 := [(3, .int (x3 + (-1 : Int32))), (2, .int (x2)), (0, .ref (464)), (1, .int (walks))]) (st2 := []) (M2 := M) hC hqX12_cover rfl ?_
          refine gw_pick [2, 3, 1, 0] (ls2 := [(0, .ref (464)), (1, .int (walks)), (2, .int (x2)), (3, .int (x3 + (-1 : Int32)))]) rfl ?_
          exact ih x2 (x3 + (-1 : Int32)) M hr
        ·
          have hr := g_if0 h7 hr
          refine gb_run 5 (pc2 := 42) (ls2 := [(3, .int (x3 + (-1 : Int32))), (2, .int (x3)), (0, .ref (464)), (1, .int (walks))]) (st2 := []) (M2 := M) hC hqX12_cover rfl ?_
          refine gw_pick [2, 3, 1, 0] (ls2 := [(0, .ref (464)), (1, .int (walks)), (2, .int (x3)), (3, .int (x3 + (-1 : Int32)))]) rfl ?_
          exact ih x3 (x3 + (-1 : Int32)) M hr
def FM_cover_J19 (walks : Int32) (y0 : Int32) (M : gM) : Option (Int32 × gM) :=
  (FM_bad y0 (1 : Int32) (1 : Int32) M).bind fun s1 => if s1.1 = (0 : Int32) then (FM_cover_L42 walks 1000 (((1 : Int32) <<< (((s1.2) 468 0) &&& 31)) - (1 : Int32)) (((1 : Int32) <<< (((s1.2) 468 0) &&& 31)) - (1 : Int32)) (s1.2)) else (some (0, s1.2))
set_option maxRecDepth 20000 in
theorem c_FM_cover_J19 {l : Launch} {C : gC} (hC : g_ctx l C) (walks : Int32) (sz d : Nat) (hd : 4 ≤ d) (R : Int32 × gM) (y0 : Int32) (M : gM) (hr : FM_cover_J19 walks y0 M = some R) : GW l C qX12_cover d (gQg 956 g_S0 (qI R) sz) gN 0 0 19 [(0, .ref (464)), (1, .int (walks))] [.int (y0), .ref (464)] (956, g_S0, M, sz) := by
  unfold FM_cover_J19 at hr
  refine gb_run 2 (pc2 := 21) (ls2 := [(0, .ref (464)), (1, .int (walks))]) (st2 := [.int (1), .int (1), .int (y0), .ref (464)]) (M2 := M) hC hqX12_cover rfl ?_
  obtain ⟨s1, es1, hr⟩ := g_bd hr
  refine gz_cV (z := qX12_bad) (a := 464) (av := [.int (y0), .int (1), .int (1)]) (rest := []) (pl := 1551) hC hqX12_cover rfl kX12_bad sX12_bad (by decide +kernel) (c_FM_bad hC y0 (1 : Int32) (1 : Int32)  M sz (d - 1) (by omega) s1 es1) (by omega) ⟨rfl, rfl⟩ rfl (Nat.le_of_ble_eq_true rfl) (Nat.le_of_ble_eq_true rfl) rfl rfl rfl (Nat.le_of_ble_eq_true rfl) ⟨Nat.le_of_ble_eq_true rfl, Nat.le_of_ble_eq_true rfl⟩ (gs_Z fun z2 => ?_)
  refine gb_if_eq hqX12_cover rfl (fun h3 => ?_) (fun h3 => ?_)
  ·
    have hr := g_if1 h3 hr
    refine gb_run 4 (pc2 := 35) (ls2 := [(0, .ref (464)), (1, .int (walks))]) (st2 := [.int (0), .ref (468), .int (1)]) (M2 := s1.2) hC hqX12_cover rfl ?_
    refine gb_iaload hC hqX12_cover rfl (Nat.le_of_ble_eq_true rfl) rfl (by unfold vp_in; decide) ?_
    rw [show (0 : Int32).toNatClampNeg = 0 from rfl]
    refine gb_run 6 (pc2 := 42) (ls2 := [(3, .int (((1 : Int32) <<< (((s1.2) 468 0) &&& 31)) - (1 : Int32))), (2, .int (((1 : Int32) <<< (((s1.2) 468 0) &&& 31)) - (1 : Int32))), (0, .ref (464)), (1, .int (walks))]) (st2 := []) (M2 := s1.2) hC hqX12_cover rfl ?_
    refine gw_pick [2, 3, 1, 0] (ls2 := [(0, .ref (464)), (1, .int (walks)), (2, .int (((1 : Int32) <<< (((s1.2) 468 0) &&& 31)) - (1 : Int32))), (3, .int (((1 : Int32) <<< (((s1.2) 468 0) &&& 31)) - (1 : Int32)))]) rfl ?_
    exact c_FM_cover_L42 hC walks sz d (by omega) R 1000 (((1 : Int32) <<< (((s1.2) 468 0) &&& 31)) - (1 : Int32)) (((1 : Int32) <<< (((s1.2) 468 0) &&& 31)) - (1 : Int32)) (s1.2) hr
  ·
    have hr := g_if0 h3 hr
    refine gb_run 1 (pc2 := 28) (ls2 := [(0, .ref (464)), (1, .int (walks))]) (st2 := [.int (0)]) (M2 := s1.2) hC hqX12_cover rfl ?_
    refine gb_iret hqX12_cover rfl rfl (Nat.le_of_ble_eq_true rfl) (Nat.le_of_ble_eq_true rfl) ?_
    exact gl_I hr
def FM_cover (walks : Int32) (M : gM) : Option (Int32 × gM) :=
  if (FM_areWalks walks (g_set M 464 0 (0 : Int32))) = (0 : Int32) then (FM_cover_J19 walks (1 : Int32) (g_set M 464 0 (0 : Int32))) else (FM_cover_J19 walks (0 : Int32) (g_set M 464 0 (0 : Int32)))
set_option maxRecDepth 20000 in
theorem c_FM_cover {l : Launch} {C : gC} (hC : g_ctx l C) (walks : Int32)  (M : gM) (sz d : Nat) (hd : 4 ≤ d) (R : Int32 × gM) (hr : FM_cover walks M = some R) : gPg l C qX12_cover d [.ref (464), .int (walks)] 956 g_S0 M sz (qI R) := by
  refine gPg.of (ls := [(0, .ref (464)), (1, .int (walks))]) (by decide +kernel) (Nat.le_of_ble_eq_true rfl) rfl ?_
  unfold FM_cover at hr
  refine gb_run 6 (pc2 := 8) (ls2 := [(0, .ref (464)), (1, .int (walks))]) (st2 := [.int (walks), .ref (464), .ref (464)]) (M2 := g_set M 464 0 (0 : Int32)) hC hqX12_cover rfl ?_
  refine gz_cV (z := qX12_areWalks) (a := 464) (av := [.int (walks)]) (rest := [.ref (464)]) (pl := 1859) hC hqX12_cover rfl kX12_areWalks sX12_areWalks (by decide +kernel) (c_FM_areWalks hC walks  (g_set M 464 0 (0 : Int32)) sz (d - 1) (by omega)) (by omega) ⟨rfl, rfl⟩ rfl (Nat.le_of_ble_eq_true rfl) (Nat.le_of_ble_eq_true rfl) rfl rfl rfl (Nat.le_of_ble_eq_true rfl) ⟨Nat.le_of_ble_eq_true rfl, Nat.le_of_ble_eq_true rfl⟩ (gs_Zp fun z2 => ?_)
  refine gb_if_ne hqX12_cover rfl (fun h3 => ?_) (fun h3 => ?_)
  ·
    have hr := g_if0 h3 hr
    refine gb_run 1 (pc2 := 19) (ls2 := [(0, .ref (464)), (1, .int (walks))]) (st2 := [.int (0), .ref (464)]) (M2 := g_set M 464 0 (0 : Int32)) hC hqX12_cover rfl ?_
    exact c_FM_cover_J19 hC walks sz d (by omega) R (0 : Int32) (g_set M 464 0 (0 : Int32)) hr
  ·
    have hr := g_if1 h3 hr
    refine gb_run 2 (pc2 := 19) (ls2 := [(0, .ref (464)), (1, .int (walks))]) (st2 := [.int (1), .ref (464)]) (M2 := g_set M 464 0 (0 : Int32)) hC hqX12_cover rfl ?_
    exact c_FM_cover_J19 hC walks sz d (by omega) R (1 : Int32) (g_set M 464 0 (0 : Int32)) hr
def FM_watch_L48 (n : Int32) (what : Int32) : Nat → Int32 → Int32 → Int32 → gM → Option (Int32 × gM)
  | 0, _, _, _, _ => none
  | k + 1, x3, x4, x5, M =>
  if ((1 : Int32) <<< ((M 468 0) &&& 31)) ≤ x5 then (if what = (0 : Int32) then (some (x3, M)) else (some (x4, M))) else ((FM_ones x5).bind fun s3 => if s3 = n then ((FM_watchedBy x5 M).bind fun s5 => if x4 < s5 then ((FM_watchedBy x5 M).bind fun s7 => FM_watch_L48 n what k x5 s7 (x5 + (1 : Int32)) M) else (FM_watch_L48 n what k x3 x4 (x5 + (1 : Int32)) M)) else (FM_watch_L48 n what k x3 x4 (x5 + (1 : Int32)) M))
set_option maxRecDepth 20000 in
theorem c_FM_watch_L48 {l : Launch} {C : gC} (hC : g_ctx l C) (n : Int32) (what : Int32) (sz d : Nat) (hd : 4 ≤ d) (R : Int32 × gM) : ∀ (k : Nat) (x3 : Int32) (x4 : Int32) (x5 : Int32) (M : gM), FM_watch_L48 n what k x3 x4 x5 M = some R → GW l C qX12_watch d (gQg 956 g_S0 (qI R) sz) gN 0 0 48 [(0, .ref (464)), (1, .int (n)), (2, .int (what)), (3, .int (x3)), (4, .int (x4)), (5, .int (x5))] [] (956, g_S0, M, sz) := by
  intro k
  induction k with
  | zero => intro x3 x4 x5 M hr; exact nomatch (show (none : Option (Int32 × gM)) = some R from hr)
  | succ k ih =>
    intro x3 x4 x5 M hr
    unfold FM_watch_L48 at hr
    refine gb_run 5 (pc2 := 56) (ls2 := [(0, .ref (464)), (1, .int (n)), (2, .int (what)), (3, .int (x3)), (4, .int (x4)), (5, .int (x5))]) (st2 := [.int (0), .ref (468), .int (1), .int (x5)]) (M2 := M) hC hqX12_watch rfl ?_
    refine gb_iaload hC hqX12_watch rfl (Nat.le_of_ble_eq_true rfl) rfl (by unfold vp_in; decide) ?_
    rw [show (0 : Int32).toNatClampNeg = 0 from rfl]
    refine gb_run 1 (pc2 := 58) (ls2 := [(0, .ref (464)), (1, .int (n)), (2, .int (what)), (3, .int (x3)), (4, .int (x4)), (5, .int (x5))]) (st2 := [.int ((1 : Int32) <<< ((M 468 0) &&& 31)), .int (x5)]) (M2 := M) hC hqX12_watch rfl ?_
    refine gb_icmp_ge hqX12_watch rfl (fun h1 => ?_) (fun h1 => ?_)
    ·
      have hr := g_if1 h1 hr
      refine gb_run 1 (pc2 := 102) (ls2 := [(0, .ref (464)), (1, .int (n)), (2, .int (what)), (3, .int (x3)), (4, .int (x4)), (5, .int (x5))]) (st2 := [.int (what)]) (M2 := M) hC hqX12_watch rfl ?_
      refine gb_if_ne hqX12_watch rfl (fun h2 => ?_) (fun h2 => ?_)
      ·
        have hr := g_if0 h2 hr
        refine gb_run 1 (pc2 := 111) (ls2 := [(0, .ref (464)), (1, .int (n)), (2, .int (what)), (3, .int (x3)), (4, .int (x4)), (5, .int (x5))]) (st2 := [.int (x4)]) (M2 := M) hC hqX12_watch rfl ?_
        refine gb_iret hqX12_watch rfl rfl (Nat.le_of_ble_eq_true rfl) (Nat.le_of_ble_eq_true rfl) ?_
        exact gl_I hr
      ·
        have hr := g_if1 h2 hr
        refine gb_run 2 (pc2 := 111) (ls2 := [(0, .ref (464)), (1, .int (n)), (2, .int (what)), (3, .int (x3)), (4, .int (x4)), (5, .int (x5))]) (st2 := [.int (x3)]) (M2 := M) hC hqX12_watch rfl ?_
        refine gb_iret hqX12_watch rfl rfl (Nat.le_of_ble_eq_true rfl) (Nat.le_of_ble_eq_true rfl) ?_
        exact gl_I hr
    ·
      have hr := g_if0 h1 hr
      refine gb_run 1 (pc2 := 63) (ls2 := [(0, .ref (464)), (1, .int (n)), (2, .int (what)), (3, .int (x3)), (4, .int (x4)), (5, .int (x5))]) (st2 := [.int (x5)]) (M2 := M) hC hqX12_watch rfl ?_
      obtain ⟨s3, es3, hr⟩ := g_bd hr
      refine gz_cS (z := qX12_ones) (av := [.int (x5)]) (rest := []) (pl := 1891) hC hqX12_watch rfl kX12_ones (by decide +kernel) (c_FM_ones hC x5  M sz (d - 1) (by omega) s3 es3) (by omega) ⟨rfl, rfl⟩ rfl rfl (Nat.le_of_ble_eq_true rfl) ⟨Nat.le_of_ble_eq_true rfl, Nat.le_of_ble_eq_true rfl⟩ (gs_Ip ?_)
      refine gb_run 1 (pc2 := 67) (ls2 := [(0, .ref (464)), (1, .int (n)), (2, .int (what)), (3, .int (x3)), (4, .int (x4)), (5, .int (x5))]) (st2 := [.int (n), .int (s3)]) (M2 := M) hC hqX12_watch rfl ?_
      refine gb_icmp_ne hqX12_watch rfl (fun h4 => ?_) (fun h4 => ?_)
      ·
        have hr := g_if0 h4 hr
        refine gb_run 2 (pc2 := 48) (ls2 := [(5, .int (x5 + (1 : Int32))), (0, .ref (464)), (1, .int (n)), (2, .int (what)), (3, .int (x3)), (4, .int (x4))]) (st2 := []) (M2 := M) hC hqX12_watch rfl ?_
        refine gw_pick [1, 2, 3, 4, 5, 0] (ls2 := [(0, .ref (464)), (1, .int (n)), (2, .int (what)), (3, .int (x3)), (4, .int (x4)), (5, .int (x5 + (1 : Int32)))]) rfl ?_
        exact ih x3 x4 (x5 + (1 : Int32)) M hr
      ·
        have hr := g_if1 h4 hr
        refine gb_run 2 (pc2 := 73) (ls2 := [(0, .ref (464)), (1, .int (n)), (2, .int (what)), (3, .int (x3)), (4, .int (x4)), (5, .int (x5))]) (st2 := [.int (x5), .ref (464)]) (M2 := M) hC hqX12_watch rfl ?_
        obtain ⟨s5, es5, hr⟩ := g_bd hr
        refine gz_cV (z := qX12_watchedBy) (a := 464) (av := [.int (x5)]) (rest := []) (pl := 1871) hC hqX12_watch rfl kX12_watchedBy sX12_watchedBy (by decide +kernel) (c_FM_watchedBy hC x5  M sz (d - 1) (by omega) s5 es5) (by omega) ⟨rfl, rfl⟩ rfl (Nat.le_of_ble_eq_true rfl) (Nat.le_of_ble_eq_true rfl) rfl rfl rfl (Nat.le_of_ble_eq_true rfl) ⟨Nat.le_of_ble_eq_true rfl, Nat.le_of_ble_eq_true rfl⟩ (gs_Ip ?_)
        refine gb_run 1 (pc2 := 78) (ls2 := [(0, .ref (464)), (1, .int (n)), (2, .int (what)), (3, .int (x3)), (4, .int (x4)), (5, .int (x5))]) (st2 := [.int (x4), .int (s5)]) (M2 := M) hC hqX12_watch rfl ?_
        refine gb_icmp_gt hqX12_watch rfl (fun h6 => ?_) (fun h6 => ?_)
        ·
          have hr := g_if1 h6 hr
          refine gb_run 4 (pc2 := 90) (ls2 := [(3, .int (x5)), (0, .ref (464)), (1, .int (n)), (2, .int (what)), (4, .int (x4)), (5, .int (x5))]) (st2 := [.int (x5), .ref (464)]) (M2 := M) hC hqX12_watch rfl ?_
          obtain ⟨s7, es7, hr⟩ := g_bd hr
          refine gz_cV (z := qX12_watchedBy) (a := 464) (av := [.int (x5)]) (rest := []) (pl := 1871) hC hqX12_watch rfl kX12_watchedBy sX12_watchedBy (by decide +kernel) (c_FM_watchedBy hC x5  M sz (d - 1) (by omega) s7 es7) (by omega) ⟨rfl, rfl⟩ rfl (Nat.le_of_ble_eq_true rfl) (Nat.le_of_ble_eq_true rfl) rfl rfl rfl (Nat.le_of_ble_eq_true rfl) ⟨Nat.le_of_ble_eq_true rfl, Nat.le_of_ble_eq_true rfl⟩ (gs_Ip ?_)
          refine gb_run 3 (pc2 := 48) (ls2 := [(5, .int (x5 + (1 : Int32))), (4, .int (s7)), (3, .int (x5)), (0, .ref (464)), (1, .int (n)), (2, .int (what))]) (st2 := []) (M2 := M) hC hqX12_watch rfl ?_
          refine gw_pick [3, 4, 5, 2, 1, 0] (ls2 := [(0, .ref (464)), (1, .int (n)), (2, .int (what)), (3, .int (x5)), (4, .int (s7)), (5, .int (x5 + (1 : Int32)))]) rfl ?_
          exact ih x5 s7 (x5 + (1 : Int32)) M hr
        ·
          have hr := g_if0 h6 hr
          refine gb_run 3 (pc2 := 48) (ls2 := [(5, .int (x5 + (1 : Int32))), (0, .ref (464)), (1, .int (n)), (2, .int (what)), (3, .int (x3)), (4, .int (x4))]) (st2 := []) (M2 := M) hC hqX12_watch rfl ?_
          refine gw_pick [1, 2, 3, 4, 5, 0] (ls2 := [(0, .ref (464)), (1, .int (n)), (2, .int (what)), (3, .int (x3)), (4, .int (x4)), (5, .int (x5 + (1 : Int32)))]) rfl ?_
          exact ih x3 x4 (x5 + (1 : Int32)) M hr
def FM_watch_J30 (n : Int32) (what : Int32) (y0 : Int32) (M : gM) : Option (Int32 × gM) :=
  (FM_bad y0 (1 : Int32) (1 : Int32) M).bind fun s1 => if s1.1 = (0 : Int32) then (FM_watch_L48 n what 1000 (-1 : Int32) (-1 : Int32) (0 : Int32) (s1.2)) else (some (0, s1.2))
set_option maxRecDepth 20000 in
theorem c_FM_watch_J30 {l : Launch} {C : gC} (hC : g_ctx l C) (n : Int32) (what : Int32) (sz d : Nat) (hd : 4 ≤ d) (R : Int32 × gM) (y0 : Int32) (M : gM) (hr : FM_watch_J30 n what y0 M = some R) : GW l C qX12_watch d (gQg 956 g_S0 (qI R) sz) gN 0 0 30 [(0, .ref (464)), (1, .int (n)), (2, .int (what))] [.int (y0), .ref (464)] (956, g_S0, M, sz) := by
  unfold FM_watch_J30 at hr
  refine gb_run 2 (pc2 := 32) (ls2 := [(0, .ref (464)), (1, .int (n)), (2, .int (what))]) (st2 := [.int (1), .int (1), .int (y0), .ref (464)]) (M2 := M) hC hqX12_watch rfl ?_
  obtain ⟨s1, es1, hr⟩ := g_bd hr
  refine gz_cV (z := qX12_bad) (a := 464) (av := [.int (y0), .int (1), .int (1)]) (rest := []) (pl := 1551) hC hqX12_watch rfl kX12_bad sX12_bad (by decide +kernel) (c_FM_bad hC y0 (1 : Int32) (1 : Int32)  M sz (d - 1) (by omega) s1 es1) (by omega) ⟨rfl, rfl⟩ rfl (Nat.le_of_ble_eq_true rfl) (Nat.le_of_ble_eq_true rfl) rfl rfl rfl (Nat.le_of_ble_eq_true rfl) ⟨Nat.le_of_ble_eq_true rfl, Nat.le_of_ble_eq_true rfl⟩ (gs_Z fun z2 => ?_)
  refine gb_if_eq hqX12_watch rfl (fun h3 => ?_) (fun h3 => ?_)
  ·
    have hr := g_if1 h3 hr
    refine gb_run 6 (pc2 := 48) (ls2 := [(5, .int (0)), (4, .int (-1)), (3, .int (-1)), (0, .ref (464)), (1, .int (n)), (2, .int (what))]) (st2 := []) (M2 := s1.2) hC hqX12_watch rfl ?_
    refine gw_pick [3, 4, 5, 2, 1, 0] (ls2 := [(0, .ref (464)), (1, .int (n)), (2, .int (what)), (3, .int (-1)), (4, .int (-1)), (5, .int (0))]) rfl ?_
    exact c_FM_watch_L48 hC n what sz d (by omega) R 1000 (-1 : Int32) (-1 : Int32) (0 : Int32) (s1.2) hr
  ·
    have hr := g_if0 h3 hr
    refine gb_run 1 (pc2 := 39) (ls2 := [(0, .ref (464)), (1, .int (n)), (2, .int (what))]) (st2 := [.int (0)]) (M2 := s1.2) hC hqX12_watch rfl ?_
    refine gb_iret hqX12_watch rfl rfl (Nat.le_of_ble_eq_true rfl) (Nat.le_of_ble_eq_true rfl) ?_
    exact gl_I hr
def FM_watch_J25 (n : Int32) (what : Int32) (M : gM) : Option (Int32 × gM) :=
  FM_watch_J30 n what (1 : Int32) M
set_option maxRecDepth 20000 in
theorem c_FM_watch_J25 {l : Launch} {C : gC} (hC : g_ctx l C) (n : Int32) (what : Int32) (sz d : Nat) (hd : 4 ≤ d) (R : Int32 × gM) (M : gM) (hr : FM_watch_J25 n what M = some R) : GW l C qX12_watch d (gQg 956 g_S0 (qI R) sz) gN 0 0 25 [(0, .ref (464)), (1, .int (n)), (2, .int (what))] [.ref (464)] (956, g_S0, M, sz) := by
  unfold FM_watch_J25 at hr
  refine gb_run 2 (pc2 := 30) (ls2 := [(0, .ref (464)), (1, .int (n)), (2, .int (what))]) (st2 := [.int (1), .ref (464)]) (M2 := M) hC hqX12_watch rfl ?_
  exact c_FM_watch_J30 hC n what sz d (by omega) R (1 : Int32) M hr
def FM_watch (n : Int32) (what : Int32) (M : gM) : Option (Int32 × gM) :=
  if (FM_in n (0 : Int32) (8 : Int32)) = (0 : Int32) then (FM_watch_J25 n what (g_set M 464 0 (0 : Int32))) else (if (FM_in what (0 : Int32) (1 : Int32)) = (0 : Int32) then (FM_watch_J25 n what (g_set M 464 0 (0 : Int32))) else (FM_watch_J30 n what (0 : Int32) (g_set M 464 0 (0 : Int32))))
set_option maxRecDepth 20000 in
theorem c_FM_watch {l : Launch} {C : gC} (hC : g_ctx l C) (n : Int32) (what : Int32)  (M : gM) (sz d : Nat) (hd : 4 ≤ d) (R : Int32 × gM) (hr : FM_watch n what M = some R) : gPg l C qX12_watch d [.ref (464), .int (n), .int (what)] 956 g_S0 M sz (qI R) := by
  refine gPg.of (ls := [(0, .ref (464)), (1, .int (n)), (2, .int (what))]) (by decide +kernel) (Nat.le_of_ble_eq_true rfl) rfl ?_
  unfold FM_watch at hr
  refine gb_run 7 (pc2 := 10) (ls2 := [(0, .ref (464)), (1, .int (n)), (2, .int (what))]) (st2 := [.int (8), .int (0), .int (n), .ref (464)]) (M2 := g_set M 464 0 (0 : Int32)) hC hqX12_watch rfl ?_
  refine gz_cS (z := qX12_in) (av := [.int (n), .int (0), .int (8)]) (rest := [.ref (464)]) (pl := 1548) hC hqX12_watch rfl kX12_in (by decide +kernel) (c_FM_in hC n (0 : Int32) (8 : Int32)  (g_set M 464 0 (0 : Int32)) sz (d - 1) (by omega)) (by omega) ⟨rfl, rfl⟩ rfl rfl (Nat.le_of_ble_eq_true rfl) ⟨Nat.le_of_ble_eq_true rfl, Nat.le_of_ble_eq_true rfl⟩ (gs_Zp fun z2 => ?_)
  refine gb_if_eq hqX12_watch rfl (fun h3 => ?_) (fun h3 => ?_)
  ·
    have hr := g_if1 h3 hr
    exact c_FM_watch_J25 hC n what sz d (by omega) R (g_set M 464 0 (0 : Int32)) hr
  ·
    have hr := g_if0 h3 hr
    refine gb_run 3 (pc2 := 19) (ls2 := [(0, .ref (464)), (1, .int (n)), (2, .int (what))]) (st2 := [.int (1), .int (0), .int (what), .ref (464)]) (M2 := g_set M 464 0 (0 : Int32)) hC hqX12_watch rfl ?_
    refine gz_cS (z := qX12_in) (av := [.int (what), .int (0), .int (1)]) (rest := [.ref (464)]) (pl := 1548) hC hqX12_watch rfl kX12_in (by decide +kernel) (c_FM_in hC what (0 : Int32) (1 : Int32)  (g_set M 464 0 (0 : Int32)) sz (d - 1) (by omega)) (by omega) ⟨rfl, rfl⟩ rfl rfl (Nat.le_of_ble_eq_true rfl) ⟨Nat.le_of_ble_eq_true rfl, Nat.le_of_ble_eq_true rfl⟩ (gs_Zp fun z5 => ?_)
    refine gb_if_ne hqX12_watch rfl (fun h6 => ?_) (fun h6 => ?_)
    ·
      have hr := g_if0 h6 hr
      refine gb_run 1 (pc2 := 30) (ls2 := [(0, .ref (464)), (1, .int (n)), (2, .int (what))]) (st2 := [.int (0), .ref (464)]) (M2 := g_set M 464 0 (0 : Int32)) hC hqX12_watch rfl ?_
      exact c_FM_watch_J30 hC n what sz d (by omega) R (0 : Int32) (g_set M 464 0 (0 : Int32)) hr
    ·
      have hr := g_if1 h6 hr
      exact c_FM_watch_J25 hC n what sz d (by omega) R (g_set M 464 0 (0 : Int32)) hr
def FM_hasBy (own : Int32) (other : Int32) (heavy : Int32) : Int32 :=
  if own ≤ other then -own else (heavy - own)
set_option maxRecDepth 20000 in
theorem c_FM_hasBy {l : Launch} {C : gC} (hC : g_ctx l C) (own : Int32) (other : Int32) (heavy : Int32)  (M : gM) (sz d : Nat) (hd : 1 ≤ d) : gPg l C qX12_hasBy d [.int (own), .int (other), .int (heavy)] 956 g_S0 M sz (qIp M (FM_hasBy own other heavy)) := by
  refine gPg.of (ls := [(0, .int (own)), (1, .int (other)), (2, .int (heavy))]) (by decide +kernel) (Nat.le_of_ble_eq_true rfl) rfl ?_
  obtain ⟨R, hr⟩ : ∃ R, FM_hasBy own other heavy = R := ⟨_, rfl⟩
  rw [hr]
  unfold FM_hasBy at hr
  refine gb_run 2 (pc2 := 2) (ls2 := [(0, .int (own)), (1, .int (other)), (2, .int (heavy))]) (st2 := [.int (other), .int (own)]) (M2 := M) hC hqX12_hasBy rfl ?_
  refine gb_icmp_le hqX12_hasBy rfl (fun h1 => ?_) (fun h1 => ?_)
  ·
    have hr := g_if1 h1 hr
    refine gb_run 2 (pc2 := 13) (ls2 := [(0, .int (own)), (1, .int (other)), (2, .int (heavy))]) (st2 := [.int (-own)]) (M2 := M) hC hqX12_hasBy rfl ?_
    refine gb_iret hqX12_hasBy rfl rfl (Nat.le_of_ble_eq_true rfl) (Nat.le_of_ble_eq_true rfl) ?_
    exact gl_It hr
  ·
    have hr := g_if0 h1 hr
    refine gb_run 4 (pc2 := 13) (ls2 := [(0, .int (own)), (1, .int (other)), (2, .int (heavy))]) (st2 := [.int (heavy - own)]) (M2 := M) hC hqX12_hasBy rfl ?_
    refine gb_iret hqX12_hasBy rfl rfl (Nat.le_of_ble_eq_true rfl) (Nat.le_of_ble_eq_true rfl) ?_
    exact gl_It hr
def FM_isBest_L3 (own : Int32) (other : Int32) (heavy : Int32) (k0 : Int32) : Nat → Int32 → Option (Int32)
  | 0, _ => none
  | k + 1, x4 =>
  if k0 < x4 then (some (1 : Int32)) else (if (FM_hasBy x4 other heavy) ≤ (FM_hasBy own other heavy) then (FM_isBest_L3 own other heavy k0 k (x4 + (1 : Int32))) else (some (0 : Int32)))
set_option maxRecDepth 20000 in
theorem c_FM_isBest_L3 {l : Launch} {C : gC} (hC : g_ctx l C) (own : Int32) (other : Int32) (heavy : Int32) (k0 : Int32) (M : gM) (sz d : Nat) (hd : 2 ≤ d) (R : Int32) : ∀ (k : Nat) (x4 : Int32), FM_isBest_L3 own other heavy k0 k x4 = some R → GW l C qX12_isBest d (gQg 956 g_S0 (qZp M R) sz) gN 0 0 3 [(0, .int (own)), (1, .int (other)), (2, .int (heavy)), (3, .int (k0)), (4, .int (x4))] [] (956, g_S0, M, sz) := by
  intro k
  induction k with
  | zero => intro x4 hr; exact nomatch (show (none : Option (Int32)) = some R from hr)
  | succ k ih =>
    intro x4 hr
    unfold FM_isBest_L3 at hr
    refine gb_run 2 (pc2 := 6) (ls2 := [(0, .int (own)), (1, .int (other)), (2, .int (heavy)), (3, .int (k0)), (4, .int (x4))]) (st2 := [.int (k0), .int (x4)]) (M2 := M) hC hqX12_isBest rfl ?_
    refine gb_icmp_gt hqX12_isBest rfl (fun h1 => ?_) (fun h1 => ?_)
    ·
      have hr := g_if1 h1 hr
      refine gb_run 1 (pc2 := 34) (ls2 := [(0, .int (own)), (1, .int (other)), (2, .int (heavy)), (3, .int (k0)), (4, .int (x4))]) (st2 := [.int (1)]) (M2 := M) hC hqX12_isBest rfl ?_
      refine gb_zret hqX12_isBest rfl rfl (Nat.le_of_ble_eq_true rfl) (Nat.le_of_ble_eq_true rfl) (Or.inr rfl) ?_
      exact gl_Zp (Or.inr rfl) hr
    ·
      have hr := g_if0 h1 hr
      refine gb_run 3 (pc2 := 13) (ls2 := [(0, .int (own)), (1, .int (other)), (2, .int (heavy)), (3, .int (k0)), (4, .int (x4))]) (st2 := [.int (heavy), .int (other), .int (x4)]) (M2 := M) hC hqX12_isBest rfl ?_
      refine gz_cS (z := qX12_hasBy) (av := [.int (x4), .int (other), .int (heavy)]) (rest := []) (pl := 1905) hC hqX12_isBest rfl kX12_hasBy (by decide +kernel) (c_FM_hasBy hC x4 other heavy  M sz (d - 1) (by omega)) (by omega) ⟨rfl, rfl⟩ rfl rfl (Nat.le_of_ble_eq_true rfl) ⟨Nat.le_of_ble_eq_true rfl, Nat.le_of_ble_eq_true rfl⟩ (gs_Ip ?_)
      refine gb_run 3 (pc2 := 19) (ls2 := [(0, .int (own)), (1, .int (other)), (2, .int (heavy)), (3, .int (k0)), (4, .int (x4))]) (st2 := [.int (heavy), .int (other), .int (own), .int (FM_hasBy x4 other heavy)]) (M2 := M) hC hqX12_isBest rfl ?_
      refine gz_cS (z := qX12_hasBy) (av := [.int (own), .int (other), .int (heavy)]) (rest := [.int (FM_hasBy x4 other heavy)]) (pl := 1905) hC hqX12_isBest rfl kX12_hasBy (by decide +kernel) (c_FM_hasBy hC own other heavy  M sz (d - 1) (by omega)) (by omega) ⟨rfl, rfl⟩ rfl rfl (Nat.le_of_ble_eq_true rfl) ⟨Nat.le_of_ble_eq_true rfl, Nat.le_of_ble_eq_true rfl⟩ (gs_Ip ?_)
      refine gb_icmp_le hqX12_isBest rfl (fun h2 => ?_) (fun h2 => ?_)
      ·
        have hr := g_if1 h2 hr
        refine gb_run 2 (pc2 := 3) (ls2 := [(4, .int (x4 + (1 : Int32))), (0, .int (own)), (1, .int (other)), (2, .int (heavy)), (3, .int (k0))]) (st2 := []) (M2 := M) hC hqX12_isBest rfl ?_
        refine gw_pick [1, 2, 3, 4, 0] (ls2 := [(0, .int (own)), (1, .int (other)), (2, .int (heavy)), (3, .int (k0)), (4, .int (x4 + (1 : Int32)))]) rfl ?_
        exact ih (x4 + (1 : Int32)) hr
      ·
        have hr := g_if0 h2 hr
        refine gb_run 1 (pc2 := 26) (ls2 := [(0, .int (own)), (1, .int (other)), (2, .int (heavy)), (3, .int (k0)), (4, .int (x4))]) (st2 := [.int (0)]) (M2 := M) hC hqX12_isBest rfl ?_
        refine gb_zret hqX12_isBest rfl rfl (Nat.le_of_ble_eq_true rfl) (Nat.le_of_ble_eq_true rfl) (Or.inl rfl) ?_
        exact gl_Zp (Or.inl rfl) hr
def FM_isBest (own : Int32) (other : Int32) (heavy : Int32) (k0 : Int32) : Option (Int32) :=
  FM_isBest_L3 own other heavy k0 1000 (0 : Int32)
set_option maxRecDepth 20000 in
theorem c_FM_isBest {l : Launch} {C : gC} (hC : g_ctx l C) (own : Int32) (other : Int32) (heavy : Int32) (k0 : Int32)  (M : gM) (sz d : Nat) (hd : 2 ≤ d) (R : Int32) (hr : FM_isBest own other heavy k0 = some R) : gPg l C qX12_isBest d [.int (own), .int (other), .int (heavy), .int (k0)] 956 g_S0 M sz (qZp M R) := by
  refine gPg.of (ls := [(0, .int (own)), (1, .int (other)), (2, .int (heavy)), (3, .int (k0))]) (by decide +kernel) (Nat.le_of_ble_eq_true rfl) rfl ?_
  unfold FM_isBest at hr
  refine gb_run 2 (pc2 := 3) (ls2 := [(4, .int (0)), (0, .int (own)), (1, .int (other)), (2, .int (heavy)), (3, .int (k0))]) (st2 := []) (M2 := M) hC hqX12_isBest rfl ?_
  refine gw_pick [1, 2, 3, 4, 0] (ls2 := [(0, .int (own)), (1, .int (other)), (2, .int (heavy)), (3, .int (k0)), (4, .int (0))]) rfl ?_
  exact c_FM_isBest_L3 hC own other heavy k0 M sz d (by omega) R 1000 (0 : Int32) hr
def FM_toffee_J144 (h : Int32) (k0 : Int32) (what : Int32) (c83 : Int32 → Int32 → Int32 → Int32 → Int32 → gM → Option (Int32 × gM)) (x4 : Int32) (x6 : Int32) (x7 : Int32) (x8 : Int32) (y0 : Int32) (M : gM) : Option (Int32 × gM) :=
  if x4 = (0 : Int32) then (g_ix h 8 fun j2 => g_ix h 8 fun j3 => c83 (x4 + (1 : Int32)) y0 ((FM_hasBy x7 x8 (M 470 j2)) + (FM_hasBy x8 x7 (M 470 j3))) x7 (x8 + (1 : Int32)) M) else (c83 (x4 + (1 : Int32)) y0 x6 x7 (x8 + (1 : Int32)) M)
set_option maxRecDepth 20000 in
theorem c_FM_toffee_J144 {l : Launch} {C : gC} (hC : g_ctx l C) (h : Int32) (k0 : Int32) (what : Int32) (sz d : Nat) (hd : 3 ≤ d) (R : Int32 × gM) (c83 : Int32 → Int32 → Int32 → Int32 → Int32 → gM → Option (Int32 × gM)) (hc83 : ∀ (x4 : Int32) (x5 : Int32) (x6 : Int32) (x7 : Int32) (x8 : Int32) (M : gM), c83 x4 x5 x6 x7 x8 M = some R → GW l C qX12_toffee d (gQg 956 g_S0 (qI R) sz) gN 0 0 83 [(0, .ref (464)), (1, .int (h)), (2, .int (k0)), (3, .int (what)), (4, .int (x4)), (5, .int (x5)), (6, .int (x6)), (7, .int (x7)), (8, .int (x8))] [] (956, g_S0, M, sz)) (x4 : Int32) (x6 : Int32) (x7 : Int32) (x8 : Int32) (y0 : Int32) (M : gM) (hr : FM_toffee_J144 h k0 what c83 x4 x6 x7 x8 y0 M = some R) : GW l C qX12_toffee d (gQg 956 g_S0 (qI R) sz) gN 0 0 144 [(0, .ref (464)), (1, .int (h)), (2, .int (k0)), (3, .int (what)), (4, .int (x4)), (6, .int (x6)), (7, .int (x7)), (8, .int (x8))] [.int (y0)] (956, g_S0, M, sz) := by
  unfold FM_toffee_J144 at hr
  refine gb_run 2 (pc2 := 148) (ls2 := [(5, .int (y0)), (0, .ref (464)), (1, .int (h)), (2, .int (k0)), (3, .int (what)), (4, .int (x4)), (6, .int (x6)), (7, .int (x7)), (8, .int (x8))]) (st2 := [.int (x4)]) (M2 := M) hC hqX12_toffee rfl ?_
  refine gb_if_ne hqX12_toffee rfl (fun h1 => ?_) (fun h1 => ?_)
  ·
    have hr := g_if0 h1 hr
    refine gb_run 5 (pc2 := 83) (ls2 := [(8, .int (x8 + (1 : Int32))), (4, .int (x4 + (1 : Int32))), (6, .int (x6)), (5, .int (y0)), (0, .ref (464)), (1, .int (h)), (2, .int (k0)), (3, .int (what)), (7, .int (x7))]) (st2 := []) (M2 := M) hC hqX12_toffee rfl ?_
    refine gw_pick [4, 5, 6, 7, 1, 3, 2, 8, 0] (ls2 := [(0, .ref (464)), (1, .int (h)), (2, .int (k0)), (3, .int (what)), (4, .int (x4 + (1 : Int32))), (5, .int (y0)), (6, .int (x6)), (7, .int (x7)), (8, .int (x8 + (1 : Int32)))]) rfl ?_
    exact hc83 (x4 + (1 : Int32)) y0 x6 x7 (x8 + (1 : Int32)) M hr
  ·
    have hr := g_if1 h1 hr
    refine gb_run 5 (pc2 := 160) (ls2 := [(5, .int (y0)), (0, .ref (464)), (1, .int (h)), (2, .int (k0)), (3, .int (what)), (4, .int (x4)), (6, .int (x6)), (7, .int (x7)), (8, .int (x8))]) (st2 := [.int (h), .ref (470), .int (x8), .int (x7)]) (M2 := M) hC hqX12_toffee rfl ?_
    obtain ⟨j2, ej2, ij2, lj2, hr⟩ := g_ixo hr
    refine gz_iaload hC hqX12_toffee rfl (Nat.le_of_ble_eq_true rfl) rfl ij2 ej2 ?_
    refine gz_cS (z := qX12_hasBy) (av := [.int (x7), .int (x8), .int (M 470 j2)]) (rest := []) (pl := 1905) hC hqX12_toffee rfl kX12_hasBy (by decide +kernel) (c_FM_hasBy hC x7 x8 (M 470 j2)  M sz (d - 1) (by omega)) (by omega) ⟨rfl, rfl⟩ rfl rfl (Nat.le_of_ble_eq_true rfl) ⟨Nat.le_of_ble_eq_true rfl, Nat.le_of_ble_eq_true rfl⟩ (gs_Ip ?_)
    refine gb_run 5 (pc2 := 173) (ls2 := [(5, .int (y0)), (0, .ref (464)), (1, .int (h)), (2, .int (k0)), (3, .int (what)), (4, .int (x4)), (6, .int (x6)), (7, .int (x7)), (8, .int (x8))]) (st2 := [.int (h), .ref (470), .int (x7), .int (x8), .int (FM_hasBy x7 x8 (M 470 j2))]) (M2 := M) hC hqX12_toffee rfl ?_
    obtain ⟨j3, ej3, ij3, lj3, hr⟩ := g_ixo hr
    refine gz_iaload hC hqX12_toffee rfl (Nat.le_of_ble_eq_true rfl) rfl ij3 ej3 ?_
    refine gz_cS (z := qX12_hasBy) (av := [.int (x8), .int (x7), .int (M 470 j3)]) (rest := [.int (FM_hasBy x7 x8 (M 470 j2))]) (pl := 1905) hC hqX12_toffee rfl kX12_hasBy (by decide +kernel) (c_FM_hasBy hC x8 x7 (M 470 j3)  M sz (d - 1) (by omega)) (by omega) ⟨rfl, rfl⟩ rfl rfl (Nat.le_of_ble_eq_true rfl) ⟨Nat.le_of_ble_eq_true rfl, Nat.le_of_ble_eq_true rfl⟩ (gs_Ip ?_)
    refine gb_run 6 (pc2 := 83) (ls2 := [(8, .int (x8 + (1 : Int32))), (4, .int (x4 + (1 : Int32))), (6, .int ((FM_hasBy x7 x8 (M 470 j2)) + (FM_hasBy x8 x7 (M 470 j3)))), (5, .int (y0)), (0, .ref (464)), (1, .int (h)), (2, .int (k0)), (3, .int (what)), (7, .int (x7))]) (st2 := []) (M2 := M) hC hqX12_toffee rfl ?_
    refine gw_pick [4, 5, 6, 7, 1, 3, 2, 8, 0] (ls2 := [(0, .ref (464)), (1, .int (h)), (2, .int (k0)), (3, .int (what)), (4, .int (x4 + (1 : Int32))), (5, .int (y0)), (6, .int ((FM_hasBy x7 x8 (M 470 j2)) + (FM_hasBy x8 x7 (M 470 j3)))), (7, .int (x7)), (8, .int (x8 + (1 : Int32)))]) rfl ?_
    exact hc83 (x4 + (1 : Int32)) y0 ((FM_hasBy x7 x8 (M 470 j2)) + (FM_hasBy x8 x7 (M 470 j3))) x7 (x8 + (1 : Int32)) M hr
def FM_toffee_L83 (h : Int32) (k0 : Int32) (what : Int32) (c74 : Int32 → Int32 → Int32 → Int32 → gM → Option (Int32 × gM)) : Nat → Int32 → Int32 → Int32 → Int32 → Int32 → gM → Option (Int32 × gM)
  | 0, _, _, _, _, _, _ => none
  | k + 1, x4, x5, x6, x7, x8, M =>
  if k0 < x8 then (c74 x4 x5 x6 (x7 + (1 : Int32)) M) else (g_ix h 8 fun j2 => (FM_isBest x7 x8 (M 470 j2) k0).bind fun s3 => if s3 = (0 : Int32) then (FM_toffee_L83 h k0 what c74 k x4 x5 x6 x7 (x8 + (1 : Int32)) M) else (g_ix h 8 fun j6 => (FM_isBest x8 x7 (M 470 j6) k0).bind fun s7 => if s7 = (0 : Int32) then (FM_toffee_L83 h k0 what c74 k x4 x5 x6 x7 (x8 + (1 : Int32)) M) else (if x4 = (0 : Int32) then (FM_toffee_J144 h k0 what (FM_toffee_L83 h k0 what c74 k) x4 x6 x7 x8 (((10 : Int32) * x7) + x8) M) else (FM_toffee_J144 h k0 what (FM_toffee_L83 h k0 what c74 k) x4 x6 x7 x8 x5 M))))
set_option maxRecDepth 20000 in
theorem c_FM_toffee_L83 {l : Launch} {C : gC} (hC : g_ctx l C) (h : Int32) (k0 : Int32) (what : Int32) (sz d : Nat) (hd : 3 ≤ d) (R : Int32 × gM) (c74 : Int32 → Int32 → Int32 → Int32 → gM → Option (Int32 × gM)) (hc74 : ∀ (x4 : Int32) (x5 : Int32) (x6 : Int32) (x7 : Int32) (M : gM), c74 x4 x5 x6 x7 M = some R → GW l C qX12_toffee d (gQg 956 g_S0 (qI R) sz) gN 0 0 74 [(0, .ref (464)), (1, .int (h)), (2, .int (k0)), (3, .int (what)), (4, .int (x4)), (5, .int (x5)), (6, .int (x6)), (7, .int (x7))] [] (956, g_S0, M, sz)) : ∀ (k : Nat) (x4 : Int32) (x5 : Int32) (x6 : Int32) (x7 : Int32) (x8 : Int32) (M : gM), FM_toffee_L83 h k0 what c74 k x4 x5 x6 x7 x8 M = some R → GW l C qX12_toffee d (gQg 956 g_S0 (qI R) sz) gN 0 0 83 [(0, .ref (464)), (1, .int (h)), (2, .int (k0)), (3, .int (what)), (4, .int (x4)), (5, .int (x5)), (6, .int (x6)), (7, .int (x7)), (8, .int (x8))] [] (956, g_S0, M, sz) := by
  intro k
  induction k with
  | zero => intro x4 x5 x6 x7 x8 M hr; exact nomatch (show (none : Option (Int32 × gM)) = some R from hr)
  | succ k ih =>
    intro x4 x5 x6 x7 x8 M hr
    unfold FM_toffee_L83 at hr
    refine gb_run 2 (pc2 := 86) (ls2 := [(0, .ref (464)), (1, .int (h)), (2, .int (k0)), (3, .int (what)), (4, .int (x4)), (5, .int (x5)), (6, .int (x6)), (7, .int (x7)), (8, .int (x8))]) (st2 := [.int (k0), .int (x8)]) (M2 := M) hC hqX12_toffee rfl ?_
    refine gb_icmp_gt hqX12_toffee rfl (fun h1 => ?_) (fun h1 => ?_)
    ·
      have hr := g_if1 h1 hr
      refine gb_run 2 (pc2 := 74) (ls2 := [(7, .int (x7 + (1 : Int32))), (0, .ref (464)), (1, .int (h)), (2, .int (k0)), (3, .int (what)), (4, .int (x4)), (5, .int (x5)), (6, .int (x6)), (8, .int (x8))]) (st2 := []) (M2 := M) hC hqX12_toffee rfl ?_
      refine gw_pick [1, 2, 3, 4, 5, 6, 7, 0] (ls2 := [(0, .ref (464)), (1, .int (h)), (2, .int (k0)), (3, .int (what)), (4, .int (x4)), (5, .int (x5)), (6, .int (x6)), (7, .int (x7 + (1 : Int32)))]) rfl ?_
      exact hc74 x4 x5 x6 (x7 + (1 : Int32)) M hr
    ·
      have hr := g_if0 h1 hr
      refine gb_run 5 (pc2 := 98) (ls2 := [(0, .ref (464)), (1, .int (h)), (2, .int (k0)), (3, .int (what)), (4, .int (x4)), (5, .int (x5)), (6, .int (x6)), (7, .int (x7)), (8, .int (x8))]) (st2 := [.int (h), .ref (470), .int (x8), .int (x7)]) (M2 := M) hC hqX12_toffee rfl ?_
      obtain ⟨j2, ej2, ij2, lj2, hr⟩ := g_ixo hr
      refine gz_iaload hC hqX12_toffee rfl (Nat.le_of_ble_eq_true rfl) rfl ij2 ej2 ?_
      refine gb_run 1 (pc2 := 100) (ls2 := [(0, .ref (464)), (1, .int (h)), (2, .int (k0)), (3, .int (what)), (4, .int (x4)), (5, .int (x5)), (6, .int (x6)), (7, .int (x7)), (8, .int (x8))]) (st2 := [.int (k0), .int (M 470 j2), .int (x8), .int (x7)]) (M2 := M) hC hqX12_toffee rfl ?_
      obtain ⟨s3, es3, hr⟩ := g_bd hr
      refine gz_cS (z := qX12_isBest) (av := [.int (x7), .int (x8), .int (M 470 j2), .int (k0)]) (rest := []) (pl := 1902) hC hqX12_toffee rfl kX12_isBest (by decide +kernel) (c_FM_isBest hC x7 x8 (M 470 j2) k0  M sz (d - 1) (by omega) s3 es3) (by omega) ⟨rfl, rfl⟩ rfl rfl (Nat.le_of_ble_eq_true rfl) ⟨Nat.le_of_ble_eq_true rfl, Nat.le_of_ble_eq_true rfl⟩ (gs_Zp fun z4 => ?_)
      refine gb_if_eq hqX12_toffee rfl (fun h5 => ?_) (fun h5 => ?_)
      ·
        have hr := g_if1 h5 hr
        refine gb_run 2 (pc2 := 83) (ls2 := [(8, .int (x8 + (1 : Int32))), (0, .ref (464)), (1, .int (h)), (2, .int (k0)), (3, .int (what)), (4, .int (x4)), (5, .int (x5)), (6, .int (x6)), (7, .int (x7))]) (st2 := []) (M2 := M) hC hqX12_toffee rfl ?_
        refine gw_pick [1, 2, 3, 4, 5, 6, 7, 8, 0] (ls2 := [(0, .ref (464)), (1, .int (h)), (2, .int (k0)), (3, .int (what)), (4, .int (x4)), (5, .int (x5)), (6, .int (x6)), (7, .int (x7)), (8, .int (x8 + (1 : Int32)))]) rfl ?_
        exact ih x4 x5 x6 x7 (x8 + (1 : Int32)) M hr
      ·
        have hr := g_if0 h5 hr
        refine gb_run 5 (pc2 := 115) (ls2 := [(0, .ref (464)), (1, .int (h)), (2, .int (k0)), (3, .int (what)), (4, .int (x4)), (5, .int (x5)), (6, .int (x6)), (7, .int (x7)), (8, .int (x8))]) (st2 := [.int (h), .ref (470), .int (x7), .int (x8)]) (M2 := M) hC hqX12_toffee rfl ?_
        obtain ⟨j6, ej6, ij6, lj6, hr⟩ := g_ixo hr
        refine gz_iaload hC hqX12_toffee rfl (Nat.le_of_ble_eq_true rfl) rfl ij6 ej6 ?_
        refine gb_run 1 (pc2 := 117) (ls2 := [(0, .ref (464)), (1, .int (h)), (2, .int (k0)), (3, .int (what)), (4, .int (x4)), (5, .int (x5)), (6, .int (x6)), (7, .int (x7)), (8, .int (x8))]) (st2 := [.int (k0), .int (M 470 j6), .int (x7), .int (x8)]) (M2 := M) hC hqX12_toffee rfl ?_
        obtain ⟨s7, es7, hr⟩ := g_bd hr
        refine gz_cS (z := qX12_isBest) (av := [.int (x8), .int (x7), .int (M 470 j6), .int (k0)]) (rest := []) (pl := 1902) hC hqX12_toffee rfl kX12_isBest (by decide +kernel) (c_FM_isBest hC x8 x7 (M 470 j6) k0  M sz (d - 1) (by omega) s7 es7) (by omega) ⟨rfl, rfl⟩ rfl rfl (Nat.le_of_ble_eq_true rfl) ⟨Nat.le_of_ble_eq_true rfl, Nat.le_of_ble_eq_true rfl⟩ (gs_Zp fun z8 => ?_)
        refine gb_if_ne hqX12_toffee rfl (fun h9 => ?_) (fun h9 => ?_)
        ·
          have hr := g_if0 h9 hr
          refine gb_run 1 (pc2 := 128) (ls2 := [(0, .ref (464)), (1, .int (h)), (2, .int (k0)), (3, .int (what)), (4, .int (x4)), (5, .int (x5)), (6, .int (x6)), (7, .int (x7)), (8, .int (x8))]) (st2 := [.int (x4)]) (M2 := M) hC hqX12_toffee rfl ?_
          refine gb_if_ne hqX12_toffee rfl (fun h10 => ?_) (fun h10 => ?_)
          ·
            have hr := g_if0 h10 hr
            refine gb_run 1 (pc2 := 144) (ls2 := [(0, .ref (464)), (1, .int (h)), (2, .int (k0)), (3, .int (what)), (4, .int (x4)), (5, .int (x5)), (6, .int (x6)), (7, .int (x7)), (8, .int (x8))]) (st2 := [.int (x5)]) (M2 := M) hC hqX12_toffee rfl ?_
            refine gw_pick [0, 1, 2, 3, 4, 6, 7, 8] (ls2 := [(0, .ref (464)), (1, .int (h)), (2, .int (k0)), (3, .int (what)), (4, .int (x4)), (6, .int (x6)), (7, .int (x7)), (8, .int (x8))]) rfl ?_
            exact c_FM_toffee_J144 hC h k0 what sz d (by omega) R (FM_toffee_L83 h k0 what c74 k) ih x4 x6 x7 x8 x5 M hr
          ·
            have hr := g_if1 h10 hr
            refine gb_run 6 (pc2 := 144) (ls2 := [(0, .ref (464)), (1, .int (h)), (2, .int (k0)), (3, .int (what)), (4, .int (x4)), (5, .int (x5)), (6, .int (x6)), (7, .int (x7)), (8, .int (x8))]) (st2 := [.int (((10 : Int32) * x7) + x8)]) (M2 := M) hC hqX12_toffee rfl ?_
            refine gw_pick [0, 1, 2, 3, 4, 6, 7, 8] (ls2 := [(0, .ref (464)), (1, .int (h)), (2, .int (k0)), (3, .int (what)), (4, .int (x4)), (6, .int (x6)), (7, .int (x7)), (8, .int (x8))]) rfl ?_
            exact c_FM_toffee_J144 hC h k0 what sz d (by omega) R (FM_toffee_L83 h k0 what c74 k) ih x4 x6 x7 x8 (((10 : Int32) * x7) + x8) M hr
        ·
          have hr := g_if1 h9 hr
          refine gb_run 3 (pc2 := 83) (ls2 := [(8, .int (x8 + (1 : Int32))), (0, .ref (464)), (1, .int (h)), (2, .int (k0)), (3, .int (what)), (4, .int (x4)), (5, .int (x5)), (6, .int (x6)), (7, .int (x7))]) (st2 := []) (M2 := M) hC hqX12_toffee rfl ?_
          refine gw_pick [1, 2, 3, 4, 5, 6, 7, 8, 0] (ls2 := [(0, .ref (464)), (1, .int (h)), (2, .int (k0)), (3, .int (what)), (4, .int (x4)), (5, .int (x5)), (6, .int (x6)), (7, .int (x7)), (8, .int (x8 + (1 : Int32)))]) rfl ?_
          exact ih x4 x5 x6 x7 (x8 + (1 : Int32)) M hr
def FM_toffee_L74 (h : Int32) (k0 : Int32) (what : Int32) : Nat → Int32 → Int32 → Int32 → Int32 → gM → Option (Int32 × gM)
  | 0, _, _, _, _, _ => none
  | k + 1, x4, x5, x6, x7, M =>
  if k0 < x7 then (if what = (0 : Int32) then (some (x4, M)) else (if what = (1 : Int32) then (some (x5, M)) else (some (x6, M)))) else (FM_toffee_L83 h k0 what (FM_toffee_L74 h k0 what k) 1000 x4 x5 x6 x7 (0 : Int32) M)
set_option maxRecDepth 20000 in
theorem c_FM_toffee_L74 {l : Launch} {C : gC} (hC : g_ctx l C) (h : Int32) (k0 : Int32) (what : Int32) (sz d : Nat) (hd : 3 ≤ d) (R : Int32 × gM) : ∀ (k : Nat) (x4 : Int32) (x5 : Int32) (x6 : Int32) (x7 : Int32) (M : gM), FM_toffee_L74 h k0 what k x4 x5 x6 x7 M = some R → GW l C qX12_toffee d (gQg 956 g_S0 (qI R) sz) gN 0 0 74 [(0, .ref (464)), (1, .int (h)), (2, .int (k0)), (3, .int (what)), (4, .int (x4)), (5, .int (x5)), (6, .int (x6)), (7, .int (x7))] [] (956, g_S0, M, sz) := by
  intro k
  induction k with
  | zero => intro x4 x5 x6 x7 M hr; exact nomatch (show (none : Option (Int32 × gM)) = some R from hr)
  | succ k ih =>
    intro x4 x5 x6 x7 M hr
    unfold FM_toffee_L74 at hr
    refine gb_run 2 (pc2 := 77) (ls2 := [(0, .ref (464)), (1, .int (h)), (2, .int (k0)), (3, .int (what)), (4, .int (x4)), (5, .int (x5)), (6, .int (x6)), (7, .int (x7))]) (st2 := [.int (k0), .int (x7)]) (M2 := M) hC hqX12_toffee rfl ?_
    refine gb_icmp_gt hqX12_toffee rfl (fun h1 => ?_) (fun h1 => ?_)
    ·
      have hr := g_if1 h1 hr
      refine gb_run 1 (pc2 := 201) (ls2 := [(0, .ref (464)), (1, .int (h)), (2, .int (k0)), (3, .int (what)), (4, .int (x4)), (5, .int (x5)), (6, .int (x6)), (7, .int (x7))]) (st2 := [.int (what)]) (M2 := M) hC hqX12_toffee rfl ?_
      refine gb_if_ne hqX12_toffee rfl (fun h2 => ?_) (fun h2 => ?_)
      ·
        have hr := g_if0 h2 hr
        refine gb_run 2 (pc2 := 211) (ls2 := [(0, .ref (464)), (1, .int (h)), (2, .int (k0)), (3, .int (what)), (4, .int (x4)), (5, .int (x5)), (6, .int (x6)), (7, .int (x7))]) (st2 := [.int (1), .int (what)]) (M2 := M) hC hqX12_toffee rfl ?_
        refine gb_icmp_ne hqX12_toffee rfl (fun h3 => ?_) (fun h3 => ?_)
        ·
          have hr := g_if0 h3 hr
          refine gb_run 1 (pc2 := 221) (ls2 := [(0, .ref (464)), (1, .int (h)), (2, .int (k0)), (3, .int (what)), (4, .int (x4)), (5, .int (x5)), (6, .int (x6)), (7, .int (x7))]) (st2 := [.int (x6)]) (M2 := M) hC hqX12_toffee rfl ?_
          refine gb_iret hqX12_toffee rfl rfl (Nat.le_of_ble_eq_true rfl) (Nat.le_of_ble_eq_true rfl) ?_
          exact gl_I hr
        ·
          have hr := g_if1 h3 hr
          refine gb_run 2 (pc2 := 221) (ls2 := [(0, .ref (464)), (1, .int (h)), (2, .int (k0)), (3, .int (what)), (4, .int (x4)), (5, .int (x5)), (6, .int (x6)), (7, .int (x7))]) (st2 := [.int (x5)]) (M2 := M) hC hqX12_toffee rfl ?_
          refine gb_iret hqX12_toffee rfl rfl (Nat.le_of_ble_eq_true rfl) (Nat.le_of_ble_eq_true rfl) ?_
          exact gl_I hr
      ·
        have hr := g_if1 h2 hr
        refine gb_run 2 (pc2 := 221) (ls2 := [(0, .ref (464)), (1, .int (h)), (2, .int (k0)), (3, .int (what)), (4, .int (x4)), (5, .int (x5)), (6, .int (x6)), (7, .int (x7))]) (st2 := [.int (x4)]) (M2 := M) hC hqX12_toffee rfl ?_
        refine gb_iret hqX12_toffee rfl rfl (Nat.le_of_ble_eq_true rfl) (Nat.le_of_ble_eq_true rfl) ?_
        exact gl_I hr
    ·
      have hr := g_if0 h1 hr
      refine gb_run 2 (pc2 := 83) (ls2 := [(8, .int (0)), (0, .ref (464)), (1, .int (h)), (2, .int (k0)), (3, .int (what)), (4, .int (x4)), (5, .int (x5)), (6, .int (x6)), (7, .int (x7))]) (st2 := []) (M2 := M) hC hqX12_toffee rfl ?_
      refine gw_pick [1, 2, 3, 4, 5, 6, 7, 8, 0] (ls2 := [(0, .ref (464)), (1, .int (h)), (2, .int (k0)), (3, .int (what)), (4, .int (x4)), (5, .int (x5)), (6, .int (x6)), (7, .int (x7)), (8, .int (0))]) rfl ?_
      exact c_FM_toffee_L83 hC h k0 what sz d (by omega) R (FM_toffee_L74 h k0 what k) ih 1000 x4 x5 x6 x7 (0 : Int32) M hr
def FM_toffee_J52 (h : Int32) (k0 : Int32) (what : Int32) (y0 : Int32) (M : gM) : Option (Int32 × gM) :=
  (FM_bad y0 (2 : Int32) (1 : Int32) M).bind fun s1 => if s1.1 = (0 : Int32) then (FM_toffee_L74 h k0 what 1000 (0 : Int32) (-1 : Int32) (0 : Int32) (0 : Int32) (s1.2)) else (some (0, s1.2))
set_option maxRecDepth 20000 in
theorem c_FM_toffee_J52 {l : Launch} {C : gC} (hC : g_ctx l C) (h : Int32) (k0 : Int32) (what : Int32) (sz d : Nat) (hd : 3 ≤ d) (R : Int32 × gM) (y0 : Int32) (M : gM) (hr : FM_toffee_J52 h k0 what y0 M = some R) : GW l C qX12_toffee d (gQg 956 g_S0 (qI R) sz) gN 0 0 52 [(0, .ref (464)), (1, .int (h)), (2, .int (k0)), (3, .int (what))] [.int (y0), .ref (464)] (956, g_S0, M, sz) := by
  unfold FM_toffee_J52 at hr
  refine gb_run 2 (pc2 := 54) (ls2 := [(0, .ref (464)), (1, .int (h)), (2, .int (k0)), (3, .int (what))]) (st2 := [.int (1), .int (2), .int (y0), .ref (464)]) (M2 := M) hC hqX12_toffee rfl ?_
  obtain ⟨s1, es1, hr⟩ := g_bd hr
  refine gz_cV (z := qX12_bad) (a := 464) (av := [.int (y0), .int (2), .int (1)]) (rest := []) (pl := 1551) hC hqX12_toffee rfl kX12_bad sX12_bad (by decide +kernel) (c_FM_bad hC y0 (2 : Int32) (1 : Int32)  M sz (d - 1) (by omega) s1 es1) (by omega) ⟨rfl, rfl⟩ rfl (Nat.le_of_ble_eq_true rfl) (Nat.le_of_ble_eq_true rfl) rfl rfl rfl (Nat.le_of_ble_eq_true rfl) ⟨Nat.le_of_ble_eq_true rfl, Nat.le_of_ble_eq_true rfl⟩ (gs_Z fun z2 => ?_)
  refine gb_if_eq hqX12_toffee rfl (fun h3 => ?_) (fun h3 => ?_)
  ·
    have hr := g_if1 h3 hr
    refine gb_run 8 (pc2 := 74) (ls2 := [(7, .int (0)), (6, .int (0)), (5, .int (-1)), (4, .int (0)), (0, .ref (464)), (1, .int (h)), (2, .int (k0)), (3, .int (what))]) (st2 := []) (M2 := s1.2) hC hqX12_toffee rfl ?_
    refine gw_pick [4, 5, 6, 7, 3, 2, 1, 0] (ls2 := [(0, .ref (464)), (1, .int (h)), (2, .int (k0)), (3, .int (what)), (4, .int (0)), (5, .int (-1)), (6, .int (0)), (7, .int (0))]) rfl ?_
    exact c_FM_toffee_L74 hC h k0 what sz d (by omega) R 1000 (0 : Int32) (-1 : Int32) (0 : Int32) (0 : Int32) (s1.2) hr
  ·
    have hr := g_if0 h3 hr
    refine gb_run 1 (pc2 := 61) (ls2 := [(0, .ref (464)), (1, .int (h)), (2, .int (k0)), (3, .int (what))]) (st2 := [.int (0)]) (M2 := s1.2) hC hqX12_toffee rfl ?_
    refine gb_iret hqX12_toffee rfl rfl (Nat.le_of_ble_eq_true rfl) (Nat.le_of_ble_eq_true rfl) ?_
    exact gl_I hr
def FM_toffee_J47 (h : Int32) (k0 : Int32) (what : Int32) (M : gM) : Option (Int32 × gM) :=
  FM_toffee_J52 h k0 what (1 : Int32) M
set_option maxRecDepth 20000 in
theorem c_FM_toffee_J47 {l : Launch} {C : gC} (hC : g_ctx l C) (h : Int32) (k0 : Int32) (what : Int32) (sz d : Nat) (hd : 3 ≤ d) (R : Int32 × gM) (M : gM) (hr : FM_toffee_J47 h k0 what M = some R) : GW l C qX12_toffee d (gQg 956 g_S0 (qI R) sz) gN 0 0 47 [(0, .ref (464)), (1, .int (h)), (2, .int (k0)), (3, .int (what))] [.ref (464)] (956, g_S0, M, sz) := by
  unfold FM_toffee_J47 at hr
  refine gb_run 2 (pc2 := 52) (ls2 := [(0, .ref (464)), (1, .int (h)), (2, .int (k0)), (3, .int (what))]) (st2 := [.int (1), .ref (464)]) (M2 := M) hC hqX12_toffee rfl ?_
  exact c_FM_toffee_J52 hC h k0 what sz d (by omega) R (1 : Int32) M hr
def FM_toffee_J19 (h : Int32) (k0 : Int32) (what : Int32) (y0 : Int32) (M : gM) : Option (Int32 × gM) :=
  (FM_bad y0 (1 : Int32) (0 : Int32) M).bind fun s1 => if s1.1 = (0 : Int32) then (if (FM_in k0 (0 : Int32) (9 : Int32)) = (0 : Int32) then (FM_toffee_J47 h k0 what (s1.2)) else (if (FM_in what (0 : Int32) (2 : Int32)) = (0 : Int32) then (FM_toffee_J47 h k0 what (s1.2)) else (FM_toffee_J52 h k0 what (0 : Int32) (s1.2)))) else (some (0, s1.2))
set_option maxRecDepth 20000 in
theorem c_FM_toffee_J19 {l : Launch} {C : gC} (hC : g_ctx l C) (h : Int32) (k0 : Int32) (what : Int32) (sz d : Nat) (hd : 3 ≤ d) (R : Int32 × gM) (y0 : Int32) (M : gM) (hr : FM_toffee_J19 h k0 what y0 M = some R) : GW l C qX12_toffee d (gQg 956 g_S0 (qI R) sz) gN 0 0 19 [(0, .ref (464)), (1, .int (h)), (2, .int (k0)), (3, .int (what))] [.int (y0), .ref (464)] (956, g_S0, M, sz) := by
  unfold FM_toffee_J19 at hr
  refine gb_run 2 (pc2 := 21) (ls2 := [(0, .ref (464)), (1, .int (h)), (2, .int (k0)), (3, .int (what))]) (st2 := [.int (0), .int (1), .int (y0), .ref (464)]) (M2 := M) hC hqX12_toffee rfl ?_
  obtain ⟨s1, es1, hr⟩ := g_bd hr
  refine gz_cV (z := qX12_bad) (a := 464) (av := [.int (y0), .int (1), .int (0)]) (rest := []) (pl := 1551) hC hqX12_toffee rfl kX12_bad sX12_bad (by decide +kernel) (c_FM_bad hC y0 (1 : Int32) (0 : Int32)  M sz (d - 1) (by omega) s1 es1) (by omega) ⟨rfl, rfl⟩ rfl (Nat.le_of_ble_eq_true rfl) (Nat.le_of_ble_eq_true rfl) rfl rfl rfl (Nat.le_of_ble_eq_true rfl) ⟨Nat.le_of_ble_eq_true rfl, Nat.le_of_ble_eq_true rfl⟩ (gs_Z fun z2 => ?_)
  refine gb_if_ne hqX12_toffee rfl (fun h3 => ?_) (fun h3 => ?_)
  ·
    have hr := g_if0 h3 hr
    refine gb_run 1 (pc2 := 61) (ls2 := [(0, .ref (464)), (1, .int (h)), (2, .int (k0)), (3, .int (what))]) (st2 := [.int (0)]) (M2 := s1.2) hC hqX12_toffee rfl ?_
    refine gb_iret hqX12_toffee rfl rfl (Nat.le_of_ble_eq_true rfl) (Nat.le_of_ble_eq_true rfl) ?_
    exact gl_I hr
  ·
    have hr := g_if1 h3 hr
    refine gb_run 4 (pc2 := 32) (ls2 := [(0, .ref (464)), (1, .int (h)), (2, .int (k0)), (3, .int (what))]) (st2 := [.int (9), .int (0), .int (k0), .ref (464)]) (M2 := s1.2) hC hqX12_toffee rfl ?_
    refine gz_cS (z := qX12_in) (av := [.int (k0), .int (0), .int (9)]) (rest := [.ref (464)]) (pl := 1548) hC hqX12_toffee rfl kX12_in (by decide +kernel) (c_FM_in hC k0 (0 : Int32) (9 : Int32)  (s1.2) sz (d - 1) (by omega)) (by omega) ⟨rfl, rfl⟩ rfl rfl (Nat.le_of_ble_eq_true rfl) ⟨Nat.le_of_ble_eq_true rfl, Nat.le_of_ble_eq_true rfl⟩ (gs_Zp fun z5 => ?_)
    refine gb_if_eq hqX12_toffee rfl (fun h6 => ?_) (fun h6 => ?_)
    ·
      have hr := g_if1 h6 hr
      exact c_FM_toffee_J47 hC h k0 what sz d (by omega) R (s1.2) hr
    ·
      have hr := g_if0 h6 hr
      refine gb_run 3 (pc2 := 41) (ls2 := [(0, .ref (464)), (1, .int (h)), (2, .int (k0)), (3, .int (what))]) (st2 := [.int (2), .int (0), .int (what), .ref (464)]) (M2 := s1.2) hC hqX12_toffee rfl ?_
      refine gz_cS (z := qX12_in) (av := [.int (what), .int (0), .int (2)]) (rest := [.ref (464)]) (pl := 1548) hC hqX12_toffee rfl kX12_in (by decide +kernel) (c_FM_in hC what (0 : Int32) (2 : Int32)  (s1.2) sz (d - 1) (by omega)) (by omega) ⟨rfl, rfl⟩ rfl rfl (Nat.le_of_ble_eq_true rfl) ⟨Nat.le_of_ble_eq_true rfl, Nat.le_of_ble_eq_true rfl⟩ (gs_Zp fun z8 => ?_)
      refine gb_if_ne hqX12_toffee rfl (fun h9 => ?_) (fun h9 => ?_)
      ·
        have hr := g_if0 h9 hr
        refine gb_run 1 (pc2 := 52) (ls2 := [(0, .ref (464)), (1, .int (h)), (2, .int (k0)), (3, .int (what))]) (st2 := [.int (0), .ref (464)]) (M2 := s1.2) hC hqX12_toffee rfl ?_
        exact c_FM_toffee_J52 hC h k0 what sz d (by omega) R (0 : Int32) (s1.2) hr
      ·
        have hr := g_if1 h9 hr
        exact c_FM_toffee_J47 hC h k0 what sz d (by omega) R (s1.2) hr
def FM_toffee (h : Int32) (k0 : Int32) (what : Int32) (M : gM) : Option (Int32 × gM) :=
  if (FM_isHoop h (g_set M 464 0 (0 : Int32))) = (0 : Int32) then (FM_toffee_J19 h k0 what (1 : Int32) (g_set M 464 0 (0 : Int32))) else (FM_toffee_J19 h k0 what (0 : Int32) (g_set M 464 0 (0 : Int32)))
set_option maxRecDepth 20000 in
theorem c_FM_toffee {l : Launch} {C : gC} (hC : g_ctx l C) (h : Int32) (k0 : Int32) (what : Int32)  (M : gM) (sz d : Nat) (hd : 3 ≤ d) (R : Int32 × gM) (hr : FM_toffee h k0 what M = some R) : gPg l C qX12_toffee d [.ref (464), .int (h), .int (k0), .int (what)] 956 g_S0 M sz (qI R) := by
  refine gPg.of (ls := [(0, .ref (464)), (1, .int (h)), (2, .int (k0)), (3, .int (what))]) (by decide +kernel) (Nat.le_of_ble_eq_true rfl) rfl ?_
  unfold FM_toffee at hr
  refine gb_run 6 (pc2 := 8) (ls2 := [(0, .ref (464)), (1, .int (h)), (2, .int (k0)), (3, .int (what))]) (st2 := [.int (h), .ref (464), .ref (464)]) (M2 := g_set M 464 0 (0 : Int32)) hC hqX12_toffee rfl ?_
  refine gz_cV (z := qX12_isHoop) (a := 464) (av := [.int (h)]) (rest := [.ref (464)]) (pl := 1748) hC hqX12_toffee rfl kX12_isHoop sX12_isHoop (by decide +kernel) (c_FM_isHoop hC h  (g_set M 464 0 (0 : Int32)) sz (d - 1) (by omega)) (by omega) ⟨rfl, rfl⟩ rfl (Nat.le_of_ble_eq_true rfl) (Nat.le_of_ble_eq_true rfl) rfl rfl rfl (Nat.le_of_ble_eq_true rfl) ⟨Nat.le_of_ble_eq_true rfl, Nat.le_of_ble_eq_true rfl⟩ (gs_Zp fun z2 => ?_)
  refine gb_if_ne hqX12_toffee rfl (fun h3 => ?_) (fun h3 => ?_)
  ·
    have hr := g_if0 h3 hr
    refine gb_run 1 (pc2 := 19) (ls2 := [(0, .ref (464)), (1, .int (h)), (2, .int (k0)), (3, .int (what))]) (st2 := [.int (0), .ref (464)]) (M2 := g_set M 464 0 (0 : Int32)) hC hqX12_toffee rfl ?_
    exact c_FM_toffee_J19 hC h k0 what sz d (by omega) R (0 : Int32) (g_set M 464 0 (0 : Int32)) hr
  ·
    have hr := g_if1 h3 hr
    refine gb_run 2 (pc2 := 19) (ls2 := [(0, .ref (464)), (1, .int (h)), (2, .int (k0)), (3, .int (what))]) (st2 := [.int (1), .ref (464)]) (M2 := g_set M 464 0 (0 : Int32)) hC hqX12_toffee rfl ?_
    exact c_FM_toffee_J19 hC h k0 what sz d (by omega) R (1 : Int32) (g_set M 464 0 (0 : Int32)) hr
def FM_givenBy_L5 (children : Int32) (bound : Int32) (M : gM) : Nat → Int32 → Int32 → Option (Int32)
  | 0, _, _ => none
  | k + 1, x3, x4 =>
  if (M 468 1) ≤ x4 then (some x3) else (if (FM_has children x4) = (0 : Int32) then (FM_givenBy_L5 children bound M k (x3 + (0 : Int32)) (x4 + (1 : Int32))) else (g_ix x4 8 fun j5 => FM_givenBy_L5 children bound M k (x3 + (FM_less bound (M (499 + j5) 1))) (x4 + (1 : Int32))))
set_option maxRecDepth 20000 in
theorem c_FM_givenBy_L5 {l : Launch} {C : gC} (hC : g_ctx l C) (children : Int32) (bound : Int32) (M : gM) (sz d : Nat) (hd : 2 ≤ d) (R : Int32) : ∀ (k : Nat) (x3 : Int32) (x4 : Int32), FM_givenBy_L5 children bound M k x3 x4 = some R → GW l C qX12_givenBy d (gQg 956 g_S0 (qIp M R) sz) gN 0 0 5 [(0, .ref (464)), (1, .int (children)), (2, .int (bound)), (3, .int (x3)), (4, .int (x4))] [] (956, g_S0, M, sz) := by
  intro k
  induction k with
  | zero => intro x3 x4 hr; exact nomatch (show (none : Option (Int32)) = some R from hr)
  | succ k ih =>
    intro x3 x4 hr
    unfold FM_givenBy_L5 at hr
    refine gb_run 4 (pc2 := 12) (ls2 := [(0, .ref (464)), (1, .int (children)), (2, .int (bound)), (3, .int (x3)), (4, .int (x4))]) (st2 := [.int (1), .ref (468), .int (x4)]) (M2 := M) hC hqX12_givenBy rfl ?_
    refine gb_iaload hC hqX12_givenBy rfl (Nat.le_of_ble_eq_true rfl) rfl (by unfold vp_in; decide) ?_
    rw [show (1 : Int32).toNatClampNeg = 1 from rfl]
    refine gb_icmp_ge hqX12_givenBy rfl (fun h1 => ?_) (fun h1 => ?_)
    ·
      have hr := g_if1 h1 hr
      refine gb_run 1 (pc2 := 52) (ls2 := [(0, .ref (464)), (1, .int (children)), (2, .int (bound)), (3, .int (x3)), (4, .int (x4))]) (st2 := [.int (x3)]) (M2 := M) hC hqX12_givenBy rfl ?_
      refine gb_iret hqX12_givenBy rfl rfl (Nat.le_of_ble_eq_true rfl) (Nat.le_of_ble_eq_true rfl) ?_
      exact gl_Ip hr
    ·
      have hr := g_if0 h1 hr
      refine gb_run 3 (pc2 := 20) (ls2 := [(0, .ref (464)), (1, .int (children)), (2, .int (bound)), (3, .int (x3)), (4, .int (x4))]) (st2 := [.int (x4), .int (children), .int (x3)]) (M2 := M) hC hqX12_givenBy rfl ?_
      refine gz_cS (z := qX12_has) (av := [.int (children), .int (x4)]) (rest := [.int (x3)]) (pl := 1653) hC hqX12_givenBy rfl kX12_has (by decide +kernel) (c_FM_has hC children x4  M sz (d - 1) (by omega)) (by omega) ⟨rfl, rfl⟩ rfl rfl (Nat.le_of_ble_eq_true rfl) ⟨Nat.le_of_ble_eq_true rfl, Nat.le_of_ble_eq_true rfl⟩ (gs_Zp fun z3 => ?_)
      refine gb_if_eq hqX12_givenBy rfl (fun h4 => ?_) (fun h4 => ?_)
      ·
        have hr := g_if1 h4 hr
        refine gb_run 5 (pc2 := 5) (ls2 := [(4, .int (x4 + (1 : Int32))), (3, .int (x3 + (0 : Int32))), (0, .ref (464)), (1, .int (children)), (2, .int (bound))]) (st2 := []) (M2 := M) hC hqX12_givenBy rfl ?_
        refine gw_pick [2, 3, 4, 1, 0] (ls2 := [(0, .ref (464)), (1, .int (children)), (2, .int (bound)), (3, .int (x3 + (0 : Int32))), (4, .int (x4 + (1 : Int32)))]) rfl ?_
        exact ih (x3 + (0 : Int32)) (x4 + (1 : Int32)) hr
      ·
        have hr := g_if0 h4 hr
        refine gb_run 4 (pc2 := 33) (ls2 := [(0, .ref (464)), (1, .int (children)), (2, .int (bound)), (3, .int (x3)), (4, .int (x4))]) (st2 := [.int (x4), .ref (498), .int (bound), .int (x3)]) (M2 := M) hC hqX12_givenBy rfl ?_
        obtain ⟨j5, ej5, ij5, lj5, hr⟩ := g_ixo hr
        have tj5 := g_t498 j5 lj5
        refine gz_aaload (k0 := 2) (q := 499 + j5) hC hqX12_givenBy rfl (Nat.le_of_ble_eq_true rfl) rfl (Nat.le_of_ble_eq_true rfl) ij5 ej5 tj5.1 ?_
        refine gb_run 1 (pc2 := 35) (ls2 := [(0, .ref (464)), (1, .int (children)), (2, .int (bound)), (3, .int (x3)), (4, .int (x4))]) (st2 := [.int (1), .ref (499 + j5), .int (bound), .int (x3)]) (M2 := M) hC hqX12_givenBy rfl ?_
        refine gb_iaload hC hqX12_givenBy rfl tj5.2.1 (g_S3 tj5.2.2.1 tj5.2.2.2) (by unfold vp_in; decide) ?_
        rw [show (1 : Int32).toNatClampNeg = 1 from rfl]
        refine gz_cS (z := qX12_less) (av := [.int (bound), .int (M (499 + j5) 1)]) (rest := [.int (x3)]) (pl := 1709) hC hqX12_givenBy rfl kX12_less (by decide +kernel) (c_FM_less hC bound (M (499 + j5) 1)  M sz (d - 1) (by omega)) (by omega) ⟨rfl, rfl⟩ rfl rfl (Nat.le_of_ble_eq_true rfl) ⟨Nat.le_of_ble_eq_true rfl, Nat.le_of_ble_eq_true rfl⟩ (gs_Ip ?_)
        refine gb_run 5 (pc2 := 5) (ls2 := [(4, .int (x4 + (1 : Int32))), (3, .int (x3 + (FM_less bound (M (499 + j5) 1)))), (0, .ref (464)), (1, .int (children)), (2, .int (bound))]) (st2 := []) (M2 := M) hC hqX12_givenBy rfl ?_
        refine gw_pick [2, 3, 4, 1, 0] (ls2 := [(0, .ref (464)), (1, .int (children)), (2, .int (bound)), (3, .int (x3 + (FM_less bound (M (499 + j5) 1)))), (4, .int (x4 + (1 : Int32)))]) rfl ?_
        exact ih (x3 + (FM_less bound (M (499 + j5) 1))) (x4 + (1 : Int32)) hr
def FM_givenBy (children : Int32) (bound : Int32) (M : gM) : Option (Int32) :=
  FM_givenBy_L5 children bound M 1000 (0 : Int32) (0 : Int32)
set_option maxRecDepth 20000 in
theorem c_FM_givenBy {l : Launch} {C : gC} (hC : g_ctx l C) (children : Int32) (bound : Int32)  (M : gM) (sz d : Nat) (hd : 2 ≤ d) (R : Int32) (hr : FM_givenBy children bound M = some R) : gPg l C qX12_givenBy d [.ref (464), .int (children), .int (bound)] 956 g_S0 M sz (qIp M R) := by
  refine gPg.of (ls := [(0, .ref (464)), (1, .int (children)), (2, .int (bound))]) (by decide +kernel) (Nat.le_of_ble_eq_true rfl) rfl ?_
  unfold FM_givenBy at hr
  refine gb_run 4 (pc2 := 5) (ls2 := [(4, .int (0)), (3, .int (0)), (0, .ref (464)), (1, .int (children)), (2, .int (bound))]) (st2 := []) (M2 := M) hC hqX12_givenBy rfl ?_
  refine gw_pick [2, 3, 4, 1, 0] (ls2 := [(0, .ref (464)), (1, .int (children)), (2, .int (bound)), (3, .int (0)), (4, .int (0))]) rfl ?_
  exact c_FM_givenBy_L5 hC children bound M sz d (by omega) R 1000 (0 : Int32) (0 : Int32) hr
def FM_share_J100 (c : Int32) (children : Int32) (n : Int32) (x4 : Int32) (M : gM) : Option (Int32 × gM) :=
  if (FM_has children c) = (0 : Int32) then (some (0, M)) else (g_ix c 8 fun j4 => some (FM_less x4 (M (499 + j4) 1), M))
set_option maxRecDepth 20000 in
theorem c_FM_share_J100 {l : Launch} {C : gC} (hC : g_ctx l C) (c : Int32) (children : Int32) (n : Int32) (sz d : Nat) (hd : 3 ≤ d) (R : Int32 × gM) (x4 : Int32) (M : gM) (hr : FM_share_J100 c children n x4 M = some R) : GW l C qX12_share d (gQg 956 g_S0 (qI R) sz) gN 0 0 100 [(0, .ref (464)), (1, .int (c)), (2, .int (children)), (4, .int (x4))] [] (956, g_S0, M, sz) := by
  unfold FM_share_J100 at hr
  refine gb_run 2 (pc2 := 102) (ls2 := [(0, .ref (464)), (1, .int (c)), (2, .int (children)), (4, .int (x4))]) (st2 := [.int (c), .int (children)]) (M2 := M) hC hqX12_share rfl ?_
  refine gz_cS (z := qX12_has) (av := [.int (children), .int (c)]) (rest := []) (pl := 1653) hC hqX12_share rfl kX12_has (by decide +kernel) (c_FM_has hC children c  M sz (d - 1) (by omega)) (by omega) ⟨rfl, rfl⟩ rfl rfl (Nat.le_of_ble_eq_true rfl) ⟨Nat.le_of_ble_eq_true rfl, Nat.le_of_ble_eq_true rfl⟩ (gs_Zp fun z2 => ?_)
  refine gb_if_eq hqX12_share rfl (fun h3 => ?_) (fun h3 => ?_)
  ·
    have hr := g_if1 h3 hr
    refine gb_run 1 (pc2 := 125) (ls2 := [(0, .ref (464)), (1, .int (c)), (2, .int (children)), (4, .int (x4))]) (st2 := [.int (0)]) (M2 := M) hC hqX12_share rfl ?_
    refine gb_iret hqX12_share rfl rfl (Nat.le_of_ble_eq_true rfl) (Nat.le_of_ble_eq_true rfl) ?_
    exact gl_I hr
  ·
    have hr := g_if0 h3 hr
    refine gb_run 4 (pc2 := 115) (ls2 := [(0, .ref (464)), (1, .int (c)), (2, .int (children)), (4, .int (x4))]) (st2 := [.int (c), .ref (498), .int (x4)]) (M2 := M) hC hqX12_share rfl ?_
    obtain ⟨j4, ej4, ij4, lj4, hr⟩ := g_ixo hr
    have tj4 := g_t498 j4 lj4
    refine gz_aaload (k0 := 2) (q := 499 + j4) hC hqX12_share rfl (Nat.le_of_ble_eq_true rfl) rfl (Nat.le_of_ble_eq_true rfl) ij4 ej4 tj4.1 ?_
    refine gb_run 1 (pc2 := 117) (ls2 := [(0, .ref (464)), (1, .int (c)), (2, .int (children)), (4, .int (x4))]) (st2 := [.int (1), .ref (499 + j4), .int (x4)]) (M2 := M) hC hqX12_share rfl ?_
    refine gb_iaload hC hqX12_share rfl tj4.2.1 (g_S3 tj4.2.2.1 tj4.2.2.2) (by unfold vp_in; decide) ?_
    rw [show (1 : Int32).toNatClampNeg = 1 from rfl]
    refine gz_cS (z := qX12_less) (av := [.int (x4), .int (M (499 + j4) 1)]) (rest := []) (pl := 1709) hC hqX12_share rfl kX12_less (by decide +kernel) (c_FM_less hC x4 (M (499 + j4) 1)  M sz (d - 1) (by omega)) (by omega) ⟨rfl, rfl⟩ rfl rfl (Nat.le_of_ble_eq_true rfl) ⟨Nat.le_of_ble_eq_true rfl, Nat.le_of_ble_eq_true rfl⟩ (gs_Ip ?_)
    refine gb_run 1 (pc2 := 125) (ls2 := [(0, .ref (464)), (1, .int (c)), (2, .int (children)), (4, .int (x4))]) (st2 := [.int (FM_less x4 (M (499 + j4) 1))]) (M2 := M) hC hqX12_share rfl ?_
    refine gb_iret hqX12_share rfl rfl (Nat.le_of_ble_eq_true rfl) (Nat.le_of_ble_eq_true rfl) ?_
    exact gl_I hr
def FM_share_L74 (c : Int32) (children : Int32) (n : Int32) : Nat → Int32 → gM → Option (Int32 × gM)
  | 0, _, _ => none
  | k + 1, x4, M =>
  if (14 : Int32) ≤ x4 then (FM_share_J100 c children n x4 M) else ((FM_givenBy children (x4 + (1 : Int32)) M).bind fun s2 => if n < s2 then (FM_share_J100 c children n x4 M) else (FM_share_L74 c children n k (x4 + (1 : Int32)) M))
set_option maxRecDepth 20000 in
theorem c_FM_share_L74 {l : Launch} {C : gC} (hC : g_ctx l C) (c : Int32) (children : Int32) (n : Int32) (sz d : Nat) (hd : 3 ≤ d) (R : Int32 × gM) : ∀ (k : Nat) (x4 : Int32) (M : gM), FM_share_L74 c children n k x4 M = some R → GW l C qX12_share d (gQg 956 g_S0 (qI R) sz) gN 0 0 74 [(0, .ref (464)), (1, .int (c)), (2, .int (children)), (3, .int (n)), (4, .int (x4))] [] (956, g_S0, M, sz) := by
  intro k
  induction k with
  | zero => intro x4 M hr; exact nomatch (show (none : Option (Int32 × gM)) = some R from hr)
  | succ k ih =>
    intro x4 M hr
    unfold FM_share_L74 at hr
    refine gb_run 2 (pc2 := 78) (ls2 := [(0, .ref (464)), (1, .int (c)), (2, .int (children)), (3, .int (n)), (4, .int (x4))]) (st2 := [.int (14), .int (x4)]) (M2 := M) hC hqX12_share rfl ?_
    refine gb_icmp_ge hqX12_share rfl (fun h1 => ?_) (fun h1 => ?_)
    ·
      have hr := g_if1 h1 hr
      refine gw_pick [0, 1, 2, 4] (ls2 := [(0, .ref (464)), (1, .int (c)), (2, .int (children)), (4, .int (x4))]) rfl ?_
      exact c_FM_share_J100 hC c children n sz d (by omega) R x4 M hr
    ·
      have hr := g_if0 h1 hr
      refine gb_run 5 (pc2 := 87) (ls2 := [(0, .ref (464)), (1, .int (c)), (2, .int (children)), (3, .int (n)), (4, .int (x4))]) (st2 := [.int (x4 + (1 : Int32)), .int (children), .ref (464)]) (M2 := M) hC hqX12_share rfl ?_
      obtain ⟨s2, es2, hr⟩ := g_bd hr
      refine gz_cV (z := qX12_givenBy) (a := 464) (av := [.int (children), .int (x4 + (1 : Int32))]) (rest := []) (pl := 1912) hC hqX12_share rfl kX12_givenBy sX12_givenBy (by decide +kernel) (c_FM_givenBy hC children (x4 + (1 : Int32))  M sz (d - 1) (by omega) s2 es2) (by omega) ⟨rfl, rfl⟩ rfl (Nat.le_of_ble_eq_true rfl) (Nat.le_of_ble_eq_true rfl) rfl rfl rfl (Nat.le_of_ble_eq_true rfl) ⟨Nat.le_of_ble_eq_true rfl, Nat.le_of_ble_eq_true rfl⟩ (gs_Ip ?_)
      refine gb_run 1 (pc2 := 91) (ls2 := [(0, .ref (464)), (1, .int (c)), (2, .int (children)), (3, .int (n)), (4, .int (x4))]) (st2 := [.int (n), .int (s2)]) (M2 := M) hC hqX12_share rfl ?_
      refine gb_icmp_gt hqX12_share rfl (fun h3 => ?_) (fun h3 => ?_)
      ·
        have hr := g_if1 h3 hr
        refine gw_pick [0, 1, 2, 4] (ls2 := [(0, .ref (464)), (1, .int (c)), (2, .int (children)), (4, .int (x4))]) rfl ?_
        exact c_FM_share_J100 hC c children n sz d (by omega) R x4 M hr
      ·
        have hr := g_if0 h3 hr
        refine gb_run 2 (pc2 := 74) (ls2 := [(4, .int (x4 + (1 : Int32))), (0, .ref (464)), (1, .int (c)), (2, .int (children)), (3, .int (n))]) (st2 := []) (M2 := M) hC hqX12_share rfl ?_
        refine gw_pick [1, 2, 3, 4, 0] (ls2 := [(0, .ref (464)), (1, .int (c)), (2, .int (children)), (3, .int (n)), (4, .int (x4 + (1 : Int32)))]) rfl ?_
        exact ih (x4 + (1 : Int32)) M hr
def FM_share_J61 (c : Int32) (children : Int32) (n : Int32) (y0 : Int32) (M : gM) : Option (Int32 × gM) :=
  (FM_bad y0 (2 : Int32) (1 : Int32) M).bind fun s1 => if s1.1 = (0 : Int32) then (FM_share_L74 c children n 1000 (0 : Int32) (s1.2)) else (some (0, s1.2))
set_option maxRecDepth 20000 in
theorem c_FM_share_J61 {l : Launch} {C : gC} (hC : g_ctx l C) (c : Int32) (children : Int32) (n : Int32) (sz d : Nat) (hd : 3 ≤ d) (R : Int32 × gM) (y0 : Int32) (M : gM) (hr : FM_share_J61 c children n y0 M = some R) : GW l C qX12_share d (gQg 956 g_S0 (qI R) sz) gN 0 0 61 [(0, .ref (464)), (1, .int (c)), (2, .int (children)), (3, .int (n))] [.int (y0), .ref (464)] (956, g_S0, M, sz) := by
  unfold FM_share_J61 at hr
  refine gb_run 2 (pc2 := 63) (ls2 := [(0, .ref (464)), (1, .int (c)), (2, .int (children)), (3, .int (n))]) (st2 := [.int (1), .int (2), .int (y0), .ref (464)]) (M2 := M) hC hqX12_share rfl ?_
  obtain ⟨s1, es1, hr⟩ := g_bd hr
  refine gz_cV (z := qX12_bad) (a := 464) (av := [.int (y0), .int (2), .int (1)]) (rest := []) (pl := 1551) hC hqX12_share rfl kX12_bad sX12_bad (by decide +kernel) (c_FM_bad hC y0 (2 : Int32) (1 : Int32)  M sz (d - 1) (by omega) s1 es1) (by omega) ⟨rfl, rfl⟩ rfl (Nat.le_of_ble_eq_true rfl) (Nat.le_of_ble_eq_true rfl) rfl rfl rfl (Nat.le_of_ble_eq_true rfl) ⟨Nat.le_of_ble_eq_true rfl, Nat.le_of_ble_eq_true rfl⟩ (gs_Z fun z2 => ?_)
  refine gb_if_eq hqX12_share rfl (fun h3 => ?_) (fun h3 => ?_)
  ·
    have hr := g_if1 h3 hr
    refine gb_run 2 (pc2 := 74) (ls2 := [(4, .int (0)), (0, .ref (464)), (1, .int (c)), (2, .int (children)), (3, .int (n))]) (st2 := []) (M2 := s1.2) hC hqX12_share rfl ?_
    refine gw_pick [1, 2, 3, 4, 0] (ls2 := [(0, .ref (464)), (1, .int (c)), (2, .int (children)), (3, .int (n)), (4, .int (0))]) rfl ?_
    exact c_FM_share_L74 hC c children n sz d (by omega) R 1000 (0 : Int32) (s1.2) hr
  ·
    have hr := g_if0 h3 hr
    refine gb_run 1 (pc2 := 70) (ls2 := [(0, .ref (464)), (1, .int (c)), (2, .int (children)), (3, .int (n))]) (st2 := [.int (0)]) (M2 := s1.2) hC hqX12_share rfl ?_
    refine gb_iret hqX12_share rfl rfl (Nat.le_of_ble_eq_true rfl) (Nat.le_of_ble_eq_true rfl) ?_
    exact gl_I hr
def FM_share_J56 (c : Int32) (children : Int32) (n : Int32) (M : gM) : Option (Int32 × gM) :=
  FM_share_J61 c children n (1 : Int32) M
set_option maxRecDepth 20000 in
theorem c_FM_share_J56 {l : Launch} {C : gC} (hC : g_ctx l C) (c : Int32) (children : Int32) (n : Int32) (sz d : Nat) (hd : 3 ≤ d) (R : Int32 × gM) (M : gM) (hr : FM_share_J56 c children n M = some R) : GW l C qX12_share d (gQg 956 g_S0 (qI R) sz) gN 0 0 56 [(0, .ref (464)), (1, .int (c)), (2, .int (children)), (3, .int (n))] [.ref (464)] (956, g_S0, M, sz) := by
  unfold FM_share_J56 at hr
  refine gb_run 2 (pc2 := 61) (ls2 := [(0, .ref (464)), (1, .int (c)), (2, .int (children)), (3, .int (n))]) (st2 := [.int (1), .ref (464)]) (M2 := M) hC hqX12_share rfl ?_
  exact c_FM_share_J61 hC c children n sz d (by omega) R (1 : Int32) M hr
def FM_share_J19 (c : Int32) (children : Int32) (n : Int32) (y0 : Int32) (M : gM) : Option (Int32 × gM) :=
  (FM_bad y0 (1 : Int32) (0 : Int32) M).bind fun s1 => if s1.1 = (0 : Int32) then (if (FM_in children (0 : Int32) (((1 : Int32) <<< (((s1.2) 468 1) &&& 31)) - (1 : Int32))) = (0 : Int32) then (FM_share_J56 c children n (s1.2)) else (if (FM_in n (0 : Int32) (99 : Int32)) = (0 : Int32) then (FM_share_J56 c children n (s1.2)) else (FM_share_J61 c children n (0 : Int32) (s1.2)))) else (some (0, s1.2))
set_option maxRecDepth 20000 in
theorem c_FM_share_J19 {l : Launch} {C : gC} (hC : g_ctx l C) (c : Int32) (children : Int32) (n : Int32) (sz d : Nat) (hd : 3 ≤ d) (R : Int32 × gM) (y0 : Int32) (M : gM) (hr : FM_share_J19 c children n y0 M = some R) : GW l C qX12_share d (gQg 956 g_S0 (qI R) sz) gN 0 0 19 [(0, .ref (464)), (1, .int (c)), (2, .int (children)), (3, .int (n))] [.int (y0), .ref (464)] (956, g_S0, M, sz) := by
  unfold FM_share_J19 at hr
  refine gb_run 2 (pc2 := 21) (ls2 := [(0, .ref (464)), (1, .int (c)), (2, .int (children)), (3, .int (n))]) (st2 := [.int (0), .int (1), .int (y0), .ref (464)]) (M2 := M) hC hqX12_share rfl ?_
  obtain ⟨s1, es1, hr⟩ := g_bd hr
  refine gz_cV (z := qX12_bad) (a := 464) (av := [.int (y0), .int (1), .int (0)]) (rest := []) (pl := 1551) hC hqX12_share rfl kX12_bad sX12_bad (by decide +kernel) (c_FM_bad hC y0 (1 : Int32) (0 : Int32)  M sz (d - 1) (by omega) s1 es1) (by omega) ⟨rfl, rfl⟩ rfl (Nat.le_of_ble_eq_true rfl) (Nat.le_of_ble_eq_true rfl) rfl rfl rfl (Nat.le_of_ble_eq_true rfl) ⟨Nat.le_of_ble_eq_true rfl, Nat.le_of_ble_eq_true rfl⟩ (gs_Z fun z2 => ?_)
  refine gb_if_ne hqX12_share rfl (fun h3 => ?_) (fun h3 => ?_)
  ·
    have hr := g_if0 h3 hr
    refine gb_run 1 (pc2 := 70) (ls2 := [(0, .ref (464)), (1, .int (c)), (2, .int (children)), (3, .int (n))]) (st2 := [.int (0)]) (M2 := s1.2) hC hqX12_share rfl ?_
    refine gb_iret hqX12_share rfl rfl (Nat.le_of_ble_eq_true rfl) (Nat.le_of_ble_eq_true rfl) ?_
    exact gl_I hr
  ·
    have hr := g_if1 h3 hr
    refine gb_run 7 (pc2 := 36) (ls2 := [(0, .ref (464)), (1, .int (c)), (2, .int (children)), (3, .int (n))]) (st2 := [.int (1), .ref (468), .int (1), .int (0), .int (children), .ref (464)]) (M2 := s1.2) hC hqX12_share rfl ?_
    refine gb_iaload hC hqX12_share rfl (Nat.le_of_ble_eq_true rfl) rfl (by unfold vp_in; decide) ?_
    rw [show (1 : Int32).toNatClampNeg = 1 from rfl]
    refine gb_run 3 (pc2 := 40) (ls2 := [(0, .ref (464)), (1, .int (c)), (2, .int (children)), (3, .int (n))]) (st2 := [.int (((1 : Int32) <<< (((s1.2) 468 1) &&& 31)) - (1 : Int32)), .int (0), .int (children), .ref (464)]) (M2 := s1.2) hC hqX12_share rfl ?_
    refine gz_cS (z := qX12_in) (av := [.int (children), .int (0), .int (((1 : Int32) <<< (((s1.2) 468 1) &&& 31)) - (1 : Int32))]) (rest := [.ref (464)]) (pl := 1548) hC hqX12_share rfl kX12_in (by decide +kernel) (c_FM_in hC children (0 : Int32) (((1 : Int32) <<< (((s1.2) 468 1) &&& 31)) - (1 : Int32))  (s1.2) sz (d - 1) (by omega)) (by omega) ⟨rfl, rfl⟩ rfl rfl (Nat.le_of_ble_eq_true rfl) ⟨Nat.le_of_ble_eq_true rfl, Nat.le_of_ble_eq_true rfl⟩ (gs_Zp fun z5 => ?_)
    refine gb_if_eq hqX12_share rfl (fun h6 => ?_) (fun h6 => ?_)
    ·
      have hr := g_if1 h6 hr
      exact c_FM_share_J56 hC c children n sz d (by omega) R (s1.2) hr
    ·
      have hr := g_if0 h6 hr
      refine gb_run 3 (pc2 := 50) (ls2 := [(0, .ref (464)), (1, .int (c)), (2, .int (children)), (3, .int (n))]) (st2 := [.int (99), .int (0), .int (n), .ref (464)]) (M2 := s1.2) hC hqX12_share rfl ?_
      refine gz_cS (z := qX12_in) (av := [.int (n), .int (0), .int (99)]) (rest := [.ref (464)]) (pl := 1548) hC hqX12_share rfl kX12_in (by decide +kernel) (c_FM_in hC n (0 : Int32) (99 : Int32)  (s1.2) sz (d - 1) (by omega)) (by omega) ⟨rfl, rfl⟩ rfl rfl (Nat.le_of_ble_eq_true rfl) ⟨Nat.le_of_ble_eq_true rfl, Nat.le_of_ble_eq_true rfl⟩ (gs_Zp fun z8 => ?_)
      refine gb_if_ne hqX12_share rfl (fun h9 => ?_) (fun h9 => ?_)
      ·
        have hr := g_if0 h9 hr
        refine gb_run 1 (pc2 := 61) (ls2 := [(0, .ref (464)), (1, .int (c)), (2, .int (children)), (3, .int (n))]) (st2 := [.int (0), .ref (464)]) (M2 := s1.2) hC hqX12_share rfl ?_
        exact c_FM_share_J61 hC c children n sz d (by omega) R (0 : Int32) (s1.2) hr
      ·
        have hr := g_if1 h9 hr
        exact c_FM_share_J56 hC c children n sz d (by omega) R (s1.2) hr
def FM_share (c : Int32) (children : Int32) (n : Int32) (M : gM) : Option (Int32 × gM) :=
  if (FM_isChild c (g_set M 464 0 (0 : Int32))) = (0 : Int32) then (FM_share_J19 c children n (1 : Int32) (g_set M 464 0 (0 : Int32))) else (FM_share_J19 c children n (0 : Int32) (g_set M 464 0 (0 : Int32)))
set_option maxRecDepth 20000 in
theorem c_FM_share {l : Launch} {C : gC} (hC : g_ctx l C) (c : Int32) (children : Int32) (n : Int32)  (M : gM) (sz d : Nat) (hd : 3 ≤ d) (R : Int32 × gM) (hr : FM_share c children n M = some R) : gPg l C qX12_share d [.ref (464), .int (c), .int (children), .int (n)] 956 g_S0 M sz (qI R) := by
  refine gPg.of (ls := [(0, .ref (464)), (1, .int (c)), (2, .int (children)), (3, .int (n))]) (by decide +kernel) (Nat.le_of_ble_eq_true rfl) rfl ?_
  unfold FM_share at hr
  refine gb_run 6 (pc2 := 8) (ls2 := [(0, .ref (464)), (1, .int (c)), (2, .int (children)), (3, .int (n))]) (st2 := [.int (c), .ref (464), .ref (464)]) (M2 := g_set M 464 0 (0 : Int32)) hC hqX12_share rfl ?_
  refine gz_cV (z := qX12_isChild) (a := 464) (av := [.int (c)]) (rest := [.ref (464)]) (pl := 1740) hC hqX12_share rfl kX12_isChild sX12_isChild (by decide +kernel) (c_FM_isChild hC c  (g_set M 464 0 (0 : Int32)) sz (d - 1) (by omega)) (by omega) ⟨rfl, rfl⟩ rfl (Nat.le_of_ble_eq_true rfl) (Nat.le_of_ble_eq_true rfl) rfl rfl rfl (Nat.le_of_ble_eq_true rfl) ⟨Nat.le_of_ble_eq_true rfl, Nat.le_of_ble_eq_true rfl⟩ (gs_Zp fun z2 => ?_)
  refine gb_if_ne hqX12_share rfl (fun h3 => ?_) (fun h3 => ?_)
  ·
    have hr := g_if0 h3 hr
    refine gb_run 1 (pc2 := 19) (ls2 := [(0, .ref (464)), (1, .int (c)), (2, .int (children)), (3, .int (n))]) (st2 := [.int (0), .ref (464)]) (M2 := g_set M 464 0 (0 : Int32)) hC hqX12_share rfl ?_
    exact c_FM_share_J19 hC c children n sz d (by omega) R (0 : Int32) (g_set M 464 0 (0 : Int32)) hr
  ·
    have hr := g_if1 h3 hr
    refine gb_run 2 (pc2 := 19) (ls2 := [(0, .ref (464)), (1, .int (c)), (2, .int (children)), (3, .int (n))]) (st2 := [.int (1), .ref (464)]) (M2 := g_set M 464 0 (0 : Int32)) hC hqX12_share rfl ?_
    exact c_FM_share_J19 hC c children n sz d (by omega) R (1 : Int32) (g_set M 464 0 (0 : Int32)) hr
def FM_draw  (M : gM) : Option (Int32 × gM) :=
  some (((((M 464 45) * (1103515245 : Int32)) + (12345 : Int32)) >>> ((16 : Int32) &&& 31)) &&& (15 : Int32), g_set M 464 45 (((M 464 45) * (1103515245 : Int32)) + (12345 : Int32)))
set_option maxRecDepth 20000 in
theorem c_FM_draw {l : Launch} {C : gC} (hC : g_ctx l C)   (M : gM) (sz d : Nat) (hd : 1 ≤ d) (R : Int32 × gM) (hr : FM_draw M = some R) : gPg l C qX12_draw d [.ref (464)] 956 g_S0 M sz (qI R) := by
  refine gPg.of (ls := [(0, .ref (464))]) (by decide +kernel) (Nat.le_of_ble_eq_true rfl) rfl ?_
  unfold FM_draw at hr
  refine gb_run 14 (pc2 := 26) (ls2 := [(0, .ref (464))]) (st2 := [.int (((((M 464 45) * (1103515245 : Int32)) + (12345 : Int32)) >>> ((16 : Int32) &&& 31)) &&& (15 : Int32))]) (M2 := g_set M 464 45 (((M 464 45) * (1103515245 : Int32)) + (12345 : Int32))) hC hqX12_draw rfl ?_
  refine gb_iret hqX12_draw rfl rfl (Nat.le_of_ble_eq_true rfl) (Nat.le_of_ble_eq_true rfl) ?_
  exact gl_I hr
def FM_daysBy_J144 (seed : Int32) (many : Int32) (q : Int32) (c29 : Int32 → gM → Option (gM)) (x4 : Int32) (y0 : Int32) (M : gM) : Option (gM) :=
  (FM_rolls 931 y0 M).bind fun s1 => c29 (x4 + (1 : Int32)) (s1.2)
set_option maxRecDepth 20000 in
theorem c_FM_daysBy_J144 {l : Launch} {C : gC} (hC : g_ctx l C) (seed : Int32) (many : Int32) (q : Int32) (sz d : Nat) (hd : 7 ≤ d) (R : gM) (c29 : Int32 → gM → Option (gM)) (hc29 : ∀ (x4 : Int32) (M : gM), c29 x4 M = some R → GW l C qX12_daysBy d (gQg 956 g_S0 (qV R) sz) gN 0 0 29 [(0, .ref (464)), (2, .int (many)), (3, .int (q)), (4, .int (x4))] [] (956, g_S0, M, sz)) (x4 : Int32) (y0 : Int32) (M : gM) (hr : FM_daysBy_J144 seed many q c29 x4 y0 M = some R) : GW l C qX12_daysBy d (gQg 956 g_S0 (qV R) sz) gN 0 0 144 [(0, .ref (464)), (2, .int (many)), (3, .int (q)), (4, .int (x4))] [.int (y0), .ref (931), .ref (464)] (956, g_S0, M, sz) := by
  unfold FM_daysBy_J144 at hr
  obtain ⟨s1, es1, hr⟩ := g_bd hr
  refine gz_cV (z := qX12_rolls) (a := 464) (av := [.ref (931), .int (y0)]) (rest := []) (pl := 1687) hC hqX12_daysBy rfl kX12_rolls sX12_rolls (by decide +kernel) (c_FM_rolls hC 931 y0 (by decide +kernel) M sz (d - 1) (by omega) s1 es1) (by omega) ⟨rfl, rfl⟩ rfl (Nat.le_of_ble_eq_true rfl) (Nat.le_of_ble_eq_true rfl) rfl rfl rfl (Nat.le_of_ble_eq_true rfl) ⟨Nat.le_of_ble_eq_true rfl, Nat.le_of_ble_eq_true rfl⟩ (gs_I ?_)
  refine gb_run 3 (pc2 := 29) (ls2 := [(4, .int (x4 + (1 : Int32))), (0, .ref (464)), (2, .int (many)), (3, .int (q))]) (st2 := []) (M2 := s1.2) hC hqX12_daysBy rfl ?_
  refine gw_pick [1, 2, 3, 0] (ls2 := [(0, .ref (464)), (2, .int (many)), (3, .int (q)), (4, .int (x4 + (1 : Int32)))]) rfl ?_
  exact hc29 (x4 + (1 : Int32)) (s1.2) hr
def FM_daysBy_J125 (seed : Int32) (many : Int32) (q : Int32) (c29 : Int32 → gM → Option (gM)) (x4 : Int32) (x5 : Int32) (y0 : Int32) (y1 : Int32) (M : gM) : Option (gM) :=
  if x5 = (0 : Int32) then (FM_daysBy_J144 seed many q c29 x4 (0 : Int32) (g_set M 464 38 (y1 + y0))) else (FM_daysBy_J144 seed many q c29 x4 (5 : Int32) (g_set M 464 38 (y1 + y0)))
set_option maxRecDepth 20000 in
theorem c_FM_daysBy_J125 {l : Launch} {C : gC} (hC : g_ctx l C) (seed : Int32) (many : Int32) (q : Int32) (sz d : Nat) (hd : 7 ≤ d) (R : gM) (c29 : Int32 → gM → Option (gM)) (hc29 : ∀ (x4 : Int32) (M : gM), c29 x4 M = some R → GW l C qX12_daysBy d (gQg 956 g_S0 (qV R) sz) gN 0 0 29 [(0, .ref (464)), (2, .int (many)), (3, .int (q)), (4, .int (x4))] [] (956, g_S0, M, sz)) (x4 : Int32) (x5 : Int32) (y0 : Int32) (y1 : Int32) (M : gM) (hr : FM_daysBy_J125 seed many q c29 x4 x5 y0 y1 M = some R) : GW l C qX12_daysBy d (gQg 956 g_S0 (qV R) sz) gN 0 0 125 [(0, .ref (464)), (2, .int (many)), (3, .int (q)), (4, .int (x4)), (5, .int (x5))] [.int (y0), .int (y1), .ref (464)] (956, g_S0, M, sz) := by
  unfold FM_daysBy_J125 at hr
  refine gb_run 6 (pc2 := 136) (ls2 := [(0, .ref (464)), (2, .int (many)), (3, .int (q)), (4, .int (x4)), (5, .int (x5))]) (st2 := [.int (x5), .ref (931), .ref (464)]) (M2 := g_set M 464 38 (y1 + y0)) hC hqX12_daysBy rfl ?_
  refine gb_if_eq hqX12_daysBy rfl (fun h1 => ?_) (fun h1 => ?_)
  ·
    have hr := g_if1 h1 hr
    refine gb_run 1 (pc2 := 144) (ls2 := [(0, .ref (464)), (2, .int (many)), (3, .int (q)), (4, .int (x4)), (5, .int (x5))]) (st2 := [.int (0), .ref (931), .ref (464)]) (M2 := g_set M 464 38 (y1 + y0)) hC hqX12_daysBy rfl ?_
    refine gw_pick [0, 1, 2, 3] (ls2 := [(0, .ref (464)), (2, .int (many)), (3, .int (q)), (4, .int (x4))]) rfl ?_
    exact c_FM_daysBy_J144 hC seed many q sz d (by omega) R c29 hc29 x4 (0 : Int32) (g_set M 464 38 (y1 + y0)) hr
  ·
    have hr := g_if0 h1 hr
    refine gb_run 2 (pc2 := 144) (ls2 := [(0, .ref (464)), (2, .int (many)), (3, .int (q)), (4, .int (x4)), (5, .int (x5))]) (st2 := [.int (5), .ref (931), .ref (464)]) (M2 := g_set M 464 38 (y1 + y0)) hC hqX12_daysBy rfl ?_
    refine gw_pick [0, 1, 2, 3] (ls2 := [(0, .ref (464)), (2, .int (many)), (3, .int (q)), (4, .int (x4))]) rfl ?_
    exact c_FM_daysBy_J144 hC seed many q sz d (by omega) R c29 hc29 x4 (5 : Int32) (g_set M 464 38 (y1 + y0)) hr
def FM_daysBy_J108 (seed : Int32) (many : Int32) (q : Int32) (c29 : Int32 → gM → Option (gM)) (x4 : Int32) (y0 : Int32) (M : gM) : Option (gM) :=
  if y0 = (0 : Int32) then (FM_daysBy_J125 seed many q c29 x4 y0 (0 : Int32) (M 464 38) M) else (FM_daysBy_J125 seed many q c29 x4 y0 (1 : Int32) (M 464 38) M)
set_option maxRecDepth 20000 in
theorem c_FM_daysBy_J108 {l : Launch} {C : gC} (hC : g_ctx l C) (seed : Int32) (many : Int32) (q : Int32) (sz d : Nat) (hd : 7 ≤ d) (R : gM) (c29 : Int32 → gM → Option (gM)) (hc29 : ∀ (x4 : Int32) (M : gM), c29 x4 M = some R → GW l C qX12_daysBy d (gQg 956 g_S0 (qV R) sz) gN 0 0 29 [(0, .ref (464)), (2, .int (many)), (3, .int (q)), (4, .int (x4))] [] (956, g_S0, M, sz)) (x4 : Int32) (y0 : Int32) (M : gM) (hr : FM_daysBy_J108 seed many q c29 x4 y0 M = some R) : GW l C qX12_daysBy d (gQg 956 g_S0 (qV R) sz) gN 0 0 108 [(0, .ref (464)), (2, .int (many)), (3, .int (q)), (4, .int (x4))] [.int (y0)] (956, g_S0, M, sz) := by
  unfold FM_daysBy_J108 at hr
  refine gb_run 5 (pc2 := 117) (ls2 := [(5, .int (y0)), (0, .ref (464)), (2, .int (many)), (3, .int (q)), (4, .int (x4))]) (st2 := [.int (y0), .int (M 464 38), .ref (464)]) (M2 := M) hC hqX12_daysBy rfl ?_
  refine gb_if_eq hqX12_daysBy rfl (fun h1 => ?_) (fun h1 => ?_)
  ·
    have hr := g_if1 h1 hr
    refine gb_run 1 (pc2 := 125) (ls2 := [(5, .int (y0)), (0, .ref (464)), (2, .int (many)), (3, .int (q)), (4, .int (x4))]) (st2 := [.int (0), .int (M 464 38), .ref (464)]) (M2 := M) hC hqX12_daysBy rfl ?_
    refine gw_pick [1, 2, 3, 4, 0] (ls2 := [(0, .ref (464)), (2, .int (many)), (3, .int (q)), (4, .int (x4)), (5, .int (y0))]) rfl ?_
    exact c_FM_daysBy_J125 hC seed many q sz d (by omega) R c29 hc29 x4 y0 (0 : Int32) (M 464 38) M hr
  ·
    have hr := g_if0 h1 hr
    refine gb_run 2 (pc2 := 125) (ls2 := [(5, .int (y0)), (0, .ref (464)), (2, .int (many)), (3, .int (q)), (4, .int (x4))]) (st2 := [.int (1), .int (M 464 38), .ref (464)]) (M2 := M) hC hqX12_daysBy rfl ?_
    refine gw_pick [1, 2, 3, 4, 0] (ls2 := [(0, .ref (464)), (2, .int (many)), (3, .int (q)), (4, .int (x4)), (5, .int (y0))]) rfl ?_
    exact c_FM_daysBy_J125 hC seed many q sz d (by omega) R c29 hc29 x4 y0 (1 : Int32) (M 464 38) M hr
def FM_daysBy_J65 (seed : Int32) (many : Int32) (q : Int32) (c29 : Int32 → gM → Option (gM)) (x4 : Int32) (y0 : Int32) (y1 : Int32) (M : gM) : Option (gM) :=
  g_ix y1 48 fun j1 => g_let (g_set M 931 j1 y0) fun M2 => (FM_draw (g_set M2 464 46 ((M2 464 46) + (M2 931 45)))).bind fun s3 => g_ix ((s3.2) 931 41) 8 fun j4 => if ((s3.2) (481 + j4) 1) ≤ s3.1 then (FM_daysBy_J108 seed many q c29 x4 (0 : Int32) (s3.2)) else (FM_daysBy_J108 seed many q c29 x4 (1 : Int32) (s3.2))
set_option maxRecDepth 20000 in
theorem c_FM_daysBy_J65 {l : Launch} {C : gC} (hC : g_ctx l C) (seed : Int32) (many : Int32) (q : Int32) (sz d : Nat) (hd : 7 ≤ d) (R : gM) (c29 : Int32 → gM → Option (gM)) (hc29 : ∀ (x4 : Int32) (M : gM), c29 x4 M = some R → GW l C qX12_daysBy d (gQg 956 g_S0 (qV R) sz) gN 0 0 29 [(0, .ref (464)), (2, .int (many)), (3, .int (q)), (4, .int (x4))] [] (956, g_S0, M, sz)) (x4 : Int32) (y0 : Int32) (y1 : Int32) (M : gM) (hr : FM_daysBy_J65 seed many q c29 x4 y0 y1 M = some R) : GW l C qX12_daysBy d (gQg 956 g_S0 (qV R) sz) gN 0 0 65 [(0, .ref (464)), (2, .int (many)), (3, .int (q)), (4, .int (x4))] [.int (y0), .int (y1), .ref (931)] (956, g_S0, M, sz) := by
  unfold FM_daysBy_J65 at hr
  obtain ⟨j1, ej1, ij1, lj1, hr⟩ := g_ixo hr
  refine gz_iastore hC hqX12_daysBy rfl (Nat.le_of_ble_eq_true rfl) rfl ij1 ej1 ?_
  refine g_letP (P := fun M2 => GW l C qX12_daysBy d (gQg 956 g_S0 (qV R) sz) gN 0 0 66 [(0, .ref (464)), (2, .int (many)), (3, .int (q)), (4, .int (x4))] [] (956, g_S0, M2, sz)) hr (fun M2 hr => ?_)
  refine gb_run 6 (pc2 := 77) (ls2 := [(0, .ref (464)), (2, .int (many)), (3, .int (q)), (4, .int (x4))]) (st2 := [.int (45), .ref (931), .int (M2 464 46), .ref (464)]) (M2 := M2) hC hqX12_daysBy rfl ?_
  refine gb_iaload hC hqX12_daysBy rfl (Nat.le_of_ble_eq_true rfl) rfl (by unfold vp_in; decide) ?_
  rw [show (45 : Int32).toNatClampNeg = 45 from rfl]
  refine gb_run 3 (pc2 := 83) (ls2 := [(0, .ref (464)), (2, .int (many)), (3, .int (q)), (4, .int (x4))]) (st2 := [.ref (464)]) (M2 := g_set M2 464 46 ((M2 464 46) + (M2 931 45))) hC hqX12_daysBy rfl ?_
  obtain ⟨s3, es3, hr⟩ := g_bd hr
  refine gz_cV (z := qX12_draw) (a := 464) (av := []) (rest := []) (pl := 1927) hC hqX12_daysBy rfl kX12_draw sX12_draw (by decide +kernel) (c_FM_draw hC   (g_set M2 464 46 ((M2 464 46) + (M2 931 45))) sz (d - 1) (by omega) s3 es3) (by omega) ⟨rfl, rfl⟩ rfl (Nat.le_of_ble_eq_true rfl) (Nat.le_of_ble_eq_true rfl) rfl rfl rfl (Nat.le_of_ble_eq_true rfl) ⟨Nat.le_of_ble_eq_true rfl, Nat.le_of_ble_eq_true rfl⟩ (gs_I ?_)
  refine gb_run 5 (pc2 := 96) (ls2 := [(0, .ref (464)), (2, .int (many)), (3, .int (q)), (4, .int (x4))]) (st2 := [.int (41), .ref (931), .ref (480), .int (s3.1)]) (M2 := s3.2) hC hqX12_daysBy rfl ?_
  refine gb_iaload hC hqX12_daysBy rfl (Nat.le_of_ble_eq_true rfl) rfl (by unfold vp_in; decide) ?_
  rw [show (41 : Int32).toNatClampNeg = 41 from rfl]
  obtain ⟨j4, ej4, ij4, lj4, hr⟩ := g_ixo hr
  have tj4 := g_t480 j4 lj4
  refine gz_aaload (k0 := 2) (q := 481 + j4) hC hqX12_daysBy rfl (Nat.le_of_ble_eq_true rfl) rfl (Nat.le_of_ble_eq_true rfl) ij4 ej4 tj4.1 ?_
  refine gb_run 1 (pc2 := 99) (ls2 := [(0, .ref (464)), (2, .int (many)), (3, .int (q)), (4, .int (x4))]) (st2 := [.int (1), .ref (481 + j4), .int (s3.1)]) (M2 := s3.2) hC hqX12_daysBy rfl ?_
  refine gb_iaload hC hqX12_daysBy rfl tj4.2.1 (g_S3 tj4.2.2.1 tj4.2.2.2) (by unfold vp_in; decide) ?_
  rw [show (1 : Int32).toNatClampNeg = 1 from rfl]
  refine gb_icmp_ge hqX12_daysBy rfl (fun h5 => ?_) (fun h5 => ?_)
  ·
    have hr := g_if1 h5 hr
    refine gb_run 1 (pc2 := 108) (ls2 := [(0, .ref (464)), (2, .int (many)), (3, .int (q)), (4, .int (x4))]) (st2 := [.int (0)]) (M2 := s3.2) hC hqX12_daysBy rfl ?_
    exact c_FM_daysBy_J108 hC seed many q sz d (by omega) R c29 hc29 x4 (0 : Int32) (s3.2) hr
  ·
    have hr := g_if0 h5 hr
    refine gb_run 2 (pc2 := 108) (ls2 := [(0, .ref (464)), (2, .int (many)), (3, .int (q)), (4, .int (x4))]) (st2 := [.int (1)]) (M2 := s3.2) hC hqX12_daysBy rfl ?_
    exact c_FM_daysBy_J108 hC seed many q sz d (by omega) R c29 hc29 x4 (1 : Int32) (s3.2) hr
def FM_daysBy_L29 (seed : Int32) (many : Int32) (q : Int32) : Nat → Int32 → gM → Option (gM)
  | 0, _, _ => none
  | k + 1, x4, M =>
  if many ≤ x4 then (some M) else ((FM_canRoll 931 M).bind fun s2 => if s2 = (0 : Int32) then (some M) else ((FM_draw M).bind fun s5 => if q ≤ s5.1 then (FM_daysBy_J65 seed many q (FM_daysBy_L29 seed many q k) x4 (0 : Int32) (45 : Int32) (s5.2)) else (FM_daysBy_J65 seed many q (FM_daysBy_L29 seed many q k) x4 (1 : Int32) (45 : Int32) (s5.2))))
set_option maxRecDepth 20000 in
theorem c_FM_daysBy_L29 {l : Launch} {C : gC} (hC : g_ctx l C) (seed : Int32) (many : Int32) (q : Int32) (sz d : Nat) (hd : 7 ≤ d) (R : gM) : ∀ (k : Nat) (x4 : Int32) (M : gM), FM_daysBy_L29 seed many q k x4 M = some R → GW l C qX12_daysBy d (gQg 956 g_S0 (qV R) sz) gN 0 0 29 [(0, .ref (464)), (2, .int (many)), (3, .int (q)), (4, .int (x4))] [] (956, g_S0, M, sz) := by
  intro k
  induction k with
  | zero => intro x4 M hr; exact nomatch (show (none : Option (gM)) = some R from hr)
  | succ k ih =>
    intro x4 M hr
    unfold FM_daysBy_L29 at hr
    refine gb_run 2 (pc2 := 32) (ls2 := [(0, .ref (464)), (2, .int (many)), (3, .int (q)), (4, .int (x4))]) (st2 := [.int (many), .int (x4)]) (M2 := M) hC hqX12_daysBy rfl ?_
    refine gb_icmp_ge hqX12_daysBy rfl (fun h1 => ?_) (fun h1 => ?_)
    ·
      have hr := g_if1 h1 hr
      refine gb_vret hqX12_daysBy rfl rfl (Nat.le_of_ble_eq_true rfl) (Nat.le_of_ble_eq_true rfl) ?_
      exact gl_V hr
    ·
      have hr := g_if0 h1 hr
      refine gb_run 3 (pc2 := 40) (ls2 := [(0, .ref (464)), (2, .int (many)), (3, .int (q)), (4, .int (x4))]) (st2 := [.ref (931), .ref (464)]) (M2 := M) hC hqX12_daysBy rfl ?_
      obtain ⟨s2, es2, hr⟩ := g_bd hr
      refine gz_cV (z := qX12_canRoll) (a := 464) (av := [.ref (931)]) (rest := []) (pl := 1683) hC hqX12_daysBy rfl kX12_canRoll sX12_canRoll (by decide +kernel) (c_FM_canRoll hC 931 (by decide +kernel) M sz (d - 1) (by omega) s2 es2) (by omega) ⟨rfl, rfl⟩ rfl (Nat.le_of_ble_eq_true rfl) (Nat.le_of_ble_eq_true rfl) rfl rfl rfl (Nat.le_of_ble_eq_true rfl) ⟨Nat.le_of_ble_eq_true rfl, Nat.le_of_ble_eq_true rfl⟩ (gs_Zp fun z3 => ?_)
      refine gb_if_eq hqX12_daysBy rfl (fun h4 => ?_) (fun h4 => ?_)
      ·
        have hr := g_if1 h4 hr
        refine gb_vret hqX12_daysBy rfl rfl (Nat.le_of_ble_eq_true rfl) (Nat.le_of_ble_eq_true rfl) ?_
        exact gl_V hr
      ·
        have hr := g_if0 h4 hr
        refine gb_run 4 (pc2 := 53) (ls2 := [(0, .ref (464)), (2, .int (many)), (3, .int (q)), (4, .int (x4))]) (st2 := [.ref (464), .int (45), .ref (931)]) (M2 := M) hC hqX12_daysBy rfl ?_
        obtain ⟨s5, es5, hr⟩ := g_bd hr
        refine gz_cV (z := qX12_draw) (a := 464) (av := []) (rest := [.int (45), .ref (931)]) (pl := 1927) hC hqX12_daysBy rfl kX12_draw sX12_draw (by decide +kernel) (c_FM_draw hC   M sz (d - 1) (by omega) s5 es5) (by omega) ⟨rfl, rfl⟩ rfl (Nat.le_of_ble_eq_true rfl) (Nat.le_of_ble_eq_true rfl) rfl rfl rfl (Nat.le_of_ble_eq_true rfl) ⟨Nat.le_of_ble_eq_true rfl, Nat.le_of_ble_eq_true rfl⟩ (gs_I ?_)
        refine gb_run 1 (pc2 := 57) (ls2 := [(0, .ref (464)), (2, .int (many)), (3, .int (q)), (4, .int (x4))]) (st2 := [.int (q), .int (s5.1), .int (45), .ref (931)]) (M2 := s5.2) hC hqX12_daysBy rfl ?_
        refine gb_icmp_ge hqX12_daysBy rfl (fun h6 => ?_) (fun h6 => ?_)
        ·
          have hr := g_if1 h6 hr
          refine gb_run 1 (pc2 := 65) (ls2 := [(0, .ref (464)), (2, .int (many)), (3, .int (q)), (4, .int (x4))]) (st2 := [.int (0), .int (45), .ref (931)]) (M2 := s5.2) hC hqX12_daysBy rfl ?_
          exact c_FM_daysBy_J65 hC seed many q sz d (by omega) R (FM_daysBy_L29 seed many q k) ih x4 (0 : Int32) (45 : Int32) (s5.2) hr
        ·
          have hr := g_if0 h6 hr
          refine gb_run 2 (pc2 := 65) (ls2 := [(0, .ref (464)), (2, .int (many)), (3, .int (q)), (4, .int (x4))]) (st2 := [.int (1), .int (45), .ref (931)]) (M2 := s5.2) hC hqX12_daysBy rfl ?_
          exact c_FM_daysBy_J65 hC seed many q sz d (by omega) R (FM_daysBy_L29 seed many q k) ih x4 (1 : Int32) (45 : Int32) (s5.2) hr
def FM_daysBy (seed : Int32) (many : Int32) (q : Int32) (M : gM) : Option (gM) :=
  (FM_copies 930 931 M).bind fun s1 => FM_daysBy_L29 seed many q 1000 (0 : Int32) (g_set (g_set (g_set s1 464 45 seed) 464 46 (0 : Int32)) 464 38 (0 : Int32))
set_option maxRecDepth 20000 in
theorem c_FM_daysBy {l : Launch} {C : gC} (hC : g_ctx l C) (seed : Int32) (many : Int32) (q : Int32)  (M : gM) (sz d : Nat) (hd : 7 ≤ d) (R : gM) (hr : FM_daysBy seed many q M = some R) : gPg l C qX12_daysBy d [.ref (464), .int (seed), .int (many), .int (q)] 956 g_S0 M sz (qV R) := by
  refine gPg.of (ls := [(0, .ref (464)), (1, .int (seed)), (2, .int (many)), (3, .int (q))]) (by decide +kernel) (Nat.le_of_ble_eq_true rfl) rfl ?_
  unfold FM_daysBy at hr
  refine gb_run 4 (pc2 := 8) (ls2 := [(0, .ref (464)), (1, .int (seed)), (2, .int (many)), (3, .int (q))]) (st2 := [.ref (931), .ref (930)]) (M2 := M) hC hqX12_daysBy rfl ?_
  obtain ⟨s1, es1, hr⟩ := g_bd hr
  refine gz_cS (z := qX12_copies) (av := [.ref (930), .ref (931)]) (rest := []) (pl := 1672) hC hqX12_daysBy rfl kX12_copies (by decide +kernel) (c_FM_copies hC 930 931 (by decide +kernel) (by decide +kernel) M sz (d - 1) (by omega) s1 es1) (by omega) ⟨rfl, rfl⟩ rfl rfl (Nat.le_of_ble_eq_true rfl) ⟨Nat.le_of_ble_eq_true rfl, Nat.le_of_ble_eq_true rfl⟩ (gs_V ?_)
  refine gb_run 11 (pc2 := 29) (ls2 := [(4, .int (0)), (0, .ref (464)), (1, .int (seed)), (2, .int (many)), (3, .int (q))]) (st2 := []) (M2 := g_set (g_set (g_set s1 464 45 seed) 464 46 (0 : Int32)) 464 38 (0 : Int32)) hC hqX12_daysBy rfl ?_
  refine gw_pick [1, 3, 4, 0] (ls2 := [(0, .ref (464)), (2, .int (many)), (3, .int (q)), (4, .int (0))]) rfl ?_
  exact c_FM_daysBy_L29 hC seed many q sz d (by omega) R 1000 (0 : Int32) (g_set (g_set (g_set s1 464 45 seed) 464 46 (0 : Int32)) 464 38 (0 : Int32)) hr
def FM_areDays (many : Int32) (q : Int32) : Int32 :=
  if (FM_in many (1 : Int32) (200 : Int32)) = (0 : Int32) then 0 else (if (FM_in q (0 : Int32) (16 : Int32)) = (0 : Int32) then 0 else 1)
set_option maxRecDepth 20000 in
theorem c_FM_areDays {l : Launch} {C : gC} (hC : g_ctx l C) (many : Int32) (q : Int32)  (M : gM) (sz d : Nat) (hd : 2 ≤ d) : gPg l C qX12_areDays d [.int (many), .int (q)] 956 g_S0 M sz (qZp M (FM_areDays many q)) := by
  refine gPg.of (ls := [(0, .int (many)), (1, .int (q))]) (by decide +kernel) (Nat.le_of_ble_eq_true rfl) rfl ?_
  obtain ⟨R, hr⟩ : ∃ R, FM_areDays many q = R := ⟨_, rfl⟩
  rw [hr]
  unfold FM_areDays at hr
  refine gb_run 3 (pc2 := 5) (ls2 := [(0, .int (many)), (1, .int (q))]) (st2 := [.int (200), .int (1), .int (many)]) (M2 := M) hC hqX12_areDays rfl ?_
  refine gz_cS (z := qX12_in) (av := [.int (many), .int (1), .int (200)]) (rest := []) (pl := 1548) hC hqX12_areDays rfl kX12_in (by decide +kernel) (c_FM_in hC many (1 : Int32) (200 : Int32)  M sz (d - 1) (by omega)) (by omega) ⟨rfl, rfl⟩ rfl rfl (Nat.le_of_ble_eq_true rfl) ⟨Nat.le_of_ble_eq_true rfl, Nat.le_of_ble_eq_true rfl⟩ (gs_Zp fun z2 => ?_)
  refine gb_if_eq hqX12_areDays rfl (fun h3 => ?_) (fun h3 => ?_)
  ·
    have hr := g_if1 h3 hr
    refine gb_run 1 (pc2 := 26) (ls2 := [(0, .int (many)), (1, .int (q))]) (st2 := [.int (0)]) (M2 := M) hC hqX12_areDays rfl ?_
    refine gb_zret hqX12_areDays rfl rfl (Nat.le_of_ble_eq_true rfl) (Nat.le_of_ble_eq_true rfl) (Or.inl rfl) ?_
    exact gl_Zt (Or.inl rfl) hr
  ·
    have hr := g_if0 h3 hr
    refine gb_run 3 (pc2 := 15) (ls2 := [(0, .int (many)), (1, .int (q))]) (st2 := [.int (16), .int (0), .int (q)]) (M2 := M) hC hqX12_areDays rfl ?_
    refine gz_cS (z := qX12_in) (av := [.int (q), .int (0), .int (16)]) (rest := []) (pl := 1548) hC hqX12_areDays rfl kX12_in (by decide +kernel) (c_FM_in hC q (0 : Int32) (16 : Int32)  M sz (d - 1) (by omega)) (by omega) ⟨rfl, rfl⟩ rfl rfl (Nat.le_of_ble_eq_true rfl) ⟨Nat.le_of_ble_eq_true rfl, Nat.le_of_ble_eq_true rfl⟩ (gs_Zp fun z5 => ?_)
    refine gb_if_eq hqX12_areDays rfl (fun h6 => ?_) (fun h6 => ?_)
    ·
      have hr := g_if1 h6 hr
      refine gb_run 1 (pc2 := 26) (ls2 := [(0, .int (many)), (1, .int (q))]) (st2 := [.int (0)]) (M2 := M) hC hqX12_areDays rfl ?_
      refine gb_zret hqX12_areDays rfl rfl (Nat.le_of_ble_eq_true rfl) (Nat.le_of_ble_eq_true rfl) (Or.inl rfl) ?_
      exact gl_Zt (Or.inl rfl) hr
    ·
      have hr := g_if0 h6 hr
      refine gb_run 2 (pc2 := 26) (ls2 := [(0, .int (many)), (1, .int (q))]) (st2 := [.int (1)]) (M2 := M) hC hqX12_areDays rfl ?_
      refine gb_zret hqX12_areDays rfl rfl (Nat.le_of_ble_eq_true rfl) (Nat.le_of_ble_eq_true rfl) (Or.inr rfl) ?_
      exact gl_Zt (Or.inr rfl) hr
def FM_days_J29 (seed : Int32) (many : Int32) (q : Int32) (what : Int32) (y0 : Int32) (M : gM) : Option (Int32 × gM) :=
  (FM_bad y0 (1 : Int32) (1 : Int32) M).bind fun s1 => if s1.1 = (0 : Int32) then ((FM_daysBy seed many q (s1.2)).bind fun s4 => if what = (0 : Int32) then (some ((s4 931 47) - (s4 930 47), s4)) else if what = (1 : Int32) then (some (s4 464 38, s4)) else if what = (2 : Int32) then (some (s4 464 46, s4)) else ((FM_finesIn 931 s4).bind fun s8 => (FM_finesIn 930 s4).bind fun s9 => some (s8 - s9, s4))) else (some (0, s1.2))
set_option maxRecDepth 20000 in
theorem c_FM_days_J29 {l : Launch} {C : gC} (hC : g_ctx l C) (seed : Int32) (many : Int32) (q : Int32) (what : Int32) (sz d : Nat) (hd : 8 ≤ d) (R : Int32 × gM) (y0 : Int32) (M : gM) (hr : FM_days_J29 seed many q what y0 M = some R) : GW l C qX12_days d (gQg 956 g_S0 (qI R) sz) gN 0 0 29 [(0, .ref (464)), (1, .int (seed)), (2, .int (many)), (3, .int (q)), (4, .int (what))] [.int (y0), .ref (464)] (956, g_S0, M, sz) := by
  unfold FM_days_J29 at hr
  refine gb_run 2 (pc2 := 31) (ls2 := [(0, .ref (464)), (1, .int (seed)), (2, .int (many)), (3, .int (q)), (4, .int (what))]) (st2 := [.int (1), .int (1), .int (y0), .ref (464)]) (M2 := M) hC hqX12_days rfl ?_
  obtain ⟨s1, es1, hr⟩ := g_bd hr
  refine gz_cV (z := qX12_bad) (a := 464) (av := [.int (y0), .int (1), .int (1)]) (rest := []) (pl := 1551) hC hqX12_days rfl kX12_bad sX12_bad (by decide +kernel) (c_FM_bad hC y0 (1 : Int32) (1 : Int32)  M sz (d - 1) (by omega) s1 es1) (by omega) ⟨rfl, rfl⟩ rfl (Nat.le_of_ble_eq_true rfl) (Nat.le_of_ble_eq_true rfl) rfl rfl rfl (Nat.le_of_ble_eq_true rfl) ⟨Nat.le_of_ble_eq_true rfl, Nat.le_of_ble_eq_true rfl⟩ (gs_Z fun z2 => ?_)
  refine gb_if_eq hqX12_days rfl (fun h3 => ?_) (fun h3 => ?_)
  ·
    have hr := g_if1 h3 hr
    refine gb_run 4 (pc2 := 43) (ls2 := [(0, .ref (464)), (1, .int (seed)), (2, .int (many)), (3, .int (q)), (4, .int (what))]) (st2 := [.int (q), .int (many), .int (seed), .ref (464)]) (M2 := s1.2) hC hqX12_days rfl ?_
    obtain ⟨s4, es4, hr⟩ := g_bd hr
    refine gz_cV (z := qX12_daysBy) (a := 464) (av := [.int (seed), .int (many), .int (q)]) (rest := []) (pl := 1923) hC hqX12_days rfl kX12_daysBy sX12_daysBy (by decide +kernel) (c_FM_daysBy hC seed many q  (s1.2) sz (d - 1) (by omega) s4 es4) (by omega) ⟨rfl, rfl⟩ rfl (Nat.le_of_ble_eq_true rfl) (Nat.le_of_ble_eq_true rfl) rfl rfl rfl (Nat.le_of_ble_eq_true rfl) ⟨Nat.le_of_ble_eq_true rfl, Nat.le_of_ble_eq_true rfl⟩ (gs_V ?_)
    refine gb_run 1 (pc2 := 48) (ls2 := [(0, .ref (464)), (1, .int (seed)), (2, .int (many)), (3, .int (q)), (4, .int (what))]) (st2 := [.int (what)]) (M2 := s4) hC hqX12_days rfl ?_
    by_cases h5 : what = (0 : Int32)
    ·
      have hr := g_if1 h5 hr
      refine gb_tblIn (tgt := 76) hqX12_days rfl (by rw [h5]; first | done | decide) (by rw [h5]; first | done | decide) (by rw [h5]; first | done | rfl) (by decide) ?_
      refine gb_run 3 (pc2 := 82) (ls2 := [(0, .ref (464)), (1, .int (seed)), (2, .int (many)), (3, .int (q)), (4, .int (what))]) (st2 := [.int (47), .ref (931)]) (M2 := s4) hC hqX12_days rfl ?_
      refine gb_iaload hC hqX12_days rfl (Nat.le_of_ble_eq_true rfl) rfl (by unfold vp_in; decide) ?_
      rw [show (47 : Int32).toNatClampNeg = 47 from rfl]
      refine gb_run 3 (pc2 := 89) (ls2 := [(0, .ref (464)), (1, .int (seed)), (2, .int (many)), (3, .int (q)), (4, .int (what))]) (st2 := [.int (47), .ref (930), .int (s4 931 47)]) (M2 := s4) hC hqX12_days rfl ?_
      refine gb_iaload hC hqX12_days rfl (Nat.le_of_ble_eq_true rfl) rfl (by unfold vp_in; decide) ?_
      rw [show (47 : Int32).toNatClampNeg = 47 from rfl]
      refine gb_run 1 (pc2 := 91) (ls2 := [(0, .ref (464)), (1, .int (seed)), (2, .int (many)), (3, .int (q)), (4, .int (what))]) (st2 := [.int ((s4 931 47) - (s4 930 47))]) (M2 := s4) hC hqX12_days rfl ?_
      refine gb_iret hqX12_days rfl rfl (Nat.le_of_ble_eq_true rfl) (Nat.le_of_ble_eq_true rfl) ?_
      exact gl_I hr
    have hr := g_if0 h5 hr
    by_cases h6 : what = (1 : Int32)
    ·
      have hr := g_if1 h6 hr
      refine gb_tblIn (tgt := 92) hqX12_days rfl (by rw [h6]; first | done | decide) (by rw [h6]; first | done | decide) (by rw [h6]; first | done | rfl) (by decide) ?_
      refine gb_run 2 (pc2 := 96) (ls2 := [(0, .ref (464)), (1, .int (seed)), (2, .int (many)), (3, .int (q)), (4, .int (what))]) (st2 := [.int (s4 464 38)]) (M2 := s4) hC hqX12_days rfl ?_
      refine gb_iret hqX12_days rfl rfl (Nat.le_of_ble_eq_true rfl) (Nat.le_of_ble_eq_true rfl) ?_
      exact gl_I hr
    have hr := g_if0 h6 hr
    by_cases h7 : what = (2 : Int32)
    ·
      have hr := g_if1 h7 hr
      refine gb_tblIn (tgt := 97) hqX12_days rfl (by rw [h7]; first | done | decide) (by rw [h7]; first | done | decide) (by rw [h7]; first | done | rfl) (by decide) ?_
      refine gb_run 2 (pc2 := 101) (ls2 := [(0, .ref (464)), (1, .int (seed)), (2, .int (many)), (3, .int (q)), (4, .int (what))]) (st2 := [.int (s4 464 46)]) (M2 := s4) hC hqX12_days rfl ?_
      refine gb_iret hqX12_days rfl rfl (Nat.le_of_ble_eq_true rfl) (Nat.le_of_ble_eq_true rfl) ?_
      exact gl_I hr
    have hr := g_if0 h7 hr
    refine gb_tblOut (tgt := 102) hqX12_days rfl (by have q0 := gd_ne (z := 0) rfl h5; have q1 := gd_ne (z := 1) rfl h6; have q2 := gd_ne (z := 2) rfl h7; omega) (by decide) ?_
    refine gb_run 3 (pc2 := 107) (ls2 := [(0, .ref (464)), (1, .int (seed)), (2, .int (many)), (3, .int (q)), (4, .int (what))]) (st2 := [.ref (931), .ref (464)]) (M2 := s4) hC hqX12_days rfl ?_
    obtain ⟨s8, es8, hr⟩ := g_bd hr
    refine gz_cV (z := qX12_finesIn) (a := 464) (av := [.ref (931)]) (rest := []) (pl := 1724) hC hqX12_days rfl kX12_finesIn sX12_finesIn (by decide +kernel) (c_FM_finesIn hC 931 (by decide +kernel) s4 sz (d - 1) (by omega) s8 es8) (by omega) ⟨rfl, rfl⟩ rfl (Nat.le_of_ble_eq_true rfl) (Nat.le_of_ble_eq_true rfl) rfl rfl rfl (Nat.le_of_ble_eq_true rfl) ⟨Nat.le_of_ble_eq_true rfl, Nat.le_of_ble_eq_true rfl⟩ (gs_Ip ?_)
    refine gb_run 3 (pc2 := 115) (ls2 := [(0, .ref (464)), (1, .int (seed)), (2, .int (many)), (3, .int (q)), (4, .int (what))]) (st2 := [.ref (930), .ref (464), .int (s8)]) (M2 := s4) hC hqX12_days rfl ?_
    obtain ⟨s9, es9, hr⟩ := g_bd hr
    refine gz_cV (z := qX12_finesIn) (a := 464) (av := [.ref (930)]) (rest := [.int (s8)]) (pl := 1724) hC hqX12_days rfl kX12_finesIn sX12_finesIn (by decide +kernel) (c_FM_finesIn hC 930 (by decide +kernel) s4 sz (d - 1) (by omega) s9 es9) (by omega) ⟨rfl, rfl⟩ rfl (Nat.le_of_ble_eq_true rfl) (Nat.le_of_ble_eq_true rfl) rfl rfl rfl (Nat.le_of_ble_eq_true rfl) ⟨Nat.le_of_ble_eq_true rfl, Nat.le_of_ble_eq_true rfl⟩ (gs_Ip ?_)
    refine gb_run 1 (pc2 := 119) (ls2 := [(0, .ref (464)), (1, .int (seed)), (2, .int (many)), (3, .int (q)), (4, .int (what))]) (st2 := [.int (s8 - s9)]) (M2 := s4) hC hqX12_days rfl ?_
    refine gb_iret hqX12_days rfl rfl (Nat.le_of_ble_eq_true rfl) (Nat.le_of_ble_eq_true rfl) ?_
    exact gl_I hr
  ·
    have hr := g_if0 h3 hr
    refine gb_run 1 (pc2 := 38) (ls2 := [(0, .ref (464)), (1, .int (seed)), (2, .int (many)), (3, .int (q)), (4, .int (what))]) (st2 := [.int (0)]) (M2 := s1.2) hC hqX12_days rfl ?_
    refine gb_iret hqX12_days rfl rfl (Nat.le_of_ble_eq_true rfl) (Nat.le_of_ble_eq_true rfl) ?_
    exact gl_I hr
def FM_days_J24 (seed : Int32) (many : Int32) (q : Int32) (what : Int32) (M : gM) : Option (Int32 × gM) :=
  FM_days_J29 seed many q what (1 : Int32) M
set_option maxRecDepth 20000 in
theorem c_FM_days_J24 {l : Launch} {C : gC} (hC : g_ctx l C) (seed : Int32) (many : Int32) (q : Int32) (what : Int32) (sz d : Nat) (hd : 8 ≤ d) (R : Int32 × gM) (M : gM) (hr : FM_days_J24 seed many q what M = some R) : GW l C qX12_days d (gQg 956 g_S0 (qI R) sz) gN 0 0 24 [(0, .ref (464)), (1, .int (seed)), (2, .int (many)), (3, .int (q)), (4, .int (what))] [.ref (464)] (956, g_S0, M, sz) := by
  unfold FM_days_J24 at hr
  refine gb_run 2 (pc2 := 29) (ls2 := [(0, .ref (464)), (1, .int (seed)), (2, .int (many)), (3, .int (q)), (4, .int (what))]) (st2 := [.int (1), .ref (464)]) (M2 := M) hC hqX12_days rfl ?_
  exact c_FM_days_J29 hC seed many q what sz d (by omega) R (1 : Int32) M hr
def FM_days (seed : Int32) (many : Int32) (q : Int32) (what : Int32) (M : gM) : Option (Int32 × gM) :=
  if (FM_areDays many q) = (0 : Int32) then (FM_days_J24 seed many q what (g_set M 464 0 (0 : Int32))) else (if (FM_in what (0 : Int32) (3 : Int32)) = (0 : Int32) then (FM_days_J24 seed many q what (g_set M 464 0 (0 : Int32))) else (FM_days_J29 seed many q what (0 : Int32) (g_set M 464 0 (0 : Int32))))
set_option maxRecDepth 20000 in
theorem c_FM_days {l : Launch} {C : gC} (hC : g_ctx l C) (seed : Int32) (many : Int32) (q : Int32) (what : Int32)  (M : gM) (sz d : Nat) (hd : 8 ≤ d) (R : Int32 × gM) (hr : FM_days seed many q what M = some R) : gPg l C qX12_days d [.ref (464), .int (seed), .int (many), .int (q), .int (what)] 956 g_S0 M sz (qI R) := by
  refine gPg.of (ls := [(0, .ref (464)), (1, .int (seed)), (2, .int (many)), (3, .int (q)), (4, .int (what))]) (by decide +kernel) (Nat.le_of_ble_eq_true rfl) rfl ?_
  unfold FM_days at hr
  refine gb_run 6 (pc2 := 8) (ls2 := [(0, .ref (464)), (1, .int (seed)), (2, .int (many)), (3, .int (q)), (4, .int (what))]) (st2 := [.int (q), .int (many), .ref (464)]) (M2 := g_set M 464 0 (0 : Int32)) hC hqX12_days rfl ?_
  refine gz_cS (z := qX12_areDays) (av := [.int (many), .int (q)]) (rest := [.ref (464)]) (pl := 1920) hC hqX12_days rfl kX12_areDays (by decide +kernel) (c_FM_areDays hC many q  (g_set M 464 0 (0 : Int32)) sz (d - 1) (by omega)) (by omega) ⟨rfl, rfl⟩ rfl rfl (Nat.le_of_ble_eq_true rfl) ⟨Nat.le_of_ble_eq_true rfl, Nat.le_of_ble_eq_true rfl⟩ (gs_Zp fun z2 => ?_)
  refine gb_if_eq hqX12_days rfl (fun h3 => ?_) (fun h3 => ?_)
  ·
    have hr := g_if1 h3 hr
    exact c_FM_days_J24 hC seed many q what sz d (by omega) R (g_set M 464 0 (0 : Int32)) hr
  ·
    have hr := g_if0 h3 hr
    refine gb_run 3 (pc2 := 18) (ls2 := [(0, .ref (464)), (1, .int (seed)), (2, .int (many)), (3, .int (q)), (4, .int (what))]) (st2 := [.int (3), .int (0), .int (what), .ref (464)]) (M2 := g_set M 464 0 (0 : Int32)) hC hqX12_days rfl ?_
    refine gz_cS (z := qX12_in) (av := [.int (what), .int (0), .int (3)]) (rest := [.ref (464)]) (pl := 1548) hC hqX12_days rfl kX12_in (by decide +kernel) (c_FM_in hC what (0 : Int32) (3 : Int32)  (g_set M 464 0 (0 : Int32)) sz (d - 1) (by omega)) (by omega) ⟨rfl, rfl⟩ rfl rfl (Nat.le_of_ble_eq_true rfl) ⟨Nat.le_of_ble_eq_true rfl, Nat.le_of_ble_eq_true rfl⟩ (gs_Zp fun z5 => ?_)
    refine gb_if_ne hqX12_days rfl (fun h6 => ?_) (fun h6 => ?_)
    ·
      have hr := g_if0 h6 hr
      refine gb_run 1 (pc2 := 29) (ls2 := [(0, .ref (464)), (1, .int (seed)), (2, .int (many)), (3, .int (q)), (4, .int (what))]) (st2 := [.int (0), .ref (464)]) (M2 := g_set M 464 0 (0 : Int32)) hC hqX12_days rfl ?_
      exact c_FM_days_J29 hC seed many q what sz d (by omega) R (0 : Int32) (g_set M 464 0 (0 : Int32)) hr
    ·
      have hr := g_if1 h6 hr
      exact c_FM_days_J24 hC seed many q what sz d (by omega) R (g_set M 464 0 (0 : Int32)) hr
def FM_span_J114 (seed : Int32) (seeds : Int32) (many : Int32) (q : Int32) (what : Int32) (c62 : Int32 → Int32 → Int32 → Int32 → gM → Option (Int32 × gM)) (x7 : Int32) (x8 : Int32) (x9 : Int32) (x10 : Int32) (y0 : Int32) (M : gM) : Option (Int32 × gM) :=
  if (M 464 38) = (0 : Int32) then (c62 y0 (FM_more x7 x10) (x8 + (1 : Int32)) (x9 + (1 : Int32)) M) else (c62 y0 (FM_more x7 x10) (x8 + (0 : Int32)) (x9 + (1 : Int32)) M)
set_option maxRecDepth 20000 in
theorem c_FM_span_J114 {l : Launch} {C : gC} (hC : g_ctx l C) (seed : Int32) (seeds : Int32) (many : Int32) (q : Int32) (what : Int32) (sz d : Nat) (hd : 8 ≤ d) (R : Int32 × gM) (c62 : Int32 → Int32 → Int32 → Int32 → gM → Option (Int32 × gM)) (hc62 : ∀ (x6 : Int32) (x7 : Int32) (x8 : Int32) (x9 : Int32) (M : gM), c62 x6 x7 x8 x9 M = some R → GW l C qX12_span d (gQg 956 g_S0 (qI R) sz) gN 0 0 62 [(0, .ref (464)), (1, .int (seed)), (2, .int (seeds)), (3, .int (many)), (4, .int (q)), (5, .int (what)), (6, .int (x6)), (7, .int (x7)), (8, .int (x8)), (9, .int (x9))] [] (956, g_S0, M, sz)) (x7 : Int32) (x8 : Int32) (x9 : Int32) (x10 : Int32) (y0 : Int32) (M : gM) (hr : FM_span_J114 seed seeds many q what c62 x7 x8 x9 x10 y0 M = some R) : GW l C qX12_span d (gQg 956 g_S0 (qI R) sz) gN 0 0 114 [(0, .ref (464)), (1, .int (seed)), (2, .int (seeds)), (3, .int (many)), (4, .int (q)), (5, .int (what)), (7, .int (x7)), (8, .int (x8)), (9, .int (x9)), (10, .int (x10))] [.int (y0)] (956, g_S0, M, sz) := by
  unfold FM_span_J114 at hr
  refine gb_run 3 (pc2 := 120) (ls2 := [(6, .int (y0)), (0, .ref (464)), (1, .int (seed)), (2, .int (seeds)), (3, .int (many)), (4, .int (q)), (5, .int (what)), (7, .int (x7)), (8, .int (x8)), (9, .int (x9)), (10, .int (x10))]) (st2 := [.int (x10), .int (x7)]) (M2 := M) hC hqX12_span rfl ?_
  refine gz_cS (z := qX12_more) (av := [.int (x7), .int (x10)]) (rest := []) (pl := 1703) hC hqX12_span rfl kX12_more (by decide +kernel) (c_FM_more hC x7 x10  M sz (d - 1) (by omega)) (by omega) ⟨rfl, rfl⟩ rfl rfl (Nat.le_of_ble_eq_true rfl) ⟨Nat.le_of_ble_eq_true rfl, Nat.le_of_ble_eq_true rfl⟩ (gs_Ip ?_)
  refine gb_run 4 (pc2 := 131) (ls2 := [(7, .int (FM_more x7 x10)), (6, .int (y0)), (0, .ref (464)), (1, .int (seed)), (2, .int (seeds)), (3, .int (many)), (4, .int (q)), (5, .int (what)), (8, .int (x8)), (9, .int (x9)), (10, .int (x10))]) (st2 := [.int (M 464 38), .int (x8)]) (M2 := M) hC hqX12_span rfl ?_
  refine gb_if_ne hqX12_span rfl (fun h1 => ?_) (fun h1 => ?_)
  ·
    have hr := g_if0 h1 hr
    refine gb_run 5 (pc2 := 62) (ls2 := [(9, .int (x9 + (1 : Int32))), (8, .int (x8 + (0 : Int32))), (7, .int (FM_more x7 x10)), (6, .int (y0)), (0, .ref (464)), (1, .int (seed)), (2, .int (seeds)), (3, .int (many)), (4, .int (q)), (5, .int (what)), (10, .int (x10))]) (st2 := []) (M2 := M) hC hqX12_span rfl ?_
    refine gw_pick [4, 5, 6, 7, 8, 9, 3, 2, 1, 0] (ls2 := [(0, .ref (464)), (1, .int (seed)), (2, .int (seeds)), (3, .int (many)), (4, .int (q)), (5, .int (what)), (6, .int (y0)), (7, .int (FM_more x7 x10)), (8, .int (x8 + (0 : Int32))), (9, .int (x9 + (1 : Int32)))]) rfl ?_
    exact hc62 y0 (FM_more x7 x10) (x8 + (0 : Int32)) (x9 + (1 : Int32)) M hr
  ·
    have hr := g_if1 h1 hr
    refine gb_run 6 (pc2 := 62) (ls2 := [(9, .int (x9 + (1 : Int32))), (8, .int (x8 + (1 : Int32))), (7, .int (FM_more x7 x10)), (6, .int (y0)), (0, .ref (464)), (1, .int (seed)), (2, .int (seeds)), (3, .int (many)), (4, .int (q)), (5, .int (what)), (10, .int (x10))]) (st2 := []) (M2 := M) hC hqX12_span rfl ?_
    refine gw_pick [4, 5, 6, 7, 8, 9, 3, 2, 1, 0] (ls2 := [(0, .ref (464)), (1, .int (seed)), (2, .int (seeds)), (3, .int (many)), (4, .int (q)), (5, .int (what)), (6, .int (y0)), (7, .int (FM_more x7 x10)), (8, .int (x8 + (1 : Int32))), (9, .int (x9 + (1 : Int32)))]) rfl ?_
    exact hc62 y0 (FM_more x7 x10) (x8 + (1 : Int32)) (x9 + (1 : Int32)) M hr
def FM_span_L62 (seed : Int32) (seeds : Int32) (many : Int32) (q : Int32) (what : Int32) : Nat → Int32 → Int32 → Int32 → Int32 → gM → Option (Int32 × gM)
  | 0, _, _, _, _, _ => none
  | k + 1, x6, x7, x8, x9, M =>
  if seeds ≤ x9 then (if what = (0 : Int32) then (some (x6, M)) else (if what = (1 : Int32) then (some (x7, M)) else (some (x8, M)))) else ((FM_daysBy (seed + x9) many q M).bind fun s4 => if x6 = (-1 : Int32) then (FM_span_J114 seed seeds many q what (FM_span_L62 seed seeds many q what k) x7 x8 x9 ((s4 931 47) - (s4 930 47)) ((s4 931 47) - (s4 930 47)) s4) else (FM_span_J114 seed seeds many q what (FM_span_L62 seed seeds many q what k) x7 x8 x9 ((s4 931 47) - (s4 930 47)) (FM_less x6 ((s4 931 47) - (s4 930 47))) s4))
set_option maxRecDepth 20000 in
theorem c_FM_span_L62 {l : Launch} {C : gC} (hC : g_ctx l C) (seed : Int32) (seeds : Int32) (many : Int32) (q : Int32) (what : Int32) (sz d : Nat) (hd : 8 ≤ d) (R : Int32 × gM) : ∀ (k : Nat) (x6 : Int32) (x7 : Int32) (x8 : Int32) (x9 : Int32) (M : gM), FM_span_L62 seed seeds many q what k x6 x7 x8 x9 M = some R → GW l C qX12_span d (gQg 956 g_S0 (qI R) sz) gN 0 0 62 [(0, .ref (464)), (1, .int (seed)), (2, .int (seeds)), (3, .int (many)), (4, .int (q)), (5, .int (what)), (6, .int (x6)), (7, .int (x7)), (8, .int (x8)), (9, .int (x9))] [] (956, g_S0, M, sz) := by
  intro k
  induction k with
  | zero => intro x6 x7 x8 x9 M hr; exact nomatch (show (none : Option (Int32 × gM)) = some R from hr)
  | succ k ih =>
    intro x6 x7 x8 x9 M hr
    unfold FM_span_L62 at hr
    refine gb_run 2 (pc2 := 65) (ls2 := [(0, .ref (464)), (1, .int (seed)), (2, .int (seeds)), (3, .int (many)), (4, .int (q)), (5, .int (what)), (6, .int (x6)), (7, .int (x7)), (8, .int (x8)), (9, .int (x9))]) (st2 := [.int (seeds), .int (x9)]) (M2 := M) hC hqX12_span rfl ?_
    refine gb_icmp_ge hqX12_span rfl (fun h1 => ?_) (fun h1 => ?_)
    ·
      have hr := g_if1 h1 hr
      refine gb_run 1 (pc2 := 150) (ls2 := [(0, .ref (464)), (1, .int (seed)), (2, .int (seeds)), (3, .int (many)), (4, .int (q)), (5, .int (what)), (6, .int (x6)), (7, .int (x7)), (8, .int (x8)), (9, .int (x9))]) (st2 := [.int (what)]) (M2 := M) hC hqX12_span rfl ?_
      refine gb_if_ne hqX12_span rfl (fun h2 => ?_) (fun h2 => ?_)
      ·
        have hr := g_if0 h2 hr
        refine gb_run 2 (pc2 := 161) (ls2 := [(0, .ref (464)), (1, .int (seed)), (2, .int (seeds)), (3, .int (many)), (4, .int (q)), (5, .int (what)), (6, .int (x6)), (7, .int (x7)), (8, .int (x8)), (9, .int (x9))]) (st2 := [.int (1), .int (what)]) (M2 := M) hC hqX12_span rfl ?_
        refine gb_icmp_ne hqX12_span rfl (fun h3 => ?_) (fun h3 => ?_)
        ·
          have hr := g_if0 h3 hr
          refine gb_run 1 (pc2 := 171) (ls2 := [(0, .ref (464)), (1, .int (seed)), (2, .int (seeds)), (3, .int (many)), (4, .int (q)), (5, .int (what)), (6, .int (x6)), (7, .int (x7)), (8, .int (x8)), (9, .int (x9))]) (st2 := [.int (x8)]) (M2 := M) hC hqX12_span rfl ?_
          refine gb_iret hqX12_span rfl rfl (Nat.le_of_ble_eq_true rfl) (Nat.le_of_ble_eq_true rfl) ?_
          exact gl_I hr
        ·
          have hr := g_if1 h3 hr
          refine gb_run 2 (pc2 := 171) (ls2 := [(0, .ref (464)), (1, .int (seed)), (2, .int (seeds)), (3, .int (many)), (4, .int (q)), (5, .int (what)), (6, .int (x6)), (7, .int (x7)), (8, .int (x8)), (9, .int (x9))]) (st2 := [.int (x7)]) (M2 := M) hC hqX12_span rfl ?_
          refine gb_iret hqX12_span rfl rfl (Nat.le_of_ble_eq_true rfl) (Nat.le_of_ble_eq_true rfl) ?_
          exact gl_I hr
      ·
        have hr := g_if1 h2 hr
        refine gb_run 2 (pc2 := 171) (ls2 := [(0, .ref (464)), (1, .int (seed)), (2, .int (seeds)), (3, .int (many)), (4, .int (q)), (5, .int (what)), (6, .int (x6)), (7, .int (x7)), (8, .int (x8)), (9, .int (x9))]) (st2 := [.int (x6)]) (M2 := M) hC hqX12_span rfl ?_
        refine gb_iret hqX12_span rfl rfl (Nat.le_of_ble_eq_true rfl) (Nat.le_of_ble_eq_true rfl) ?_
        exact gl_I hr
    ·
      have hr := g_if0 h1 hr
      refine gb_run 6 (pc2 := 76) (ls2 := [(0, .ref (464)), (1, .int (seed)), (2, .int (seeds)), (3, .int (many)), (4, .int (q)), (5, .int (what)), (6, .int (x6)), (7, .int (x7)), (8, .int (x8)), (9, .int (x9))]) (st2 := [.int (q), .int (many), .int (seed + x9), .ref (464)]) (M2 := M) hC hqX12_span rfl ?_
      obtain ⟨s4, es4, hr⟩ := g_bd hr
      refine gz_cV (z := qX12_daysBy) (a := 464) (av := [.int (seed + x9), .int (many), .int (q)]) (rest := []) (pl := 1923) hC hqX12_span rfl kX12_daysBy sX12_daysBy (by decide +kernel) (c_FM_daysBy hC (seed + x9) many q  M sz (d - 1) (by omega) s4 es4) (by omega) ⟨rfl, rfl⟩ rfl (Nat.le_of_ble_eq_true rfl) (Nat.le_of_ble_eq_true rfl) rfl rfl rfl (Nat.le_of_ble_eq_true rfl) ⟨Nat.le_of_ble_eq_true rfl, Nat.le_of_ble_eq_true rfl⟩ (gs_V ?_)
      refine gb_run 3 (pc2 := 85) (ls2 := [(0, .ref (464)), (1, .int (seed)), (2, .int (seeds)), (3, .int (many)), (4, .int (q)), (5, .int (what)), (6, .int (x6)), (7, .int (x7)), (8, .int (x8)), (9, .int (x9))]) (st2 := [.int (47), .ref (931)]) (M2 := s4) hC hqX12_span rfl ?_
      refine gb_iaload hC hqX12_span rfl (Nat.le_of_ble_eq_true rfl) rfl (by unfold vp_in; decide) ?_
      rw [show (47 : Int32).toNatClampNeg = 47 from rfl]
      refine gb_run 3 (pc2 := 92) (ls2 := [(0, .ref (464)), (1, .int (seed)), (2, .int (seeds)), (3, .int (many)), (4, .int (q)), (5, .int (what)), (6, .int (x6)), (7, .int (x7)), (8, .int (x8)), (9, .int (x9))]) (st2 := [.int (47), .ref (930), .int (s4 931 47)]) (M2 := s4) hC hqX12_span rfl ?_
      refine gb_iaload hC hqX12_span rfl (Nat.le_of_ble_eq_true rfl) rfl (by unfold vp_in; decide) ?_
      rw [show (47 : Int32).toNatClampNeg = 47 from rfl]
      refine gb_run 4 (pc2 := 99) (ls2 := [(10, .int ((s4 931 47) - (s4 930 47))), (0, .ref (464)), (1, .int (seed)), (2, .int (seeds)), (3, .int (many)), (4, .int (q)), (5, .int (what)), (6, .int (x6)), (7, .int (x7)), (8, .int (x8)), (9, .int (x9))]) (st2 := [.int (-1), .int (x6)]) (M2 := s4) hC hqX12_span rfl ?_
      refine gb_icmp_ne hqX12_span rfl (fun h5 => ?_) (fun h5 => ?_)
      ·
        have hr := g_if0 h5 hr
        refine gb_run 2 (pc2 := 111) (ls2 := [(10, .int ((s4 931 47) - (s4 930 47))), (0, .ref (464)), (1, .int (seed)), (2, .int (seeds)), (3, .int (many)), (4, .int (q)), (5, .int (what)), (6, .int (x6)), (7, .int (x7)), (8, .int (x8)), (9, .int (x9))]) (st2 := [.int ((s4 931 47) - (s4 930 47)), .int (x6)]) (M2 := s4) hC hqX12_span rfl ?_
        refine gz_cS (z := qX12_less) (av := [.int (x6), .int ((s4 931 47) - (s4 930 47))]) (rest := []) (pl := 1709) hC hqX12_span rfl kX12_less (by decide +kernel) (c_FM_less hC x6 ((s4 931 47) - (s4 930 47))  s4 sz (d - 1) (by omega)) (by omega) ⟨rfl, rfl⟩ rfl rfl (Nat.le_of_ble_eq_true rfl) ⟨Nat.le_of_ble_eq_true rfl, Nat.le_of_ble_eq_true rfl⟩ (gs_Ip ?_)
        refine gw_pick [1, 2, 3, 4, 5, 6, 8, 9, 10, 0] (ls2 := [(0, .ref (464)), (1, .int (seed)), (2, .int (seeds)), (3, .int (many)), (4, .int (q)), (5, .int (what)), (7, .int (x7)), (8, .int (x8)), (9, .int (x9)), (10, .int ((s4 931 47) - (s4 930 47)))]) rfl ?_
        exact c_FM_span_J114 hC seed seeds many q what sz d (by omega) R (FM_span_L62 seed seeds many q what k) ih x7 x8 x9 ((s4 931 47) - (s4 930 47)) (FM_less x6 ((s4 931 47) - (s4 930 47))) s4 hr
      ·
        have hr := g_if1 h5 hr
        refine gb_run 2 (pc2 := 114) (ls2 := [(10, .int ((s4 931 47) - (s4 930 47))), (0, .ref (464)), (1, .int (seed)), (2, .int (seeds)), (3, .int (many)), (4, .int (q)), (5, .int (what)), (6, .int (x6)), (7, .int (x7)), (8, .int (x8)), (9, .int (x9))]) (st2 := [.int ((s4 931 47) - (s4 930 47))]) (M2 := s4) hC hqX12_span rfl ?_
        refine gw_pick [1, 2, 3, 4, 5, 6, 8, 9, 10, 0] (ls2 := [(0, .ref (464)), (1, .int (seed)), (2, .int (seeds)), (3, .int (many)), (4, .int (q)), (5, .int (what)), (7, .int (x7)), (8, .int (x8)), (9, .int (x9)), (10, .int ((s4 931 47) - (s4 930 47)))]) rfl ?_
        exact c_FM_span_J114 hC seed seeds many q what sz d (by omega) R (FM_span_L62 seed seeds many q what k) ih x7 x8 x9 ((s4 931 47) - (s4 930 47)) ((s4 931 47) - (s4 930 47)) s4 hr
def FM_span_J40 (seed : Int32) (seeds : Int32) (many : Int32) (q : Int32) (what : Int32) (y0 : Int32) (M : gM) : Option (Int32 × gM) :=
  (FM_bad y0 (1 : Int32) (1 : Int32) M).bind fun s1 => if s1.1 = (0 : Int32) then (FM_span_L62 seed seeds many q what 1000 (-1 : Int32) (0 : Int32) (0 : Int32) (0 : Int32) (s1.2)) else (some (0, s1.2))
set_option maxRecDepth 20000 in
theorem c_FM_span_J40 {l : Launch} {C : gC} (hC : g_ctx l C) (seed : Int32) (seeds : Int32) (many : Int32) (q : Int32) (what : Int32) (sz d : Nat) (hd : 8 ≤ d) (R : Int32 × gM) (y0 : Int32) (M : gM) (hr : FM_span_J40 seed seeds many q what y0 M = some R) : GW l C qX12_span d (gQg 956 g_S0 (qI R) sz) gN 0 0 40 [(0, .ref (464)), (1, .int (seed)), (2, .int (seeds)), (3, .int (many)), (4, .int (q)), (5, .int (what))] [.int (y0), .ref (464)] (956, g_S0, M, sz) := by
  unfold FM_span_J40 at hr
  refine gb_run 2 (pc2 := 42) (ls2 := [(0, .ref (464)), (1, .int (seed)), (2, .int (seeds)), (3, .int (many)), (4, .int (q)), (5, .int (what))]) (st2 := [.int (1), .int (1), .int (y0), .ref (464)]) (M2 := M) hC hqX12_span rfl ?_
  obtain ⟨s1, es1, hr⟩ := g_bd hr
  refine gz_cV (z := qX12_bad) (a := 464) (av := [.int (y0), .int (1), .int (1)]) (rest := []) (pl := 1551) hC hqX12_span rfl kX12_bad sX12_bad (by decide +kernel) (c_FM_bad hC y0 (1 : Int32) (1 : Int32)  M sz (d - 1) (by omega) s1 es1) (by omega) ⟨rfl, rfl⟩ rfl (Nat.le_of_ble_eq_true rfl) (Nat.le_of_ble_eq_true rfl) rfl rfl rfl (Nat.le_of_ble_eq_true rfl) ⟨Nat.le_of_ble_eq_true rfl, Nat.le_of_ble_eq_true rfl⟩ (gs_Z fun z2 => ?_)
  refine gb_if_eq hqX12_span rfl (fun h3 => ?_) (fun h3 => ?_)
  ·
    have hr := g_if1 h3 hr
    refine gb_run 8 (pc2 := 62) (ls2 := [(9, .int (0)), (8, .int (0)), (7, .int (0)), (6, .int (-1)), (0, .ref (464)), (1, .int (seed)), (2, .int (seeds)), (3, .int (many)), (4, .int (q)), (5, .int (what))]) (st2 := []) (M2 := s1.2) hC hqX12_span rfl ?_
    refine gw_pick [4, 5, 6, 7, 8, 9, 3, 2, 1, 0] (ls2 := [(0, .ref (464)), (1, .int (seed)), (2, .int (seeds)), (3, .int (many)), (4, .int (q)), (5, .int (what)), (6, .int (-1)), (7, .int (0)), (8, .int (0)), (9, .int (0))]) rfl ?_
    exact c_FM_span_L62 hC seed seeds many q what sz d (by omega) R 1000 (-1 : Int32) (0 : Int32) (0 : Int32) (0 : Int32) (s1.2) hr
  ·
    have hr := g_if0 h3 hr
    refine gb_run 1 (pc2 := 49) (ls2 := [(0, .ref (464)), (1, .int (seed)), (2, .int (seeds)), (3, .int (many)), (4, .int (q)), (5, .int (what))]) (st2 := [.int (0)]) (M2 := s1.2) hC hqX12_span rfl ?_
    refine gb_iret hqX12_span rfl rfl (Nat.le_of_ble_eq_true rfl) (Nat.le_of_ble_eq_true rfl) ?_
    exact gl_I hr
def FM_span_J35 (seed : Int32) (seeds : Int32) (many : Int32) (q : Int32) (what : Int32) (M : gM) : Option (Int32 × gM) :=
  FM_span_J40 seed seeds many q what (1 : Int32) M
set_option maxRecDepth 20000 in
theorem c_FM_span_J35 {l : Launch} {C : gC} (hC : g_ctx l C) (seed : Int32) (seeds : Int32) (many : Int32) (q : Int32) (what : Int32) (sz d : Nat) (hd : 8 ≤ d) (R : Int32 × gM) (M : gM) (hr : FM_span_J35 seed seeds many q what M = some R) : GW l C qX12_span d (gQg 956 g_S0 (qI R) sz) gN 0 0 35 [(0, .ref (464)), (1, .int (seed)), (2, .int (seeds)), (3, .int (many)), (4, .int (q)), (5, .int (what))] [.ref (464)] (956, g_S0, M, sz) := by
  unfold FM_span_J35 at hr
  refine gb_run 2 (pc2 := 40) (ls2 := [(0, .ref (464)), (1, .int (seed)), (2, .int (seeds)), (3, .int (many)), (4, .int (q)), (5, .int (what))]) (st2 := [.int (1), .ref (464)]) (M2 := M) hC hqX12_span rfl ?_
  exact c_FM_span_J40 hC seed seeds many q what sz d (by omega) R (1 : Int32) M hr
def FM_span (seed : Int32) (seeds : Int32) (many : Int32) (q : Int32) (what : Int32) (M : gM) : Option (Int32 × gM) :=
  if (FM_in seeds (1 : Int32) (20 : Int32)) = (0 : Int32) then (FM_span_J35 seed seeds many q what (g_set M 464 0 (0 : Int32))) else (if (FM_areDays many q) = (0 : Int32) then (FM_span_J35 seed seeds many q what (g_set M 464 0 (0 : Int32))) else (if (FM_in what (0 : Int32) (2 : Int32)) = (0 : Int32) then (FM_span_J35 seed seeds many q what (g_set M 464 0 (0 : Int32))) else (FM_span_J40 seed seeds many q what (0 : Int32) (g_set M 464 0 (0 : Int32)))))
set_option maxRecDepth 20000 in
theorem c_FM_span {l : Launch} {C : gC} (hC : g_ctx l C) (seed : Int32) (seeds : Int32) (many : Int32) (q : Int32) (what : Int32)  (M : gM) (sz d : Nat) (hd : 8 ≤ d) (R : Int32 × gM) (hr : FM_span seed seeds many q what M = some R) : gPg l C qX12_span d [.ref (464), .int (seed), .int (seeds), .int (many), .int (q), .int (what)] 956 g_S0 M sz (qI R) := by
  refine gPg.of (ls := [(0, .ref (464)), (1, .int (seed)), (2, .int (seeds)), (3, .int (many)), (4, .int (q)), (5, .int (what))]) (by decide +kernel) (Nat.le_of_ble_eq_true rfl) rfl ?_
  unfold FM_span at hr
  refine gb_run 7 (pc2 := 10) (ls2 := [(0, .ref (464)), (1, .int (seed)), (2, .int (seeds)), (3, .int (many)), (4, .int (q)), (5, .int (what))]) (st2 := [.int (20), .int (1), .int (seeds), .ref (464)]) (M2 := g_set M 464 0 (0 : Int32)) hC hqX12_span rfl ?_
  refine gz_cS (z := qX12_in) (av := [.int (seeds), .int (1), .int (20)]) (rest := [.ref (464)]) (pl := 1548) hC hqX12_span rfl kX12_in (by decide +kernel) (c_FM_in hC seeds (1 : Int32) (20 : Int32)  (g_set M 464 0 (0 : Int32)) sz (d - 1) (by omega)) (by omega) ⟨rfl, rfl⟩ rfl rfl (Nat.le_of_ble_eq_true rfl) ⟨Nat.le_of_ble_eq_true rfl, Nat.le_of_ble_eq_true rfl⟩ (gs_Zp fun z2 => ?_)
  refine gb_if_eq hqX12_span rfl (fun h3 => ?_) (fun h3 => ?_)
  ·
    have hr := g_if1 h3 hr
    exact c_FM_span_J35 hC seed seeds many q what sz d (by omega) R (g_set M 464 0 (0 : Int32)) hr
  ·
    have hr := g_if0 h3 hr
    refine gb_run 2 (pc2 := 19) (ls2 := [(0, .ref (464)), (1, .int (seed)), (2, .int (seeds)), (3, .int (many)), (4, .int (q)), (5, .int (what))]) (st2 := [.int (q), .int (many), .ref (464)]) (M2 := g_set M 464 0 (0 : Int32)) hC hqX12_span rfl ?_
    refine gz_cS (z := qX12_areDays) (av := [.int (many), .int (q)]) (rest := [.ref (464)]) (pl := 1920) hC hqX12_span rfl kX12_areDays (by decide +kernel) (c_FM_areDays hC many q  (g_set M 464 0 (0 : Int32)) sz (d - 1) (by omega)) (by omega) ⟨rfl, rfl⟩ rfl rfl (Nat.le_of_ble_eq_true rfl) ⟨Nat.le_of_ble_eq_true rfl, Nat.le_of_ble_eq_true rfl⟩ (gs_Zp fun z5 => ?_)
    refine gb_if_eq hqX12_span rfl (fun h6 => ?_) (fun h6 => ?_)
    ·
      have hr := g_if1 h6 hr
      exact c_FM_span_J35 hC seed seeds many q what sz d (by omega) R (g_set M 464 0 (0 : Int32)) hr
    ·
      have hr := g_if0 h6 hr
      refine gb_run 3 (pc2 := 29) (ls2 := [(0, .ref (464)), (1, .int (seed)), (2, .int (seeds)), (3, .int (many)), (4, .int (q)), (5, .int (what))]) (st2 := [.int (2), .int (0), .int (what), .ref (464)]) (M2 := g_set M 464 0 (0 : Int32)) hC hqX12_span rfl ?_
      refine gz_cS (z := qX12_in) (av := [.int (what), .int (0), .int (2)]) (rest := [.ref (464)]) (pl := 1548) hC hqX12_span rfl kX12_in (by decide +kernel) (c_FM_in hC what (0 : Int32) (2 : Int32)  (g_set M 464 0 (0 : Int32)) sz (d - 1) (by omega)) (by omega) ⟨rfl, rfl⟩ rfl rfl (Nat.le_of_ble_eq_true rfl) ⟨Nat.le_of_ble_eq_true rfl, Nat.le_of_ble_eq_true rfl⟩ (gs_Zp fun z8 => ?_)
      refine gb_if_ne hqX12_span rfl (fun h9 => ?_) (fun h9 => ?_)
      ·
        have hr := g_if0 h9 hr
        refine gb_run 1 (pc2 := 40) (ls2 := [(0, .ref (464)), (1, .int (seed)), (2, .int (seeds)), (3, .int (many)), (4, .int (q)), (5, .int (what))]) (st2 := [.int (0), .ref (464)]) (M2 := g_set M 464 0 (0 : Int32)) hC hqX12_span rfl ?_
        exact c_FM_span_J40 hC seed seeds many q what sz d (by omega) R (0 : Int32) (g_set M 464 0 (0 : Int32)) hr
      ·
        have hr := g_if1 h9 hr
        exact c_FM_span_J35 hC seed seeds many q what sz d (by omega) R (g_set M 464 0 (0 : Int32)) hr
def FM_puts (a : Nat) (v : Int32) (b : Int32) (M : gM) : Option (Int32 × gM) :=
  if b = (0 : Int32) then (g_ix (M 464 37) 817 fun j3 => g_let (g_set M a j3 v) fun M4 => g_ix (((M4 464 37) + (1 : Int32)) - (1 : Int32)) 817 fun j5 => some ((g_set M4 464 37 ((M4 464 37) + (1 : Int32))) a j5, g_set M4 464 37 ((M4 464 37) + (1 : Int32)))) else (g_ix (((M 464 37) + (1 : Int32)) - (1 : Int32)) 817 fun j2 => some ((g_set M 464 37 ((M 464 37) + (1 : Int32))) a j2, g_set M 464 37 ((M 464 37) + (1 : Int32))))
set_option maxRecDepth 20000 in
theorem c_FM_puts {l : Launch} {C : gC} (hC : g_ctx l C) (a : Nat) (v : Int32) (b : Int32) (ha : g_ia 956 g_S0 a 817) (M : gM) (sz d : Nat) (hd : 1 ≤ d) (R : Int32 × gM) (hr : FM_puts a v b M = some R) : gPg l C qX12_puts d [.ref (464), .ref (a), .int (v), .int (b)] 956 g_S0 M sz (qI R) := by
  refine gPg.of (ls := [(0, .ref (464)), (1, .ref (a)), (2, .int (v)), (3, .int (b))]) (by decide +kernel) (Nat.le_of_ble_eq_true rfl) rfl ?_
  unfold FM_puts at hr
  refine gb_run 1 (pc2 := 1) (ls2 := [(0, .ref (464)), (1, .ref (a)), (2, .int (v)), (3, .int (b))]) (st2 := [.int (b)]) (M2 := M) hC hqX12_puts rfl ?_
  refine gb_if_ne hqX12_puts rfl (fun h1 => ?_) (fun h1 => ?_)
  ·
    have hr := g_if0 h1 hr
    refine gb_run 11 (pc2 := 28) (ls2 := [(0, .ref (464)), (1, .ref (a)), (2, .int (v)), (3, .int (b))]) (st2 := [.int (((M 464 37) + (1 : Int32)) - (1 : Int32)), .ref (a)]) (M2 := g_set M 464 37 ((M 464 37) + (1 : Int32))) hC hqX12_puts rfl ?_
    obtain ⟨j2, ej2, ij2, lj2, hr⟩ := g_ixo hr
    refine gz_iaload hC hqX12_puts rfl ha.1 (g_S3 ha.2.1 ha.2.2) ij2 ej2 ?_
    refine gb_iret hqX12_puts rfl rfl (Nat.le_of_ble_eq_true rfl) (Nat.le_of_ble_eq_true rfl) ?_
    exact gl_I hr
  ·
    have hr := g_if1 h1 hr
    refine gb_run 4 (pc2 := 10) (ls2 := [(0, .ref (464)), (1, .ref (a)), (2, .int (v)), (3, .int (b))]) (st2 := [.int (v), .int (M 464 37), .ref (a)]) (M2 := M) hC hqX12_puts rfl ?_
    obtain ⟨j3, ej3, ij3, lj3, hr⟩ := g_ixo hr
    refine gz_iastore hC hqX12_puts rfl ha.1 (g_S3 ha.2.1 ha.2.2) ij3 ej3 ?_
    refine g_letP (P := fun M4 => GW l C qX12_puts d (gQg 956 g_S0 (qI R) sz) gN 0 0 11 [(0, .ref (464)), (1, .ref (a)), (2, .int (v)), (3, .int (b))] [] (956, g_S0, M4, sz)) hr (fun M4 hr => ?_)
    refine gb_run 11 (pc2 := 28) (ls2 := [(0, .ref (464)), (1, .ref (a)), (2, .int (v)), (3, .int (b))]) (st2 := [.int (((M4 464 37) + (1 : Int32)) - (1 : Int32)), .ref (a)]) (M2 := g_set M4 464 37 ((M4 464 37) + (1 : Int32))) hC hqX12_puts rfl ?_
    obtain ⟨j5, ej5, ij5, lj5, hr⟩ := g_ixo hr
    refine gz_iaload hC hqX12_puts rfl ha.1 (g_S3 ha.2.1 ha.2.2) ij5 ej5 ?_
    refine gb_iret hqX12_puts rfl rfl (Nat.le_of_ble_eq_true rfl) (Nat.le_of_ble_eq_true rfl) ?_
    exact gl_I hr
def FM_putsAll_L62 (a : Nat) (b : Int32) (c53 : Int32 → gM → Option (gM)) : Nat → Int32 → Int32 → gM → Option (gM)
  | 0, _, _, _ => none
  | k + 1, x3, x4, M =>
  if (48 : Int32) ≤ x4 then (c53 (x3 + (1 : Int32)) M) else (g_ix x3 16 fun j2 => g_ix x3 16 fun j3 => g_ix x4 48 fun j4 => (FM_puts a (M (933 + j3) j4) b M).bind fun s5 => g_ix x4 48 fun j6 => g_let (g_set (s5.2) (933 + j2) j6 s5.1) fun M7 => FM_putsAll_L62 a b c53 k x3 (x4 + (1 : Int32)) M7)
set_option maxRecDepth 20000 in
theorem c_FM_putsAll_L62 {l : Launch} {C : gC} (hC : g_ctx l C) (a : Nat) (b : Int32) (ha : g_ia 956 g_S0 a 817) (sz d : Nat) (hd : 2 ≤ d) (R : gM) (c53 : Int32 → gM → Option (gM)) (hc53 : ∀ (x3 : Int32) (M : gM), c53 x3 M = some R → GW l C qX12_putsAll d (gQg 956 g_S0 (qV R) sz) gN 0 0 53 [(0, .ref (464)), (1, .ref (a)), (2, .int (b)), (3, .int (x3))] [] (956, g_S0, M, sz)) : ∀ (k : Nat) (x3 : Int32) (x4 : Int32) (M : gM), FM_putsAll_L62 a b c53 k x3 x4 M = some R → GW l C qX12_putsAll d (gQg 956 g_S0 (qV R) sz) gN 0 0 62 [(0, .ref (464)), (1, .ref (a)), (2, .int (b)), (3, .int (x3)), (4, .int (x4))] [] (956, g_S0, M, sz) := by
  intro k
  induction k with
  | zero => intro x3 x4 M hr; exact nomatch (show (none : Option (gM)) = some R from hr)
  | succ k ih =>
    intro x3 x4 M hr
    unfold FM_putsAll_L62 at hr
    refine gb_run 2 (pc2 := 66) (ls2 := [(0, .ref (464)), (1, .ref (a)), (2, .int (b)), (3, .int (x3)), (4, .int (x4))]) (st2 := [.int (48), .int (x4)]) (M2 := M) hC hqX12_putsAll rfl ?_
    refine gb_icmp_ge hqX12_putsAll rfl (fun h1 => ?_) (fun h1 => ?_)
    ·
      have hr := g_if1 h1 hr
      refine gb_run 2 (pc2 := 53) (ls2 := [(3, .int (x3 + (1 : Int32))), (0, .ref (464)), (1, .ref (a)), (2, .int (b)), (4, .int (x4))]) (st2 := []) (M2 := M) hC hqX12_putsAll rfl ?_
      refine gw_pick [1, 2, 3, 0] (ls2 := [(0, .ref (464)), (1, .ref (a)), (2, .int (b)), (3, .int (x3 + (1 : Int32)))]) rfl ?_
      exact hc53 (x3 + (1 : Int32)) M hr
    ·
      have hr := g_if0 h1 hr
      refine gb_run 3 (pc2 := 74) (ls2 := [(0, .ref (464)), (1, .ref (a)), (2, .int (b)), (3, .int (x3)), (4, .int (x4))]) (st2 := [.int (x3), .ref (932)]) (M2 := M) hC hqX12_putsAll rfl ?_
      obtain ⟨j2, ej2, ij2, lj2, hr⟩ := g_ixo hr
      have tj2 := g_t932 j2 lj2
      refine gz_aaload (k0 := 2) (q := 933 + j2) hC hqX12_putsAll rfl (Nat.le_of_ble_eq_true rfl) rfl (Nat.le_of_ble_eq_true rfl) ij2 ej2 tj2.1 ?_
      refine gb_run 6 (pc2 := 84) (ls2 := [(0, .ref (464)), (1, .ref (a)), (2, .int (b)), (3, .int (x3)), (4, .int (x4))]) (st2 := [.int (x3), .ref (932), .ref (a), .ref (464), .int (x4), .ref (933 + j2)]) (M2 := M) hC hqX12_putsAll rfl ?_
      obtain ⟨j3, ej3, ij3, lj3, hr⟩ := g_ixo hr
      have tj3 := g_t932 j3 lj3
      refine gz_aaload (k0 := 2) (q := 933 + j3) hC hqX12_putsAll rfl (Nat.le_of_ble_eq_true rfl) rfl (Nat.le_of_ble_eq_true rfl) ij3 ej3 tj3.1 ?_
      refine gb_run 1 (pc2 := 87) (ls2 := [(0, .ref (464)), (1, .ref (a)), (2, .int (b)), (3, .int (x3)), (4, .int (x4))]) (st2 := [.int (x4), .ref (933 + j3), .ref (a), .ref (464), .int (x4), .ref (933 + j2)]) (M2 := M) hC hqX12_putsAll rfl ?_
      obtain ⟨j4, ej4, ij4, lj4, hr⟩ := g_ixo hr
      refine gz_iaload hC hqX12_putsAll rfl tj3.2.1 (g_S3 tj3.2.2.1 tj3.2.2.2) ij4 ej4 ?_
      refine gb_run 1 (pc2 := 89) (ls2 := [(0, .ref (464)), (1, .ref (a)), (2, .int (b)), (3, .int (x3)), (4, .int (x4))]) (st2 := [.int (b), .int (M (933 + j3) j4), .ref (a), .ref (464), .int (x4), .ref (933 + j2)]) (M2 := M) hC hqX12_putsAll rfl ?_
      obtain ⟨s5, es5, hr⟩ := g_bd hr
      refine gz_cV (z := qX12_puts) (a := 464) (av := [.ref (a), .int (M (933 + j3) j4), .int (b)]) (rest := [.int (x4), .ref (933 + j2)]) (pl := 1944) hC hqX12_putsAll rfl kX12_puts sX12_puts (by decide +kernel) (c_FM_puts hC a (M (933 + j3) j4) b ha M sz (d - 1) (by omega) s5 es5) (by omega) ⟨rfl, rfl⟩ rfl (Nat.le_of_ble_eq_true rfl) (Nat.le_of_ble_eq_true rfl) rfl rfl rfl (Nat.le_of_ble_eq_true rfl) ⟨Nat.le_of_ble_eq_true rfl, Nat.le_of_ble_eq_true rfl⟩ (gs_I ?_)
      obtain ⟨j6, ej6, ij6, lj6, hr⟩ := g_ixo hr
      refine gz_iastore hC hqX12_putsAll rfl tj2.2.1 (g_S3 tj2.2.2.1 tj2.2.2.2) ij6 ej6 ?_
      refine g_letP (P := fun M7 => GW l C qX12_putsAll d (gQg 956 g_S0 (qV R) sz) gN 0 0 93 [(0, .ref (464)), (1, .ref (a)), (2, .int (b)), (3, .int (x3)), (4, .int (x4))] [] (956, g_S0, M7, sz)) hr (fun M7 hr => ?_)
      refine gb_run 2 (pc2 := 62) (ls2 := [(4, .int (x4 + (1 : Int32))), (0, .ref (464)), (1, .ref (a)), (2, .int (b)), (3, .int (x3))]) (st2 := []) (M2 := M7) hC hqX12_putsAll rfl ?_
      refine gw_pick [1, 2, 3, 4, 0] (ls2 := [(0, .ref (464)), (1, .ref (a)), (2, .int (b)), (3, .int (x3)), (4, .int (x4 + (1 : Int32)))]) rfl ?_
      exact ih x3 (x4 + (1 : Int32)) M7 hr
def FM_putsAll_L53 (a : Nat) (b : Int32) : Nat → Int32 → gM → Option (gM)
  | 0, _, _ => none
  | k + 1, x3, M =>
  if (16 : Int32) ≤ x3 then (some M) else (FM_putsAll_L62 a b (FM_putsAll_L53 a b k) 1000 x3 (0 : Int32) M)
set_option maxRecDepth 20000 in
theorem c_FM_putsAll_L53 {l : Launch} {C : gC} (hC : g_ctx l C) (a : Nat) (b : Int32) (ha : g_ia 956 g_S0 a 817) (sz d : Nat) (hd : 2 ≤ d) (R : gM) : ∀ (k : Nat) (x3 : Int32) (M : gM), FM_putsAll_L53 a b k x3 M = some R → GW l C qX12_putsAll d (gQg 956 g_S0 (qV R) sz) gN 0 0 53 [(0, .ref (464)), (1, .ref (a)), (2, .int (b)), (3, .int (x3))] [] (956, g_S0, M, sz) := by
  intro k
  induction k with
  | zero => intro x3 M hr; exact nomatch (show (none : Option (gM)) = some R from hr)
  | succ k ih =>
    intro x3 M hr
    unfold FM_putsAll_L53 at hr
    refine gb_run 2 (pc2 := 56) (ls2 := [(0, .ref (464)), (1, .ref (a)), (2, .int (b)), (3, .int (x3))]) (st2 := [.int (16), .int (x3)]) (M2 := M) hC hqX12_putsAll rfl ?_
    refine gb_icmp_ge hqX12_putsAll rfl (fun h1 => ?_) (fun h1 => ?_)
    ·
      have hr := g_if1 h1 hr
      refine gb_vret hqX12_putsAll rfl rfl (Nat.le_of_ble_eq_true rfl) (Nat.le_of_ble_eq_true rfl) ?_
      exact gl_V hr
    ·
      have hr := g_if0 h1 hr
      refine gb_run 2 (pc2 := 62) (ls2 := [(4, .int (0)), (0, .ref (464)), (1, .ref (a)), (2, .int (b)), (3, .int (x3))]) (st2 := []) (M2 := M) hC hqX12_putsAll rfl ?_
      refine gw_pick [1, 2, 3, 4, 0] (ls2 := [(0, .ref (464)), (1, .ref (a)), (2, .int (b)), (3, .int (x3)), (4, .int (0))]) rfl ?_
      exact c_FM_putsAll_L62 hC a b ha sz d (by omega) R (FM_putsAll_L53 a b k) ih 1000 x3 (0 : Int32) M hr
def FM_putsAll_L21 (a : Nat) (b : Int32) : Nat → Int32 → gM → Option (gM)
  | 0, _, _ => none
  | k + 1, x3, M =>
  if (48 : Int32) ≤ x3 then (FM_putsAll_L53 a b 1000 (0 : Int32) M) else (g_ix x3 48 fun j2 => (FM_puts a (M 930 j2) b M).bind fun s3 => g_ix x3 48 fun j4 => g_let (g_set (s3.2) 930 j4 s3.1) fun M5 => FM_putsAll_L21 a b k (x3 + (1 : Int32)) M5)
set_option maxRecDepth 20000 in
theorem c_FM_putsAll_L21 {l : Launch} {C : gC} (hC : g_ctx l C) (a : Nat) (b : Int32) (ha : g_ia 956 g_S0 a 817) (sz d : Nat) (hd : 2 ≤ d) (R : gM) : ∀ (k : Nat) (x3 : Int32) (M : gM), FM_putsAll_L21 a b k x3 M = some R → GW l C qX12_putsAll d (gQg 956 g_S0 (qV R) sz) gN 0 0 21 [(0, .ref (464)), (1, .ref (a)), (2, .int (b)), (3, .int (x3))] [] (956, g_S0, M, sz) := by
  intro k
  induction k with
  | zero => intro x3 M hr; exact nomatch (show (none : Option (gM)) = some R from hr)
  | succ k ih =>
    intro x3 M hr
    unfold FM_putsAll_L21 at hr
    refine gb_run 2 (pc2 := 24) (ls2 := [(0, .ref (464)), (1, .ref (a)), (2, .int (b)), (3, .int (x3))]) (st2 := [.int (48), .int (x3)]) (M2 := M) hC hqX12_putsAll rfl ?_
    refine gb_icmp_ge hqX12_putsAll rfl (fun h1 => ?_) (fun h1 => ?_)
    ·
      have hr := g_if1 h1 hr
      refine gb_run 2 (pc2 := 53) (ls2 := [(3, .int (0)), (0, .ref (464)), (1, .ref (a)), (2, .int (b))]) (st2 := []) (M2 := M) hC hqX12_putsAll rfl ?_
      refine gw_pick [1, 2, 3, 0] (ls2 := [(0, .ref (464)), (1, .ref (a)), (2, .int (b)), (3, .int (0))]) rfl ?_
      exact c_FM_putsAll_L53 hC a b ha sz d (by omega) R 1000 (0 : Int32) M hr
    ·
      have hr := g_if0 h1 hr
      refine gb_run 8 (pc2 := 39) (ls2 := [(0, .ref (464)), (1, .ref (a)), (2, .int (b)), (3, .int (x3))]) (st2 := [.int (x3), .ref (930), .ref (a), .ref (464), .int (x3), .ref (930)]) (M2 := M) hC hqX12_putsAll rfl ?_
      obtain ⟨j2, ej2, ij2, lj2, hr⟩ := g_ixo hr
      refine gz_iaload hC hqX12_putsAll rfl (Nat.le_of_ble_eq_true rfl) rfl ij2 ej2 ?_
      refine gb_run 1 (pc2 := 41) (ls2 := [(0, .ref (464)), (1, .ref (a)), (2, .int (b)), (3, .int (x3))]) (st2 := [.int (b), .int (M 930 j2), .ref (a), .ref (464), .int (x3), .ref (930)]) (M2 := M) hC hqX12_putsAll rfl ?_
      obtain ⟨s3, es3, hr⟩ := g_bd hr
      refine gz_cV (z := qX12_puts) (a := 464) (av := [.ref (a), .int (M 930 j2), .int (b)]) (rest := [.int (x3), .ref (930)]) (pl := 1944) hC hqX12_putsAll rfl kX12_puts sX12_puts (by decide +kernel) (c_FM_puts hC a (M 930 j2) b ha M sz (d - 1) (by omega) s3 es3) (by omega) ⟨rfl, rfl⟩ rfl (Nat.le_of_ble_eq_true rfl) (Nat.le_of_ble_eq_true rfl) rfl rfl rfl (Nat.le_of_ble_eq_true rfl) ⟨Nat.le_of_ble_eq_true rfl, Nat.le_of_ble_eq_true rfl⟩ (gs_I ?_)
      obtain ⟨j4, ej4, ij4, lj4, hr⟩ := g_ixo hr
      refine gz_iastore hC hqX12_putsAll rfl (Nat.le_of_ble_eq_true rfl) rfl ij4 ej4 ?_
      refine g_letP (P := fun M5 => GW l C qX12_putsAll d (gQg 956 g_S0 (qV R) sz) gN 0 0 45 [(0, .ref (464)), (1, .ref (a)), (2, .int (b)), (3, .int (x3))] [] (956, g_S0, M5, sz)) hr (fun M5 hr => ?_)
      refine gb_run 2 (pc2 := 21) (ls2 := [(3, .int (x3 + (1 : Int32))), (0, .ref (464)), (1, .ref (a)), (2, .int (b))]) (st2 := []) (M2 := M5) hC hqX12_putsAll rfl ?_
      refine gw_pick [1, 2, 3, 0] (ls2 := [(0, .ref (464)), (1, .ref (a)), (2, .int (b)), (3, .int (x3 + (1 : Int32)))]) rfl ?_
      exact ih (x3 + (1 : Int32)) M5 hr
def FM_putsAll (a : Nat) (b : Int32) (M : gM) : Option (gM) :=
  (FM_puts a (M 464 34) b (g_set M 464 37 (0 : Int32))).bind fun s1 => FM_putsAll_L21 a b 1000 (0 : Int32) (g_set (s1.2) 464 34 s1.1)
set_option maxRecDepth 20000 in
theorem c_FM_putsAll {l : Launch} {C : gC} (hC : g_ctx l C) (a : Nat) (b : Int32) (ha : g_ia 956 g_S0 a 817) (M : gM) (sz d : Nat) (hd : 2 ≤ d) (R : gM) (hr : FM_putsAll a b M = some R) : gPg l C qX12_putsAll d [.ref (464), .ref (a), .int (b)] 956 g_S0 M sz (qV R) := by
  refine gPg.of (ls := [(0, .ref (464)), (1, .ref (a)), (2, .int (b))]) (by decide +kernel) (Nat.le_of_ble_eq_true rfl) rfl ?_
  unfold FM_putsAll at hr
  refine gb_run 9 (pc2 := 13) (ls2 := [(0, .ref (464)), (1, .ref (a)), (2, .int (b))]) (st2 := [.int (b), .int (M 464 34), .ref (a), .ref (464), .ref (464)]) (M2 := g_set M 464 37 (0 : Int32)) hC hqX12_putsAll rfl ?_
  obtain ⟨s1, es1, hr⟩ := g_bd hr
  refine gz_cV (z := qX12_puts) (a := 464) (av := [.ref (a), .int (M 464 34), .int (b)]) (rest := [.ref (464)]) (pl := 1944) hC hqX12_putsAll rfl kX12_puts sX12_puts (by decide +kernel) (c_FM_puts hC a (M 464 34) b ha (g_set M 464 37 (0 : Int32)) sz (d - 1) (by omega) s1 es1) (by omega) ⟨rfl, rfl⟩ rfl (Nat.le_of_ble_eq_true rfl) (Nat.le_of_ble_eq_true rfl) rfl rfl rfl (Nat.le_of_ble_eq_true rfl) ⟨Nat.le_of_ble_eq_true rfl, Nat.le_of_ble_eq_true rfl⟩ (gs_I ?_)
  refine gb_run 3 (pc2 := 21) (ls2 := [(3, .int (0)), (0, .ref (464)), (1, .ref (a)), (2, .int (b))]) (st2 := []) (M2 := g_set (s1.2) 464 34 s1.1) hC hqX12_putsAll rfl ?_
  refine gw_pick [1, 2, 3, 0] (ls2 := [(0, .ref (464)), (1, .ref (a)), (2, .int (b)), (3, .int (0))]) rfl ?_
  exact c_FM_putsAll_L21 hC a b ha sz d (by omega) R 1000 (0 : Int32) (g_set (s1.2) 464 34 s1.1) hr
def FM_image  (M : gM) : Option (Int32 × gM) :=
  if (M 464 36) = (3 : Int32) then (some (-1, g_set M 464 0 (0 : Int32))) else (g_ix (M 464 36) 3 fun j2 => (FM_putsAll (950 + j2) (0 : Int32) (g_set M 464 0 (0 : Int32))).bind fun s3 => some ((s3 464 36) + (1 : Int32), g_set s3 464 36 ((s3 464 36) + (1 : Int32))))
set_option maxRecDepth 20000 in
theorem c_FM_image {l : Launch} {C : gC} (hC : g_ctx l C)   (M : gM) (sz d : Nat) (hd : 3 ≤ d) (R : Int32 × gM) (hr : FM_image M = some R) : gPg l C qX12_image d [.ref (464)] 956 g_S0 M sz (qI R) := by
  refine gPg.of (ls := [(0, .ref (464))]) (by decide +kernel) (Nat.le_of_ble_eq_true rfl) rfl ?_
  unfold FM_image at hr
  refine gb_run 6 (pc2 := 10) (ls2 := [(0, .ref (464))]) (st2 := [.int (3), .int (M 464 36)]) (M2 := g_set M 464 0 (0 : Int32)) hC hqX12_image rfl ?_
  refine gb_icmp_ne hqX12_image rfl (fun h1 => ?_) (fun h1 => ?_)
  ·
    have hr := g_if0 h1 hr
    refine gb_run 5 (pc2 := 24) (ls2 := [(0, .ref (464))]) (st2 := [.int (M 464 36), .ref (949), .ref (464)]) (M2 := g_set M 464 0 (0 : Int32)) hC hqX12_image rfl ?_
    obtain ⟨j2, ej2, ij2, lj2, hr⟩ := g_ixo hr
    have tj2 := g_t949 j2 lj2
    refine gz_aaload (k0 := 2) (q := 950 + j2) hC hqX12_image rfl (Nat.le_of_ble_eq_true rfl) rfl (Nat.le_of_ble_eq_true rfl) ij2 ej2 tj2.1 ?_
    refine gb_run 1 (pc2 := 26) (ls2 := [(0, .ref (464))]) (st2 := [.int (0), .ref (950 + j2), .ref (464)]) (M2 := g_set M 464 0 (0 : Int32)) hC hqX12_image rfl ?_
    obtain ⟨s3, es3, hr⟩ := g_bd hr
    refine gz_cV (z := qX12_putsAll) (a := 464) (av := [.ref (950 + j2), .int (0)]) (rest := []) (pl := 1940) hC hqX12_image rfl kX12_putsAll sX12_putsAll (by decide +kernel) (c_FM_putsAll hC (950 + j2) (0 : Int32) tj2.2 (g_set M 464 0 (0 : Int32)) sz (d - 1) (by omega) s3 es3) (by omega) ⟨rfl, rfl⟩ rfl (Nat.le_of_ble_eq_true rfl) (Nat.le_of_ble_eq_true rfl) rfl rfl rfl (Nat.le_of_ble_eq_true rfl) ⟨Nat.le_of_ble_eq_true rfl, Nat.le_of_ble_eq_true rfl⟩ (gs_V ?_)
    refine gb_run 8 (pc2 := 43) (ls2 := [(0, .ref (464))]) (st2 := [.int ((s3 464 36) + (1 : Int32))]) (M2 := g_set s3 464 36 ((s3 464 36) + (1 : Int32))) hC hqX12_image rfl ?_
    refine gb_iret hqX12_image rfl rfl (Nat.le_of_ble_eq_true rfl) (Nat.le_of_ble_eq_true rfl) ?_
    exact gl_I hr
  ·
    have hr := g_if1 h1 hr
    refine gb_run 1 (pc2 := 14) (ls2 := [(0, .ref (464))]) (st2 := [.int (-1)]) (M2 := g_set M 464 0 (0 : Int32)) hC hqX12_image rfl ?_
    refine gb_iret hqX12_image rfl rfl (Nat.le_of_ble_eq_true rfl) (Nat.le_of_ble_eq_true rfl) ?_
    exact gl_I hr
def FM_restore  (M : gM) : Option (Int32 × gM) :=
  if (M 464 36) = (0 : Int32) then (some (-1, g_set M 464 0 (0 : Int32))) else (g_ix ((M 464 36) - (1 : Int32)) 3 fun j2 => (FM_putsAll (950 + j2) (1 : Int32) (g_set (g_set M 464 0 (0 : Int32)) 464 36 ((M 464 36) - (1 : Int32)))).bind fun s3 => some (s3 464 36, g_set s3 464 35 (0 : Int32)))
set_option maxRecDepth 20000 in
theorem c_FM_restore {l : Launch} {C : gC} (hC : g_ctx l C)   (M : gM) (sz d : Nat) (hd : 3 ≤ d) (R : Int32 × gM) (hr : FM_restore M = some R) : gPg l C qX12_restore d [.ref (464)] 956 g_S0 M sz (qI R) := by
  refine gPg.of (ls := [(0, .ref (464))]) (by decide +kernel) (Nat.le_of_ble_eq_true rfl) rfl ?_
  unfold FM_restore at hr
  refine gb_run 5 (pc2 := 9) (ls2 := [(0, .ref (464))]) (st2 := [.int (M 464 36)]) (M2 := g_set M 464 0 (0 : Int32)) hC hqX12_restore rfl ?_
  refine gb_if_ne hqX12_restore rfl (fun h1 => ?_) (fun h1 => ?_)
  ·
    have hr := g_if0 h1 hr
    refine gb_run 11 (pc2 := 33) (ls2 := [(0, .ref (464))]) (st2 := [.int ((M 464 36) - (1 : Int32)), .ref (949), .ref (464)]) (M2 := g_set (g_set M 464 0 (0 : Int32)) 464 36 ((M 464 36) - (1 : Int32))) hC hqX12_restore rfl ?_
    obtain ⟨j2, ej2, ij2, lj2, hr⟩ := g_ixo hr
    have tj2 := g_t949 j2 lj2
    refine gz_aaload (k0 := 2) (q := 950 + j2) hC hqX12_restore rfl (Nat.le_of_ble_eq_true rfl) rfl (Nat.le_of_ble_eq_true rfl) ij2 ej2 tj2.1 ?_
    refine gb_run 1 (pc2 := 35) (ls2 := [(0, .ref (464))]) (st2 := [.int (1), .ref (950 + j2), .ref (464)]) (M2 := g_set (g_set M 464 0 (0 : Int32)) 464 36 ((M 464 36) - (1 : Int32))) hC hqX12_restore rfl ?_
    obtain ⟨s3, es3, hr⟩ := g_bd hr
    refine gz_cV (z := qX12_putsAll) (a := 464) (av := [.ref (950 + j2), .int (1)]) (rest := []) (pl := 1940) hC hqX12_restore rfl kX12_putsAll sX12_putsAll (by decide +kernel) (c_FM_putsAll hC (950 + j2) (1 : Int32) tj2.2 (g_set (g_set M 464 0 (0 : Int32)) 464 36 ((M 464 36) - (1 : Int32))) sz (d - 1) (by omega) s3 es3) (by omega) ⟨rfl, rfl⟩ rfl (Nat.le_of_ble_eq_true rfl) (Nat.le_of_ble_eq_true rfl) rfl rfl rfl (Nat.le_of_ble_eq_true rfl) ⟨Nat.le_of_ble_eq_true rfl, Nat.le_of_ble_eq_true rfl⟩ (gs_V ?_)
    refine gb_run 5 (pc2 := 47) (ls2 := [(0, .ref (464))]) (st2 := [.int (s3 464 36)]) (M2 := g_set s3 464 35 (0 : Int32)) hC hqX12_restore rfl ?_
    refine gb_iret hqX12_restore rfl rfl (Nat.le_of_ble_eq_true rfl) (Nat.le_of_ble_eq_true rfl) ?_
    exact gl_I hr
  ·
    have hr := g_if1 h1 hr
    refine gb_run 1 (pc2 := 13) (ls2 := [(0, .ref (464))]) (st2 := [.int (-1)]) (M2 := g_set M 464 0 (0 : Int32)) hC hqX12_restore rfl ?_
    refine gb_iret hqX12_restore rfl rfl (Nat.le_of_ble_eq_true rfl) (Nat.le_of_ble_eq_true rfl) ?_
    exact gl_I hr
def FM_status (what : Int32) (M : gM) : Option (Int32 × gM) :=
  if (FM_in what (0 : Int32) (1 : Int32)) = (0 : Int32) then (some (-1, g_set M 464 0 (0 : Int32))) else (g_ix what 2 fun j4 => some (M 466 j4, g_set M 464 0 (0 : Int32)))
set_option maxRecDepth 20000 in
theorem c_FM_status {l : Launch} {C : gC} (hC : g_ctx l C) (what : Int32)  (M : gM) (sz d : Nat) (hd : 2 ≤ d) (R : Int32 × gM) (hr : FM_status what M = some R) : gPg l C qX12_status d [.ref (464), .int (what)] 956 g_S0 M sz (qI R) := by
  refine gPg.of (ls := [(0, .ref (464)), (1, .int (what))]) (by decide +kernel) (Nat.le_of_ble_eq_true rfl) rfl ?_
  unfold FM_status at hr
  refine gb_run 6 (pc2 := 8) (ls2 := [(0, .ref (464)), (1, .int (what))]) (st2 := [.int (1), .int (0), .int (what)]) (M2 := g_set M 464 0 (0 : Int32)) hC hqX12_status rfl ?_
  refine gz_cS (z := qX12_in) (av := [.int (what), .int (0), .int (1)]) (rest := []) (pl := 1548) hC hqX12_status rfl kX12_in (by decide +kernel) (c_FM_in hC what (0 : Int32) (1 : Int32)  (g_set M 464 0 (0 : Int32)) sz (d - 1) (by omega)) (by omega) ⟨rfl, rfl⟩ rfl rfl (Nat.le_of_ble_eq_true rfl) ⟨Nat.le_of_ble_eq_true rfl, Nat.le_of_ble_eq_true rfl⟩ (gs_Zp fun z2 => ?_)
  refine gb_if_eq hqX12_status rfl (fun h3 => ?_) (fun h3 => ?_)
  ·
    have hr := g_if1 h3 hr
    refine gb_run 1 (pc2 := 24) (ls2 := [(0, .ref (464)), (1, .int (what))]) (st2 := [.int (-1)]) (M2 := g_set M 464 0 (0 : Int32)) hC hqX12_status rfl ?_
    refine gb_iret hqX12_status rfl rfl (Nat.le_of_ble_eq_true rfl) (Nat.le_of_ble_eq_true rfl) ?_
    exact gl_I hr
  ·
    have hr := g_if0 h3 hr
    refine gb_run 3 (pc2 := 19) (ls2 := [(0, .ref (464)), (1, .int (what))]) (st2 := [.int (what), .ref (466)]) (M2 := g_set M 464 0 (0 : Int32)) hC hqX12_status rfl ?_
    obtain ⟨j4, ej4, ij4, lj4, hr⟩ := g_ixo hr
    refine gz_iaload hC hqX12_status rfl (Nat.le_of_ble_eq_true rfl) rfl ij4 ej4 ?_
    refine gb_run 1 (pc2 := 24) (ls2 := [(0, .ref (464)), (1, .int (what))]) (st2 := [.int (M 466 j4)]) (M2 := g_set M 464 0 (0 : Int32)) hC hqX12_status rfl ?_
    refine gb_iret hqX12_status rfl rfl (Nat.le_of_ble_eq_true rfl) (Nat.le_of_ble_eq_true rfl) ?_
    exact gl_I hr
def FM_count (what : Int32) (M : gM) : Option (Int32 × gM) :=
  if what = (0 : Int32) then (some (M 464 36, g_set M 464 0 (0 : Int32))) else (if what = (1 : Int32) then (some (M 464 1, g_set M 464 0 (0 : Int32))) else (if what = (2 : Int32) then (some (M 464 34, g_set M 464 0 (0 : Int32))) else (some (-1, g_set M 464 0 (0 : Int32)))))
set_option maxRecDepth 20000 in
theorem c_FM_count {l : Launch} {C : gC} (hC : g_ctx l C) (what : Int32)  (M : gM) (sz d : Nat) (hd : 1 ≤ d) (R : Int32 × gM) (hr : FM_count what M = some R) : gPg l C qX12_count d [.ref (464), .int (what)] 956 g_S0 M sz (qI R) := by
  refine gPg.of (ls := [(0, .ref (464)), (1, .int (what))]) (by decide +kernel) (Nat.le_of_ble_eq_true rfl) rfl ?_
  unfold FM_count at hr
  refine gb_run 4 (pc2 := 6) (ls2 := [(0, .ref (464)), (1, .int (what))]) (st2 := [.int (what)]) (M2 := g_set M 464 0 (0 : Int32)) hC hqX12_count rfl ?_
  refine gb_if_ne hqX12_count rfl (fun h1 => ?_) (fun h1 => ?_)
  ·
    have hr := g_if0 h1 hr
    refine gb_run 2 (pc2 := 18) (ls2 := [(0, .ref (464)), (1, .int (what))]) (st2 := [.int (1), .int (what)]) (M2 := g_set M 464 0 (0 : Int32)) hC hqX12_count rfl ?_
    refine gb_icmp_ne hqX12_count rfl (fun h2 => ?_) (fun h2 => ?_)
    ·
      have hr := g_if0 h2 hr
      refine gb_run 2 (pc2 := 30) (ls2 := [(0, .ref (464)), (1, .int (what))]) (st2 := [.int (2), .int (what)]) (M2 := g_set M 464 0 (0 : Int32)) hC hqX12_count rfl ?_
      refine gb_icmp_ne hqX12_count rfl (fun h3 => ?_) (fun h3 => ?_)
      ·
        have hr := g_if0 h3 hr
        refine gb_run 1 (pc2 := 41) (ls2 := [(0, .ref (464)), (1, .int (what))]) (st2 := [.int (-1)]) (M2 := g_set M 464 0 (0 : Int32)) hC hqX12_count rfl ?_
        refine gb_iret hqX12_count rfl rfl (Nat.le_of_ble_eq_true rfl) (Nat.le_of_ble_eq_true rfl) ?_
        exact gl_I hr
      ·
        have hr := g_if1 h3 hr
        refine gb_run 3 (pc2 := 41) (ls2 := [(0, .ref (464)), (1, .int (what))]) (st2 := [.int (M 464 34)]) (M2 := g_set M 464 0 (0 : Int32)) hC hqX12_count rfl ?_
        refine gb_iret hqX12_count rfl rfl (Nat.le_of_ble_eq_true rfl) (Nat.le_of_ble_eq_true rfl) ?_
        exact gl_I hr
    ·
      have hr := g_if1 h2 hr
      refine gb_run 3 (pc2 := 41) (ls2 := [(0, .ref (464)), (1, .int (what))]) (st2 := [.int (M 464 1)]) (M2 := g_set M 464 0 (0 : Int32)) hC hqX12_count rfl ?_
      refine gb_iret hqX12_count rfl rfl (Nat.le_of_ble_eq_true rfl) (Nat.le_of_ble_eq_true rfl) ?_
      exact gl_I hr
  ·
    have hr := g_if1 h1 hr
    refine gb_run 3 (pc2 := 41) (ls2 := [(0, .ref (464)), (1, .int (what))]) (st2 := [.int (M 464 36)]) (M2 := g_set M 464 0 (0 : Int32)) hC hqX12_count rfl ?_
    refine gb_iret hqX12_count rfl rfl (Nat.le_of_ble_eq_true rfl) (Nat.le_of_ble_eq_true rfl) ?_
    exact gl_I hr
