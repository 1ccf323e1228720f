/-! mmore, decompiled. -/
def FM_away (u : Int32) (v : Int32) : Int32 :=
  if u ≤ v then (v - u) else (u - v)
set_option maxRecDepth 20000 in
theorem c_FM_away {l : Launch} {C : gC} (hC : g_ctx l C) (u : Int32) (v : Int32)  (M : gM) (sz d : Nat) (hd : 1 ≤ d) : gPg l C qX12_away d [.int (u), .int (v)] 956 g_S0 M sz (qIp M (FM_away u v)) := by
  refine gPg.of (ls := [(0, .int (u)), (1, .int (v))]) (by decide +kernel) (Nat.le_of_ble_eq_true rfl) rfl ?_
  obtain ⟨R, hr⟩ : ∃ R, FM_away u v = R := ⟨_, rfl⟩
  rw [hr]
  unfold FM_away at hr
  refine gb_run 2 (pc2 := 2) (ls2 := [(0, .int (u)), (1, .int (v))]) (st2 := [.int (v), .int (u)]) (M2 := M) hC hqX12_away rfl ?_
  refine gb_icmp_le hqX12_away rfl (fun h1 => ?_) (fun h1 => ?_)
  ·
    have hr := g_if1 h1 hr
    refine gb_run 3 (pc2 := 14) (ls2 := [(0, .int (u)), (1, .int (v))]) (st2 := [.int (v - u)]) (M2 := M) hC hqX12_away rfl ?_
    refine gb_iret hqX12_away rfl rfl (Nat.le_of_ble_eq_true rfl) (Nat.le_of_ble_eq_true rfl) ?_
    exact gl_It hr
  ·
    have hr := g_if0 h1 hr
    refine gb_run 4 (pc2 := 14) (ls2 := [(0, .int (u)), (1, .int (v))]) (st2 := [.int (u - v)]) (M2 := M) hC hqX12_away rfl ?_
    refine gb_iret hqX12_away rfl rfl (Nat.le_of_ble_eq_true rfl) (Nat.le_of_ble_eq_true rfl) ?_
    exact gl_It hr
def FM_gives_L95 (hoops : Int32) (h : Int32) (taken : Int32) (sum : Int32) (m : Int32) (rgives : Int32 → Int32 → Int32 → Int32 → Int32 → gM → Option (gM)) : Nat → Int32 → gM → Option (gM)
  | 0, _, _ => none
  | k + 1, x6, M =>
  if (M 468 1) ≤ x6 then (some M) else (if (FM_has hoops h) = (0 : Int32) then (some M) else (if (FM_has taken x6) = (0 : Int32) then (g_ix h 8 fun j8 => g_let (g_set M 953 j8 x6) fun M9 => (FM_longOf h x6 M9).bind fun s10 => (rgives hoops (h + (1 : Int32)) (taken ||| ((1 : Int32) <<< (x6 &&& 31))) (sum + (FM_away s10.1 m)) m (s10.2)).bind fun s11 => FM_gives_L95 hoops h taken sum m rgives k (x6 + (1 : Int32)) s11) else (FM_gives_L95 hoops h taken sum m rgives k (x6 + (1 : Int32)) M)))
set_option maxRecDepth 20000 in
theorem c_FM_gives_L95 {l : Launch} {C : gC} (hC : g_ctx l C) (hoops : Int32) (h : Int32) (taken : Int32) (sum : Int32) (m : Int32) (sz d : Nat) (hd : 7 ≤ d) (rgives : Int32 → Int32 → Int32 → Int32 → Int32 → gM → Option (gM)) (hrgives : ∀ (v1 : Int32) (v2 : Int32) (v3 : Int32) (v4 : Int32) (v5 : Int32) (M : gM) (R : gM), rgives v1 v2 v3 v4 v5 M = some R → gPg l C qX12_gives (d - 1) [.ref (464), .int (v1), .int (v2), .int (v3), .int (v4), .int (v5)] 956 g_S0 M sz (qV R)) (R : gM) : ∀ (k : Nat) (x6 : Int32) (M : gM), FM_gives_L95 hoops h taken sum m rgives k x6 M = some R → GW l C qX12_gives d (gQg 956 g_S0 (qV R) sz) gN 0 0 95 [(0, .ref (464)), (1, .int (hoops)), (2, .int (h)), (3, .int (taken)), (4, .int (sum)), (5, .int (m)), (6, .int (x6))] [] (956, g_S0, M, sz) := by
  intro k
  induction k with
  | zero => intro x6 M hr; exact nomatch (show (none : Option (gM)) = some R from hr)
  | succ k ih =>
    intro x6 M hr
    unfold FM_gives_L95 at hr
    refine gb_run 4 (pc2 := 102) (ls2 := [(0, .ref (464)), (1, .int (hoops)), (2, .int (h)), (3, .int (taken)), (4, .int (sum)), (5, .int (m)), (6, .int (x6))]) (st2 := [.int (1), .ref (468), .int (x6)]) (M2 := M) hC hqX12_gives rfl ?_
    refine gb_iaload hC hqX12_gives rfl (Nat.le_of_ble_eq_true rfl) rfl (by unfold vp_in; decide) ?_
    rw [show (1 : Int32).toNatClampNeg = 1 from rfl]
    refine gb_icmp_ge hqX12_gives rfl (fun h1 => ?_) (fun h1 => ?_)
    ·
      have hr := g_if1 h1 hr
      refine gb_vret hqX12_gives rfl rfl (Nat.le_of_ble_eq_true rfl) (Nat.le_of_ble_eq_true rfl) ?_
      exact gl_V hr
    ·
      have hr := g_if0 h1 hr
      refine gb_run 2 (pc2 := 108) (ls2 := [(0, .ref (464)), (1, .int (hoops)), (2, .int (h)), (3, .int (taken)), (4, .int (sum)), (5, .int (m)), (6, .int (x6))]) (st2 := [.int (h), .int (hoops)]) (M2 := M) hC hqX12_gives rfl ?_
      refine gz_cS (z := qX12_has) (av := [.int (hoops), .int (h)]) (rest := []) (pl := 1653) hC hqX12_gives rfl kX12_has (by decide +kernel) (c_FM_has hC hoops h  M sz (d - 1) (by omega)) (by omega) ⟨rfl, rfl⟩ rfl rfl (Nat.le_of_ble_eq_true rfl) ⟨Nat.le_of_ble_eq_true rfl, Nat.le_of_ble_eq_true rfl⟩ (gs_Zp fun z3 => ?_)
      refine gb_if_eq hqX12_gives rfl (fun h4 => ?_) (fun h4 => ?_)
      ·
        have hr := g_if1 h4 hr
        refine gb_vret hqX12_gives rfl rfl (Nat.le_of_ble_eq_true rfl) (Nat.le_of_ble_eq_true rfl) ?_
        exact gl_V hr
      ·
        have hr := g_if0 h4 hr
        refine gb_run 2 (pc2 := 117) (ls2 := [(0, .ref (464)), (1, .int (hoops)), (2, .int (h)), (3, .int (taken)), (4, .int (sum)), (5, .int (m)), (6, .int (x6))]) (st2 := [.int (x6), .int (taken)]) (M2 := M) hC hqX12_gives rfl ?_
        refine gz_cS (z := qX12_has) (av := [.int (taken), .int (x6)]) (rest := []) (pl := 1653) hC hqX12_gives rfl kX12_has (by decide +kernel) (c_FM_has hC taken x6  M sz (d - 1) (by omega)) (by omega) ⟨rfl, rfl⟩ rfl rfl (Nat.le_of_ble_eq_true rfl) ⟨Nat.le_of_ble_eq_true rfl, Nat.le_of_ble_eq_true rfl⟩ (gs_Zp fun z6 => ?_)
        refine gb_if_eq hqX12_gives rfl (fun h7 => ?_) (fun h7 => ?_)
        ·
          have hr := g_if1 h7 hr
          refine gb_run 4 (pc2 := 133) (ls2 := [(0, .ref (464)), (1, .int (hoops)), (2, .int (h)), (3, .int (taken)), (4, .int (sum)), (5, .int (m)), (6, .int (x6))]) (st2 := [.int (x6), .int (h), .ref (953)]) (M2 := M) hC hqX12_gives rfl ?_
          obtain ⟨j8, ej8, ij8, lj8, hr⟩ := g_ixo hr
          refine gz_iastore hC hqX12_gives rfl (Nat.le_of_ble_eq_true rfl) rfl ij8 ej8 ?_
          refine g_letP (P := fun M9 => GW l C qX12_gives d (gQg 956 g_S0 (qV R) sz) gN 0 0 134 [(0, .ref (464)), (1, .int (hoops)), (2, .int (h)), (3, .int (taken)), (4, .int (sum)), (5, .int (m)), (6, .int (x6))] [] (956, g_S0, M9, sz)) hr (fun M9 hr => ?_)
          refine gb_run 14 (pc2 := 151) (ls2 := [(0, .ref (464)), (1, .int (hoops)), (2, .int (h)), (3, .int (taken)), (4, .int (sum)), (5, .int (m)), (6, .int (x6))]) (st2 := [.int (x6), .int (h), .ref (464), .int (sum), .int (taken ||| ((1 : Int32) <<< (x6 &&& 31))), .int (h + (1 : Int32)), .int (hoops), .ref (464)]) (M2 := M9) hC hqX12_gives rfl ?_
          obtain ⟨s10, es10, hr⟩ := g_bd hr
          refine gz_cV (z := qX12_longOf) (a := 464) (av := [.int (h), .int (x6)]) (rest := [.int (sum), .int (taken ||| ((1 : Int32) <<< (x6 &&& 31))), .int (h + (1 : Int32)), .int (hoops), .ref (464)]) (pl := 1764) hC hqX12_gives rfl kX12_longOf sX12_longOf (by decide +kernel) (c_FM_longOf hC h x6  M9 sz (d - 1) (by omega) s10 es10) (by omega) ⟨rfl, rfl⟩ rfl (Nat.le_of_ble_eq_true rfl) (Nat.le_of_ble_eq_true rfl) rfl rfl rfl (Nat.le_of_ble_eq_true rfl) ⟨Nat.le_of_ble_eq_true rfl, Nat.le_of_ble_eq_true rfl⟩ (gs_I ?_)
          refine gb_run 1 (pc2 := 156) (ls2 := [(0, .ref (464)), (1, .int (hoops)), (2, .int (h)), (3, .int (taken)), (4, .int (sum)), (5, .int (m)), (6, .int (x6))]) (st2 := [.int (m), .int (s10.1), .int (sum), .int (taken ||| ((1 : Int32) <<< (x6 &&& 31))), .int (h + (1 : Int32)), .int (hoops), .ref (464)]) (M2 := s10.2) hC hqX12_gives rfl ?_
          refine gz_cS (z := qX12_away) (av := [.int (s10.1), .int (m)]) (rest := [.int (sum), .int (taken ||| ((1 : Int32) <<< (x6 &&& 31))), .int (h + (1 : Int32)), .int (hoops), .ref (464)]) (pl := 1828) hC hqX12_gives rfl kX12_away (by decide +kernel) (c_FM_away hC s10.1 m  (s10.2) sz (d - 1) (by omega)) (by omega) ⟨rfl, rfl⟩ rfl rfl (Nat.le_of_ble_eq_true rfl) ⟨Nat.le_of_ble_eq_true rfl, Nat.le_of_ble_eq_true rfl⟩ (gs_Ip ?_)
          refine gb_run 2 (pc2 := 162) (ls2 := [(0, .ref (464)), (1, .int (hoops)), (2, .int (h)), (3, .int (taken)), (4, .int (sum)), (5, .int (m)), (6, .int (x6))]) (st2 := [.int (m), .int (sum + (FM_away s10.1 m)), .int (taken ||| ((1 : Int32) <<< (x6 &&& 31))), .int (h + (1 : Int32)), .int (hoops), .ref (464)]) (M2 := s10.2) hC hqX12_gives rfl ?_
          obtain ⟨s11, es11, hr⟩ := g_bd hr
          refine gz_cV (z := qX12_gives) (a := 464) (av := [.int (hoops), .int (h + (1 : Int32)), .int (taken ||| ((1 : Int32) <<< (x6 &&& 31))), .int (sum + (FM_away s10.1 m)), .int (m)]) (rest := []) (pl := 1824) hC hqX12_gives rfl kX12_gives sX12_gives (by decide +kernel) (hrgives hoops (h + (1 : Int32)) (taken ||| ((1 : Int32) <<< (x6 &&& 31))) (sum + (FM_away s10.1 m)) m (s10.2) s11 es11) (by omega) ⟨rfl, rfl⟩ rfl (Nat.le_of_ble_eq_true rfl) (Nat.le_of_ble_eq_true rfl) rfl rfl rfl (Nat.le_of_ble_eq_true rfl) ⟨Nat.le_of_ble_eq_true rfl, Nat.le_of_ble_eq_true rfl⟩ (gs_V ?_)
          refine gb_run 2 (pc2 := 95) (ls2 := [(6, .int (x6 + (1 : Int32))), (0, .ref (464)), (1, .int (hoops)), (2, .int (h)), (3, .int (taken)), (4, .int (sum)), (5, .int (m))]) (st2 := []) (M2 := s11) hC hqX12_gives rfl ?_
          refine gw_pick [1, 2, 3, 4, 5, 6, 0] (ls2 := [(0, .ref (464)), (1, .int (hoops)), (2, .int (h)), (3, .int (taken)), (4, .int (sum)), (5, .int (m)), (6, .int (x6 + (1 : Int32)))]) rfl ?_
          exact ih (x6 + (1 : Int32)) s11 hr
        ·
          have hr := g_if0 h7 hr
          refine gb_run 3 (pc2 := 95) (ls2 := [(6, .int (x6 + (1 : Int32))), (0, .ref (464)), (1, .int (hoops)), (2, .int (h)), (3, .int (taken)), (4, .int (sum)), (5, .int (m))]) (st2 := []) (M2 := M) hC hqX12_gives rfl ?_
          refine gw_pick [1, 2, 3, 4, 5, 6, 0] (ls2 := [(0, .ref (464)), (1, .int (hoops)), (2, .int (h)), (3, .int (taken)), (4, .int (sum)), (5, .int (m)), (6, .int (x6 + (1 : Int32)))]) rfl ?_
          exact ih (x6 + (1 : Int32)) M hr
def FM_gives_L37 (hoops : Int32) (h : Int32) (taken : Int32) (sum : Int32) (m : Int32) (rgives : Int32 → Int32 → Int32 → Int32 → Int32 → gM → Option (gM)) : Nat → Int32 → gM → Option (gM)
  | 0, _, _ => none
  | k + 1, x6, M =>
  if h ≤ x6 then (some M) else (g_ix x6 8 fun j2 => g_ix x6 8 fun j3 => g_let (g_set M 954 j3 (M 953 j2)) fun M4 => FM_gives_L37 hoops h taken sum m rgives k (x6 + (1 : Int32)) M4)
set_option maxRecDepth 20000 in
theorem c_FM_gives_L37 {l : Launch} {C : gC} (hC : g_ctx l C) (hoops : Int32) (h : Int32) (taken : Int32) (sum : Int32) (m : Int32) (sz d : Nat) (hd : 7 ≤ d) (rgives : Int32 → Int32 → Int32 → Int32 → Int32 → gM → Option (gM)) (hrgives : ∀ (v1 : Int32) (v2 : Int32) (v3 : Int32) (v4 : Int32) (v5 : Int32) (M : gM) (R : gM), rgives v1 v2 v3 v4 v5 M = some R → gPg l C qX12_gives (d - 1) [.ref (464), .int (v1), .int (v2), .int (v3), .int (v4), .int (v5)] 956 g_S0 M sz (qV R)) (R : gM) : ∀ (k : Nat) (x6 : Int32) (M : gM), FM_gives_L37 hoops h taken sum m rgives k x6 M = some R → GW l C qX12_gives d (gQg 956 g_S0 (qV R) sz) gN 0 0 37 [(0, .ref (464)), (2, .int (h)), (6, .int (x6))] [] (956, g_S0, M, sz) := by
  intro k
  induction k with
  | zero => intro x6 M hr; exact nomatch (show (none : Option (gM)) = some R from hr)
  | succ k ih =>
    intro x6 M hr
    unfold FM_gives_L37 at hr
    refine gb_run 2 (pc2 := 40) (ls2 := [(0, .ref (464)), (2, .int (h)), (6, .int (x6))]) (st2 := [.int (h), .int (x6)]) (M2 := M) hC hqX12_gives rfl ?_
    refine gb_icmp_ge hqX12_gives rfl (fun h1 => ?_) (fun h1 => ?_)
    ·
      have hr := g_if1 h1 hr
      refine gb_vret hqX12_gives rfl rfl (Nat.le_of_ble_eq_true rfl) (Nat.le_of_ble_eq_true rfl) ?_
      exact gl_V hr
    ·
      have hr := g_if0 h1 hr
      refine gb_run 6 (pc2 := 55) (ls2 := [(0, .ref (464)), (2, .int (h)), (6, .int (x6))]) (st2 := [.int (x6), .ref (953), .int (x6), .ref (954)]) (M2 := M) hC hqX12_gives rfl ?_
      obtain ⟨j2, ej2, ij2, lj2, hr⟩ := g_ixo hr
      refine gz_iaload hC hqX12_gives rfl (Nat.le_of_ble_eq_true rfl) rfl ij2 ej2 ?_
      obtain ⟨j3, ej3, ij3, lj3, hr⟩ := g_ixo hr
      refine gz_iastore hC hqX12_gives rfl (Nat.le_of_ble_eq_true rfl) rfl ij3 ej3 ?_
      refine g_letP (P := fun M4 => GW l C qX12_gives d (gQg 956 g_S0 (qV R) sz) gN 0 0 57 [(0, .ref (464)), (2, .int (h)), (6, .int (x6))] [] (956, g_S0, M4, sz)) hr (fun M4 hr => ?_)
      refine gb_run 2 (pc2 := 37) (ls2 := [(6, .int (x6 + (1 : Int32))), (0, .ref (464)), (2, .int (h))]) (st2 := []) (M2 := M4) hC hqX12_gives rfl ?_
      refine gw_pick [1, 2, 0] (ls2 := [(0, .ref (464)), (2, .int (h)), (6, .int (x6 + (1 : Int32)))]) rfl ?_
      exact ih (x6 + (1 : Int32)) M4 hr
def FM_gives_J18 (hoops : Int32) (h : Int32) (taken : Int32) (sum : Int32) (m : Int32) (rgives : Int32 → Int32 → Int32 → Int32 → Int32 → gM → Option (gM)) (M : gM) : Option (gM) :=
  if h = (M 468 2) then (FM_gives_L37 hoops h taken sum m rgives 1000 (0 : Int32) (g_set M 464 43 sum)) else (g_ix h 8 fun j2 => g_let (g_set M 953 j2 (-1 : Int32)) fun M3 => if (FM_has hoops h) = (0 : Int32) then ((rgives hoops (h + (1 : Int32)) taken sum m M3).bind fun s7 => FM_gives_L95 hoops h taken sum m rgives 1000 (0 : Int32) s7) else (FM_gives_L95 hoops h taken sum m rgives 1000 (0 : Int32) M3))
set_option maxRecDepth 20000 in
theorem c_FM_gives_J18 {l : Launch} {C : gC} (hC : g_ctx l C) (hoops : Int32) (h : Int32) (taken : Int32) (sum : Int32) (m : Int32) (sz d : Nat) (hd : 7 ≤ d) (rgives : Int32 → Int32 → Int32 → Int32 → Int32 → gM → Option (gM)) (hrgives : ∀ (v1 : Int32) (v2 : Int32) (v3 : Int32) (v4 : Int32) (v5 : Int32) (M : gM) (R : gM), rgives v1 v2 v3 v4 v5 M = some R → gPg l C qX12_gives (d - 1) [.ref (464), .int (v1), .int (v2), .int (v3), .int (v4), .int (v5)] 956 g_S0 M sz (qV R)) (R : gM) (M : gM) (hr : FM_gives_J18 hoops h taken sum m rgives M = some R) : GW l C qX12_gives d (gQg 956 g_S0 (qV R) sz) gN 0 0 18 [(0, .ref (464)), (1, .int (hoops)), (2, .int (h)), (3, .int (taken)), (4, .int (sum)), (5, .int (m))] [] (956, g_S0, M, sz) := by
  unfold FM_gives_J18 at hr
  refine gb_run 4 (pc2 := 24) (ls2 := [(0, .ref (464)), (1, .int (hoops)), (2, .int (h)), (3, .int (taken)), (4, .int (sum)), (5, .int (m))]) (st2 := [.int (2), .ref (468), .int (h)]) (M2 := M) hC hqX12_gives rfl ?_
  refine gb_iaload hC hqX12_gives rfl (Nat.le_of_ble_eq_true rfl) rfl (by unfold vp_in; decide) ?_
  rw [show (2 : Int32).toNatClampNeg = 2 from rfl]
  refine gb_icmp_ne hqX12_gives rfl (fun h1 => ?_) (fun h1 => ?_)
  ·
    have hr := g_if0 h1 hr
    refine gb_run 4 (pc2 := 70) (ls2 := [(0, .ref (464)), (1, .int (hoops)), (2, .int (h)), (3, .int (taken)), (4, .int (sum)), (5, .int (m))]) (st2 := [.int (-1), .int (h), .ref (953)]) (M2 := M) hC hqX12_gives rfl ?_
    obtain ⟨j2, ej2, ij2, lj2, hr⟩ := g_ixo hr
    refine gz_iastore hC hqX12_gives rfl (Nat.le_of_ble_eq_true rfl) rfl ij2 ej2 ?_
    refine g_letP (P := fun M3 => GW l C qX12_gives d (gQg 956 g_S0 (qV R) sz) gN 0 0 71 [(0, .ref (464)), (1, .int (hoops)), (2, .int (h)), (3, .int (taken)), (4, .int (sum)), (5, .int (m))] [] (956, g_S0, M3, sz)) hr (fun M3 hr => ?_)
    refine gb_run 2 (pc2 := 73) (ls2 := [(0, .ref (464)), (1, .int (hoops)), (2, .int (h)), (3, .int (taken)), (4, .int (sum)), (5, .int (m))]) (st2 := [.int (h), .int (hoops)]) (M2 := M3) hC hqX12_gives rfl ?_
    refine gz_cS (z := qX12_has) (av := [.int (hoops), .int (h)]) (rest := []) (pl := 1653) hC hqX12_gives rfl kX12_has (by decide +kernel) (c_FM_has hC hoops h  M3 sz (d - 1) (by omega)) (by omega) ⟨rfl, rfl⟩ rfl rfl (Nat.le_of_ble_eq_true rfl) ⟨Nat.le_of_ble_eq_true rfl, Nat.le_of_ble_eq_true rfl⟩ (gs_Zp fun z5 => ?_)
    refine gb_if_ne hqX12_gives rfl (fun h6 => ?_) (fun h6 => ?_)
    ·
      have hr := g_if0 h6 hr
      refine gb_run 2 (pc2 := 95) (ls2 := [(6, .int (0)), (0, .ref (464)), (1, .int (hoops)), (2, .int (h)), (3, .int (taken)), (4, .int (sum)), (5, .int (m))]) (st2 := []) (M2 := M3) hC hqX12_gives rfl ?_
      refine gw_pick [1, 2, 3, 4, 5, 6, 0] (ls2 := [(0, .ref (464)), (1, .int (hoops)), (2, .int (h)), (3, .int (taken)), (4, .int (sum)), (5, .int (m)), (6, .int (0))]) rfl ?_
      exact c_FM_gives_L95 hC hoops h taken sum m sz d (by omega) rgives hrgives R 1000 (0 : Int32) M3 hr
    ·
      have hr := g_if1 h6 hr
      refine gb_run 8 (pc2 := 89) (ls2 := [(0, .ref (464)), (1, .int (hoops)), (2, .int (h)), (3, .int (taken)), (4, .int (sum)), (5, .int (m))]) (st2 := [.int (m), .int (sum), .int (taken), .int (h + (1 : Int32)), .int (hoops), .ref (464)]) (M2 := M3) hC hqX12_gives rfl ?_
      obtain ⟨s7, es7, hr⟩ := g_bd hr
      refine gz_cV (z := qX12_gives) (a := 464) (av := [.int (hoops), .int (h + (1 : Int32)), .int (taken), .int (sum), .int (m)]) (rest := []) (pl := 1824) hC hqX12_gives rfl kX12_gives sX12_gives (by decide +kernel) (hrgives hoops (h + (1 : Int32)) taken sum m M3 s7 es7) (by omega) ⟨rfl, rfl⟩ rfl (Nat.le_of_ble_eq_true rfl) (Nat.le_of_ble_eq_true rfl) rfl rfl rfl (Nat.le_of_ble_eq_true rfl) ⟨Nat.le_of_ble_eq_true rfl, Nat.le_of_ble_eq_true rfl⟩ (gs_V ?_)
      refine gb_run 2 (pc2 := 95) (ls2 := [(6, .int (0)), (0, .ref (464)), (1, .int (hoops)), (2, .int (h)), (3, .int (taken)), (4, .int (sum)), (5, .int (m))]) (st2 := []) (M2 := s7) hC hqX12_gives rfl ?_
      refine gw_pick [1, 2, 3, 4, 5, 6, 0] (ls2 := [(0, .ref (464)), (1, .int (hoops)), (2, .int (h)), (3, .int (taken)), (4, .int (sum)), (5, .int (m)), (6, .int (0))]) rfl ?_
      exact c_FM_gives_L95 hC hoops h taken sum m sz d (by omega) rgives hrgives R 1000 (0 : Int32) s7 hr
  ·
    have hr := g_if1 h1 hr
    refine gb_run 5 (pc2 := 37) (ls2 := [(6, .int (0)), (0, .ref (464)), (1, .int (hoops)), (2, .int (h)), (3, .int (taken)), (4, .int (sum)), (5, .int (m))]) (st2 := []) (M2 := g_set M 464 43 sum) hC hqX12_gives rfl ?_
    refine gw_pick [1, 3, 0] (ls2 := [(0, .ref (464)), (2, .int (h)), (6, .int (0))]) rfl ?_
    exact c_FM_gives_L37 hC hoops h taken sum m sz d (by omega) rgives hrgives R 1000 (0 : Int32) (g_set M 464 43 sum) hr
def FM_gives_B (rgives : Int32 → Int32 → Int32 → Int32 → Int32 → gM → Option (gM)) (hoops : Int32) (h : Int32) (taken : Int32) (sum : Int32) (m : Int32) (M : gM) : Option (gM) :=
  if (M 464 43) = (-1 : Int32) then (FM_gives_J18 hoops h taken sum m rgives M) else (if sum < (M 464 43) then (FM_gives_J18 hoops h taken sum m rgives M) else (some M))
set_option maxRecDepth 20000 in
theorem c_FM_gives_B {l : Launch} {C : gC} (hC : g_ctx l C) (hoops : Int32) (h : Int32) (taken : Int32) (sum : Int32) (m : Int32)  (M : gM) (sz d : Nat) (hd : 7 ≤ d) (rgives : Int32 → Int32 → Int32 → Int32 → Int32 → gM → Option (gM)) (hrgives : ∀ (v1 : Int32) (v2 : Int32) (v3 : Int32) (v4 : Int32) (v5 : Int32) (M : gM) (R : gM), rgives v1 v2 v3 v4 v5 M = some R → gPg l C qX12_gives (d - 1) [.ref (464), .int (v1), .int (v2), .int (v3), .int (v4), .int (v5)] 956 g_S0 M sz (qV R)) (R : gM) (hr : FM_gives_B rgives hoops h taken sum m M = some R) : gPg l C qX12_gives d [.ref (464), .int (hoops), .int (h), .int (taken), .int (sum), .int (m)] 956 g_S0 M sz (qV R) := by
  refine gPg.of (ls := [(0, .ref (464)), (1, .int (hoops)), (2, .int (h)), (3, .int (taken)), (4, .int (sum)), (5, .int (m))]) (by decide +kernel) (Nat.le_of_ble_eq_true rfl) rfl ?_
  unfold FM_gives_B at hr
  refine gb_run 3 (pc2 := 5) (ls2 := [(0, .ref (464)), (1, .int (hoops)), (2, .int (h)), (3, .int (taken)), (4, .int (sum)), (5, .int (m))]) (st2 := [.int (-1), .int (M 464 43)]) (M2 := M) hC hqX12_gives rfl ?_
  refine gb_icmp_eq hqX12_gives rfl (fun h1 => ?_) (fun h1 => ?_)
  ·
    have hr := g_if1 h1 hr
    exact c_FM_gives_J18 hC hoops h taken sum m sz d (by omega) rgives hrgives R M hr
  ·
    have hr := g_if0 h1 hr
    refine gb_run 3 (pc2 := 14) (ls2 := [(0, .ref (464)), (1, .int (hoops)), (2, .int (h)), (3, .int (taken)), (4, .int (sum)), (5, .int (m))]) (st2 := [.int (M 464 43), .int (sum)]) (M2 := M) hC hqX12_gives rfl ?_
    refine gb_icmp_lt hqX12_gives rfl (fun h2 => ?_) (fun h2 => ?_)
    ·
      have hr := g_if1 h2 hr
      exact c_FM_gives_J18 hC hoops h taken sum m sz d (by omega) rgives hrgives R M hr
    ·
      have hr := g_if0 h2 hr
      refine gb_vret hqX12_gives rfl rfl (Nat.le_of_ble_eq_true rfl) (Nat.le_of_ble_eq_true rfl) ?_
      exact gl_V hr
def FM_gives : Nat → Int32 → Int32 → Int32 → Int32 → Int32 → gM → Option (gM)
  | 0, _, _, _, _, _, _ => none
  | f + 1, hoops, h, taken, sum, m, M => FM_gives_B (FM_gives f) hoops h taken sum m M
theorem FM_gives_s (f : Nat) (hoops : Int32) (h : Int32) (taken : Int32) (sum : Int32) (m : Int32) (M : gM) : FM_gives (f + 1) hoops h taken sum m M = FM_gives_B (FM_gives f) hoops h taken sum m M := rfl
theorem c_FM_giving {l : Launch} {C : gC} (hC : g_ctx l C) : ∀ f : Nat, (∀ (hoops : Int32) (h : Int32) (taken : Int32) (sum : Int32) (m : Int32) (M : gM) (sz d : Nat) (R : gM), 7 + f ≤ d → FM_gives f hoops h taken sum m M = some R → gPg l C qX12_gives d [.ref (464), .int (hoops), .int (h), .int (taken), .int (sum), .int (m)] 956 g_S0 M sz (qV R)) := by
  intro f
  induction f with
  | zero => exact fun _ _ _ _ _ M sz d R _ hr => (nomatch (show (none : Option (gM)) = some R from hr))
  | succ f ih =>
    have g0 : ∀ (hoops : Int32) (h : Int32) (taken : Int32) (sum : Int32) (m : Int32) (M : gM) (sz d : Nat) (R : gM), 7 + (f + 1) ≤ d → FM_gives_B (FM_gives f) hoops h taken sum m M = some R → gPg l C qX12_gives d [.ref (464), .int (hoops), .int (h), .int (taken), .int (sum), .int (m)] 956 g_S0 M sz (qV R) :=
      fun hoops h taken sum m M sz d R hd hr => c_FM_gives_B hC hoops h taken sum m  M sz d (by omega) (FM_gives f) (fun v1 v2 v3 v4 v5 M R hr => ih v1 v2 v3 v4 v5 M sz (d - 1) R (by omega) hr) R hr
    exact fun hoops h taken sum m M sz d R hd hr => g0 hoops h taken sum m M sz d R hd hr
theorem c_FM_gives {l : Launch} {C : gC} (hC : g_ctx l C) (f : Nat) (hoops : Int32) (h : Int32) (taken : Int32) (sum : Int32) (m : Int32) (M : gM) (sz d : Nat) (hd : 7 + f ≤ d) (R : gM) (hr : FM_gives f hoops h taken sum m M = some R) : gPg l C qX12_gives d [.ref (464), .int (hoops), .int (h), .int (taken), .int (sum), .int (m)] 956 g_S0 M sz (qV R) := (c_FM_giving hC f) hoops h taken sum m M sz d R hd hr
def FM_matches_L7 (hoops : Int32) (m : Int32) : Nat → Int32 → gM → Option (gM)
  | 0, _, _ => none
  | k + 1, x3, M =>
  if (8 : Int32) ≤ x3 then ((FM_gives 12 hoops (0 : Int32) (0 : Int32) (0 : Int32) m M).bind fun s2 => some s2) else (g_ix x3 8 fun j3 => g_let (g_set M 954 j3 (-1 : Int32)) fun M4 => FM_matches_L7 hoops m k (x3 + (1 : Int32)) M4)
set_option maxRecDepth 20000 in
theorem c_FM_matches_L7 {l : Launch} {C : gC} (hC : g_ctx l C) (hoops : Int32) (m : Int32) (sz d : Nat) (hd : 20 ≤ d) (R : gM) : ∀ (k : Nat) (x3 : Int32) (M : gM), FM_matches_L7 hoops m k x3 M = some R → GW l C qX12_matches d (gQg 956 g_S0 (qV R) sz) gN 0 0 7 [(0, .ref (464)), (1, .int (hoops)), (2, .int (m)), (3, .int (x3))] [] (956, g_S0, M, sz) := by
  intro k
  induction k with
  | zero => intro x3 M hr; exact nomatch (show (none : Option (gM)) = some R from hr)
  | succ k ih =>
    intro x3 M hr
    unfold FM_matches_L7 at hr
    refine gb_run 2 (pc2 := 10) (ls2 := [(0, .ref (464)), (1, .int (hoops)), (2, .int (m)), (3, .int (x3))]) (st2 := [.int (8), .int (x3)]) (M2 := M) hC hqX12_matches rfl ?_
    refine gb_icmp_ge hqX12_matches rfl (fun h1 => ?_) (fun h1 => ?_)
    ·
      have hr := g_if1 h1 hr
      refine gb_run 6 (pc2 := 32) (ls2 := [(0, .ref (464)), (1, .int (hoops)), (2, .int (m)), (3, .int (x3))]) (st2 := [.int (m), .int (0), .int (0), .int (0), .int (hoops), .ref (464)]) (M2 := M) hC hqX12_matches rfl ?_
      obtain ⟨s2, es2, hr⟩ := g_bd hr
      refine gz_cV (z := qX12_gives) (a := 464) (av := [.int (hoops), .int (0), .int (0), .int (0), .int (m)]) (rest := []) (pl := 1824) hC hqX12_matches rfl kX12_gives sX12_gives (by decide +kernel) (c_FM_gives hC 12 hoops (0 : Int32) (0 : Int32) (0 : Int32) m  M sz (d - 1) (by omega) s2 es2) (by omega) ⟨rfl, rfl⟩ rfl (Nat.le_of_ble_eq_true rfl) (Nat.le_of_ble_eq_true rfl) rfl rfl rfl (Nat.le_of_ble_eq_true rfl) ⟨Nat.le_of_ble_eq_true rfl, Nat.le_of_ble_eq_true rfl⟩ (gs_V ?_)
      refine gb_vret hqX12_matches rfl rfl (Nat.le_of_ble_eq_true rfl) (Nat.le_of_ble_eq_true rfl) ?_
      exact gl_V hr
    ·
      have hr := g_if0 h1 hr
      refine gb_run 4 (pc2 := 19) (ls2 := [(0, .ref (464)), (1, .int (hoops)), (2, .int (m)), (3, .int (x3))]) (st2 := [.int (-1), .int (x3), .ref (954)]) (M2 := M) hC hqX12_matches rfl ?_
      obtain ⟨j3, ej3, ij3, lj3, hr⟩ := g_ixo hr
      refine gz_iastore hC hqX12_matches rfl (Nat.le_of_ble_eq_true rfl) rfl ij3 ej3 ?_
      refine g_letP (P := fun M4 => GW l C qX12_matches d (gQg 956 g_S0 (qV R) sz) gN 0 0 20 [(0, .ref (464)), (1, .int (hoops)), (2, .int (m)), (3, .int (x3))] [] (956, g_S0, M4, sz)) hr (fun M4 hr => ?_)
      refine gb_run 2 (pc2 := 7) (ls2 := [(3, .int (x3 + (1 : Int32))), (0, .ref (464)), (1, .int (hoops)), (2, .int (m))]) (st2 := []) (M2 := M4) hC hqX12_matches rfl ?_
      refine gw_pick [1, 2, 3, 0] (ls2 := [(0, .ref (464)), (1, .int (hoops)), (2, .int (m)), (3, .int (x3 + (1 : Int32)))]) rfl ?_
      exact ih (x3 + (1 : Int32)) M4 hr
def FM_matches (hoops : Int32) (m : Int32) (M : gM) : Option (gM) :=
  FM_matches_L7 hoops m 1000 (0 : Int32) (g_set M 464 43 (-1 : Int32))
set_option maxRecDepth 20000 in
theorem c_FM_matches {l : Launch} {C : gC} (hC : g_ctx l C) (hoops : Int32) (m : Int32)  (M : gM) (sz d : Nat) (hd : 20 ≤ d) (R : gM) (hr : FM_matches hoops m M = some R) : gPg l C qX12_matches d [.ref (464), .int (hoops), .int (m)] 956 g_S0 M sz (qV R) := by
  refine gPg.of (ls := [(0, .ref (464)), (1, .int (hoops)), (2, .int (m))]) (by decide +kernel) (Nat.le_of_ble_eq_true rfl) rfl ?_
  unfold FM_matches at hr
  refine gb_run 5 (pc2 := 7) (ls2 := [(3, .int (0)), (0, .ref (464)), (1, .int (hoops)), (2, .int (m))]) (st2 := []) (M2 := g_set M 464 43 (-1 : Int32)) hC hqX12_matches rfl ?_
  refine gw_pick [1, 2, 3, 0] (ls2 := [(0, .ref (464)), (1, .int (hoops)), (2, .int (m)), (3, .int (0))]) rfl ?_
  exact c_FM_matches_L7 hC hoops m sz d (by omega) R 1000 (0 : Int32) (g_set M 464 43 (-1 : Int32)) hr
def FM_areHoops (hoops : Int32) (M : gM) : Int32 :=
  FM_in hoops (0 : Int32) (((1 : Int32) <<< ((M 468 2) &&& 31)) - (1 : Int32))
set_option maxRecDepth 20000 in
theorem c_FM_areHoops {l : Launch} {C : gC} (hC : g_ctx l C) (hoops : Int32)  (M : gM) (sz d : Nat) (hd : 2 ≤ d) : gPg l C qX12_areHoops d [.ref (464), .int (hoops)] 956 g_S0 M sz (qZp M (FM_areHoops hoops M)) := by
  refine gPg.of (ls := [(0, .ref (464)), (1, .int (hoops))]) (by decide +kernel) (Nat.le_of_ble_eq_true rfl) rfl ?_
  obtain ⟨R, hr⟩ : ∃ R, FM_areHoops hoops M = R := ⟨_, rfl⟩
  rw [hr]
  unfold FM_areHoops at hr
  refine gb_run 6 (pc2 := 8) (ls2 := [(0, .ref (464)), (1, .int (hoops))]) (st2 := [.int (2), .ref (468), .int (1), .int (0), .int (hoops)]) (M2 := M) hC hqX12_areHoops rfl ?_
  refine gb_iaload hC hqX12_areHoops rfl (Nat.le_of_ble_eq_true rfl) rfl (by unfold vp_in; decide) ?_
  rw [show (2 : Int32).toNatClampNeg = 2 from rfl]
  refine gb_run 3 (pc2 := 12) (ls2 := [(0, .ref (464)), (1, .int (hoops))]) (st2 := [.int (((1 : Int32) <<< ((M 468 2) &&& 31)) - (1 : Int32)), .int (0), .int (hoops)]) (M2 := M) hC hqX12_areHoops rfl ?_
  refine gz_cS (z := qX12_in) (av := [.int (hoops), .int (0), .int (((1 : Int32) <<< ((M 468 2) &&& 31)) - (1 : Int32))]) (rest := []) (pl := 1548) hC hqX12_areHoops rfl kX12_in (by decide +kernel) (c_FM_in hC hoops (0 : Int32) (((1 : Int32) <<< ((M 468 2) &&& 31)) - (1 : Int32))  M sz (d - 1) (by omega)) (by omega) ⟨rfl, rfl⟩ rfl rfl (Nat.le_of_ble_eq_true rfl) ⟨Nat.le_of_ble_eq_true rfl, Nat.le_of_ble_eq_true rfl⟩ (gs_Zp fun z2 => ?_)
  refine gb_zret hqX12_areHoops rfl rfl (Nat.le_of_ble_eq_true rfl) (Nat.le_of_ble_eq_true rfl) (z2) ?_
  exact gl_Zt (z2) hr
def FM_match_J30 (hoops : Int32) (m : Int32) (y0 : Int32) (M : gM) : Option (Int32 × gM) :=
  (FM_bad y0 (1 : Int32) (1 : Int32) M).bind fun s1 => if s1.1 = (0 : Int32) then ((FM_matches hoops m (s1.2)).bind fun s4 => some (s4 464 43, s4)) else (some (0, s1.2))
set_option maxRecDepth 20000 in
theorem c_FM_match_J30 {l : Launch} {C : gC} (hC : g_ctx l C) (hoops : Int32) (m : Int32) (sz d : Nat) (hd : 21 ≤ d) (R : Int32 × gM) (y0 : Int32) (M : gM) (hr : FM_match_J30 hoops m y0 M = some R) : GW l C qX12_match d (gQg 956 g_S0 (qI R) sz) gN 0 0 30 [(0, .ref (464)), (1, .int (hoops)), (2, .int (m))] [.int (y0), .ref (464)] (956, g_S0, M, sz) := by
  unfold FM_match_J30 at hr
  refine gb_run 2 (pc2 := 32) (ls2 := [(0, .ref (464)), (1, .int (hoops)), (2, .int (m))]) (st2 := [.int (1), .int (1), .int (y0), .ref (464)]) (M2 := M) hC hqX12_match rfl ?_
  obtain ⟨s1, es1, hr⟩ := g_bd hr
  refine gz_cV (z := qX12_bad) (a := 464) (av := [.int (y0), .int (1), .int (1)]) (rest := []) (pl := 1551) hC hqX12_match rfl kX12_bad sX12_bad (by decide +kernel) (c_FM_bad hC y0 (1 : Int32) (1 : Int32)  M sz (d - 1) (by omega) s1 es1) (by omega) ⟨rfl, rfl⟩ rfl (Nat.le_of_ble_eq_true rfl) (Nat.le_of_ble_eq_true rfl) rfl rfl rfl (Nat.le_of_ble_eq_true rfl) ⟨Nat.le_of_ble_eq_true rfl, Nat.le_of_ble_eq_true rfl⟩ (gs_Z fun z2 => ?_)
  refine gb_if_eq hqX12_match rfl (fun h3 => ?_) (fun h3 => ?_)
  ·
    have hr := g_if1 h3 hr
    refine gb_run 3 (pc2 := 43) (ls2 := [(0, .ref (464)), (1, .int (hoops)), (2, .int (m))]) (st2 := [.int (m), .int (hoops), .ref (464)]) (M2 := s1.2) hC hqX12_match rfl ?_
    obtain ⟨s4, es4, hr⟩ := g_bd hr
    refine gz_cV (z := qX12_matches) (a := 464) (av := [.int (hoops), .int (m)]) (rest := []) (pl := 1820) hC hqX12_match rfl kX12_matches sX12_matches (by decide +kernel) (c_FM_matches hC hoops m  (s1.2) sz (d - 1) (by omega) s4 es4) (by omega) ⟨rfl, rfl⟩ rfl (Nat.le_of_ble_eq_true rfl) (Nat.le_of_ble_eq_true rfl) rfl rfl rfl (Nat.le_of_ble_eq_true rfl) ⟨Nat.le_of_ble_eq_true rfl, Nat.le_of_ble_eq_true rfl⟩ (gs_V ?_)
    refine gb_run 2 (pc2 := 50) (ls2 := [(0, .ref (464)), (1, .int (hoops)), (2, .int (m))]) (st2 := [.int (s4 464 43)]) (M2 := s4) hC hqX12_match rfl ?_
    refine gb_iret hqX12_match rfl rfl (Nat.le_of_ble_eq_true rfl) (Nat.le_of_ble_eq_true rfl) ?_
    exact gl_I hr
  ·
    have hr := g_if0 h3 hr
    refine gb_run 1 (pc2 := 39) (ls2 := [(0, .ref (464)), (1, .int (hoops)), (2, .int (m))]) (st2 := [.int (0)]) (M2 := s1.2) hC hqX12_match rfl ?_
    refine gb_iret hqX12_match rfl rfl (Nat.le_of_ble_eq_true rfl) (Nat.le_of_ble_eq_true rfl) ?_
    exact gl_I hr
def FM_match_J25 (hoops : Int32) (m : Int32) (M : gM) : Option (Int32 × gM) :=
  FM_match_J30 hoops m (1 : Int32) M
set_option maxRecDepth 20000 in
theorem c_FM_match_J25 {l : Launch} {C : gC} (hC : g_ctx l C) (hoops : Int32) (m : Int32) (sz d : Nat) (hd : 21 ≤ d) (R : Int32 × gM) (M : gM) (hr : FM_match_J25 hoops m M = some R) : GW l C qX12_match d (gQg 956 g_S0 (qI R) sz) gN 0 0 25 [(0, .ref (464)), (1, .int (hoops)), (2, .int (m))] [.ref (464)] (956, g_S0, M, sz) := by
  unfold FM_match_J25 at hr
  refine gb_run 2 (pc2 := 30) (ls2 := [(0, .ref (464)), (1, .int (hoops)), (2, .int (m))]) (st2 := [.int (1), .ref (464)]) (M2 := M) hC hqX12_match rfl ?_
  exact c_FM_match_J30 hC hoops m sz d (by omega) R (1 : Int32) M hr
def FM_match (hoops : Int32) (m : Int32) (M : gM) : Option (Int32 × gM) :=
  if (FM_areHoops hoops (g_set M 464 0 (0 : Int32))) = (0 : Int32) then (FM_match_J25 hoops m (g_set M 464 0 (0 : Int32))) else (if (FM_in m (0 : Int32) (999 : Int32)) = (0 : Int32) then (FM_match_J25 hoops m (g_set M 464 0 (0 : Int32))) else (FM_match_J30 hoops m (0 : Int32) (g_set M 464 0 (0 : Int32))))
set_option maxRecDepth 20000 in
theorem c_FM_match {l : Launch} {C : gC} (hC : g_ctx l C) (hoops : Int32) (m : Int32)  (M : gM) (sz d : Nat) (hd : 21 ≤ d) (R : Int32 × gM) (hr : FM_match hoops m M = some R) : gPg l C qX12_match d [.ref (464), .int (hoops), .int (m)] 956 g_S0 M sz (qI R) := by
  refine gPg.of (ls := [(0, .ref (464)), (1, .int (hoops)), (2, .int (m))]) (by decide +kernel) (Nat.le_of_ble_eq_true rfl) rfl ?_
  unfold FM_match at hr
  refine gb_run 6 (pc2 := 8) (ls2 := [(0, .ref (464)), (1, .int (hoops)), (2, .int (m))]) (st2 := [.int (hoops), .ref (464), .ref (464)]) (M2 := g_set M 464 0 (0 : Int32)) hC hqX12_match rfl ?_
  refine gz_cV (z := qX12_areHoops) (a := 464) (av := [.int (hoops)]) (rest := [.ref (464)]) (pl := 1816) hC hqX12_match rfl kX12_areHoops sX12_areHoops (by decide +kernel) (c_FM_areHoops hC hoops  (g_set M 464 0 (0 : Int32)) sz (d - 1) (by omega)) (by omega) ⟨rfl, rfl⟩ rfl (Nat.le_of_ble_eq_true rfl) (Nat.le_of_ble_eq_true rfl) rfl rfl rfl (Nat.le_of_ble_eq_true rfl) ⟨Nat.le_of_ble_eq_true rfl, Nat.le_of_ble_eq_true rfl⟩ (gs_Zp fun z2 => ?_)
  refine gb_if_eq hqX12_match rfl (fun h3 => ?_) (fun h3 => ?_)
  ·
    have hr := g_if1 h3 hr
    exact c_FM_match_J25 hC hoops m sz d (by omega) R (g_set M 464 0 (0 : Int32)) hr
  ·
    have hr := g_if0 h3 hr
    refine gb_run 3 (pc2 := 19) (ls2 := [(0, .ref (464)), (1, .int (hoops)), (2, .int (m))]) (st2 := [.int (999), .int (0), .int (m), .ref (464)]) (M2 := g_set M 464 0 (0 : Int32)) hC hqX12_match rfl ?_
    refine gz_cS (z := qX12_in) (av := [.int (m), .int (0), .int (999)]) (rest := [.ref (464)]) (pl := 1548) hC hqX12_match rfl kX12_in (by decide +kernel) (c_FM_in hC m (0 : Int32) (999 : Int32)  (g_set M 464 0 (0 : Int32)) sz (d - 1) (by omega)) (by omega) ⟨rfl, rfl⟩ rfl rfl (Nat.le_of_ble_eq_true rfl) ⟨Nat.le_of_ble_eq_true rfl, Nat.le_of_ble_eq_true rfl⟩ (gs_Zp fun z5 => ?_)
    refine gb_if_ne hqX12_match rfl (fun h6 => ?_) (fun h6 => ?_)
    ·
      have hr := g_if0 h6 hr
      refine gb_run 1 (pc2 := 30) (ls2 := [(0, .ref (464)), (1, .int (hoops)), (2, .int (m))]) (st2 := [.int (0), .ref (464)]) (M2 := g_set M 464 0 (0 : Int32)) hC hqX12_match rfl ?_
      exact c_FM_match_J30 hC hoops m sz d (by omega) R (0 : Int32) (g_set M 464 0 (0 : Int32)) hr
    ·
      have hr := g_if1 h6 hr
      exact c_FM_match_J25 hC hoops m sz d (by omega) R (g_set M 464 0 (0 : Int32)) hr
def FM_matched_J52 (hoops : Int32) (m : Int32) (h : Int32) (y0 : Int32) (M : gM) : Option (Int32 × gM) :=
  (FM_bad y0 (2 : Int32) (1 : Int32) M).bind fun s1 => if s1.1 = (0 : Int32) then ((FM_matches hoops m (s1.2)).bind fun s4 => g_ix h 8 fun j5 => some (s4 954 j5, s4)) else (some (0, s1.2))
set_option maxRecDepth 20000 in
theorem c_FM_matched_J52 {l : Launch} {C : gC} (hC : g_ctx l C) (hoops : Int32) (m : Int32) (h : Int32) (sz d : Nat) (hd : 21 ≤ d) (R : Int32 × gM) (y0 : Int32) (M : gM) (hr : FM_matched_J52 hoops m h y0 M = some R) : GW l C qX12_matched d (gQg 956 g_S0 (qI R) sz) gN 0 0 52 [(0, .ref (464)), (1, .int (hoops)), (2, .int (m)), (3, .int (h))] [.int (y0), .ref (464)] (956, g_S0, M, sz) := by
  unfold FM_matched_J52 at hr
  refine gb_run 2 (pc2 := 54) (ls2 := [(0, .ref (464)), (1, .int (hoops)), (2, .int (m)), (3, .int (h))]) (st2 := [.int (1), .int (2), .int (y0), .ref (464)]) (M2 := M) hC hqX12_matched rfl ?_
  obtain ⟨s1, es1, hr⟩ := g_bd hr
  refine gz_cV (z := qX12_bad) (a := 464) (av := [.int (y0), .int (2), .int (1)]) (rest := []) (pl := 1551) hC hqX12_matched rfl kX12_bad sX12_bad (by decide +kernel) (c_FM_bad hC y0 (2 : Int32) (1 : Int32)  M sz (d - 1) (by omega) s1 es1) (by omega) ⟨rfl, rfl⟩ rfl (Nat.le_of_ble_eq_true rfl) (Nat.le_of_ble_eq_true rfl) rfl rfl rfl (Nat.le_of_ble_eq_true rfl) ⟨Nat.le_of_ble_eq_true rfl, Nat.le_of_ble_eq_true rfl⟩ (gs_Z fun z2 => ?_)
  refine gb_if_eq hqX12_matched rfl (fun h3 => ?_) (fun h3 => ?_)
  ·
    have hr := g_if1 h3 hr
    refine gb_run 3 (pc2 := 65) (ls2 := [(0, .ref (464)), (1, .int (hoops)), (2, .int (m)), (3, .int (h))]) (st2 := [.int (m), .int (hoops), .ref (464)]) (M2 := s1.2) hC hqX12_matched rfl ?_
    obtain ⟨s4, es4, hr⟩ := g_bd hr
    refine gz_cV (z := qX12_matches) (a := 464) (av := [.int (hoops), .int (m)]) (rest := []) (pl := 1820) hC hqX12_matched rfl kX12_matches sX12_matches (by decide +kernel) (c_FM_matches hC hoops m  (s1.2) sz (d - 1) (by omega) s4 es4) (by omega) ⟨rfl, rfl⟩ rfl (Nat.le_of_ble_eq_true rfl) (Nat.le_of_ble_eq_true rfl) rfl rfl rfl (Nat.le_of_ble_eq_true rfl) ⟨Nat.le_of_ble_eq_true rfl, Nat.le_of_ble_eq_true rfl⟩ (gs_V ?_)
    refine gb_run 3 (pc2 := 73) (ls2 := [(0, .ref (464)), (1, .int (hoops)), (2, .int (m)), (3, .int (h))]) (st2 := [.int (h), .ref (954)]) (M2 := s4) hC hqX12_matched rfl ?_
    obtain ⟨j5, ej5, ij5, lj5, hr⟩ := g_ixo hr
    refine gz_iaload hC hqX12_matched rfl (Nat.le_of_ble_eq_true rfl) rfl ij5 ej5 ?_
    refine gb_iret hqX12_matched rfl rfl (Nat.le_of_ble_eq_true rfl) (Nat.le_of_ble_eq_true rfl) ?_
    exact gl_I hr
  ·
    have hr := g_if0 h3 hr
    refine gb_run 1 (pc2 := 61) (ls2 := [(0, .ref (464)), (1, .int (hoops)), (2, .int (m)), (3, .int (h))]) (st2 := [.int (0)]) (M2 := s1.2) hC hqX12_matched rfl ?_
    refine gb_iret hqX12_matched rfl rfl (Nat.le_of_ble_eq_true rfl) (Nat.le_of_ble_eq_true rfl) ?_
    exact gl_I hr
def FM_matched_J47 (hoops : Int32) (m : Int32) (h : Int32) (M : gM) : Option (Int32 × gM) :=
  FM_matched_J52 hoops m h (1 : Int32) M
set_option maxRecDepth 20000 in
theorem c_FM_matched_J47 {l : Launch} {C : gC} (hC : g_ctx l C) (hoops : Int32) (m : Int32) (h : Int32) (sz d : Nat) (hd : 21 ≤ d) (R : Int32 × gM) (M : gM) (hr : FM_matched_J47 hoops m h M = some R) : GW l C qX12_matched d (gQg 956 g_S0 (qI R) sz) gN 0 0 47 [(0, .ref (464)), (1, .int (hoops)), (2, .int (m)), (3, .int (h))] [.ref (464)] (956, g_S0, M, sz) := by
  unfold FM_matched_J47 at hr
  refine gb_run 2 (pc2 := 52) (ls2 := [(0, .ref (464)), (1, .int (hoops)), (2, .int (m)), (3, .int (h))]) (st2 := [.int (1), .ref (464)]) (M2 := M) hC hqX12_matched rfl ?_
  exact c_FM_matched_J52 hC hoops m h sz d (by omega) R (1 : Int32) M hr
def FM_matched_J19 (hoops : Int32) (m : Int32) (h : Int32) (y0 : Int32) (M : gM) : Option (Int32 × gM) :=
  (FM_bad y0 (1 : Int32) (0 : Int32) M).bind fun s1 => if s1.1 = (0 : Int32) then (if (FM_areHoops hoops (s1.2)) = (0 : Int32) then (FM_matched_J47 hoops m h (s1.2)) else (if (FM_in m (0 : Int32) (999 : Int32)) = (0 : Int32) then (FM_matched_J47 hoops m h (s1.2)) else (FM_matched_J52 hoops m h (0 : Int32) (s1.2)))) else (some (0, s1.2))
set_option maxRecDepth 20000 in
theorem c_FM_matched_J19 {l : Launch} {C : gC} (hC : g_ctx l C) (hoops : Int32) (m : Int32) (h : Int32) (sz d : Nat) (hd : 21 ≤ d) (R : Int32 × gM) (y0 : Int32) (M : gM) (hr : FM_matched_J19 hoops m h y0 M = some R) : GW l C qX12_matched d (gQg 956 g_S0 (qI R) sz) gN 0 0 19 [(0, .ref (464)), (1, .int (hoops)), (2, .int (m)), (3, .int (h))] [.int (y0), .ref (464)] (956, g_S0, M, sz) := by
  unfold FM_matched_J19 at hr
  refine gb_run 2 (pc2 := 21) (ls2 := [(0, .ref (464)), (1, .int (hoops)), (2, .int (m)), (3, .int (h))]) (st2 := [.int (0), .int (1), .int (y0), .ref (464)]) (M2 := M) hC hqX12_matched rfl ?_
  obtain ⟨s1, es1, hr⟩ := g_bd hr
  refine gz_cV (z := qX12_bad) (a := 464) (av := [.int (y0), .int (1), .int (0)]) (rest := []) (pl := 1551) hC hqX12_matched rfl kX12_bad sX12_bad (by decide +kernel) (c_FM_bad hC y0 (1 : Int32) (0 : Int32)  M sz (d - 1) (by omega) s1 es1) (by omega) ⟨rfl, rfl⟩ rfl (Nat.le_of_ble_eq_true rfl) (Nat.le_of_ble_eq_true rfl) rfl rfl rfl (Nat.le_of_ble_eq_true rfl) ⟨Nat.le_of_ble_eq_true rfl, Nat.le_of_ble_eq_true rfl⟩ (gs_Z fun z2 => ?_)
  refine gb_if_ne hqX12_matched rfl (fun h3 => ?_) (fun h3 => ?_)
  ·
    have hr := g_if0 h3 hr
    refine gb_run 1 (pc2 := 61) (ls2 := [(0, .ref (464)), (1, .int (hoops)), (2, .int (m)), (3, .int (h))]) (st2 := [.int (0)]) (M2 := s1.2) hC hqX12_matched rfl ?_
    refine gb_iret hqX12_matched rfl rfl (Nat.le_of_ble_eq_true rfl) (Nat.le_of_ble_eq_true rfl) ?_
    exact gl_I hr
  ·
    have hr := g_if1 h3 hr
    refine gb_run 3 (pc2 := 30) (ls2 := [(0, .ref (464)), (1, .int (hoops)), (2, .int (m)), (3, .int (h))]) (st2 := [.int (hoops), .ref (464), .ref (464)]) (M2 := s1.2) hC hqX12_matched rfl ?_
    refine gz_cV (z := qX12_areHoops) (a := 464) (av := [.int (hoops)]) (rest := [.ref (464)]) (pl := 1816) hC hqX12_matched rfl kX12_areHoops sX12_areHoops (by decide +kernel) (c_FM_areHoops hC hoops  (s1.2) sz (d - 1) (by omega)) (by omega) ⟨rfl, rfl⟩ rfl (Nat.le_of_ble_eq_true rfl) (Nat.le_of_ble_eq_true rfl) rfl rfl rfl (Nat.le_of_ble_eq_true rfl) ⟨Nat.le_of_ble_eq_true rfl, Nat.le_of_ble_eq_true rfl⟩ (gs_Zp fun z5 => ?_)
    refine gb_if_eq hqX12_matched rfl (fun h6 => ?_) (fun h6 => ?_)
    ·
      have hr := g_if1 h6 hr
      exact c_FM_matched_J47 hC hoops m h sz d (by omega) R (s1.2) hr
    ·
      have hr := g_if0 h6 hr
      refine gb_run 3 (pc2 := 41) (ls2 := [(0, .ref (464)), (1, .int (hoops)), (2, .int (m)), (3, .int (h))]) (st2 := [.int (999), .int (0), .int (m), .ref (464)]) (M2 := s1.2) hC hqX12_matched rfl ?_
      refine gz_cS (z := qX12_in) (av := [.int (m), .int (0), .int (999)]) (rest := [.ref (464)]) (pl := 1548) hC hqX12_matched rfl kX12_in (by decide +kernel) (c_FM_in hC m (0 : Int32) (999 : Int32)  (s1.2) sz (d - 1) (by omega)) (by omega) ⟨rfl, rfl⟩ rfl rfl (Nat.le_of_ble_eq_true rfl) ⟨Nat.le_of_ble_eq_true rfl, Nat.le_of_ble_eq_true rfl⟩ (gs_Zp fun z8 => ?_)
      refine gb_if_ne hqX12_matched rfl (fun h9 => ?_) (fun h9 => ?_)
      ·
        have hr := g_if0 h9 hr
        refine gb_run 1 (pc2 := 52) (ls2 := [(0, .ref (464)), (1, .int (hoops)), (2, .int (m)), (3, .int (h))]) (st2 := [.int (0), .ref (464)]) (M2 := s1.2) hC hqX12_matched rfl ?_
        exact c_FM_matched_J52 hC hoops m h sz d (by omega) R (0 : Int32) (s1.2) hr
      ·
        have hr := g_if1 h9 hr
        exact c_FM_matched_J47 hC hoops m h sz d (by omega) R (s1.2) hr
def FM_matched (hoops : Int32) (m : Int32) (h : Int32) (M : gM) : Option (Int32 × gM) :=
  if (FM_isHoop h (g_set M 464 0 (0 : Int32))) = (0 : Int32) then (FM_matched_J19 hoops m h (1 : Int32) (g_set M 464 0 (0 : Int32))) else (FM_matched_J19 hoops m h (0 : Int32) (g_set M 464 0 (0 : Int32)))
set_option maxRecDepth 20000 in
theorem c_FM_matched {l : Launch} {C : gC} (hC : g_ctx l C) (hoops : Int32) (m : Int32) (h : Int32)  (M : gM) (sz d : Nat) (hd : 21 ≤ d) (R : Int32 × gM) (hr : FM_matched hoops m h M = some R) : gPg l C qX12_matched d [.ref (464), .int (hoops), .int (m), .int (h)] 956 g_S0 M sz (qI R) := by
  refine gPg.of (ls := [(0, .ref (464)), (1, .int (hoops)), (2, .int (m)), (3, .int (h))]) (by decide +kernel) (Nat.le_of_ble_eq_true rfl) rfl ?_
  unfold FM_matched at hr
  refine gb_run 6 (pc2 := 8) (ls2 := [(0, .ref (464)), (1, .int (hoops)), (2, .int (m)), (3, .int (h))]) (st2 := [.int (h), .ref (464), .ref (464)]) (M2 := g_set M 464 0 (0 : Int32)) hC hqX12_matched rfl ?_
  refine gz_cV (z := qX12_isHoop) (a := 464) (av := [.int (h)]) (rest := [.ref (464)]) (pl := 1748) hC hqX12_matched rfl kX12_isHoop sX12_isHoop (by decide +kernel) (c_FM_isHoop hC h  (g_set M 464 0 (0 : Int32)) sz (d - 1) (by omega)) (by omega) ⟨rfl, rfl⟩ rfl (Nat.le_of_ble_eq_true rfl) (Nat.le_of_ble_eq_true rfl) rfl rfl rfl (Nat.le_of_ble_eq_true rfl) ⟨Nat.le_of_ble_eq_true rfl, Nat.le_of_ble_eq_true rfl⟩ (gs_Zp fun z2 => ?_)
  refine gb_if_ne hqX12_matched rfl (fun h3 => ?_) (fun h3 => ?_)
  ·
    have hr := g_if0 h3 hr
    refine gb_run 1 (pc2 := 19) (ls2 := [(0, .ref (464)), (1, .int (hoops)), (2, .int (m)), (3, .int (h))]) (st2 := [.int (0), .ref (464)]) (M2 := g_set M 464 0 (0 : Int32)) hC hqX12_matched rfl ?_
    exact c_FM_matched_J19 hC hoops m h sz d (by omega) R (0 : Int32) (g_set M 464 0 (0 : Int32)) hr
  ·
    have hr := g_if1 h3 hr
    refine gb_run 2 (pc2 := 19) (ls2 := [(0, .ref (464)), (1, .int (hoops)), (2, .int (m)), (3, .int (h))]) (st2 := [.int (1), .ref (464)]) (M2 := g_set M 464 0 (0 : Int32)) hC hqX12_matched rfl ?_
    exact c_FM_matched_J19 hC hoops m h sz d (by omega) R (1 : Int32) (g_set M 464 0 (0 : Int32)) hr
def FM_isSung_L2 (c : Int32) (h : Int32) : Nat → Int32 → gM → Option (Int32 × gM)
  | 0, _, _ => none
  | k + 1, x3, M =>
  if (M 464 33) ≤ x3 then (some (1, M)) else (g_ix x3 8 fun j2 => (FM_lastsBy h c (M (830 + j2) 0) (0 : Int32) M).bind fun s3 => g_ix x3 8 fun j4 => if s3.1 = ((s3.2) (830 + j4) 1) then (FM_isSung_L2 c h k (x3 + (1 : Int32)) (s3.2)) else (some (0, s3.2)))
set_option maxRecDepth 20000 in
theorem c_FM_isSung_L2 {l : Launch} {C : gC} (hC : g_ctx l C) (c : Int32) (h : Int32) (sz d : Nat) (hd : 6 ≤ d) (R : Int32 × gM) : ∀ (k : Nat) (x3 : Int32) (M : gM), FM_isSung_L2 c h k x3 M = some R → GW l C qX12_isSung d (gQg 956 g_S0 (qZ R) sz) gN 0 0 2 [(0, .ref (464)), (1, .int (c)), (2, .int (h)), (3, .int (x3))] [] (956, g_S0, M, sz) := by
  intro k
  induction k with
  | zero => intro x3 M hr; exact nomatch (show (none : Option (Int32 × gM)) = some R from hr)
  | succ k ih =>
    intro x3 M hr
    unfold FM_isSung_L2 at hr
    refine gb_run 3 (pc2 := 7) (ls2 := [(0, .ref (464)), (1, .int (c)), (2, .int (h)), (3, .int (x3))]) (st2 := [.int (M 464 33), .int (x3)]) (M2 := M) hC hqX12_isSung rfl ?_
    refine gb_icmp_ge hqX12_isSung rfl (fun h1 => ?_) (fun h1 => ?_)
    ·
      have hr := g_if1 h1 hr
      refine gb_run 1 (pc2 := 45) (ls2 := [(0, .ref (464)), (1, .int (c)), (2, .int (h)), (3, .int (x3))]) (st2 := [.int (1)]) (M2 := M) hC hqX12_isSung rfl ?_
      refine gb_zret hqX12_isSung rfl rfl (Nat.le_of_ble_eq_true rfl) (Nat.le_of_ble_eq_true rfl) (Or.inr rfl) ?_
      exact gl_Z (Or.inr rfl) hr
    ·
      have hr := g_if0 h1 hr
      refine gb_run 6 (pc2 := 18) (ls2 := [(0, .ref (464)), (1, .int (c)), (2, .int (h)), (3, .int (x3))]) (st2 := [.int (x3), .ref (829), .int (c), .int (h), .ref (464)]) (M2 := M) hC hqX12_isSung rfl ?_
      obtain ⟨j2, ej2, ij2, lj2, hr⟩ := g_ixo hr
      have tj2 := g_t829 j2 lj2
      refine gz_aaload (k0 := 2) (q := 830 + j2) hC hqX12_isSung rfl (Nat.le_of_ble_eq_true rfl) rfl (Nat.le_of_ble_eq_true rfl) ij2 ej2 tj2.1 ?_
      refine gb_run 1 (pc2 := 20) (ls2 := [(0, .ref (464)), (1, .int (c)), (2, .int (h)), (3, .int (x3))]) (st2 := [.int (0), .ref (830 + j2), .int (c), .int (h), .ref (464)]) (M2 := M) hC hqX12_isSung rfl ?_
      refine gb_iaload hC hqX12_isSung rfl tj2.2.1 (g_S3 tj2.2.2.1 tj2.2.2.2) (by unfold vp_in; decide) ?_
      rw [show (0 : Int32).toNatClampNeg = 0 from rfl]
      refine gb_run 1 (pc2 := 22) (ls2 := [(0, .ref (464)), (1, .int (c)), (2, .int (h)), (3, .int (x3))]) (st2 := [.int (0), .int (M (830 + j2) 0), .int (c), .int (h), .ref (464)]) (M2 := M) hC hqX12_isSung rfl ?_
      obtain ⟨s3, es3, hr⟩ := g_bd hr
      refine gz_cV (z := qX12_lastsBy) (a := 464) (av := [.int (h), .int (c), .int (M (830 + j2) 0), .int (0)]) (rest := []) (pl := 1768) hC hqX12_isSung rfl kX12_lastsBy sX12_lastsBy (by decide +kernel) (c_FM_lastsBy hC h c (M (830 + j2) 0) (0 : Int32)  M sz (d - 1) (by omega) s3 es3) (by omega) ⟨rfl, rfl⟩ rfl (Nat.le_of_ble_eq_true rfl) (Nat.le_of_ble_eq_true rfl) rfl rfl rfl (Nat.le_of_ble_eq_true rfl) ⟨Nat.le_of_ble_eq_true rfl, Nat.le_of_ble_eq_true rfl⟩ (gs_I ?_)
      refine gb_run 3 (pc2 := 30) (ls2 := [(0, .ref (464)), (1, .int (c)), (2, .int (h)), (3, .int (x3))]) (st2 := [.int (x3), .ref (829), .int (s3.1)]) (M2 := s3.2) hC hqX12_isSung rfl ?_
      obtain ⟨j4, ej4, ij4, lj4, hr⟩ := g_ixo hr
      have tj4 := g_t829 j4 lj4
      refine gz_aaload (k0 := 2) (q := 830 + j4) hC hqX12_isSung rfl (Nat.le_of_ble_eq_true rfl) rfl (Nat.le_of_ble_eq_true rfl) ij4 ej4 tj4.1 ?_
      refine gb_run 1 (pc2 := 32) (ls2 := [(0, .ref (464)), (1, .int (c)), (2, .int (h)), (3, .int (x3))]) (st2 := [.int (1), .ref (830 + j4), .int (s3.1)]) (M2 := s3.2) hC hqX12_isSung rfl ?_
      refine gb_iaload hC hqX12_isSung rfl tj4.2.1 (g_S3 tj4.2.2.1 tj4.2.2.2) (by unfold vp_in; decide) ?_
      rw [show (1 : Int32).toNatClampNeg = 1 from rfl]
      refine gb_icmp_eq hqX12_isSung rfl (fun h5 => ?_) (fun h5 => ?_)
      ·
        have hr := g_if1 h5 hr
        refine gb_run 2 (pc2 := 2) (ls2 := [(3, .int (x3 + (1 : Int32))), (0, .ref (464)), (1, .int (c)), (2, .int (h))]) (st2 := []) (M2 := s3.2) hC hqX12_isSung rfl ?_
        refine gw_pick [1, 2, 3, 0] (ls2 := [(0, .ref (464)), (1, .int (c)), (2, .int (h)), (3, .int (x3 + (1 : Int32)))]) rfl ?_
        exact ih (x3 + (1 : Int32)) (s3.2) hr
      ·
        have hr := g_if0 h5 hr
        refine gb_run 1 (pc2 := 37) (ls2 := [(0, .ref (464)), (1, .int (c)), (2, .int (h)), (3, .int (x3))]) (st2 := [.int (0)]) (M2 := s3.2) hC hqX12_isSung rfl ?_
        refine gb_zret hqX12_isSung rfl rfl (Nat.le_of_ble_eq_true rfl) (Nat.le_of_ble_eq_true rfl) (Or.inl rfl) ?_
        exact gl_Z (Or.inl rfl) hr
def FM_isSung (c : Int32) (h : Int32) (M : gM) : Option (Int32 × gM) :=
  FM_isSung_L2 c h 1000 (0 : Int32) M
set_option maxRecDepth 20000 in
theorem c_FM_isSung {l : Launch} {C : gC} (hC : g_ctx l C) (c : Int32) (h : Int32)  (M : gM) (sz d : Nat) (hd : 6 ≤ d) (R : Int32 × gM) (hr : FM_isSung c h M = some R) : gPg l C qX12_isSung d [.ref (464), .int (c), .int (h)] 956 g_S0 M sz (qZ R) := by
  refine gPg.of (ls := [(0, .ref (464)), (1, .int (c)), (2, .int (h))]) (by decide +kernel) (Nat.le_of_ble_eq_true rfl) rfl ?_
  unfold FM_isSung at hr
  refine gb_run 2 (pc2 := 2) (ls2 := [(3, .int (0)), (0, .ref (464)), (1, .int (c)), (2, .int (h))]) (st2 := []) (M2 := M) hC hqX12_isSung rfl ?_
  refine gw_pick [1, 2, 3, 0] (ls2 := [(0, .ref (464)), (1, .int (c)), (2, .int (h)), (3, .int (0))]) rfl ?_
  exact c_FM_isSung_L2 hC c h sz d (by omega) R 1000 (0 : Int32) M hr
def FM_fits_L51 (what : Int32) (c37 : Int32 → Int32 → Int32 → gM → Option (Int32 × gM)) : Nat → Int32 → Int32 → Int32 → Int32 → gM → Option (Int32 × gM)
  | 0, _, _, _, _, _ => none
  | k + 1, x2, x3, x4, x5, M =>
  if (M 468 2) ≤ x5 then (c37 x2 x3 (x4 + (1 : Int32)) M) else ((FM_isSung x4 x5 M).bind fun s2 => if s2.1 = (0 : Int32) then (FM_fits_L51 what c37 k x2 x3 x4 (x5 + (1 : Int32)) (s2.2)) else (if x2 = (0 : Int32) then (FM_fits_L51 what c37 k (x2 + (1 : Int32)) (((10 : Int32) * x4) + x5) x4 (x5 + (1 : Int32)) (s2.2)) else (FM_fits_L51 what c37 k (x2 + (1 : Int32)) x3 x4 (x5 + (1 : Int32)) (s2.2))))
set_option maxRecDepth 20000 in
theorem c_FM_fits_L51 {l : Launch} {C : gC} (hC : g_ctx l C) (what : Int32) (sz d : Nat) (hd : 7 ≤ d) (R : Int32 × gM) (c37 : Int32 → Int32 → Int32 → gM → Option (Int32 × gM)) (hc37 : ∀ (x2 : Int32) (x3 : Int32) (x4 : Int32) (M : gM), c37 x2 x3 x4 M = some R → GW l C qX12_fits d (gQg 956 g_S0 (qI R) sz) gN 0 0 37 [(0, .ref (464)), (1, .int (what)), (2, .int (x2)), (3, .int (x3)), (4, .int (x4))] [] (956, g_S0, M, sz)) : ∀ (k : Nat) (x2 : Int32) (x3 : Int32) (x4 : Int32) (x5 : Int32) (M : gM), FM_fits_L51 what c37 k x2 x3 x4 x5 M = some R → GW l C qX12_fits d (gQg 956 g_S0 (qI R) sz) gN 0 0 51 [(0, .ref (464)), (1, .int (what)), (2, .int (x2)), (3, .int (x3)), (4, .int (x4)), (5, .int (x5))] [] (956, g_S0, M, sz) := by
  intro k
  induction k with
  | zero => intro x2 x3 x4 x5 M hr; exact nomatch (show (none : Option (Int32 × gM)) = some R from hr)
  | succ k ih =>
    intro x2 x3 x4 x5 M hr
    unfold FM_fits_L51 at hr
    refine gb_run 4 (pc2 := 58) (ls2 := [(0, .ref (464)), (1, .int (what)), (2, .int (x2)), (3, .int (x3)), (4, .int (x4)), (5, .int (x5))]) (st2 := [.int (2), .ref (468), .int (x5)]) (M2 := M) hC hqX12_fits rfl ?_
    refine gb_iaload hC hqX12_fits rfl (Nat.le_of_ble_eq_true rfl) rfl (by unfold vp_in; decide) ?_
    rw [show (2 : Int32).toNatClampNeg = 2 from rfl]
    refine gb_icmp_ge hqX12_fits rfl (fun h1 => ?_) (fun h1 => ?_)
    ·
      have hr := g_if1 h1 hr
      refine gb_run 2 (pc2 := 37) (ls2 := [(4, .int (x4 + (1 : Int32))), (0, .ref (464)), (1, .int (what)), (2, .int (x2)), (3, .int (x3)), (5, .int (x5))]) (st2 := []) (M2 := M) hC hqX12_fits rfl ?_
      refine gw_pick [1, 2, 3, 4, 0] (ls2 := [(0, .ref (464)), (1, .int (what)), (2, .int (x2)), (3, .int (x3)), (4, .int (x4 + (1 : Int32)))]) rfl ?_
      exact hc37 x2 x3 (x4 + (1 : Int32)) M hr
    ·
      have hr := g_if0 h1 hr
      refine gb_run 3 (pc2 := 67) (ls2 := [(0, .ref (464)), (1, .int (what)), (2, .int (x2)), (3, .int (x3)), (4, .int (x4)), (5, .int (x5))]) (st2 := [.int (x5), .int (x4), .ref (464)]) (M2 := M) hC hqX12_fits rfl ?_
      obtain ⟨s2, es2, hr⟩ := g_bd hr
      refine gz_cV (z := qX12_isSung) (a := 464) (av := [.int (x4), .int (x5)]) (rest := []) (pl := 1839) hC hqX12_fits rfl kX12_isSung sX12_isSung (by decide +kernel) (c_FM_isSung hC x4 x5  M sz (d - 1) (by omega) s2 es2) (by omega) ⟨rfl, rfl⟩ rfl (Nat.le_of_ble_eq_true rfl) (Nat.le_of_ble_eq_true rfl) rfl rfl rfl (Nat.le_of_ble_eq_true rfl) ⟨Nat.le_of_ble_eq_true rfl, Nat.le_of_ble_eq_true rfl⟩ (gs_Z fun z3 => ?_)
      refine gb_if_ne hqX12_fits rfl (fun h4 => ?_) (fun h4 => ?_)
      ·
        have hr := g_if0 h4 hr
        refine gb_run 1 (pc2 := 77) (ls2 := [(0, .ref (464)), (1, .int (what)), (2, .int (x2)), (3, .int (x3)), (4, .int (x4)), (5, .int (x5))]) (st2 := [.int (x2)]) (M2 := s2.2) hC hqX12_fits rfl ?_
        refine gb_if_ne hqX12_fits rfl (fun h5 => ?_) (fun h5 => ?_)
        ·
          have hr := g_if0 h5 hr
          refine gb_run 5 (pc2 := 51) (ls2 := [(5, .int (x5 + (1 : Int32))), (2, .int (x2 + (1 : Int32))), (3, .int (x3)), (0, .ref (464)), (1, .int (what)), (4, .int (x4))]) (st2 := []) (M2 := s2.2) hC hqX12_fits rfl ?_
          refine gw_pick [3, 4, 1, 2, 5, 0] (ls2 := [(0, .ref (464)), (1, .int (what)), (2, .int (x2 + (1 : Int32))), (3, .int (x3)), (4, .int (x4)), (5, .int (x5 + (1 : Int32)))]) rfl ?_
          exact ih (x2 + (1 : Int32)) x3 x4 (x5 + (1 : Int32)) (s2.2) hr
        ·
          have hr := g_if1 h5 hr
          refine gb_run 10 (pc2 := 51) (ls2 := [(5, .int (x5 + (1 : Int32))), (2, .int (x2 + (1 : Int32))), (3, .int (((10 : Int32) * x4) + x5)), (0, .ref (464)), (1, .int (what)), (4, .int (x4))]) (st2 := []) (M2 := s2.2) hC hqX12_fits rfl ?_
          refine gw_pick [3, 4, 1, 2, 5, 0] (ls2 := [(0, .ref (464)), (1, .int (what)), (2, .int (x2 + (1 : Int32))), (3, .int (((10 : Int32) * x4) + x5)), (4, .int (x4)), (5, .int (x5 + (1 : Int32)))]) rfl ?_
          exact ih (x2 + (1 : Int32)) (((10 : Int32) * x4) + x5) x4 (x5 + (1 : Int32)) (s2.2) hr
      ·
        have hr := g_if1 h4 hr
        refine gb_run 3 (pc2 := 51) (ls2 := [(5, .int (x5 + (1 : Int32))), (0, .ref (464)), (1, .int (what)), (2, .int (x2)), (3, .int (x3)), (4, .int (x4))]) (st2 := []) (M2 := s2.2) hC hqX12_fits rfl ?_
        refine gw_pick [1, 2, 3, 4, 5, 0] (ls2 := [(0, .ref (464)), (1, .int (what)), (2, .int (x2)), (3, .int (x3)), (4, .int (x4)), (5, .int (x5 + (1 : Int32)))]) rfl ?_
        exact ih x2 x3 x4 (x5 + (1 : Int32)) (s2.2) hr
def FM_fits_L37 (what : Int32) : Nat → Int32 → Int32 → Int32 → gM → Option (Int32 × gM)
  | 0, _, _, _, _ => none
  | k + 1, x2, x3, x4, M =>
  if (M 468 1) ≤ x4 then (if what = (0 : Int32) then (some (x2, M)) else (some (x3, M))) else (FM_fits_L51 what (FM_fits_L37 what k) 1000 x2 x3 x4 (0 : Int32) M)
set_option maxRecDepth 20000 in
theorem c_FM_fits_L37 {l : Launch} {C : gC} (hC : g_ctx l C) (what : Int32) (sz d : Nat) (hd : 7 ≤ d) (R : Int32 × gM) : ∀ (k : Nat) (x2 : Int32) (x3 : Int32) (x4 : Int32) (M : gM), FM_fits_L37 what k x2 x3 x4 M = some R → GW l C qX12_fits d (gQg 956 g_S0 (qI R) sz) gN 0 0 37 [(0, .ref (464)), (1, .int (what)), (2, .int (x2)), (3, .int (x3)), (4, .int (x4))] [] (956, g_S0, M, sz) := by
  intro k
  induction k with
  | zero => intro x2 x3 x4 M hr; exact nomatch (show (none : Option (Int32 × gM)) = some R from hr)
  | succ k ih =>
    intro x2 x3 x4 M hr
    unfold FM_fits_L37 at hr
    refine gb_run 4 (pc2 := 44) (ls2 := [(0, .ref (464)), (1, .int (what)), (2, .int (x2)), (3, .int (x3)), (4, .int (x4))]) (st2 := [.int (1), .ref (468), .int (x4)]) (M2 := M) hC hqX12_fits rfl ?_
    refine gb_iaload hC hqX12_fits rfl (Nat.le_of_ble_eq_true rfl) rfl (by unfold vp_in; decide) ?_
    rw [show (1 : Int32).toNatClampNeg = 1 from rfl]
    refine gb_icmp_ge hqX12_fits rfl (fun h1 => ?_) (fun h1 => ?_)
    ·
      have hr := g_if1 h1 hr
      refine gb_run 1 (pc2 := 109) (ls2 := [(0, .ref (464)), (1, .int (what)), (2, .int (x2)), (3, .int (x3)), (4, .int (x4))]) (st2 := [.int (what)]) (M2 := M) hC hqX12_fits rfl ?_
      refine gb_if_ne hqX12_fits rfl (fun h2 => ?_) (fun h2 => ?_)
      ·
        have hr := g_if0 h2 hr
        refine gb_run 1 (pc2 := 117) (ls2 := [(0, .ref (464)), (1, .int (what)), (2, .int (x2)), (3, .int (x3)), (4, .int (x4))]) (st2 := [.int (x3)]) (M2 := M) hC hqX12_fits rfl ?_
        refine gb_iret hqX12_fits rfl rfl (Nat.le_of_ble_eq_true rfl) (Nat.le_of_ble_eq_true rfl) ?_
        exact gl_I hr
      ·
        have hr := g_if1 h2 hr
        refine gb_run 2 (pc2 := 117) (ls2 := [(0, .ref (464)), (1, .int (what)), (2, .int (x2)), (3, .int (x3)), (4, .int (x4))]) (st2 := [.int (x2)]) (M2 := M) hC hqX12_fits rfl ?_
        refine gb_iret hqX12_fits rfl rfl (Nat.le_of_ble_eq_true rfl) (Nat.le_of_ble_eq_true rfl) ?_
        exact gl_I hr
    ·
      have hr := g_if0 h1 hr
      refine gb_run 2 (pc2 := 51) (ls2 := [(5, .int (0)), (0, .ref (464)), (1, .int (what)), (2, .int (x2)), (3, .int (x3)), (4, .int (x4))]) (st2 := []) (M2 := M) hC hqX12_fits rfl ?_
      refine gw_pick [1, 2, 3, 4, 5, 0] (ls2 := [(0, .ref (464)), (1, .int (what)), (2, .int (x2)), (3, .int (x3)), (4, .int (x4)), (5, .int (0))]) rfl ?_
      exact c_FM_fits_L51 hC what sz d (by omega) R (FM_fits_L37 what k) ih 1000 x2 x3 x4 (0 : Int32) M hr
def FM_fits_J20 (what : Int32) (y0 : Int32) (M : gM) : Option (Int32 × gM) :=
  (FM_bad y0 (1 : Int32) (1 : Int32) M).bind fun s1 => if s1.1 = (0 : Int32) then (FM_fits_L37 what 1000 (0 : Int32) (-1 : Int32) (0 : Int32) (s1.2)) else (some (0, s1.2))
set_option maxRecDepth 20000 in
theorem c_FM_fits_J20 {l : Launch} {C : gC} (hC : g_ctx l C) (what : Int32) (sz d : Nat) (hd : 7 ≤ d) (R : Int32 × gM) (y0 : Int32) (M : gM) (hr : FM_fits_J20 what y0 M = some R) : GW l C qX12_fits d (gQg 956 g_S0 (qI R) sz) gN 0 0 20 [(0, .ref (464)), (1, .int (what))] [.int (y0), .ref (464)] (956, g_S0, M, sz) := by
  unfold FM_fits_J20 at hr
  refine gb_run 2 (pc2 := 22) (ls2 := [(0, .ref (464)), (1, .int (what))]) (st2 := [.int (1), .int (1), .int (y0), .ref (464)]) (M2 := M) hC hqX12_fits rfl ?_
  obtain ⟨s1, es1, hr⟩ := g_bd hr
  refine gz_cV (z := qX12_bad) (a := 464) (av := [.int (y0), .int (1), .int (1)]) (rest := []) (pl := 1551) hC hqX12_fits rfl kX12_bad sX12_bad (by decide +kernel) (c_FM_bad hC y0 (1 : Int32) (1 : Int32)  M sz (d - 1) (by omega) s1 es1) (by omega) ⟨rfl, rfl⟩ rfl (Nat.le_of_ble_eq_true rfl) (Nat.le_of_ble_eq_true rfl) rfl rfl rfl (Nat.le_of_ble_eq_true rfl) ⟨Nat.le_of_ble_eq_true rfl, Nat.le_of_ble_eq_true rfl⟩ (gs_Z fun z2 => ?_)
  refine gb_if_eq hqX12_fits rfl (fun h3 => ?_) (fun h3 => ?_)
  ·
    have hr := g_if1 h3 hr
    refine gb_run 6 (pc2 := 37) (ls2 := [(4, .int (0)), (3, .int (-1)), (2, .int (0)), (0, .ref (464)), (1, .int (what))]) (st2 := []) (M2 := s1.2) hC hqX12_fits rfl ?_
    refine gw_pick [3, 4, 2, 1, 0] (ls2 := [(0, .ref (464)), (1, .int (what)), (2, .int (0)), (3, .int (-1)), (4, .int (0))]) rfl ?_
    exact c_FM_fits_L37 hC what sz d (by omega) R 1000 (0 : Int32) (-1 : Int32) (0 : Int32) (s1.2) hr
  ·
    have hr := g_if0 h3 hr
    refine gb_run 1 (pc2 := 29) (ls2 := [(0, .ref (464)), (1, .int (what))]) (st2 := [.int (0)]) (M2 := s1.2) hC hqX12_fits rfl ?_
    refine gb_iret hqX12_fits rfl rfl (Nat.le_of_ble_eq_true rfl) (Nat.le_of_ble_eq_true rfl) ?_
    exact gl_I hr
def FM_fits (what : Int32) (M : gM) : Option (Int32 × gM) :=
  if (FM_in what (0 : Int32) (1 : Int32)) = (0 : Int32) then (FM_fits_J20 what (1 : Int32) (g_set M 464 0 (0 : Int32))) else (FM_fits_J20 what (0 : Int32) (g_set M 464 0 (0 : Int32)))
set_option maxRecDepth 20000 in
theorem c_FM_fits {l : Launch} {C : gC} (hC : g_ctx l C) (what : Int32)  (M : gM) (sz d : Nat) (hd : 7 ≤ d) (R : Int32 × gM) (hr : FM_fits what M = some R) : gPg l C qX12_fits d [.ref (464), .int (what)] 956 g_S0 M sz (qI R) := by
  refine gPg.of (ls := [(0, .ref (464)), (1, .int (what))]) (by decide +kernel) (Nat.le_of_ble_eq_true rfl) rfl ?_
  unfold FM_fits at hr
  refine gb_run 7 (pc2 := 9) (ls2 := [(0, .ref (464)), (1, .int (what))]) (st2 := [.int (1), .int (0), .int (what), .ref (464)]) (M2 := g_set M 464 0 (0 : Int32)) hC hqX12_fits rfl ?_
  refine gz_cS (z := qX12_in) (av := [.int (what), .int (0), .int (1)]) (rest := [.ref (464)]) (pl := 1548) hC hqX12_fits rfl kX12_in (by decide +kernel) (c_FM_in hC what (0 : Int32) (1 : Int32)  (g_set M 464 0 (0 : Int32)) sz (d - 1) (by omega)) (by omega) ⟨rfl, rfl⟩ rfl rfl (Nat.le_of_ble_eq_true rfl) ⟨Nat.le_of_ble_eq_true rfl, Nat.le_of_ble_eq_true rfl⟩ (gs_Zp fun z2 => ?_)
  refine gb_if_ne hqX12_fits rfl (fun h3 => ?_) (fun h3 => ?_)
  ·
    have hr := g_if0 h3 hr
    refine gb_run 1 (pc2 := 20) (ls2 := [(0, .ref (464)), (1, .int (what))]) (st2 := [.int (0), .ref (464)]) (M2 := g_set M 464 0 (0 : Int32)) hC hqX12_fits rfl ?_
    exact c_FM_fits_J20 hC what sz d (by omega) R (0 : Int32) (g_set M 464 0 (0 : Int32)) hr
  ·
    have hr := g_if1 h3 hr
    refine gb_run 2 (pc2 := 20) (ls2 := [(0, .ref (464)), (1, .int (what))]) (st2 := [.int (1), .ref (464)]) (M2 := g_set M 464 0 (0 : Int32)) hC hqX12_fits rfl ?_
    exact c_FM_fits_J20 hC what sz d (by omega) R (1 : Int32) (g_set M 464 0 (0 : Int32)) hr
def FM_worstAt_L92 (g : Int32) : Nat → Int32 → Int32 → gM → Option (Int32 × gM)
  | 0, _, _, _ => none
  | k + 1, x2, x3, M =>
  if (800 : Int32) ≤ x3 then (some (x2, M)) else (g_ix x3 800 fun j2 => FM_worstAt_L92 g k (FM_more x2 (M 955 j2)) (x3 + (1 : Int32)) M)
set_option maxRecDepth 20000 in
theorem c_FM_worstAt_L92 {l : Launch} {C : gC} (hC : g_ctx l C) (g : Int32) (sz d : Nat) (hd : 7 ≤ d) (R : Int32 × gM) : ∀ (k : Nat) (x2 : Int32) (x3 : Int32) (M : gM), FM_worstAt_L92 g k x2 x3 M = some R → GW l C qX12_worstAt d (gQg 956 g_S0 (qI R) sz) gN 0 0 92 [(0, .ref (464)), (2, .int (x2)), (3, .int (x3))] [] (956, g_S0, M, sz) := by
  intro k
  induction k with
  | zero => intro x2 x3 M hr; exact nomatch (show (none : Option (Int32 × gM)) = some R from hr)
  | succ k ih =>
    intro x2 x3 M hr
    unfold FM_worstAt_L92 at hr
    refine gb_run 2 (pc2 := 96) (ls2 := [(0, .ref (464)), (2, .int (x2)), (3, .int (x3))]) (st2 := [.int (800), .int (x3)]) (M2 := M) hC hqX12_worstAt rfl ?_
    refine gb_icmp_ge hqX12_worstAt rfl (fun h1 => ?_) (fun h1 => ?_)
    ·
      have hr := g_if1 h1 hr
      refine gb_run 1 (pc2 := 117) (ls2 := [(0, .ref (464)), (2, .int (x2)), (3, .int (x3))]) (st2 := [.int (x2)]) (M2 := M) hC hqX12_worstAt rfl ?_
      refine gb_iret hqX12_worstAt rfl rfl (Nat.le_of_ble_eq_true rfl) (Nat.le_of_ble_eq_true rfl) ?_
      exact gl_I hr
    ·
      have hr := g_if0 h1 hr
      refine gb_run 4 (pc2 := 105) (ls2 := [(0, .ref (464)), (2, .int (x2)), (3, .int (x3))]) (st2 := [.int (x3), .ref (955), .int (x2)]) (M2 := M) hC hqX12_worstAt rfl ?_
      obtain ⟨j2, ej2, ij2, lj2, hr⟩ := g_ixo hr
      refine gz_iaload hC hqX12_worstAt rfl (Nat.le_of_ble_eq_true rfl) rfl ij2 ej2 ?_
      refine gz_cS (z := qX12_more) (av := [.int (x2), .int (M 955 j2)]) (rest := []) (pl := 1703) hC hqX12_worstAt rfl kX12_more (by decide +kernel) (c_FM_more hC x2 (M 955 j2)  M sz (d - 1) (by omega)) (by omega) ⟨rfl, rfl⟩ rfl rfl (Nat.le_of_ble_eq_true rfl) ⟨Nat.le_of_ble_eq_true rfl, Nat.le_of_ble_eq_true rfl⟩ (gs_Ip ?_)
      refine gb_run 3 (pc2 := 92) (ls2 := [(3, .int (x3 + (1 : Int32))), (2, .int (FM_more x2 (M 955 j2))), (0, .ref (464))]) (st2 := []) (M2 := M) hC hqX12_worstAt rfl ?_
      refine gw_pick [2, 1, 0] (ls2 := [(0, .ref (464)), (2, .int (FM_more x2 (M 955 j2))), (3, .int (x3 + (1 : Int32)))]) rfl ?_
      exact ih (FM_more x2 (M 955 j2)) (x3 + (1 : Int32)) M hr
def FM_worstAt_L39 (g : Int32) (c26 : Int32 → Int32 → gM → Option (Int32 × gM)) : Nat → Int32 → Int32 → Int32 → gM → Option (Int32 × gM)
  | 0, _, _, _, _ => none
  | k + 1, x2, x3, x4, M =>
  if (M 468 2) ≤ x4 then (c26 x2 (x3 + (1 : Int32)) M) else ((FM_isSung x3 x4 M).bind fun s2 => if s2.1 = (0 : Int32) then (FM_worstAt_L39 g c26 k x2 x3 (x4 + (1 : Int32)) (s2.2)) else ((FM_lastsBy x4 x3 g (0 : Int32) (s2.2)).bind fun s5 => g_ix s5.1 800 fun j6 => g_ix s5.1 800 fun j7 => g_let (g_set (s5.2) 955 j7 (((s5.2) 955 j6) + (1 : Int32))) fun M8 => FM_worstAt_L39 g c26 k x2 x3 (x4 + (1 : Int32)) M8))
set_option maxRecDepth 20000 in
theorem c_FM_worstAt_L39 {l : Launch} {C : gC} (hC : g_ctx l C) (g : Int32) (sz d : Nat) (hd : 7 ≤ d) (R : Int32 × gM) (c26 : Int32 → Int32 → gM → Option (Int32 × gM)) (hc26 : ∀ (x2 : Int32) (x3 : Int32) (M : gM), c26 x2 x3 M = some R → GW l C qX12_worstAt d (gQg 956 g_S0 (qI R) sz) gN 0 0 26 [(0, .ref (464)), (1, .int (g)), (2, .int (x2)), (3, .int (x3))] [] (956, g_S0, M, sz)) : ∀ (k : Nat) (x2 : Int32) (x3 : Int32) (x4 : Int32) (M : gM), FM_worstAt_L39 g c26 k x2 x3 x4 M = some R → GW l C qX12_worstAt d (gQg 956 g_S0 (qI R) sz) gN 0 0 39 [(0, .ref (464)), (1, .int (g)), (2, .int (x2)), (3, .int (x3)), (4, .int (x4))] [] (956, g_S0, M, sz) := by
  intro k
  induction k with
  | zero => intro x2 x3 x4 M hr; exact nomatch (show (none : Option (Int32 × gM)) = some R from hr)
  | succ k ih =>
    intro x2 x3 x4 M hr
    unfold FM_worstAt_L39 at hr
    refine gb_run 4 (pc2 := 46) (ls2 := [(0, .ref (464)), (1, .int (g)), (2, .int (x2)), (3, .int (x3)), (4, .int (x4))]) (st2 := [.int (2), .ref (468), .int (x4)]) (M2 := M) hC hqX12_worstAt rfl ?_
    refine gb_iaload hC hqX12_worstAt rfl (Nat.le_of_ble_eq_true rfl) rfl (by unfold vp_in; decide) ?_
    rw [show (2 : Int32).toNatClampNeg = 2 from rfl]
    refine gb_icmp_ge hqX12_worstAt rfl (fun h1 => ?_) (fun h1 => ?_)
    ·
      have hr := g_if1 h1 hr
      refine gb_run 2 (pc2 := 26) (ls2 := [(3, .int (x3 + (1 : Int32))), (0, .ref (464)), (1, .int (g)), (2, .int (x2)), (4, .int (x4))]) (st2 := []) (M2 := M) hC hqX12_worstAt rfl ?_
      refine gw_pick [1, 2, 3, 0] (ls2 := [(0, .ref (464)), (1, .int (g)), (2, .int (x2)), (3, .int (x3 + (1 : Int32)))]) rfl ?_
      exact hc26 x2 (x3 + (1 : Int32)) M hr
    ·
      have hr := g_if0 h1 hr
      refine gb_run 3 (pc2 := 54) (ls2 := [(0, .ref (464)), (1, .int (g)), (2, .int (x2)), (3, .int (x3)), (4, .int (x4))]) (st2 := [.int (x4), .int (x3), .ref (464)]) (M2 := M) hC hqX12_worstAt rfl ?_
      obtain ⟨s2, es2, hr⟩ := g_bd hr
      refine gz_cV (z := qX12_isSung) (a := 464) (av := [.int (x3), .int (x4)]) (rest := []) (pl := 1839) hC hqX12_worstAt rfl kX12_isSung sX12_isSung (by decide +kernel) (c_FM_isSung hC x3 x4  M sz (d - 1) (by omega) s2 es2) (by omega) ⟨rfl, rfl⟩ rfl (Nat.le_of_ble_eq_true rfl) (Nat.le_of_ble_eq_true rfl) rfl rfl rfl (Nat.le_of_ble_eq_true rfl) ⟨Nat.le_of_ble_eq_true rfl, Nat.le_of_ble_eq_true rfl⟩ (gs_Z fun z3 => ?_)
      refine gb_if_eq hqX12_worstAt rfl (fun h4 => ?_) (fun h4 => ?_)
      ·
        have hr := g_if1 h4 hr
        refine gb_run 2 (pc2 := 39) (ls2 := [(4, .int (x4 + (1 : Int32))), (0, .ref (464)), (1, .int (g)), (2, .int (x2)), (3, .int (x3))]) (st2 := []) (M2 := s2.2) hC hqX12_worstAt rfl ?_
        refine gw_pick [1, 2, 3, 4, 0] (ls2 := [(0, .ref (464)), (1, .int (g)), (2, .int (x2)), (3, .int (x3)), (4, .int (x4 + (1 : Int32)))]) rfl ?_
        exact ih x2 x3 (x4 + (1 : Int32)) (s2.2) hr
      ·
        have hr := g_if0 h4 hr
        refine gb_run 7 (pc2 := 70) (ls2 := [(0, .ref (464)), (1, .int (g)), (2, .int (x2)), (3, .int (x3)), (4, .int (x4))]) (st2 := [.int (0), .int (g), .int (x3), .int (x4), .ref (464), .ref (955)]) (M2 := s2.2) hC hqX12_worstAt rfl ?_
        obtain ⟨s5, es5, hr⟩ := g_bd hr
        refine gz_cV (z := qX12_lastsBy) (a := 464) (av := [.int (x4), .int (x3), .int (g), .int (0)]) (rest := [.ref (955)]) (pl := 1768) hC hqX12_worstAt rfl kX12_lastsBy sX12_lastsBy (by decide +kernel) (c_FM_lastsBy hC x4 x3 g (0 : Int32)  (s2.2) sz (d - 1) (by omega) s5 es5) (by omega) ⟨rfl, rfl⟩ rfl (Nat.le_of_ble_eq_true rfl) (Nat.le_of_ble_eq_true rfl) rfl rfl rfl (Nat.le_of_ble_eq_true rfl) ⟨Nat.le_of_ble_eq_true rfl, Nat.le_of_ble_eq_true rfl⟩ (gs_I ?_)
        refine gb_run 1 (pc2 := 74) (ls2 := [(0, .ref (464)), (1, .int (g)), (2, .int (x2)), (3, .int (x3)), (4, .int (x4))]) (st2 := [.int (s5.1), .ref (955), .int (s5.1), .ref (955)]) (M2 := s5.2) hC hqX12_worstAt rfl ?_
        obtain ⟨j6, ej6, ij6, lj6, hr⟩ := g_ixo hr
        refine gz_iaload hC hqX12_worstAt rfl (Nat.le_of_ble_eq_true rfl) rfl ij6 ej6 ?_
        refine gb_run 2 (pc2 := 77) (ls2 := [(0, .ref (464)), (1, .int (g)), (2, .int (x2)), (3, .int (x3)), (4, .int (x4))]) (st2 := [.int (((s5.2) 955 j6) + (1 : Int32)), .int (s5.1), .ref (955)]) (M2 := s5.2) hC hqX12_worstAt rfl ?_
        obtain ⟨j7, ej7, ij7, lj7, hr⟩ := g_ixo hr
        refine gz_iastore hC hqX12_worstAt rfl (Nat.le_of_ble_eq_true rfl) rfl ij7 ej7 ?_
        refine g_letP (P := fun M8 => GW l C qX12_worstAt d (gQg 956 g_S0 (qI R) sz) gN 0 0 78 [(0, .ref (464)), (1, .int (g)), (2, .int (x2)), (3, .int (x3)), (4, .int (x4))] [] (956, g_S0, M8, sz)) hr (fun M8 hr => ?_)
        refine gb_run 2 (pc2 := 39) (ls2 := [(4, .int (x4 + (1 : Int32))), (0, .ref (464)), (1, .int (g)), (2, .int (x2)), (3, .int (x3))]) (st2 := []) (M2 := M8) hC hqX12_worstAt rfl ?_
        refine gw_pick [1, 2, 3, 4, 0] (ls2 := [(0, .ref (464)), (1, .int (g)), (2, .int (x2)), (3, .int (x3)), (4, .int (x4 + (1 : Int32)))]) rfl ?_
        exact ih x2 x3 (x4 + (1 : Int32)) M8 hr
def FM_worstAt_L26 (g : Int32) : Nat → Int32 → Int32 → gM → Option (Int32 × gM)
  | 0, _, _, _ => none
  | k + 1, x2, x3, M =>
  if (M 468 1) ≤ x3 then (FM_worstAt_L92 g 1000 x2 (0 : Int32) M) else (FM_worstAt_L39 g (FM_worstAt_L26 g k) 1000 x2 x3 (0 : Int32) M)
set_option maxRecDepth 20000 in
theorem c_FM_worstAt_L26 {l : Launch} {C : gC} (hC : g_ctx l C) (g : Int32) (sz d : Nat) (hd : 7 ≤ d) (R : Int32 × gM) : ∀ (k : Nat) (x2 : Int32) (x3 : Int32) (M : gM), FM_worstAt_L26 g k x2 x3 M = some R → GW l C qX12_worstAt d (gQg 956 g_S0 (qI R) sz) gN 0 0 26 [(0, .ref (464)), (1, .int (g)), (2, .int (x2)), (3, .int (x3))] [] (956, g_S0, M, sz) := by
  intro k
  induction k with
  | zero => intro x2 x3 M hr; exact nomatch (show (none : Option (Int32 × gM)) = some R from hr)
  | succ k ih =>
    intro x2 x3 M hr
    unfold FM_worstAt_L26 at hr
    refine gb_run 4 (pc2 := 32) (ls2 := [(0, .ref (464)), (1, .int (g)), (2, .int (x2)), (3, .int (x3))]) (st2 := [.int (1), .ref (468), .int (x3)]) (M2 := M) hC hqX12_worstAt rfl ?_
    refine gb_iaload hC hqX12_worstAt rfl (Nat.le_of_ble_eq_true rfl) rfl (by unfold vp_in; decide) ?_
    rw [show (1 : Int32).toNatClampNeg = 1 from rfl]
    refine gb_icmp_ge hqX12_worstAt rfl (fun h1 => ?_) (fun h1 => ?_)
    ·
      have hr := g_if1 h1 hr
      refine gb_run 2 (pc2 := 92) (ls2 := [(3, .int (0)), (0, .ref (464)), (1, .int (g)), (2, .int (x2))]) (st2 := []) (M2 := M) hC hqX12_worstAt rfl ?_
      refine gw_pick [1, 3, 0] (ls2 := [(0, .ref (464)), (2, .int (x2)), (3, .int (0))]) rfl ?_
      exact c_FM_worstAt_L92 hC g sz d (by omega) R 1000 x2 (0 : Int32) M hr
    ·
      have hr := g_if0 h1 hr
      refine gb_run 2 (pc2 := 39) (ls2 := [(4, .int (0)), (0, .ref (464)), (1, .int (g)), (2, .int (x2)), (3, .int (x3))]) (st2 := []) (M2 := M) hC hqX12_worstAt rfl ?_
      refine gw_pick [1, 2, 3, 4, 0] (ls2 := [(0, .ref (464)), (1, .int (g)), (2, .int (x2)), (3, .int (x3)), (4, .int (0))]) rfl ?_
      exact c_FM_worstAt_L39 hC g sz d (by omega) R (FM_worstAt_L26 g k) ih 1000 x2 x3 (0 : Int32) M hr
def FM_worstAt_L4 (g : Int32) : Nat → Int32 → Int32 → gM → Option (Int32 × gM)
  | 0, _, _, _ => none
  | k + 1, x2, x3, M =>
  if (800 : Int32) ≤ x3 then (FM_worstAt_L26 g 1000 x2 (0 : Int32) M) else (g_ix x3 800 fun j2 => g_let (g_set M 955 j2 (0 : Int32)) fun M3 => FM_worstAt_L4 g k x2 (x3 + (1 : Int32)) M3)
set_option maxRecDepth 20000 in
theorem c_FM_worstAt_L4 {l : Launch} {C : gC} (hC : g_ctx l C) (g : Int32) (sz d : Nat) (hd : 7 ≤ d) (R : Int32 × gM) : ∀ (k : Nat) (x2 : Int32) (x3 : Int32) (M : gM), FM_worstAt_L4 g k x2 x3 M = some R → GW l C qX12_worstAt d (gQg 956 g_S0 (qI R) sz) gN 0 0 4 [(0, .ref (464)), (1, .int (g)), (2, .int (x2)), (3, .int (x3))] [] (956, g_S0, M, sz) := by
  intro k
  induction k with
  | zero => intro x2 x3 M hr; exact nomatch (show (none : Option (Int32 × gM)) = some R from hr)
  | succ k ih =>
    intro x2 x3 M hr
    unfold FM_worstAt_L4 at hr
    refine gb_run 2 (pc2 := 8) (ls2 := [(0, .ref (464)), (1, .int (g)), (2, .int (x2)), (3, .int (x3))]) (st2 := [.int (800), .int (x3)]) (M2 := M) hC hqX12_worstAt rfl ?_
    refine gb_icmp_ge hqX12_worstAt rfl (fun h1 => ?_) (fun h1 => ?_)
    ·
      have hr := g_if1 h1 hr
      refine gb_run 2 (pc2 := 26) (ls2 := [(3, .int (0)), (0, .ref (464)), (1, .int (g)), (2, .int (x2))]) (st2 := []) (M2 := M) hC hqX12_worstAt rfl ?_
      refine gw_pick [1, 2, 3, 0] (ls2 := [(0, .ref (464)), (1, .int (g)), (2, .int (x2)), (3, .int (0))]) rfl ?_
      exact c_FM_worstAt_L26 hC g sz d (by omega) R 1000 x2 (0 : Int32) M hr
    ·
      have hr := g_if0 h1 hr
      refine gb_run 4 (pc2 := 17) (ls2 := [(0, .ref (464)), (1, .int (g)), (2, .int (x2)), (3, .int (x3))]) (st2 := [.int (0), .int (x3), .ref (955)]) (M2 := M) hC hqX12_worstAt rfl ?_
      obtain ⟨j2, ej2, ij2, lj2, hr⟩ := g_ixo hr
      refine gz_iastore hC hqX12_worstAt rfl (Nat.le_of_ble_eq_true rfl) rfl ij2 ej2 ?_
      refine g_letP (P := fun M3 => GW l C qX12_worstAt d (gQg 956 g_S0 (qI R) sz) gN 0 0 18 [(0, .ref (464)), (1, .int (g)), (2, .int (x2)), (3, .int (x3))] [] (956, g_S0, M3, sz)) hr (fun M3 hr => ?_)
      refine gb_run 2 (pc2 := 4) (ls2 := [(3, .int (x3 + (1 : Int32))), (0, .ref (464)), (1, .int (g)), (2, .int (x2))]) (st2 := []) (M2 := M3) hC hqX12_worstAt rfl ?_
      refine gw_pick [1, 2, 3, 0] (ls2 := [(0, .ref (464)), (1, .int (g)), (2, .int (x2)), (3, .int (x3 + (1 : Int32)))]) rfl ?_
      exact ih x2 (x3 + (1 : Int32)) M3 hr
def FM_worstAt (g : Int32) (M : gM) : Option (Int32 × gM) :=
  FM_worstAt_L4 g 1000 (0 : Int32) (0 : Int32) M
set_option maxRecDepth 20000 in
theorem c_FM_worstAt {l : Launch} {C : gC} (hC : g_ctx l C) (g : Int32)  (M : gM) (sz d : Nat) (hd : 7 ≤ d) (R : Int32 × gM) (hr : FM_worstAt g M = some R) : gPg l C qX12_worstAt d [.ref (464), .int (g)] 956 g_S0 M sz (qI R) := by
  refine gPg.of (ls := [(0, .ref (464)), (1, .int (g))]) (by decide +kernel) (Nat.le_of_ble_eq_true rfl) rfl ?_
  unfold FM_worstAt at hr
  refine gb_run 4 (pc2 := 4) (ls2 := [(3, .int (0)), (2, .int (0)), (0, .ref (464)), (1, .int (g))]) (st2 := []) (M2 := M) hC hqX12_worstAt rfl ?_
  refine gw_pick [2, 3, 1, 0] (ls2 := [(0, .ref (464)), (1, .int (g)), (2, .int (0)), (3, .int (0))]) rfl ?_
  exact c_FM_worstAt_L4 hC g sz d (by omega) R 1000 (0 : Int32) (0 : Int32) M hr
def FM_isTold_L2 (g : Int32) (M : gM) : Nat → Int32 → Option (Int32)
  | 0, _ => none
  | k + 1, x2 =>
  if (M 464 33) ≤ x2 then (some (0 : Int32)) else (g_ix x2 8 fun j2 => if (M (830 + j2) 0) = g then (some (1 : Int32)) else (FM_isTold_L2 g M k (x2 + (1 : Int32))))
set_option maxRecDepth 20000 in
theorem c_FM_isTold_L2 {l : Launch} {C : gC} (hC : g_ctx l C) (g : Int32) (M : gM) (sz d : Nat) (hd : 1 ≤ d) (R : Int32) : ∀ (k : Nat) (x2 : Int32), FM_isTold_L2 g M k x2 = some R → GW l C qX12_isTold d (gQg 956 g_S0 (qZp M R) sz) gN 0 0 2 [(0, .ref (464)), (1, .int (g)), (2, .int (x2))] [] (956, g_S0, M, sz) := by
  intro k
  induction k with
  | zero => intro x2 hr; exact nomatch (show (none : Option (Int32)) = some R from hr)
  | succ k ih =>
    intro x2 hr
    unfold FM_isTold_L2 at hr
    refine gb_run 3 (pc2 := 7) (ls2 := [(0, .ref (464)), (1, .int (g)), (2, .int (x2))]) (st2 := [.int (M 464 33), .int (x2)]) (M2 := M) hC hqX12_isTold rfl ?_
    refine gb_icmp_ge hqX12_isTold rfl (fun h1 => ?_) (fun h1 => ?_)
    ·
      have hr := g_if1 h1 hr
      refine gb_run 1 (pc2 := 31) (ls2 := [(0, .ref (464)), (1, .int (g)), (2, .int (x2))]) (st2 := [.int (0)]) (M2 := M) hC hqX12_isTold rfl ?_
      refine gb_zret hqX12_isTold rfl rfl (Nat.le_of_ble_eq_true rfl) (Nat.le_of_ble_eq_true rfl) (Or.inl rfl) ?_
      exact gl_Zp (Or.inl rfl) hr
    ·
      have hr := g_if0 h1 hr
      refine gb_run 3 (pc2 := 15) (ls2 := [(0, .ref (464)), (1, .int (g)), (2, .int (x2))]) (st2 := [.int (x2), .ref (829)]) (M2 := M) hC hqX12_isTold rfl ?_
      obtain ⟨j2, ej2, ij2, lj2, hr⟩ := g_ixo hr
      have tj2 := g_t829 j2 lj2
      refine gz_aaload (k0 := 2) (q := 830 + j2) hC hqX12_isTold rfl (Nat.le_of_ble_eq_true rfl) rfl (Nat.le_of_ble_eq_true rfl) ij2 ej2 tj2.1 ?_
      refine gb_run 1 (pc2 := 17) (ls2 := [(0, .ref (464)), (1, .int (g)), (2, .int (x2))]) (st2 := [.int (0), .ref (830 + j2)]) (M2 := M) hC hqX12_isTold rfl ?_
      refine gb_iaload hC hqX12_isTold rfl tj2.2.1 (g_S3 tj2.2.2.1 tj2.2.2.2) (by unfold vp_in; decide) ?_
      rw [show (0 : Int32).toNatClampNeg = 0 from rfl]
      refine gb_run 1 (pc2 := 19) (ls2 := [(0, .ref (464)), (1, .int (g)), (2, .int (x2))]) (st2 := [.int (g), .int (M (830 + j2) 0)]) (M2 := M) hC hqX12_isTold rfl ?_
      refine gb_icmp_ne hqX12_isTold rfl (fun h3 => ?_) (fun h3 => ?_)
      ·
        have hr := g_if0 h3 hr
        refine gb_run 2 (pc2 := 2) (ls2 := [(2, .int (x2 + (1 : Int32))), (0, .ref (464)), (1, .int (g))]) (st2 := []) (M2 := M) hC hqX12_isTold rfl ?_
        refine gw_pick [1, 2, 0] (ls2 := [(0, .ref (464)), (1, .int (g)), (2, .int (x2 + (1 : Int32)))]) rfl ?_
        exact ih (x2 + (1 : Int32)) hr
      ·
        have hr := g_if1 h3 hr
        refine gb_run 1 (pc2 := 23) (ls2 := [(0, .ref (464)), (1, .int (g)), (2, .int (x2))]) (st2 := [.int (1)]) (M2 := M) hC hqX12_isTold rfl ?_
        refine gb_zret hqX12_isTold rfl rfl (Nat.le_of_ble_eq_true rfl) (Nat.le_of_ble_eq_true rfl) (Or.inr rfl) ?_
        exact gl_Zp (Or.inr rfl) hr
def FM_isTold (g : Int32) (M : gM) : Option (Int32) :=
  FM_isTold_L2 g M 1000 (0 : Int32)
set_option maxRecDepth 20000 in
theorem c_FM_isTold {l : Launch} {C : gC} (hC : g_ctx l C) (g : Int32)  (M : gM) (sz d : Nat) (hd : 1 ≤ d) (R : Int32) (hr : FM_isTold g M = some R) : gPg l C qX12_isTold d [.ref (464), .int (g)] 956 g_S0 M sz (qZp M R) := by
  refine gPg.of (ls := [(0, .ref (464)), (1, .int (g))]) (by decide +kernel) (Nat.le_of_ble_eq_true rfl) rfl ?_
  unfold FM_isTold at hr
  refine gb_run 2 (pc2 := 2) (ls2 := [(2, .int (0)), (0, .ref (464)), (1, .int (g))]) (st2 := []) (M2 := M) hC hqX12_isTold rfl ?_
  refine gw_pick [1, 2, 0] (ls2 := [(0, .ref (464)), (1, .int (g)), (2, .int (0))]) rfl ?_
  exact c_FM_isTold_L2 hC g M sz d (by omega) R 1000 (0 : Int32) hr
def FM_listen_L37 (what : Int32) : Nat → Int32 → Int32 → Int32 → gM → Option (Int32 × gM)
  | 0, _, _, _, _ => none
  | k + 1, x2, x3, x4, M =>
  if (M 468 0) ≤ x4 then (if what = (0 : Int32) then (some (x2, M)) else (some (x3, M))) else ((FM_isTold x4 M).bind fun s3 => if s3 = (0 : Int32) then ((FM_worstAt x4 M).bind fun s6 => if x2 = (-1 : Int32) then (FM_listen_L37 what k x4 s6.1 (x4 + (1 : Int32)) (s6.2)) else (if s6.1 < x3 then (FM_listen_L37 what k x4 s6.1 (x4 + (1 : Int32)) (s6.2)) else (FM_listen_L37 what k x2 x3 (x4 + (1 : Int32)) (s6.2)))) else (FM_listen_L37 what k x2 x3 (x4 + (1 : Int32)) M))
set_option maxRecDepth 20000 in
theorem c_FM_listen_L37 {l : Launch} {C : gC} (hC : g_ctx l C) (what : Int32) (sz d : Nat) (hd : 8 ≤ d) (R : Int32 × gM) : ∀ (k : Nat) (x2 : Int32) (x3 : Int32) (x4 : Int32) (M : gM), FM_listen_L37 what k x2 x3 x4 M = some R → GW l C qX12_listen d (gQg 956 g_S0 (qI R) sz) gN 0 0 37 [(0, .ref (464)), (1, .int (what)), (2, .int (x2)), (3, .int (x3)), (4, .int (x4))] [] (956, g_S0, M, sz) := by
  intro k
  induction k with
  | zero => intro x2 x3 x4 M hr; exact nomatch (show (none : Option (Int32 × gM)) = some R from hr)
  | succ k ih =>
    intro x2 x3 x4 M hr
    unfold FM_listen_L37 at hr
    refine gb_run 4 (pc2 := 44) (ls2 := [(0, .ref (464)), (1, .int (what)), (2, .int (x2)), (3, .int (x3)), (4, .int (x4))]) (st2 := [.int (0), .ref (468), .int (x4)]) (M2 := M) hC hqX12_listen rfl ?_
    refine gb_iaload hC hqX12_listen rfl (Nat.le_of_ble_eq_true rfl) rfl (by unfold vp_in; decide) ?_
    rw [show (0 : Int32).toNatClampNeg = 0 from rfl]
    refine gb_icmp_ge hqX12_listen rfl (fun h1 => ?_) (fun h1 => ?_)
    ·
      have hr := g_if1 h1 hr
      refine gb_run 1 (pc2 := 95) (ls2 := [(0, .ref (464)), (1, .int (what)), (2, .int (x2)), (3, .int (x3)), (4, .int (x4))]) (st2 := [.int (what)]) (M2 := M) hC hqX12_listen rfl ?_
      refine gb_if_ne hqX12_listen rfl (fun h2 => ?_) (fun h2 => ?_)
      ·
        have hr := g_if0 h2 hr
        refine gb_run 1 (pc2 := 103) (ls2 := [(0, .ref (464)), (1, .int (what)), (2, .int (x2)), (3, .int (x3)), (4, .int (x4))]) (st2 := [.int (x3)]) (M2 := M) hC hqX12_listen rfl ?_
        refine gb_iret hqX12_listen rfl rfl (Nat.le_of_ble_eq_true rfl) (Nat.le_of_ble_eq_true rfl) ?_
        exact gl_I hr
      ·
        have hr := g_if1 h2 hr
        refine gb_run 2 (pc2 := 103) (ls2 := [(0, .ref (464)), (1, .int (what)), (2, .int (x2)), (3, .int (x3)), (4, .int (x4))]) (st2 := [.int (x2)]) (M2 := M) hC hqX12_listen rfl ?_
        refine gb_iret hqX12_listen rfl rfl (Nat.le_of_ble_eq_true rfl) (Nat.le_of_ble_eq_true rfl) ?_
        exact gl_I hr
    ·
      have hr := g_if0 h1 hr
      refine gb_run 2 (pc2 := 51) (ls2 := [(0, .ref (464)), (1, .int (what)), (2, .int (x2)), (3, .int (x3)), (4, .int (x4))]) (st2 := [.int (x4), .ref (464)]) (M2 := M) hC hqX12_listen rfl ?_
      obtain ⟨s3, es3, hr⟩ := g_bd hr
      refine gz_cV (z := qX12_isTold) (a := 464) (av := [.int (x4)]) (rest := []) (pl := 1847) hC hqX12_listen rfl kX12_isTold sX12_isTold (by decide +kernel) (c_FM_isTold hC x4  M sz (d - 1) (by omega) s3 es3) (by omega) ⟨rfl, rfl⟩ rfl (Nat.le_of_ble_eq_true rfl) (Nat.le_of_ble_eq_true rfl) rfl rfl rfl (Nat.le_of_ble_eq_true rfl) ⟨Nat.le_of_ble_eq_true rfl, Nat.le_of_ble_eq_true rfl⟩ (gs_Zp fun z4 => ?_)
      refine gb_if_eq hqX12_listen rfl (fun h5 => ?_) (fun h5 => ?_)
      ·
        have hr := g_if1 h5 hr
        refine gb_run 2 (pc2 := 63) (ls2 := [(0, .ref (464)), (1, .int (what)), (2, .int (x2)), (3, .int (x3)), (4, .int (x4))]) (st2 := [.int (x4), .ref (464)]) (M2 := M) hC hqX12_listen rfl ?_
        obtain ⟨s6, es6, hr⟩ := g_bd hr
        refine gz_cV (z := qX12_worstAt) (a := 464) (av := [.int (x4)]) (rest := []) (pl := 1851) hC hqX12_listen rfl kX12_worstAt sX12_worstAt (by decide +kernel) (c_FM_worstAt hC x4  M sz (d - 1) (by omega) s6 es6) (by omega) ⟨rfl, rfl⟩ rfl (Nat.le_of_ble_eq_true rfl) (Nat.le_of_ble_eq_true rfl) rfl rfl rfl (Nat.le_of_ble_eq_true rfl) ⟨Nat.le_of_ble_eq_true rfl, Nat.le_of_ble_eq_true rfl⟩ (gs_I ?_)
        refine gb_run 3 (pc2 := 70) (ls2 := [(5, .int (s6.1)), (0, .ref (464)), (1, .int (what)), (2, .int (x2)), (3, .int (x3)), (4, .int (x4))]) (st2 := [.int (-1), .int (x2)]) (M2 := s6.2) hC hqX12_listen rfl ?_
        refine gb_icmp_eq hqX12_listen rfl (fun h7 => ?_) (fun h7 => ?_)
        ·
          have hr := g_if1 h7 hr
          refine gb_run 6 (pc2 := 37) (ls2 := [(4, .int (x4 + (1 : Int32))), (3, .int (s6.1)), (2, .int (x4)), (5, .int (s6.1)), (0, .ref (464)), (1, .int (what))]) (st2 := []) (M2 := s6.2) hC hqX12_listen rfl ?_
          refine gw_pick [4, 5, 2, 1, 0] (ls2 := [(0, .ref (464)), (1, .int (what)), (2, .int (x4)), (3, .int (s6.1)), (4, .int (x4 + (1 : Int32)))]) rfl ?_
          exact ih x4 s6.1 (x4 + (1 : Int32)) (s6.2) hr
        ·
          have hr := g_if0 h7 hr
          refine gb_run 2 (pc2 := 76) (ls2 := [(5, .int (s6.1)), (0, .ref (464)), (1, .int (what)), (2, .int (x2)), (3, .int (x3)), (4, .int (x4))]) (st2 := [.int (x3), .int (s6.1)]) (M2 := s6.2) hC hqX12_listen rfl ?_
          refine gb_icmp_lt hqX12_listen rfl (fun h8 => ?_) (fun h8 => ?_)
          ·
            have hr := g_if1 h8 hr
            refine gb_run 6 (pc2 := 37) (ls2 := [(4, .int (x4 + (1 : Int32))), (3, .int (s6.1)), (2, .int (x4)), (5, .int (s6.1)), (0, .ref (464)), (1, .int (what))]) (st2 := []) (M2 := s6.2) hC hqX12_listen rfl ?_
            refine gw_pick [4, 5, 2, 1, 0] (ls2 := [(0, .ref (464)), (1, .int (what)), (2, .int (x4)), (3, .int (s6.1)), (4, .int (x4 + (1 : Int32)))]) rfl ?_
            exact ih x4 s6.1 (x4 + (1 : Int32)) (s6.2) hr
          ·
            have hr := g_if0 h8 hr
            refine gb_run 3 (pc2 := 37) (ls2 := [(4, .int (x4 + (1 : Int32))), (5, .int (s6.1)), (0, .ref (464)), (1, .int (what)), (2, .int (x2)), (3, .int (x3))]) (st2 := []) (M2 := s6.2) hC hqX12_listen rfl ?_
            refine gw_pick [2, 3, 4, 5, 0] (ls2 := [(0, .ref (464)), (1, .int (what)), (2, .int (x2)), (3, .int (x3)), (4, .int (x4 + (1 : Int32)))]) rfl ?_
            exact ih x2 x3 (x4 + (1 : Int32)) (s6.2) hr
      ·
        have hr := g_if0 h5 hr
        refine gb_run 3 (pc2 := 37) (ls2 := [(4, .int (x4 + (1 : Int32))), (0, .ref (464)), (1, .int (what)), (2, .int (x2)), (3, .int (x3))]) (st2 := []) (M2 := M) hC hqX12_listen rfl ?_
        refine gw_pick [1, 2, 3, 4, 0] (ls2 := [(0, .ref (464)), (1, .int (what)), (2, .int (x2)), (3, .int (x3)), (4, .int (x4 + (1 : Int32)))]) rfl ?_
        exact ih x2 x3 (x4 + (1 : Int32)) M hr
def FM_listen_J20 (what : Int32) (y0 : Int32) (M : gM) : Option (Int32 × gM) :=
  (FM_bad y0 (1 : Int32) (1 : Int32) M).bind fun s1 => if s1.1 = (0 : Int32) then (FM_listen_L37 what 1000 (-1 : Int32) (-1 : Int32) (1 : Int32) (s1.2)) else (some (0, s1.2))
set_option maxRecDepth 20000 in
theorem c_FM_listen_J20 {l : Launch} {C : gC} (hC : g_ctx l C) (what : Int32) (sz d : Nat) (hd : 8 ≤ d) (R : Int32 × gM) (y0 : Int32) (M : gM) (hr : FM_listen_J20 what y0 M = some R) : GW l C qX12_listen d (gQg 956 g_S0 (qI R) sz) gN 0 0 20 [(0, .ref (464)), (1, .int (what))] [.int (y0), .ref (464)] (956, g_S0, M, sz) := by
  unfold FM_listen_J20 at hr
  refine gb_run 2 (pc2 := 22) (ls2 := [(0, .ref (464)), (1, .int (what))]) (st2 := [.int (1), .int (1), .int (y0), .ref (464)]) (M2 := M) hC hqX12_listen rfl ?_
  obtain ⟨s1, es1, hr⟩ := g_bd hr
  refine gz_cV (z := qX12_bad) (a := 464) (av := [.int (y0), .int (1), .int (1)]) (rest := []) (pl := 1551) hC hqX12_listen rfl kX12_bad sX12_bad (by decide +kernel) (c_FM_bad hC y0 (1 : Int32) (1 : Int32)  M sz (d - 1) (by omega) s1 es1) (by omega) ⟨rfl, rfl⟩ rfl (Nat.le_of_ble_eq_true rfl) (Nat.le_of_ble_eq_true rfl) rfl rfl rfl (Nat.le_of_ble_eq_true rfl) ⟨Nat.le_of_ble_eq_true rfl, Nat.le_of_ble_eq_true rfl⟩ (gs_Z fun z2 => ?_)
  refine gb_if_eq hqX12_listen rfl (fun h3 => ?_) (fun h3 => ?_)
  ·
    have hr := g_if1 h3 hr
    refine gb_run 6 (pc2 := 37) (ls2 := [(4, .int (1)), (3, .int (-1)), (2, .int (-1)), (0, .ref (464)), (1, .int (what))]) (st2 := []) (M2 := s1.2) hC hqX12_listen rfl ?_
    refine gw_pick [3, 4, 2, 1, 0] (ls2 := [(0, .ref (464)), (1, .int (what)), (2, .int (-1)), (3, .int (-1)), (4, .int (1))]) rfl ?_
    exact c_FM_listen_L37 hC what sz d (by omega) R 1000 (-1 : Int32) (-1 : Int32) (1 : Int32) (s1.2) hr
  ·
    have hr := g_if0 h3 hr
    refine gb_run 1 (pc2 := 29) (ls2 := [(0, .ref (464)), (1, .int (what))]) (st2 := [.int (0)]) (M2 := s1.2) hC hqX12_listen rfl ?_
    refine gb_iret hqX12_listen rfl rfl (Nat.le_of_ble_eq_true rfl) (Nat.le_of_ble_eq_true rfl) ?_
    exact gl_I hr
def FM_listen (what : Int32) (M : gM) : Option (Int32 × gM) :=
  if (FM_in what (0 : Int32) (1 : Int32)) = (0 : Int32) then (FM_listen_J20 what (1 : Int32) (g_set M 464 0 (0 : Int32))) else (FM_listen_J20 what (0 : Int32) (g_set M 464 0 (0 : Int32)))
set_option maxRecDepth 20000 in
theorem c_FM_listen {l : Launch} {C : gC} (hC : g_ctx l C) (what : Int32)  (M : gM) (sz d : Nat) (hd : 8 ≤ d) (R : Int32 × gM) (hr : FM_listen what M = some R) : gPg l C qX12_listen d [.ref (464), .int (what)] 956 g_S0 M sz (qI R) := by
  refine gPg.of (ls := [(0, .ref (464)), (1, .int (what))]) (by decide +kernel) (Nat.le_of_ble_eq_true rfl) rfl ?_
  unfold FM_listen at hr
  refine gb_run 7 (pc2 := 9) (ls2 := [(0, .ref (464)), (1, .int (what))]) (st2 := [.int (1), .int (0), .int (what), .ref (464)]) (M2 := g_set M 464 0 (0 : Int32)) hC hqX12_listen rfl ?_
  refine gz_cS (z := qX12_in) (av := [.int (what), .int (0), .int (1)]) (rest := [.ref (464)]) (pl := 1548) hC hqX12_listen rfl kX12_in (by decide +kernel) (c_FM_in hC what (0 : Int32) (1 : Int32)  (g_set M 464 0 (0 : Int32)) sz (d - 1) (by omega)) (by omega) ⟨rfl, rfl⟩ rfl rfl (Nat.le_of_ble_eq_true rfl) ⟨Nat.le_of_ble_eq_true rfl, Nat.le_of_ble_eq_true rfl⟩ (gs_Zp fun z2 => ?_)
  refine gb_if_ne hqX12_listen rfl (fun h3 => ?_) (fun h3 => ?_)
  ·
    have hr := g_if0 h3 hr
    refine gb_run 1 (pc2 := 20) (ls2 := [(0, .ref (464)), (1, .int (what))]) (st2 := [.int (0), .ref (464)]) (M2 := g_set M 464 0 (0 : Int32)) hC hqX12_listen rfl ?_
    exact c_FM_listen_J20 hC what sz d (by omega) R (0 : Int32) (g_set M 464 0 (0 : Int32)) hr
  ·
    have hr := g_if1 h3 hr
    refine gb_run 2 (pc2 := 20) (ls2 := [(0, .ref (464)), (1, .int (what))]) (st2 := [.int (1), .ref (464)]) (M2 := g_set M 464 0 (0 : Int32)) hC hqX12_listen rfl ?_
    exact c_FM_listen_J20 hC what sz d (by omega) R (1 : Int32) (g_set M 464 0 (0 : Int32)) hr
def FM_part_L6 (up : Int64) (low : Int64) (which : Int32) : Nat → Int64 → Int64 → Option (Int64)
  | 0, _, _ => none
  | k + 1, x5, x7 =>
  if (lg_cmp x7 (0 : Int64)) = (0 : Int32) then (if which = (0 : Int32) then (if x5 = 0 then none else (some (up / x5))) else (if x5 = 0 then none else (some (low / x5)))) else (if x7 = 0 then none else (FM_part_L6 up low which k x7 (x5 - x5 / x7 * x7)))
set_option maxRecDepth 20000 in
theorem c_FM_part_L6 {l : Launch} {C : gC} (hC : g_ctx l C) (up : Int64) (low : Int64) (which : Int32) (M : gM) (sz d : Nat) (hd : 1 ≤ d) (R : Int64) : ∀ (k : Nat) (x5 : Int64) (x7 : Int64), FM_part_L6 up low which k x5 x7 = some R → GW l C qX12_part d (gQg 956 g_S0 (qJp M R) sz) gN 0 0 6 [(0, .long (up)), (2, .long (low)), (4, .int (which)), (5, .long (x5)), (7, .long (x7))] [] (956, g_S0, M, sz) := by
  intro k
  induction k with
  | zero => intro x5 x7 hr; exact nomatch (show (none : Option (Int64)) = some R from hr)
  | succ k ih =>
    intro x5 x7 hr
    unfold FM_part_L6 at hr
    refine gb_run 3 (pc2 := 10) (ls2 := [(0, .long (up)), (2, .long (low)), (4, .int (which)), (5, .long (x5)), (7, .long (x7))]) (st2 := [.int (lg_cmp x7 (0 : Int64))]) (M2 := M) hC hqX12_part rfl ?_
    refine gb_if_eq hqX12_part rfl (fun h1 => ?_) (fun h1 => ?_)
    ·
      have hr := g_if1 h1 hr
      refine gb_run 1 (pc2 := 33) (ls2 := [(0, .long (up)), (2, .long (low)), (4, .int (which)), (5, .long (x5)), (7, .long (x7))]) (st2 := [.int (which)]) (M2 := M) hC hqX12_part rfl ?_
      refine gb_if_ne hqX12_part rfl (fun h2 => ?_) (fun h2 => ?_)
      ·
        have hr := g_if0 h2 hr
        refine gb_run 2 (pc2 := 46) (ls2 := [(0, .long (up)), (2, .long (low)), (4, .int (which)), (5, .long (x5)), (7, .long (x7))]) (st2 := [.long (x5), .long (low)]) (M2 := M) hC hqX12_part rfl ?_
        obtain ⟨h3, hr⟩ := g_nz hr
        refine gb_ldiv hqX12_part rfl h3 ?_
        refine gb_lret hqX12_part rfl rfl (Nat.le_of_ble_eq_true rfl) (Nat.le_of_ble_eq_true rfl) ?_
        exact gl_Jp hr
      ·
        have hr := g_if1 h2 hr
        refine gb_run 2 (pc2 := 39) (ls2 := [(0, .long (up)), (2, .long (low)), (4, .int (which)), (5, .long (x5)), (7, .long (x7))]) (st2 := [.long (x5), .long (up)]) (M2 := M) hC hqX12_part rfl ?_
        obtain ⟨h4, hr⟩ := g_nz hr
        refine gb_ldiv hqX12_part rfl h4 ?_
        refine gb_run 1 (pc2 := 47) (ls2 := [(0, .long (up)), (2, .long (low)), (4, .int (which)), (5, .long (x5)), (7, .long (x7))]) (st2 := [.long (up / x5)]) (M2 := M) hC hqX12_part rfl ?_
        refine gb_lret hqX12_part rfl rfl (Nat.le_of_ble_eq_true rfl) (Nat.le_of_ble_eq_true rfl) ?_
        exact gl_Jp hr
    ·
      have hr := g_if0 h1 hr
      refine gb_run 2 (pc2 := 17) (ls2 := [(0, .long (up)), (2, .long (low)), (4, .int (which)), (5, .long (x5)), (7, .long (x7))]) (st2 := [.long (x7), .long (x5)]) (M2 := M) hC hqX12_part rfl ?_
      obtain ⟨h5, hr⟩ := g_nz hr
      refine gb_lrem hqX12_part rfl h5 ?_
      refine gb_run 6 (pc2 := 6) (ls2 := [(7, .long (x5 - x5 / x7 * x7)), (5, .long (x7)), (9, .long (x5 - x5 / x7 * x7)), (0, .long (up)), (2, .long (low)), (4, .int (which))]) (st2 := []) (M2 := M) hC hqX12_part rfl ?_
      refine gw_pick [3, 4, 5, 1, 0] (ls2 := [(0, .long (up)), (2, .long (low)), (4, .int (which)), (5, .long (x7)), (7, .long (x5 - x5 / x7 * x7))]) rfl ?_
      exact ih x7 (x5 - x5 / x7 * x7) hr
def FM_part (up : Int64) (low : Int64) (which : Int32) : Option (Int64) :=
  FM_part_L6 up low which 1000 low up
set_option maxRecDepth 20000 in
theorem c_FM_part {l : Launch} {C : gC} (hC : g_ctx l C) (up : Int64) (low : Int64) (which : Int32)  (M : gM) (sz d : Nat) (hd : 1 ≤ d) (R : Int64) (hr : FM_part up low which = some R) : gPg l C qX12_part d [.long (up), .long (low), .int (which)] 956 g_S0 M sz (qJp M R) := by
  refine gPg.of (ls := [(0, .long (up)), (2, .long (low)), (4, .int (which))]) (by decide +kernel) (Nat.le_of_ble_eq_true rfl) rfl ?_
  unfold FM_part at hr
  refine gb_run 4 (pc2 := 6) (ls2 := [(7, .long (up)), (5, .long (low)), (0, .long (up)), (2, .long (low)), (4, .int (which))]) (st2 := []) (M2 := M) hC hqX12_part rfl ?_
  refine gw_pick [2, 3, 4, 1, 0] (ls2 := [(0, .long (up)), (2, .long (low)), (4, .int (which)), (5, .long (low)), (7, .long (up))]) rfl ?_
  exact c_FM_part_L6 hC up low which M sz d (by omega) R 1000 low up hr
def FM_areWalks (walks : Int32) (M : gM) : Int32 :=
  FM_in walks (0 : Int32) (((1 : Int32) <<< ((M 468 0) &&& 31)) - (1 : Int32))
set_option maxRecDepth 20000 in
theorem c_FM_areWalks {l : Launch} {C : gC} (hC : g_ctx l C) (walks : Int32)  (M : gM) (sz d : Nat) (hd : 2 ≤ d) : gPg l C qX12_areWalks d [.ref (464), .int (walks)] 956 g_S0 M sz (qZp M (FM_areWalks walks M)) := by
  refine gPg.of (ls := [(0, .ref (464)), (1, .int (walks))]) (by decide +kernel) (Nat.le_of_ble_eq_true rfl) rfl ?_
  obtain ⟨R, hr⟩ : ∃ R, FM_areWalks walks M = R := ⟨_, rfl⟩
  rw [hr]
  unfold FM_areWalks at hr
  refine gb_run 6 (pc2 := 8) (ls2 := [(0, .ref (464)), (1, .int (walks))]) (st2 := [.int (0), .ref (468), .int (1), .int (0), .int (walks)]) (M2 := M) hC hqX12_areWalks rfl ?_
  refine gb_iaload hC hqX12_areWalks rfl (Nat.le_of_ble_eq_true rfl) rfl (by unfold vp_in; decide) ?_
  rw [show (0 : Int32).toNatClampNeg = 0 from rfl]
  refine gb_run 3 (pc2 := 12) (ls2 := [(0, .ref (464)), (1, .int (walks))]) (st2 := [.int (((1 : Int32) <<< ((M 468 0) &&& 31)) - (1 : Int32)), .int (0), .int (walks)]) (M2 := M) hC hqX12_areWalks rfl ?_
  refine gz_cS (z := qX12_in) (av := [.int (walks), .int (0), .int (((1 : Int32) <<< ((M 468 0) &&& 31)) - (1 : Int32))]) (rest := []) (pl := 1548) hC hqX12_areWalks rfl kX12_in (by decide +kernel) (c_FM_in hC walks (0 : Int32) (((1 : Int32) <<< ((M 468 0) &&& 31)) - (1 : Int32))  M sz (d - 1) (by omega)) (by omega) ⟨rfl, rfl⟩ rfl rfl (Nat.le_of_ble_eq_true rfl) ⟨Nat.le_of_ble_eq_true rfl, Nat.le_of_ble_eq_true rfl⟩ (gs_Zp fun z2 => ?_)
  refine gb_zret hqX12_areWalks rfl rfl (Nat.le_of_ble_eq_true rfl) (Nat.le_of_ble_eq_true rfl) (z2) ?_
  exact gl_Zt (z2) hr
def FM_safe_L46 (walks : Int32) (part : Int32) : Nat → Int64 → Int64 → Int32 → gM → Option (Int64 × gM)
  | 0, _, _, _, _ => none
  | k + 1, x3, x5, x7, M =>
  if (M 468 0) ≤ x7 then ((FM_part x3 x5 part).bind fun s2 => some (s2, M)) else (if (FM_has walks x7) = (0 : Int32) then (FM_safe_L46 walks part k x3 x5 (x7 + (1 : Int32)) M) else (g_ix x7 8 fun j6 => FM_safe_L46 walks part k (x3 * (((16 : Int32) - (M (481 + j6) 1)).toInt64)) (x5 * (16 : Int64)) (x7 + (1 : Int32)) M))
set_option maxRecDepth 20000 in
theorem c_FM_safe_L46 {l : Launch} {C : gC} (hC : g_ctx l C) (walks : Int32) (part : Int32) (sz d : Nat) (hd : 3 ≤ d) (R : Int64 × gM) : ∀ (k : Nat) (x3 : Int64) (x5 : Int64) (x7 : Int32) (M : gM), FM_safe_L46 walks part k x3 x5 x7 M = some R → GW l C qX12_safe d (gQg 956 g_S0 (qJ R) sz) gN 0 0 46 [(0, .ref (464)), (1, .int (walks)), (2, .int (part)), (3, .long (x3)), (5, .long (x5)), (7, .int (x7))] [] (956, g_S0, M, sz) := by
  intro k
  induction k with
  | zero => intro x3 x5 x7 M hr; exact nomatch (show (none : Option (Int64 × gM)) = some R from hr)
  | succ k ih =>
    intro x3 x5 x7 M hr
    unfold FM_safe_L46 at hr
    refine gb_run 4 (pc2 := 53) (ls2 := [(0, .ref (464)), (1, .int (walks)), (2, .int (part)), (3, .long (x3)), (5, .long (x5)), (7, .int (x7))]) (st2 := [.int (0), .ref (468), .int (x7)]) (M2 := M) hC hqX12_safe rfl ?_
    refine gb_iaload hC hqX12_safe rfl (Nat.le_of_ble_eq_true rfl) rfl (by unfold vp_in; decide) ?_
    rw [show (0 : Int32).toNatClampNeg = 0 from rfl]
    refine gb_icmp_ge hqX12_safe rfl (fun h1 => ?_) (fun h1 => ?_)
    ·
      have hr := g_if1 h1 hr
      refine gb_run 3 (pc2 := 103) (ls2 := [(0, .ref (464)), (1, .int (walks)), (2, .int (part)), (3, .long (x3)), (5, .long (x5)), (7, .int (x7))]) (st2 := [.int (part), .long (x5), .long (x3)]) (M2 := M) hC hqX12_safe rfl ?_
      obtain ⟨s2, es2, hr⟩ := g_bd hr
      refine gz_cS (z := qX12_part) (av := [.long (x3), .long (x5), .int (part)]) (rest := []) (pl := 1864) hC hqX12_safe rfl kX12_part (by decide +kernel) (c_FM_part hC x3 x5 part  M sz (d - 1) (by omega) s2 es2) (by omega) ⟨rfl, rfl⟩ rfl rfl (Nat.le_of_ble_eq_true rfl) ⟨Nat.le_of_ble_eq_true rfl, Nat.le_of_ble_eq_true rfl⟩ (gs_Jp ?_)
      refine gb_lret hqX12_safe rfl rfl (Nat.le_of_ble_eq_true rfl) (Nat.le_of_ble_eq_true rfl) ?_
      exact gl_J hr
    ·
      have hr := g_if0 h1 hr
      refine gb_run 2 (pc2 := 60) (ls2 := [(0, .ref (464)), (1, .int (walks)), (2, .int (part)), (3, .long (x3)), (5, .long (x5)), (7, .int (x7))]) (st2 := [.int (x7), .int (walks)]) (M2 := M) hC hqX12_safe rfl ?_
      refine gz_cS (z := qX12_has) (av := [.int (walks), .int (x7)]) (rest := []) (pl := 1653) hC hqX12_safe rfl kX12_has (by decide +kernel) (c_FM_has hC walks x7  M sz (d - 1) (by omega)) (by omega) ⟨rfl, rfl⟩ rfl rfl (Nat.le_of_ble_eq_true rfl) ⟨Nat.le_of_ble_eq_true rfl, Nat.le_of_ble_eq_true rfl⟩ (gs_Zp fun z4 => ?_)
      refine gb_if_ne hqX12_safe rfl (fun h5 => ?_) (fun h5 => ?_)
      ·
        have hr := g_if0 h5 hr
        refine gb_run 5 (pc2 := 78) (ls2 := [(0, .ref (464)), (1, .int (walks)), (2, .int (part)), (3, .long (x3)), (5, .long (x5)), (7, .int (x7))]) (st2 := [.int (x7), .ref (480), .int (16), .long (x3)]) (M2 := M) hC hqX12_safe rfl ?_
        obtain ⟨j6, ej6, ij6, lj6, hr⟩ := g_ixo hr
        have tj6 := g_t480 j6 lj6
        refine gz_aaload (k0 := 2) (q := 481 + j6) hC hqX12_safe rfl (Nat.le_of_ble_eq_true rfl) rfl (Nat.le_of_ble_eq_true rfl) ij6 ej6 tj6.1 ?_
        refine gb_run 1 (pc2 := 80) (ls2 := [(0, .ref (464)), (1, .int (walks)), (2, .int (part)), (3, .long (x3)), (5, .long (x5)), (7, .int (x7))]) (st2 := [.int (1), .ref (481 + j6), .int (16), .long (x3)]) (M2 := M) hC hqX12_safe rfl ?_
        refine gb_iaload hC hqX12_safe rfl tj6.2.1 (g_S3 tj6.2.2.1 tj6.2.2.2) (by unfold vp_in; decide) ?_
        rw [show (1 : Int32).toNatClampNeg = 1 from rfl]
        refine gb_run 10 (pc2 := 46) (ls2 := [(7, .int (x7 + (1 : Int32))), (5, .long (x5 * (16 : Int64))), (3, .long (x3 * (((16 : Int32) - (M (481 + j6) 1)).toInt64))), (0, .ref (464)), (1, .int (walks)), (2, .int (part))]) (st2 := []) (M2 := M) hC hqX12_safe rfl ?_
        refine gw_pick [3, 4, 5, 2, 1, 0] (ls2 := [(0, .ref (464)), (1, .int (walks)), (2, .int (part)), (3, .long (x3 * (((16 : Int32) - (M (481 + j6) 1)).toInt64))), (5, .long (x5 * (16 : Int64))), (7, .int (x7 + (1 : Int32)))]) rfl ?_
        exact ih (x3 * (((16 : Int32) - (M (481 + j6) 1)).toInt64)) (x5 * (16 : Int64)) (x7 + (1 : Int32)) M hr
      ·
        have hr := g_if1 h5 hr
        refine gb_run 3 (pc2 := 46) (ls2 := [(7, .int (x7 + (1 : Int32))), (0, .ref (464)), (1, .int (walks)), (2, .int (part)), (3, .long (x3)), (5, .long (x5))]) (st2 := []) (M2 := M) hC hqX12_safe rfl ?_
        refine gw_pick [1, 2, 3, 4, 5, 0] (ls2 := [(0, .ref (464)), (1, .int (walks)), (2, .int (part)), (3, .long (x3)), (5, .long (x5)), (7, .int (x7 + (1 : Int32)))]) rfl ?_
        exact ih x3 x5 (x7 + (1 : Int32)) M hr
def FM_safe_J28 (walks : Int32) (part : Int32) (y0 : Int32) (M : gM) : Option (Int64 × gM) :=
  (FM_bad y0 (1 : Int32) (1 : Int32) M).bind fun s1 => if s1.1 = (0 : Int32) then (FM_safe_L46 walks part 1000 (1 : Int64) (1 : Int64) (0 : Int32) (s1.2)) else (some ((0 : Int64), s1.2))
set_option maxRecDepth 20000 in
theorem c_FM_safe_J28 {l : Launch} {C : gC} (hC : g_ctx l C) (walks : Int32) (part : Int32) (sz d : Nat) (hd : 3 ≤ d) (R : Int64 × gM) (y0 : Int32) (M : gM) (hr : FM_safe_J28 walks part y0 M = some R) : GW l C qX12_safe d (gQg 956 g_S0 (qJ R) sz) gN 0 0 28 [(0, .ref (464)), (1, .int (walks)), (2, .int (part))] [.int (y0), .ref (464)] (956, g_S0, M, sz) := by
  unfold FM_safe_J28 at hr
  refine gb_run 2 (pc2 := 30) (ls2 := [(0, .ref (464)), (1, .int (walks)), (2, .int (part))]) (st2 := [.int (1), .int (1), .int (y0), .ref (464)]) (M2 := M) hC hqX12_safe rfl ?_
  obtain ⟨s1, es1, hr⟩ := g_bd hr
  refine gz_cV (z := qX12_bad) (a := 464) (av := [.int (y0), .int (1), .int (1)]) (rest := []) (pl := 1551) hC hqX12_safe rfl kX12_bad sX12_bad (by decide +kernel) (c_FM_bad hC y0 (1 : Int32) (1 : Int32)  M sz (d - 1) (by omega) s1 es1) (by omega) ⟨rfl, rfl⟩ rfl (Nat.le_of_ble_eq_true rfl) (Nat.le_of_ble_eq_true rfl) rfl rfl rfl (Nat.le_of_ble_eq_true rfl) ⟨Nat.le_of_ble_eq_true rfl, Nat.le_of_ble_eq_true rfl⟩ (gs_Z fun z2 => ?_)
  refine gb_if_eq hqX12_safe rfl (fun h3 => ?_) (fun h3 => ?_)
  ·
    have hr := g_if1 h3 hr
    refine gb_run 6 (pc2 := 46) (ls2 := [(7, .int (0)), (5, .long (1)), (3, .long (1)), (0, .ref (464)), (1, .int (walks)), (2, .int (part))]) (st2 := []) (M2 := s1.2) hC hqX12_safe rfl ?_
    refine gw_pick [3, 4, 5, 2, 1, 0] (ls2 := [(0, .ref (464)), (1, .int (walks)), (2, .int (part)), (3, .long (1)), (5, .long (1)), (7, .int (0))]) rfl ?_
    exact c_FM_safe_L46 hC walks part sz d (by omega) R 1000 (1 : Int64) (1 : Int64) (0 : Int32) (s1.2) hr
  ·
    have hr := g_if0 h3 hr
    refine gb_run 1 (pc2 := 37) (ls2 := [(0, .ref (464)), (1, .int (walks)), (2, .int (part))]) (st2 := [.long (0)]) (M2 := s1.2) hC hqX12_safe rfl ?_
    refine gb_lret hqX12_safe rfl rfl (Nat.le_of_ble_eq_true rfl) (Nat.le_of_ble_eq_true rfl) ?_
    exact gl_J hr
def FM_safe_J23 (walks : Int32) (part : Int32) (M : gM) : Option (Int64 × gM) :=
  FM_safe_J28 walks part (1 : Int32) M
set_option maxRecDepth 20000 in
theorem c_FM_safe_J23 {l : Launch} {C : gC} (hC : g_ctx l C) (walks : Int32) (part : Int32) (sz d : Nat) (hd : 3 ≤ d) (R : Int64 × gM) (M : gM) (hr : FM_safe_J23 walks part M = some R) : GW l C qX12_safe d (gQg 956 g_S0 (qJ R) sz) gN 0 0 23 [(0, .ref (464)), (1, .int (walks)), (2, .int (part))] [.ref (464)] (956, g_S0, M, sz) := by
  unfold FM_safe_J23 at hr
  refine gb_run 2 (pc2 := 28) (ls2 := [(0, .ref (464)), (1, .int (walks)), (2, .int (part))]) (st2 := [.int (1), .ref (464)]) (M2 := M) hC hqX12_safe rfl ?_
  exact c_FM_safe_J28 hC walks part sz d (by omega) R (1 : Int32) M hr
def FM_safe (walks : Int32) (part : Int32) (M : gM) : Option (Int64 × gM) :=
  if (FM_areWalks walks (g_set M 464 0 (0 : Int32))) = (0 : Int32) then (FM_safe_J23 walks part (g_set M 464 0 (0 : Int32))) else (if (FM_in part (0 : Int32) (1 : Int32)) = (0 : Int32) then (FM_safe_J23 walks part (g_set M 464 0 (0 : Int32))) else (FM_safe_J28 walks part (0 : Int32) (g_set M 464 0 (0 : Int32))))
set_option maxRecDepth 20000 in
theorem c_FM_safe {l : Launch} {C : gC} (hC : g_ctx l C) (walks : Int32) (part : Int32)  (M : gM) (sz d : Nat) (hd : 3 ≤ d) (R : Int64 × gM) (hr : FM_safe walks part M = some R) : gPg l C qX12_safe d [.ref (464), .int (walks), .int (part)] 956 g_S0 M sz (qJ R) := by
  refine gPg.of (ls := [(0, .ref (464)), (1, .int (walks)), (2, .int (part))]) (by decide +kernel) (Nat.le_of_ble_eq_true rfl) rfl ?_
  unfold FM_safe at hr
  refine gb_run 6 (pc2 := 8) (ls2 := [(0, .ref (464)), (1, .int (walks)), (2, .int (part))]) (st2 := [.int (walks), .ref (464), .ref (464)]) (M2 := g_set M 464 0 (0 : Int32)) hC hqX12_safe rfl ?_
  refine gz_cV (z := qX12_areWalks) (a := 464) (av := [.int (walks)]) (rest := [.ref (464)]) (pl := 1859) hC hqX12_safe rfl kX12_areWalks sX12_areWalks (by decide +kernel) (c_FM_areWalks hC walks  (g_set M 464 0 (0 : Int32)) sz (d - 1) (by omega)) (by omega) ⟨rfl, rfl⟩ rfl (Nat.le_of_ble_eq_true rfl) (Nat.le_of_ble_eq_true rfl) rfl rfl rfl (Nat.le_of_ble_eq_true rfl) ⟨Nat.le_of_ble_eq_true rfl, Nat.le_of_ble_eq_true rfl⟩ (gs_Zp fun z2 => ?_)
  refine gb_if_eq hqX12_safe rfl (fun h3 => ?_) (fun h3 => ?_)
  ·
    have hr := g_if1 h3 hr
    exact c_FM_safe_J23 hC walks part sz d (by omega) R (g_set M 464 0 (0 : Int32)) hr
  ·
    have hr := g_if0 h3 hr
    refine gb_run 3 (pc2 := 17) (ls2 := [(0, .ref (464)), (1, .int (walks)), (2, .int (part))]) (st2 := [.int (1), .int (0), .int (part), .ref (464)]) (M2 := g_set M 464 0 (0 : Int32)) hC hqX12_safe rfl ?_
    refine gz_cS (z := qX12_in) (av := [.int (part), .int (0), .int (1)]) (rest := [.ref (464)]) (pl := 1548) hC hqX12_safe rfl kX12_in (by decide +kernel) (c_FM_in hC part (0 : Int32) (1 : Int32)  (g_set M 464 0 (0 : Int32)) sz (d - 1) (by omega)) (by omega) ⟨rfl, rfl⟩ rfl rfl (Nat.le_of_ble_eq_true rfl) ⟨Nat.le_of_ble_eq_true rfl, Nat.le_of_ble_eq_true rfl⟩ (gs_Zp fun z5 => ?_)
    refine gb_if_ne hqX12_safe rfl (fun h6 => ?_) (fun h6 => ?_)
    ·
      have hr := g_if0 h6 hr
      refine gb_run 1 (pc2 := 28) (ls2 := [(0, .ref (464)), (1, .int (walks)), (2, .int (part))]) (st2 := [.int (0), .ref (464)]) (M2 := g_set M 464 0 (0 : Int32)) hC hqX12_safe rfl ?_
      exact c_FM_safe_J28 hC walks part sz d (by omega) R (0 : Int32) (g_set M 464 0 (0 : Int32)) hr
    ·
      have hr := g_if1 h6 hr
      exact c_FM_safe_J23 hC walks part sz d (by omega) R (g_set M 464 0 (0 : Int32)) hr
def FM_isWatched (gates : Int32) (w : Int32) (M : gM) : Option (Int32) :=
  if (FM_has gates w) = (0 : Int32) then (if (M 468 0) = 0 then none else (if (FM_has gates ((w + (1 : Int32)) - (w + (1 : Int32)) / (M 468 0) * (M 468 0))) = (0 : Int32) then (some (0 : Int32)) else (some (1 : Int32)))) else (some (1 : Int32))
set_option maxRecDepth 20000 in
theorem c_FM_isWatched {l : Launch} {C : gC} (hC : g_ctx l C) (gates : Int32) (w : Int32)  (M : gM) (sz d : Nat) (hd : 2 ≤ d) (R : Int32) (hr : FM_isWatched gates w M = some R) : gPg l C qX12_isWatched d [.ref (464), .int (gates), .int (w)] 956 g_S0 M sz (qZp M R) := by
  refine gPg.of (ls := [(0, .ref (464)), (1, .int (gates)), (2, .int (w))]) (by decide +kernel) (Nat.le_of_ble_eq_true rfl) rfl ?_
  unfold FM_isWatched at hr
  refine gb_run 2 (pc2 := 2) (ls2 := [(0, .ref (464)), (1, .int (gates)), (2, .int (w))]) (st2 := [.int (w), .int (gates)]) (M2 := M) hC hqX12_isWatched rfl ?_
  refine gz_cS (z := qX12_has) (av := [.int (gates), .int (w)]) (rest := []) (pl := 1653) hC hqX12_isWatched rfl kX12_has (by decide +kernel) (c_FM_has hC gates w  M sz (d - 1) (by omega)) (by omega) ⟨rfl, rfl⟩ rfl rfl (Nat.le_of_ble_eq_true rfl) ⟨Nat.le_of_ble_eq_true rfl, Nat.le_of_ble_eq_true rfl⟩ (gs_Zp fun z2 => ?_)
  refine gb_if_ne hqX12_isWatched rfl (fun h3 => ?_) (fun h3 => ?_)
  ·
    have hr := g_if0 h3 hr
    refine gb_run 2 (pc2 := 30) (ls2 := [(0, .ref (464)), (1, .int (gates)), (2, .int (w))]) (st2 := [.int (1)]) (M2 := M) hC hqX12_isWatched rfl ?_
    refine gb_zret hqX12_isWatched rfl rfl (Nat.le_of_ble_eq_true rfl) (Nat.le_of_ble_eq_true rfl) (Or.inr rfl) ?_
    exact gl_Zp (Or.inr rfl) hr
  ·
    have hr := g_if1 h3 hr
    refine gb_run 7 (pc2 := 17) (ls2 := [(0, .ref (464)), (1, .int (gates)), (2, .int (w))]) (st2 := [.int (0), .ref (468), .int (w + (1 : Int32)), .int (gates)]) (M2 := M) hC hqX12_isWatched rfl ?_
    refine gb_iaload hC hqX12_isWatched rfl (Nat.le_of_ble_eq_true rfl) rfl (by unfold vp_in; decide) ?_
    rw [show (0 : Int32).toNatClampNeg = 0 from rfl]
    obtain ⟨h4, hr⟩ := g_nz hr
    refine gb_irem hqX12_isWatched rfl h4 ?_
    refine gz_cS (z := qX12_has) (av := [.int (gates), .int ((w + (1 : Int32)) - (w + (1 : Int32)) / (M 468 0) * (M 468 0))]) (rest := []) (pl := 1653) hC hqX12_isWatched rfl kX12_has (by decide +kernel) (c_FM_has hC gates ((w + (1 : Int32)) - (w + (1 : Int32)) / (M 468 0) * (M 468 0))  M sz (d - 1) (by omega)) (by omega) ⟨rfl, rfl⟩ rfl rfl (Nat.le_of_ble_eq_true rfl) ⟨Nat.le_of_ble_eq_true rfl, Nat.le_of_ble_eq_true rfl⟩ (gs_Zp fun z6 => ?_)
    refine gb_if_eq hqX12_isWatched rfl (fun h7 => ?_) (fun h7 => ?_)
    ·
      have hr := g_if1 h7 hr
      refine gb_run 1 (pc2 := 30) (ls2 := [(0, .ref (464)), (1, .int (gates)), (2, .int (w))]) (st2 := [.int (0)]) (M2 := M) hC hqX12_isWatched rfl ?_
      refine gb_zret hqX12_isWatched rfl rfl (Nat.le_of_ble_eq_true rfl) (Nat.le_of_ble_eq_true rfl) (Or.inl rfl) ?_
      exact gl_Zp (Or.inl rfl) hr
    ·
      have hr := g_if0 h7 hr
      refine gb_run 2 (pc2 := 30) (ls2 := [(0, .ref (464)), (1, .int (gates)), (2, .int (w))]) (st2 := [.int (1)]) (M2 := M) hC hqX12_isWatched rfl ?_
      refine gb_zret hqX12_isWatched rfl rfl (Nat.le_of_ble_eq_true rfl) (Nat.le_of_ble_eq_true rfl) (Or.inr rfl) ?_
      exact gl_Zp (Or.inr rfl) hr
def FM_watchedBy_L4 (gates : Int32) (M : gM) : Nat → Int32 → Int32 → Option (Int32)
  | 0, _, _ => none
  | k + 1, x2, x3 =>
  if (M 468 0) ≤ x3 then (some x2) else ((FM_isWatched gates x3 M).bind fun s2 => if s2 = (0 : Int32) then (FM_watchedBy_L4 gates M k (x2 + (0 : Int32)) (x3 + (1 : Int32))) else (g_ix x3 8 fun j5 => FM_watchedBy_L4 gates M k (x2 + (M (481 + j5) 1)) (x3 + (1 : Int32))))
set_option maxRecDepth 20000 in
theorem c_FM_watchedBy_L4 {l : Launch} {C : gC} (hC : g_ctx l C) (gates : Int32) (M : gM) (sz d : Nat) (hd : 3 ≤ d) (R : Int32) : ∀ (k : Nat) (x2 : Int32) (x3 : Int32), FM_watchedBy_L4 gates M k x2 x3 = some R → GW l C qX12_watchedBy d (gQg 956 g_S0 (qIp M R) sz) gN 0 0 4 [(0, .ref (464)), (1, .int (gates)), (2, .int (x2)), (3, .int (x3))] [] (956, g_S0, M, sz) := by
  intro k
  induction k with
  | zero => intro x2 x3 hr; exact nomatch (show (none : Option (Int32)) = some R from hr)
  | succ k ih =>
    intro x2 x3 hr
    unfold FM_watchedBy_L4 at hr
    refine gb_run 4 (pc2 := 10) (ls2 := [(0, .ref (464)), (1, .int (gates)), (2, .int (x2)), (3, .int (x3))]) (st2 := [.int (0), .ref (468), .int (x3)]) (M2 := M) hC hqX12_watchedBy rfl ?_
    refine gb_iaload hC hqX12_watchedBy rfl (Nat.le_of_ble_eq_true rfl) rfl (by unfold vp_in; decide) ?_
    rw [show (0 : Int32).toNatClampNeg = 0 from rfl]
    refine gb_icmp_ge hqX12_watchedBy rfl (fun h1 => ?_) (fun h1 => ?_)
    ·
      have hr := g_if1 h1 hr
      refine gb_run 1 (pc2 := 45) (ls2 := [(0, .ref (464)), (1, .int (gates)), (2, .int (x2)), (3, .int (x3))]) (st2 := [.int (x2)]) (M2 := M) hC hqX12_watchedBy rfl ?_
      refine gb_iret hqX12_watchedBy rfl rfl (Nat.le_of_ble_eq_true rfl) (Nat.le_of_ble_eq_true rfl) ?_
      exact gl_Ip hr
    ·
      have hr := g_if0 h1 hr
      refine gb_run 4 (pc2 := 18) (ls2 := [(0, .ref (464)), (1, .int (gates)), (2, .int (x2)), (3, .int (x3))]) (st2 := [.int (x3), .int (gates), .ref (464), .int (x2)]) (M2 := M) hC hqX12_watchedBy rfl ?_
      obtain ⟨s2, es2, hr⟩ := g_bd hr
      refine gz_cV (z := qX12_isWatched) (a := 464) (av := [.int (gates), .int (x3)]) (rest := [.int (x2)]) (pl := 1875) hC hqX12_watchedBy rfl kX12_isWatched sX12_isWatched (by decide +kernel) (c_FM_isWatched hC gates x3  M sz (d - 1) (by omega) s2 es2) (by omega) ⟨rfl, rfl⟩ rfl (Nat.le_of_ble_eq_true rfl) (Nat.le_of_ble_eq_true rfl) rfl rfl rfl (Nat.le_of_ble_eq_true rfl) ⟨Nat.le_of_ble_eq_true rfl, Nat.le_of_ble_eq_true rfl⟩ (gs_Zp fun z3 => ?_)
      refine gb_if_eq hqX12_watchedBy rfl (fun h4 => ?_) (fun h4 => ?_)
      ·
        have hr := g_if1 h4 hr
        refine gb_run 5 (pc2 := 4) (ls2 := [(3, .int (x3 + (1 : Int32))), (2, .int (x2 + (0 : Int32))), (0, .ref (464)), (1, .int (gates))]) (st2 := []) (M2 := M) hC hqX12_watchedBy rfl ?_
        refine gw_pick [2, 3, 1, 0] (ls2 := [(0, .ref (464)), (1, .int (gates)), (2, .int (x2 + (0 : Int32))), (3, .int (x3 + (1 : Int32)))]) rfl ?_
        exact ih (x2 + (0 : Int32)) (x3 + (1 : Int32)) hr
      ·
        have hr := g_if0 h4 hr
        refine gb_run 3 (pc2 := 29) (ls2 := [(0, .ref (464)), (1, .int (gates)), (2, .int (x2)), (3, .int (x3))]) (st2 := [.int (x3), .ref (480), .int (x2)]) (M2 := M) hC hqX12_watchedBy rfl ?_
        obtain ⟨j5, ej5, ij5, lj5, hr⟩ := g_ixo hr
        have tj5 := g_t480 j5 lj5
        refine gz_aaload (k0 := 2) (q := 481 + j5) hC hqX12_watchedBy rfl (Nat.le_of_ble_eq_true rfl) rfl (Nat.le_of_ble_eq_true rfl) ij5 ej5 tj5.1 ?_
        refine gb_run 1 (pc2 := 31) (ls2 := [(0, .ref (464)), (1, .int (gates)), (2, .int (x2)), (3, .int (x3))]) (st2 := [.int (1), .ref (481 + j5), .int (x2)]) (M2 := M) hC hqX12_watchedBy rfl ?_
        refine gb_iaload hC hqX12_watchedBy rfl tj5.2.1 (g_S3 tj5.2.2.1 tj5.2.2.2) (by unfold vp_in; decide) ?_
        rw [show (1 : Int32).toNatClampNeg = 1 from rfl]
        refine gb_run 5 (pc2 := 4) (ls2 := [(3, .int (x3 + (1 : Int32))), (2, .int (x2 + (M (481 + j5) 1))), (0, .ref (464)), (1, .int (gates))]) (st2 := []) (M2 := M) hC hqX12_watchedBy rfl ?_
        refine gw_pick [2, 3, 1, 0] (ls2 := [(0, .ref (464)), (1, .int (gates)), (2, .int (x2 + (M (481 + j5) 1))), (3, .int (x3 + (1 : Int32)))]) rfl ?_
        exact ih (x2 + (M (481 + j5) 1)) (x3 + (1 : Int32)) hr
def FM_watchedBy (gates : Int32) (M : gM) : Option (Int32) :=
  FM_watchedBy_L4 gates M 1000 (0 : Int32) (0 : Int32)
set_option maxRecDepth 20000 in
theorem c_FM_watchedBy {l : Launch} {C : gC} (hC : g_ctx l C) (gates : Int32)  (M : gM) (sz d : Nat) (hd : 3 ≤ d) (R : Int32) (hr : FM_watchedBy gates M = some R) : gPg l C qX12_watchedBy d [.ref (464), .int (gates)] 956 g_S0 M sz (qIp M R) := by
  refine gPg.of (ls := [(0, .ref (464)), (1, .int (gates))]) (by decide +kernel) (Nat.le_of_ble_eq_true rfl) rfl ?_
  unfold FM_watchedBy at hr
  refine gb_run 4 (pc2 := 4) (ls2 := [(3, .int (0)), (2, .int (0)), (0, .ref (464)), (1, .int (gates))]) (st2 := []) (M2 := M) hC hqX12_watchedBy rfl ?_
  refine gw_pick [2, 3, 1, 0] (ls2 := [(0, .ref (464)), (1, .int (gates)), (2, .int (0)), (3, .int (0))]) rfl ?_
  exact c_FM_watchedBy_L4 hC gates M sz d (by omega) R 1000 (0 : Int32) (0 : Int32) hr
def FM_mean_J30 (n : Int32) (part : Int32) (y0 : Int32) (M : gM) : Option (Int32 × gM) :=
  (FM_bad y0 (1 : Int32) (1 : Int32) M).bind fun s1 => if s1.1 = (0 : Int32) then ((FM_watchedBy (((1 : Int32) <<< (((s1.2) 468 0) &&& 31)) - (1 : Int32)) (s1.2)).bind fun s4 => (FM_part (n.toInt64 * s4.toInt64) (16 : Int64) part).bind fun s5 => some (s5.toInt32, s1.2)) else (some (0, s1.2))
set_option maxRecDepth 20000 in
theorem c_FM_mean_J30 {l : Launch} {C : gC} (hC : g_ctx l C) (n : Int32) (part : Int32) (sz d : Nat) (hd : 4 ≤ d) (R : Int32 × gM) (y0 : Int32) (M : gM) (hr : FM_mean_J30 n part y0 M = some R) : GW l C qX12_mean d (gQg 956 g_S0 (qI R) sz) gN 0 0 30 [(0, .ref (464)), (1, .int (n)), (2, .int (part))] [.int (y0), .ref (464)] (956, g_S0, M, sz) := by
  unfold FM_mean_J30 at hr
  refine gb_run 2 (pc2 := 32) (ls2 := [(0, .ref (464)), (1, .int (n)), (2, .int (part))]) (st2 := [.int (1), .int (1), .int (y0), .ref (464)]) (M2 := M) hC hqX12_mean rfl ?_
  obtain ⟨s1, es1, hr⟩ := g_bd hr
  refine gz_cV (z := qX12_bad) (a := 464) (av := [.int (y0), .int (1), .int (1)]) (rest := []) (pl := 1551) hC hqX12_mean rfl kX12_bad sX12_bad (by decide +kernel) (c_FM_bad hC y0 (1 : Int32) (1 : Int32)  M sz (d - 1) (by omega) s1 es1) (by omega) ⟨rfl, rfl⟩ rfl (Nat.le_of_ble_eq_true rfl) (Nat.le_of_ble_eq_true rfl) rfl rfl rfl (Nat.le_of_ble_eq_true rfl) ⟨Nat.le_of_ble_eq_true rfl, Nat.le_of_ble_eq_true rfl⟩ (gs_Z fun z2 => ?_)
  refine gb_if_eq hqX12_mean rfl (fun h3 => ?_) (fun h3 => ?_)
  ·
    have hr := g_if1 h3 hr
    refine gb_run 7 (pc2 := 49) (ls2 := [(0, .ref (464)), (1, .int (n)), (2, .int (part))]) (st2 := [.int (0), .ref (468), .int (1), .ref (464), .long (n.toInt64)]) (M2 := s1.2) hC hqX12_mean rfl ?_
    refine gb_iaload hC hqX12_mean rfl (Nat.le_of_ble_eq_true rfl) rfl (by unfold vp_in; decide) ?_
    rw [show (0 : Int32).toNatClampNeg = 0 from rfl]
    refine gb_run 3 (pc2 := 53) (ls2 := [(0, .ref (464)), (1, .int (n)), (2, .int (part))]) (st2 := [.int (((1 : Int32) <<< (((s1.2) 468 0) &&& 31)) - (1 : Int32)), .ref (464), .long (n.toInt64)]) (M2 := s1.2) hC hqX12_mean rfl ?_
    obtain ⟨s4, es4, hr⟩ := g_bd hr
    refine gz_cV (z := qX12_watchedBy) (a := 464) (av := [.int (((1 : Int32) <<< (((s1.2) 468 0) &&& 31)) - (1 : Int32))]) (rest := [.long (n.toInt64)]) (pl := 1871) hC hqX12_mean rfl kX12_watchedBy sX12_watchedBy (by decide +kernel) (c_FM_watchedBy hC (((1 : Int32) <<< (((s1.2) 468 0) &&& 31)) - (1 : Int32))  (s1.2) sz (d - 1) (by omega) s4 es4) (by omega) ⟨rfl, rfl⟩ rfl (Nat.le_of_ble_eq_true rfl) (Nat.le_of_ble_eq_true rfl) rfl rfl rfl (Nat.le_of_ble_eq_true rfl) ⟨Nat.le_of_ble_eq_true rfl, Nat.le_of_ble_eq_true rfl⟩ (gs_Ip ?_)
    refine gb_run 4 (pc2 := 62) (ls2 := [(0, .ref (464)), (1, .int (n)), (2, .int (part))]) (st2 := [.int (part), .long (16), .long (n.toInt64 * s4.toInt64)]) (M2 := s1.2) hC hqX12_mean rfl ?_
    obtain ⟨s5, es5, hr⟩ := g_bd hr
    refine gz_cS (z := qX12_part) (av := [.long (n.toInt64 * s4.toInt64), .long (16), .int (part)]) (rest := []) (pl := 1864) hC hqX12_mean rfl kX12_part (by decide +kernel) (c_FM_part hC (n.toInt64 * s4.toInt64) (16 : Int64) part  (s1.2) sz (d - 1) (by omega) s5 es5) (by omega) ⟨rfl, rfl⟩ rfl rfl (Nat.le_of_ble_eq_true rfl) ⟨Nat.le_of_ble_eq_true rfl, Nat.le_of_ble_eq_true rfl⟩ (gs_Jp ?_)
    refine gb_run 1 (pc2 := 66) (ls2 := [(0, .ref (464)), (1, .int (n)), (2, .int (part))]) (st2 := [.int (s5.toInt32)]) (M2 := s1.2) hC hqX12_mean rfl ?_
    refine gb_iret hqX12_mean rfl rfl (Nat.le_of_ble_eq_true rfl) (Nat.le_of_ble_eq_true rfl) ?_
    exact gl_I hr
  ·
    have hr := g_if0 h3 hr
    refine gb_run 1 (pc2 := 39) (ls2 := [(0, .ref (464)), (1, .int (n)), (2, .int (part))]) (st2 := [.int (0)]) (M2 := s1.2) hC hqX12_mean rfl ?_
    refine gb_iret hqX12_mean rfl rfl (Nat.le_of_ble_eq_true rfl) (Nat.le_of_ble_eq_true rfl) ?_
    exact gl_I hr
def FM_mean_J25 (n : Int32) (part : Int32) (M : gM) : Option (Int32 × gM) :=
  FM_mean_J30 n part (1 : Int32) M
set_option maxRecDepth 20000 in
theorem c_FM_mean_J25 {l : Launch} {C : gC} (hC : g_ctx l C) (n : Int32) (part : Int32) (sz d : Nat) (hd : 4 ≤ d) (R : Int32 × gM) (M : gM) (hr : FM_mean_J25 n part M = some R) : GW l C qX12_mean d (gQg 956 g_S0 (qI R) sz) gN 0 0 25 [(0, .ref (464)), (1, .int (n)), (2, .int (part))] [.ref (464)] (956, g_S0, M, sz) := by
  unfold FM_mean_J25 at hr
  refine gb_run 2 (pc2 := 30) (ls2 := [(0, .ref (464)), (1, .int (n)), (2, .int (part))]) (st2 := [.int (1), .ref (464)]) (M2 := M) hC hqX12_mean rfl ?_
  exact c_FM_mean_J30 hC n part sz d (by omega) R (1 : Int32) M hr
def FM_mean (n : Int32) (part : Int32) (M : gM) : Option (Int32 × gM) :=
  if (FM_in n (0 : Int32) (99 : Int32)) = (0 : Int32) then (FM_mean_J25 n part (g_set M 464 0 (0 : Int32))) else (if (FM_in part (0 : Int32) (1 : Int32)) = (0 : Int32) then (FM_mean_J25 n part (g_set M 464 0 (0 : Int32))) else (FM_mean_J30 n part (0 : Int32) (g_set M 464 0 (0 : Int32))))
set_option maxRecDepth 20000 in
theorem c_FM_mean {l : Launch} {C : gC} (hC : g_ctx l C) (n : Int32) (part : Int32)  (M : gM) (sz d : Nat) (hd : 4 ≤ d) (R : Int32 × gM) (hr : FM_mean n part M = some R) : gPg l C qX12_mean d [.ref (464), .int (n), .int (part)] 956 g_S0 M sz (qI R) := by
  refine gPg.of (ls := [(0, .ref (464)), (1, .int (n)), (2, .int (part))]) (by decide +kernel) (Nat.le_of_ble_eq_true rfl) rfl ?_
  unfold FM_mean at hr
  refine gb_run 7 (pc2 := 10) (ls2 := [(0, .ref (464)), (1, .int (n)), (2, .int (part))]) (st2 := [.int (99), .int (0), .int (n), .ref (464)]) (M2 := g_set M 464 0 (0 : Int32)) hC hqX12_mean rfl ?_
  refine gz_cS (z := qX12_in) (av := [.int (n), .int (0), .int (99)]) (rest := [.ref (464)]) (pl := 1548) hC hqX12_mean rfl kX12_in (by decide +kernel) (c_FM_in hC n (0 : Int32) (99 : Int32)  (g_set M 464 0 (0 : Int32)) sz (d - 1) (by omega)) (by omega) ⟨rfl, rfl⟩ rfl rfl (Nat.le_of_ble_eq_true rfl) ⟨Nat.le_of_ble_eq_true rfl, Nat.le_of_ble_eq_true rfl⟩ (gs_Zp fun z2 => ?_)
  refine gb_if_eq hqX12_mean rfl (fun h3 => ?_) (fun h3 => ?_)
  ·
    have hr := g_if1 h3 hr
    exact c_FM_mean_J25 hC n part sz d (by omega) R (g_set M 464 0 (0 : Int32)) hr
  ·
    have hr := g_if0 h3 hr
    refine gb_run 3 (pc2 := 19) (ls2 := [(0, .ref (464)), (1, .int (n)), (2, .int (part))]) (st2 := [.int (1), .int (0), .int (part), .ref (464)]) (M2 := g_set M 464 0 (0 : Int32)) hC hqX12_mean rfl ?_
    refine gz_cS (z := qX12_in) (av := [.int (part), .int (0), .int (1)]) (rest := [.ref (464)]) (pl := 1548) hC hqX12_mean rfl kX12_in (by decide +kernel) (c_FM_in hC part (0 : Int32) (1 : Int32)  (g_set M 464 0 (0 : Int32)) sz (d - 1) (by omega)) (by omega) ⟨rfl, rfl⟩ rfl rfl (Nat.le_of_ble_eq_true rfl) ⟨Nat.le_of_ble_eq_true rfl, Nat.le_of_ble_eq_true rfl⟩ (gs_Zp fun z5 => ?_)
    refine gb_if_ne hqX12_mean rfl (fun h6 => ?_) (fun h6 => ?_)
    ·
      have hr := g_if0 h6 hr
      refine gb_run 1 (pc2 := 30) (ls2 := [(0, .ref (464)), (1, .int (n)), (2, .int (part))]) (st2 := [.int (0), .ref (464)]) (M2 := g_set M 464 0 (0 : Int32)) hC hqX12_mean rfl ?_
      exact c_FM_mean_J30 hC n part sz d (by omega) R (0 : Int32) (g_set M 464 0 (0 : Int32)) hr
    ·
      have hr := g_if1 h6 hr
      exact c_FM_mean_J25 hC n part sz d (by omega) R (g_set M 464 0 (0 : Int32)) hr
def FM_stands_L59 (q : Int32) (n : Int32) (part : Int32) : Nat → Int64 → Int64 → Int32 → gM → Option (Int64 × gM)
  | 0, _, _, _, _ => none
  | k + 1, x4, x6, x8, M =>
  if n ≤ x8 then ((FM_part x4 x6 part).bind fun s2 => some (s2, M)) else (FM_stands_L59 q n part k (x4 * (((16 : Int32) - q).toInt64)) (x6 * (16 : Int64)) (x8 + (1 : Int32)) M)
set_option maxRecDepth 20000 in
theorem c_FM_stands_L59 {l : Launch} {C : gC} (hC : g_ctx l C) (q : Int32) (n : Int32) (part : Int32) (sz d : Nat) (hd : 2 ≤ d) (R : Int64 × gM) : ∀ (k : Nat) (x4 : Int64) (x6 : Int64) (x8 : Int32) (M : gM), FM_stands_L59 q n part k x4 x6 x8 M = some R → GW l C qX12_stands d (gQg 956 g_S0 (qJ R) sz) gN 0 0 59 [(1, .int (q)), (2, .int (n)), (3, .int (part)), (4, .long (x4)), (6, .long (x6)), (8, .int (x8))] [] (956, g_S0, M, sz) := by
  intro k
  induction k with
  | zero => intro x4 x6 x8 M hr; exact nomatch (show (none : Option (Int64 × gM)) = some R from hr)
  | succ k ih =>
    intro x4 x6 x8 M hr
    unfold FM_stands_L59 at hr
    refine gb_run 2 (pc2 := 62) (ls2 := [(1, .int (q)), (2, .int (n)), (3, .int (part)), (4, .long (x4)), (6, .long (x6)), (8, .int (x8))]) (st2 := [.int (n), .int (x8)]) (M2 := M) hC hqX12_stands rfl ?_
    refine gb_icmp_ge hqX12_stands rfl (fun h1 => ?_) (fun h1 => ?_)
    ·
      have hr := g_if1 h1 hr
      refine gb_run 3 (pc2 := 94) (ls2 := [(1, .int (q)), (2, .int (n)), (3, .int (part)), (4, .long (x4)), (6, .long (x6)), (8, .int (x8))]) (st2 := [.int (part), .long (x6), .long (x4)]) (M2 := M) hC hqX12_stands rfl ?_
      obtain ⟨s2, es2, hr⟩ := g_bd hr
      refine gz_cS (z := qX12_part) (av := [.long (x4), .long (x6), .int (part)]) (rest := []) (pl := 1864) hC hqX12_stands rfl kX12_part (by decide +kernel) (c_FM_part hC x4 x6 part  M sz (d - 1) (by omega) s2 es2) (by omega) ⟨rfl, rfl⟩ rfl rfl (Nat.le_of_ble_eq_true rfl) ⟨Nat.le_of_ble_eq_true rfl, Nat.le_of_ble_eq_true rfl⟩ (gs_Jp ?_)
      refine gb_lret hqX12_stands rfl rfl (Nat.le_of_ble_eq_true rfl) (Nat.le_of_ble_eq_true rfl) ?_
      exact gl_J hr
    ·
      have hr := g_if0 h1 hr
      refine gb_run 13 (pc2 := 59) (ls2 := [(8, .int (x8 + (1 : Int32))), (6, .long (x6 * (16 : Int64))), (4, .long (x4 * (((16 : Int32) - q).toInt64))), (1, .int (q)), (2, .int (n)), (3, .int (part))]) (st2 := []) (M2 := M) hC hqX12_stands rfl ?_
      refine gw_pick [3, 4, 5, 2, 1, 0] (ls2 := [(1, .int (q)), (2, .int (n)), (3, .int (part)), (4, .long (x4 * (((16 : Int32) - q).toInt64))), (6, .long (x6 * (16 : Int64))), (8, .int (x8 + (1 : Int32)))]) rfl ?_
      exact ih (x4 * (((16 : Int32) - q).toInt64)) (x6 * (16 : Int64)) (x8 + (1 : Int32)) M hr
def FM_stands_J40 (q : Int32) (n : Int32) (part : Int32) (y0 : Int32) (M : gM) : Option (Int64 × gM) :=
  (FM_bad y0 (1 : Int32) (1 : Int32) M).bind fun s1 => if s1.1 = (0 : Int32) then (FM_stands_L59 q n part 1000 (1 : Int64) (1 : Int64) (0 : Int32) (s1.2)) else (some ((0 : Int64), s1.2))
set_option maxRecDepth 20000 in
theorem c_FM_stands_J40 {l : Launch} {C : gC} (hC : g_ctx l C) (q : Int32) (n : Int32) (part : Int32) (sz d : Nat) (hd : 2 ≤ d) (R : Int64 × gM) (y0 : Int32) (M : gM) (hr : FM_stands_J40 q n part y0 M = some R) : GW l C qX12_stands d (gQg 956 g_S0 (qJ R) sz) gN 0 0 40 [(1, .int (q)), (2, .int (n)), (3, .int (part))] [.int (y0), .ref (464)] (956, g_S0, M, sz) := by
  unfold FM_stands_J40 at hr
  refine gb_run 2 (pc2 := 42) (ls2 := [(1, .int (q)), (2, .int (n)), (3, .int (part))]) (st2 := [.int (1), .int (1), .int (y0), .ref (464)]) (M2 := M) hC hqX12_stands rfl ?_
  obtain ⟨s1, es1, hr⟩ := g_bd hr
  refine gz_cV (z := qX12_bad) (a := 464) (av := [.int (y0), .int (1), .int (1)]) (rest := []) (pl := 1551) hC hqX12_stands rfl kX12_bad sX12_bad (by decide +kernel) (c_FM_bad hC y0 (1 : Int32) (1 : Int32)  M sz (d - 1) (by omega) s1 es1) (by omega) ⟨rfl, rfl⟩ rfl (Nat.le_of_ble_eq_true rfl) (Nat.le_of_ble_eq_true rfl) rfl rfl rfl (Nat.le_of_ble_eq_true rfl) ⟨Nat.le_of_ble_eq_true rfl, Nat.le_of_ble_eq_true rfl⟩ (gs_Z fun z2 => ?_)
  refine gb_if_eq hqX12_stands rfl (fun h3 => ?_) (fun h3 => ?_)
  ·
    have hr := g_if1 h3 hr
    refine gb_run 6 (pc2 := 59) (ls2 := [(8, .int (0)), (6, .long (1)), (4, .long (1)), (1, .int (q)), (2, .int (n)), (3, .int (part))]) (st2 := []) (M2 := s1.2) hC hqX12_stands rfl ?_
    refine gw_pick [3, 4, 5, 2, 1, 0] (ls2 := [(1, .int (q)), (2, .int (n)), (3, .int (part)), (4, .long (1)), (6, .long (1)), (8, .int (0))]) rfl ?_
    exact c_FM_stands_L59 hC q n part sz d (by omega) R 1000 (1 : Int64) (1 : Int64) (0 : Int32) (s1.2) hr
  ·
    have hr := g_if0 h3 hr
    refine gb_run 1 (pc2 := 49) (ls2 := [(1, .int (q)), (2, .int (n)), (3, .int (part))]) (st2 := [.long (0)]) (M2 := s1.2) hC hqX12_stands rfl ?_
    refine gb_lret hqX12_stands rfl rfl (Nat.le_of_ble_eq_true rfl) (Nat.le_of_ble_eq_true rfl) ?_
    exact gl_J hr
def FM_stands_J35 (q : Int32) (n : Int32) (part : Int32) (M : gM) : Option (Int64 × gM) :=
  FM_stands_J40 q n part (1 : Int32) M
set_option maxRecDepth 20000 in
theorem c_FM_stands_J35 {l : Launch} {C : gC} (hC : g_ctx l C) (q : Int32) (n : Int32) (part : Int32) (sz d : Nat) (hd : 2 ≤ d) (R : Int64 × gM) (M : gM) (hr : FM_stands_J35 q n part M = some R) : GW l C qX12_stands d (gQg 956 g_S0 (qJ R) sz) gN 0 0 35 [(1, .int (q)), (2, .int (n)), (3, .int (part))] [.ref (464)] (956, g_S0, M, sz) := by
  unfold FM_stands_J35 at hr
  refine gb_run 2 (pc2 := 40) (ls2 := [(1, .int (q)), (2, .int (n)), (3, .int (part))]) (st2 := [.int (1), .ref (464)]) (M2 := M) hC hqX12_stands rfl ?_
  exact c_FM_stands_J40 hC q n part sz d (by omega) R (1 : Int32) M hr
def FM_stands (q : Int32) (n : Int32) (part : Int32) (M : gM) : Option (Int64 × gM) :=
  if (FM_in q (0 : Int32) (16 : Int32)) = (0 : Int32) then (FM_stands_J35 q n part (g_set M 464 0 (0 : Int32))) else (if (FM_in n (0 : Int32) (12 : Int32)) = (0 : Int32) then (FM_stands_J35 q n part (g_set M 464 0 (0 : Int32))) else (if (FM_in part (0 : Int32) (1 : Int32)) = (0 : Int32) then (FM_stands_J35 q n part (g_set M 464 0 (0 : Int32))) else (FM_stands_J40 q n part (0 : Int32) (g_set M 464 0 (0 : Int32)))))
set_option maxRecDepth 20000 in
theorem c_FM_stands {l : Launch} {C : gC} (hC : g_ctx l C) (q : Int32) (n : Int32) (part : Int32)  (M : gM) (sz d : Nat) (hd : 2 ≤ d) (R : Int64 × gM) (hr : FM_stands q n part M = some R) : gPg l C qX12_stands d [.ref (464), .int (q), .int (n), .int (part)] 956 g_S0 M sz (qJ R) := by
  refine gPg.of (ls := [(0, .ref (464)), (1, .int (q)), (2, .int (n)), (3, .int (part))]) (by decide +kernel) (Nat.le_of_ble_eq_true rfl) rfl ?_
  unfold FM_stands at hr
  refine gb_run 7 (pc2 := 10) (ls2 := [(0, .ref (464)), (1, .int (q)), (2, .int (n)), (3, .int (part))]) (st2 := [.int (16), .int (0), .int (q), .ref (464)]) (M2 := g_set M 464 0 (0 : Int32)) hC hqX12_stands rfl ?_
  refine gz_cS (z := qX12_in) (av := [.int (q), .int (0), .int (16)]) (rest := [.ref (464)]) (pl := 1548) hC hqX12_stands rfl kX12_in (by decide +kernel) (c_FM_in hC q (0 : Int32) (16 : Int32)  (g_set M 464 0 (0 : Int32)) sz (d - 1) (by omega)) (by omega) ⟨rfl, rfl⟩ rfl rfl (Nat.le_of_ble_eq_true rfl) ⟨Nat.le_of_ble_eq_true rfl, Nat.le_of_ble_eq_true rfl⟩ (gs_Zp fun z2 => ?_)
  refine gb_if_eq hqX12_stands rfl (fun h3 => ?_) (fun h3 => ?_)
  ·
    have hr := g_if1 h3 hr
    refine gw_pick [1, 2, 3] (ls2 := [(1, .int (q)), (2, .int (n)), (3, .int (part))]) rfl ?_
    exact c_FM_stands_J35 hC q n part sz d (by omega) R (g_set M 464 0 (0 : Int32)) hr
  ·
    have hr := g_if0 h3 hr
    refine gb_run 3 (pc2 := 20) (ls2 := [(0, .ref (464)), (1, .int (q)), (2, .int (n)), (3, .int (part))]) (st2 := [.int (12), .int (0), .int (n), .ref (464)]) (M2 := g_set M 464 0 (0 : Int32)) hC hqX12_stands rfl ?_
    refine gz_cS (z := qX12_in) (av := [.int (n), .int (0), .int (12)]) (rest := [.ref (464)]) (pl := 1548) hC hqX12_stands rfl kX12_in (by decide +kernel) (c_FM_in hC n (0 : Int32) (12 : Int32)  (g_set M 464 0 (0 : Int32)) sz (d - 1) (by omega)) (by omega) ⟨rfl, rfl⟩ rfl rfl (Nat.le_of_ble_eq_true rfl) ⟨Nat.le_of_ble_eq_true rfl, Nat.le_of_ble_eq_true rfl⟩ (gs_Zp fun z5 => ?_)
    refine gb_if_eq hqX12_stands rfl (fun h6 => ?_) (fun h6 => ?_)
    ·
      have hr := g_if1 h6 hr
      refine gw_pick [1, 2, 3] (ls2 := [(1, .int (q)), (2, .int (n)), (3, .int (part))]) rfl ?_
      exact c_FM_stands_J35 hC q n part sz d (by omega) R (g_set M 464 0 (0 : Int32)) hr
    ·
      have hr := g_if0 h6 hr
      refine gb_run 3 (pc2 := 29) (ls2 := [(0, .ref (464)), (1, .int (q)), (2, .int (n)), (3, .int (part))]) (st2 := [.int (1), .int (0), .int (part), .ref (464)]) (M2 := g_set M 464 0 (0 : Int32)) hC hqX12_stands rfl ?_
      refine gz_cS (z := qX12_in) (av := [.int (part), .int (0), .int (1)]) (rest := [.ref (464)]) (pl := 1548) hC hqX12_stands rfl kX12_in (by decide +kernel) (c_FM_in hC part (0 : Int32) (1 : Int32)  (g_set M 464 0 (0 : Int32)) sz (d - 1) (by omega)) (by omega) ⟨rfl, rfl⟩ rfl rfl (Nat.le_of_ble_eq_true rfl) ⟨Nat.le_of_ble_eq_true rfl, Nat.le_of_ble_eq_true rfl⟩ (gs_Zp fun z8 => ?_)
      refine gb_if_ne hqX12_stands rfl (fun h9 => ?_) (fun h9 => ?_)
      ·
        have hr := g_if0 h9 hr
        refine gb_run 1 (pc2 := 40) (ls2 := [(0, .ref (464)), (1, .int (q)), (2, .int (n)), (3, .int (part))]) (st2 := [.int (0), .ref (464)]) (M2 := g_set M 464 0 (0 : Int32)) hC hqX12_stands rfl ?_
        refine gw_pick [1, 2, 3] (ls2 := [(1, .int (q)), (2, .int (n)), (3, .int (part))]) rfl ?_
        exact c_FM_stands_J40 hC q n part sz d (by omega) R (0 : Int32) (g_set M 464 0 (0 : Int32)) hr
      ·
        have hr := g_if1 h9 hr
        refine gw_pick [1, 2, 3] (ls2 := [(1, .int (q)), (2, .int (n)), (3, .int (part))]) rfl ?_
        exact c_FM_stands_J35 hC q n part sz d (by omega) R (g_set M 464 0 (0 : Int32)) hr
