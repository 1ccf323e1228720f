/-! park, decompiled. -/
def FP_clear  (M : gM) : Option (gM) :=
  some (g_set (g_set (g_set (g_set (g_set M 9 5 (0 : Int32)) 9 6 (0 : Int32)) 9 7 (0 : Int32)) 9 8 (60 : Int32)) 9 9 (5 : Int32))
set_option maxRecDepth 20000 in
theorem c_FP_clear {l : Launch} {C : gC} (hC : g_ctx l C)   (M : gM) (sz d : Nat) (hd : 1 ≤ d) (R : gM) (hr : FP_clear M = some R) : gPg l C qX6_clear d [.ref (9)] 956 g_S0 M sz (qV R) := by
  refine gPg.of (ls := [(0, .ref (9))]) (by decide +kernel) (Nat.le_of_ble_eq_true rfl) rfl ?_
  unfold FP_clear at hr
  refine gb_run 15 (pc2 := 26) (ls2 := [(0, .ref (9))]) (st2 := []) (M2 := g_set (g_set (g_set (g_set (g_set M 9 5 (0 : Int32)) 9 6 (0 : Int32)) 9 7 (0 : Int32)) 9 8 (60 : Int32)) 9 9 (5 : Int32)) hC hqX6_clear rfl ?_
  refine gb_vret hqX6_clear rfl rfl (Nat.le_of_ble_eq_true rfl) (Nat.le_of_ble_eq_true rfl) ?_
  exact gl_V hr
def FP_copy  (M : gM) : Option (gM) :=
  g_let (r_copy M 10 4 8) fun M1 => g_let (r_copy M1 11 5 8) fun M2 => g_let (r_copy M2 12 6 8) fun M3 => g_let (r_copy M3 13 7 8) fun M4 => g_let (r_copy M4 14 8 8) fun M5 => some (g_set (g_set (g_set (g_set (g_set M5 3 5 (M5 9 5)) 3 6 (M5 9 6)) 3 7 (M5 9 7)) 3 8 (M5 9 8)) 3 9 (M5 9 9))
set_option maxRecDepth 20000 in
theorem c_FP_copy {l : Launch} {C : gC} (hC : g_ctx l C)   (M : gM) (sz d : Nat) (hd : 2 ≤ d) (R : gM) (hr : FP_copy M = some R) : gPg l C qX6_copy d [.ref (3), .ref (9)] 956 g_S0 M sz (qV R) := by
  refine gPg.of (ls := [(0, .ref (3)), (1, .ref (9))]) (by decide +kernel) (Nat.le_of_ble_eq_true rfl) rfl ?_
  unfold FP_copy at hr
  refine gb_run 4 (pc2 := 8) (ls2 := [(0, .ref (3)), (1, .ref (9))]) (st2 := [.ref (4), .ref (10)]) (M2 := M) hC hqX6_copy rfl ?_
  refine gz_cSN (host := "HoopHours") (z := qX11_copyRow) (av := [.ref (10), .ref (4)]) (rest := []) (pl := 853) hC hqX6_copy rfl kX11_copyRow (by decide +kernel) (c_copyRow hC 10 4 8 _ _ M sz (d - 1) (by omega) (Nat.le_of_ble_eq_true rfl) rfl (Nat.le_of_ble_eq_true rfl) rfl (Nat.le_of_ble_eq_true rfl) (by first | decide | omega)) (by omega) ⟨rfl, rfl⟩ rfl rfl (Nat.le_of_ble_eq_true rfl) ⟨Nat.le_of_ble_eq_true rfl, Nat.le_of_ble_eq_true rfl⟩ (gs_V ?_)
  refine g_letP (P := fun M1 => GW l C qX6_copy d (gQg 956 g_S0 (qV R) sz) gN 0 0 11 [(0, .ref (3)), (1, .ref (9))] [] (956, g_S0, M1, sz)) hr (fun M1 hr => ?_)
  refine gb_run 4 (pc2 := 19) (ls2 := [(0, .ref (3)), (1, .ref (9))]) (st2 := [.ref (5), .ref (11)]) (M2 := M1) hC hqX6_copy rfl ?_
  refine gz_cSN (host := "HoopHours") (z := qX11_copyRow) (av := [.ref (11), .ref (5)]) (rest := []) (pl := 853) hC hqX6_copy rfl kX11_copyRow (by decide +kernel) (c_copyRow hC 11 5 8 _ _ M1 sz (d - 1) (by omega) (Nat.le_of_ble_eq_true rfl) rfl (Nat.le_of_ble_eq_true rfl) rfl (Nat.le_of_ble_eq_true rfl) (by first | decide | omega)) (by omega) ⟨rfl, rfl⟩ rfl rfl (Nat.le_of_ble_eq_true rfl) ⟨Nat.le_of_ble_eq_true rfl, Nat.le_of_ble_eq_true rfl⟩ (gs_V ?_)
  refine g_letP (P := fun M2 => GW l C qX6_copy d (gQg 956 g_S0 (qV R) sz) gN 0 0 22 [(0, .ref (3)), (1, .ref (9))] [] (956, g_S0, M2, sz)) hr (fun M2 hr => ?_)
  refine gb_run 4 (pc2 := 30) (ls2 := [(0, .ref (3)), (1, .ref (9))]) (st2 := [.ref (6), .ref (12)]) (M2 := M2) hC hqX6_copy rfl ?_
  refine gz_cSN (host := "HoopHours") (z := qX11_copyRow) (av := [.ref (12), .ref (6)]) (rest := []) (pl := 853) hC hqX6_copy rfl kX11_copyRow (by decide +kernel) (c_copyRow hC 12 6 8 _ _ M2 sz (d - 1) (by omega) (Nat.le_of_ble_eq_true rfl) rfl (Nat.le_of_ble_eq_true rfl) rfl (Nat.le_of_ble_eq_true rfl) (by first | decide | omega)) (by omega) ⟨rfl, rfl⟩ rfl rfl (Nat.le_of_ble_eq_true rfl) ⟨Nat.le_of_ble_eq_true rfl, Nat.le_of_ble_eq_true rfl⟩ (gs_V ?_)
  refine g_letP (P := fun M3 => GW l C qX6_copy d (gQg 956 g_S0 (qV R) sz) gN 0 0 33 [(0, .ref (3)), (1, .ref (9))] [] (956, g_S0, M3, sz)) hr (fun M3 hr => ?_)
  refine gb_run 4 (pc2 := 41) (ls2 := [(0, .ref (3)), (1, .ref (9))]) (st2 := [.ref (7), .ref (13)]) (M2 := M3) hC hqX6_copy rfl ?_
  refine gz_cSN (host := "HoopHours") (z := qX11_copyRow) (av := [.ref (13), .ref (7)]) (rest := []) (pl := 853) hC hqX6_copy rfl kX11_copyRow (by decide +kernel) (c_copyRow hC 13 7 8 _ _ M3 sz (d - 1) (by omega) (Nat.le_of_ble_eq_true rfl) rfl (Nat.le_of_ble_eq_true rfl) rfl (Nat.le_of_ble_eq_true rfl) (by first | decide | omega)) (by omega) ⟨rfl, rfl⟩ rfl rfl (Nat.le_of_ble_eq_true rfl) ⟨Nat.le_of_ble_eq_true rfl, Nat.le_of_ble_eq_true rfl⟩ (gs_V ?_)
  refine g_letP (P := fun M4 => GW l C qX6_copy d (gQg 956 g_S0 (qV R) sz) gN 0 0 44 [(0, .ref (3)), (1, .ref (9))] [] (956, g_S0, M4, sz)) hr (fun M4 hr => ?_)
  refine gb_run 4 (pc2 := 52) (ls2 := [(0, .ref (3)), (1, .ref (9))]) (st2 := [.ref (8), .ref (14)]) (M2 := M4) hC hqX6_copy rfl ?_
  refine gz_cSN (host := "HoopHours") (z := qX11_copyRow) (av := [.ref (14), .ref (8)]) (rest := []) (pl := 853) hC hqX6_copy rfl kX11_copyRow (by decide +kernel) (c_copyRow hC 14 8 8 _ _ M4 sz (d - 1) (by omega) (Nat.le_of_ble_eq_true rfl) rfl (Nat.le_of_ble_eq_true rfl) rfl (Nat.le_of_ble_eq_true rfl) (by first | decide | omega)) (by omega) ⟨rfl, rfl⟩ rfl rfl (Nat.le_of_ble_eq_true rfl) ⟨Nat.le_of_ble_eq_true rfl, Nat.le_of_ble_eq_true rfl⟩ (gs_V ?_)
  refine g_letP (P := fun M5 => GW l C qX6_copy d (gQg 956 g_S0 (qV R) sz) gN 0 0 55 [(0, .ref (3)), (1, .ref (9))] [] (956, g_S0, M5, sz)) hr (fun M5 hr => ?_)
  refine gb_run 20 (pc2 := 95) (ls2 := [(0, .ref (3)), (1, .ref (9))]) (st2 := []) (M2 := g_set (g_set (g_set (g_set (g_set M5 3 5 (M5 9 5)) 3 6 (M5 9 6)) 3 7 (M5 9 7)) 3 8 (M5 9 8)) 3 9 (M5 9 9)) hC hqX6_copy rfl ?_
  refine gb_vret hqX6_copy rfl rfl (Nat.le_of_ble_eq_true rfl) (Nat.le_of_ble_eq_true rfl) ?_
  exact gl_V hr
def FP_kindOf  (M : gM) : Option (Int32) :=
  (F_was 1 M).bind fun s1 => if s1 = (0 : Int32) then ((F_was 2 M).bind fun s4 => if s4 = (0 : Int32) then ((F_was 3 M).bind fun s7 => if s7 = (0 : Int32) then ((F_was 4 M).bind fun s10 => if s10 = (0 : Int32) then ((F_was 5 M).bind fun s13 => if s13 = (0 : Int32) then (some (-1 : Int32)) else (some (4 : Int32))) else (some (3 : Int32))) else (some (2 : Int32))) else (some (1 : Int32))) else (some (0 : Int32))
set_option maxRecDepth 20000 in
theorem c_FP_kindOf {l : Launch} {C : gC} (hC : g_ctx l C)   (M : gM) (sz d : Nat) (hd : 6 ≤ d) (R : Int32) (hr : FP_kindOf M = some R) : gPg l C qX6_kindOf d [.ref (1)] 956 g_S0 M sz (qIp M R) := by
  refine gPg.of (ls := [(0, .ref (1))]) (by decide +kernel) (Nat.le_of_ble_eq_true rfl) rfl ?_
  unfold FP_kindOf at hr
  refine gb_run 2 (pc2 := 3) (ls2 := [(0, .ref (1))]) (st2 := [.retAddr 1, .ref (1)]) (M2 := M) hC hqX6_kindOf rfl ?_
  obtain ⟨s1, es1, hr⟩ := g_bd hr
  refine gz_cV (z := qX10_was) (a := 1) (av := [.retAddr 1]) (rest := []) (pl := 766) hC hqX6_kindOf rfl kX10_was sX10_was (by decide +kernel) (c_F_was hC 1 (by decide) M sz (d - 1) (by omega) s1 es1) (by omega) ⟨rfl, rfl⟩ rfl (Nat.le_of_ble_eq_true rfl) (Nat.le_of_ble_eq_true rfl) rfl rfl rfl (Nat.le_of_ble_eq_true rfl) ⟨Nat.le_of_ble_eq_true rfl, Nat.le_of_ble_eq_true rfl⟩ (gs_Zp fun z2 => ?_)
  refine gb_if_eq hqX6_kindOf rfl (fun h3 => ?_) (fun h3 => ?_)
  ·
    have hr := g_if1 h3 hr
    refine gb_run 2 (pc2 := 16) (ls2 := [(0, .ref (1))]) (st2 := [.retAddr 2, .ref (1)]) (M2 := M) hC hqX6_kindOf rfl ?_
    obtain ⟨s4, es4, hr⟩ := g_bd hr
    refine gz_cV (z := qX10_was) (a := 1) (av := [.retAddr 2]) (rest := []) (pl := 766) hC hqX6_kindOf rfl kX10_was sX10_was (by decide +kernel) (c_F_was hC 2 (by decide) M sz (d - 1) (by omega) s4 es4) (by omega) ⟨rfl, rfl⟩ rfl (Nat.le_of_ble_eq_true rfl) (Nat.le_of_ble_eq_true rfl) rfl rfl rfl (Nat.le_of_ble_eq_true rfl) ⟨Nat.le_of_ble_eq_true rfl, Nat.le_of_ble_eq_true rfl⟩ (gs_Zp fun z5 => ?_)
    refine gb_if_eq hqX6_kindOf rfl (fun h6 => ?_) (fun h6 => ?_)
    ·
      have hr := g_if1 h6 hr
      refine gb_run 2 (pc2 := 29) (ls2 := [(0, .ref (1))]) (st2 := [.retAddr 3, .ref (1)]) (M2 := M) hC hqX6_kindOf rfl ?_
      obtain ⟨s7, es7, hr⟩ := g_bd hr
      refine gz_cV (z := qX10_was) (a := 1) (av := [.retAddr 3]) (rest := []) (pl := 766) hC hqX6_kindOf rfl kX10_was sX10_was (by decide +kernel) (c_F_was hC 3 (by decide) M sz (d - 1) (by omega) s7 es7) (by omega) ⟨rfl, rfl⟩ rfl (Nat.le_of_ble_eq_true rfl) (Nat.le_of_ble_eq_true rfl) rfl rfl rfl (Nat.le_of_ble_eq_true rfl) ⟨Nat.le_of_ble_eq_true rfl, Nat.le_of_ble_eq_true rfl⟩ (gs_Zp fun z8 => ?_)
      refine gb_if_eq hqX6_kindOf rfl (fun h9 => ?_) (fun h9 => ?_)
      ·
        have hr := g_if1 h9 hr
        refine gb_run 2 (pc2 := 42) (ls2 := [(0, .ref (1))]) (st2 := [.retAddr 4, .ref (1)]) (M2 := M) hC hqX6_kindOf rfl ?_
        obtain ⟨s10, es10, hr⟩ := g_bd hr
        refine gz_cV (z := qX10_was) (a := 1) (av := [.retAddr 4]) (rest := []) (pl := 766) hC hqX6_kindOf rfl kX10_was sX10_was (by decide +kernel) (c_F_was hC 4 (by decide) M sz (d - 1) (by omega) s10 es10) (by omega) ⟨rfl, rfl⟩ rfl (Nat.le_of_ble_eq_true rfl) (Nat.le_of_ble_eq_true rfl) rfl rfl rfl (Nat.le_of_ble_eq_true rfl) ⟨Nat.le_of_ble_eq_true rfl, Nat.le_of_ble_eq_true rfl⟩ (gs_Zp fun z11 => ?_)
        refine gb_if_eq hqX6_kindOf rfl (fun h12 => ?_) (fun h12 => ?_)
        ·
          have hr := g_if1 h12 hr
          refine gb_run 2 (pc2 := 55) (ls2 := [(0, .ref (1))]) (st2 := [.retAddr 5, .ref (1)]) (M2 := M) hC hqX6_kindOf rfl ?_
          obtain ⟨s13, es13, hr⟩ := g_bd hr
          refine gz_cV (z := qX10_was) (a := 1) (av := [.retAddr 5]) (rest := []) (pl := 766) hC hqX6_kindOf rfl kX10_was sX10_was (by decide +kernel) (c_F_was hC 5 (by decide) M sz (d - 1) (by omega) s13 es13) (by omega) ⟨rfl, rfl⟩ rfl (Nat.le_of_ble_eq_true rfl) (Nat.le_of_ble_eq_true rfl) rfl rfl rfl (Nat.le_of_ble_eq_true rfl) ⟨Nat.le_of_ble_eq_true rfl, Nat.le_of_ble_eq_true rfl⟩ (gs_Zp fun z14 => ?_)
          refine gb_if_eq hqX6_kindOf rfl (fun h15 => ?_) (fun h15 => ?_)
          ·
            have hr := g_if1 h15 hr
            refine gb_run 1 (pc2 := 66) (ls2 := [(0, .ref (1))]) (st2 := [.int (-1)]) (M2 := M) hC hqX6_kindOf rfl ?_
            refine gb_iret hqX6_kindOf rfl rfl (Nat.le_of_ble_eq_true rfl) (Nat.le_of_ble_eq_true rfl) ?_
            exact gl_Ip hr
          ·
            have hr := g_if0 h15 hr
            refine gb_run 2 (pc2 := 66) (ls2 := [(0, .ref (1))]) (st2 := [.int (4)]) (M2 := M) hC hqX6_kindOf rfl ?_
            refine gb_iret hqX6_kindOf rfl rfl (Nat.le_of_ble_eq_true rfl) (Nat.le_of_ble_eq_true rfl) ?_
            exact gl_Ip hr
        ·
          have hr := g_if0 h12 hr
          refine gb_run 2 (pc2 := 66) (ls2 := [(0, .ref (1))]) (st2 := [.int (3)]) (M2 := M) hC hqX6_kindOf rfl ?_
          refine gb_iret hqX6_kindOf rfl rfl (Nat.le_of_ble_eq_true rfl) (Nat.le_of_ble_eq_true rfl) ?_
          exact gl_Ip hr
      ·
        have hr := g_if0 h9 hr
        refine gb_run 2 (pc2 := 66) (ls2 := [(0, .ref (1))]) (st2 := [.int (2)]) (M2 := M) hC hqX6_kindOf rfl ?_
        refine gb_iret hqX6_kindOf rfl rfl (Nat.le_of_ble_eq_true rfl) (Nat.le_of_ble_eq_true rfl) ?_
        exact gl_Ip hr
    ·
      have hr := g_if0 h6 hr
      refine gb_run 2 (pc2 := 66) (ls2 := [(0, .ref (1))]) (st2 := [.int (1)]) (M2 := M) hC hqX6_kindOf rfl ?_
      refine gb_iret hqX6_kindOf rfl rfl (Nat.le_of_ble_eq_true rfl) (Nat.le_of_ble_eq_true rfl) ?_
      exact gl_Ip hr
  ·
    have hr := g_if0 h3 hr
    refine gb_run 2 (pc2 := 66) (ls2 := [(0, .ref (1))]) (st2 := [.int (0)]) (M2 := M) hC hqX6_kindOf rfl ?_
    refine gb_iret hqX6_kindOf rfl rfl (Nat.le_of_ble_eq_true rfl) (Nat.le_of_ble_eq_true rfl) ?_
    exact gl_Ip hr
def FP_isFull_J27 (k : Int32) (M : gM) : Int32 :=
  if k = (2 : Int32) then (if (M 9 7) < (8 : Int32) then 0 else 1) else 0
set_option maxRecDepth 20000 in
theorem c_FP_isFull_J27 {l : Launch} {C : gC} (hC : g_ctx l C) (k : Int32) (M : gM) (sz d : Nat) (hd : 1 ≤ d) (R : Int32) (hr : FP_isFull_J27 k M = R) : GW l C qX6_isFull d (gQg 956 g_S0 (qZp M R) sz) gN 0 0 27 [(0, .ref (9)), (1, .int (k))] [] (956, g_S0, M, sz) := by
  unfold FP_isFull_J27 at hr
  refine gb_run 2 (pc2 := 29) (ls2 := [(0, .ref (9)), (1, .int (k))]) (st2 := [.int (2), .int (k)]) (M2 := M) hC hqX6_isFull rfl ?_
  refine gb_icmp_ne hqX6_isFull rfl (fun h1 => ?_) (fun h1 => ?_)
  ·
    have hr := g_if0 h1 hr
    refine gb_run 1 (pc2 := 46) (ls2 := [(0, .ref (9)), (1, .int (k))]) (st2 := [.int (0)]) (M2 := M) hC hqX6_isFull rfl ?_
    refine gb_zret hqX6_isFull rfl rfl (Nat.le_of_ble_eq_true rfl) (Nat.le_of_ble_eq_true rfl) (Or.inl rfl) ?_
    exact gl_Zt (Or.inl rfl) hr
  ·
    have hr := g_if1 h1 hr
    refine gb_run 3 (pc2 := 38) (ls2 := [(0, .ref (9)), (1, .int (k))]) (st2 := [.int (8), .int (M 9 7)]) (M2 := M) hC hqX6_isFull rfl ?_
    refine gb_icmp_lt hqX6_isFull rfl (fun h2 => ?_) (fun h2 => ?_)
    ·
      have hr := g_if1 h2 hr
      refine gb_run 1 (pc2 := 46) (ls2 := [(0, .ref (9)), (1, .int (k))]) (st2 := [.int (0)]) (M2 := M) hC hqX6_isFull rfl ?_
      refine gb_zret hqX6_isFull rfl rfl (Nat.le_of_ble_eq_true rfl) (Nat.le_of_ble_eq_true rfl) (Or.inl rfl) ?_
      exact gl_Zt (Or.inl rfl) hr
    ·
      have hr := g_if0 h2 hr
      refine gb_run 2 (pc2 := 46) (ls2 := [(0, .ref (9)), (1, .int (k))]) (st2 := [.int (1)]) (M2 := M) hC hqX6_isFull rfl ?_
      refine gb_zret hqX6_isFull rfl rfl (Nat.le_of_ble_eq_true rfl) (Nat.le_of_ble_eq_true rfl) (Or.inr rfl) ?_
      exact gl_Zt (Or.inr rfl) hr
def FP_isFull_J13 (k : Int32) (M : gM) : Int32 :=
  if k = (1 : Int32) then (if (8 : Int32) ≤ (M 9 6) then 1 else (FP_isFull_J27 k M)) else (FP_isFull_J27 k M)
set_option maxRecDepth 20000 in
theorem c_FP_isFull_J13 {l : Launch} {C : gC} (hC : g_ctx l C) (k : Int32) (M : gM) (sz d : Nat) (hd : 1 ≤ d) (R : Int32) (hr : FP_isFull_J13 k M = R) : GW l C qX6_isFull d (gQg 956 g_S0 (qZp M R) sz) gN 0 0 13 [(0, .ref (9)), (1, .int (k))] [] (956, g_S0, M, sz) := by
  unfold FP_isFull_J13 at hr
  refine gb_run 2 (pc2 := 15) (ls2 := [(0, .ref (9)), (1, .int (k))]) (st2 := [.int (1), .int (k)]) (M2 := M) hC hqX6_isFull rfl ?_
  refine gb_icmp_ne hqX6_isFull rfl (fun h1 => ?_) (fun h1 => ?_)
  ·
    have hr := g_if0 h1 hr
    exact c_FP_isFull_J27 hC k M sz d (by omega) R hr
  ·
    have hr := g_if1 h1 hr
    refine gb_run 3 (pc2 := 24) (ls2 := [(0, .ref (9)), (1, .int (k))]) (st2 := [.int (8), .int (M 9 6)]) (M2 := M) hC hqX6_isFull rfl ?_
    refine gb_icmp_ge hqX6_isFull rfl (fun h2 => ?_) (fun h2 => ?_)
    ·
      have hr := g_if1 h2 hr
      refine gb_run 2 (pc2 := 46) (ls2 := [(0, .ref (9)), (1, .int (k))]) (st2 := [.int (1)]) (M2 := M) hC hqX6_isFull rfl ?_
      refine gb_zret hqX6_isFull rfl rfl (Nat.le_of_ble_eq_true rfl) (Nat.le_of_ble_eq_true rfl) (Or.inr rfl) ?_
      exact gl_Zt (Or.inr rfl) hr
    ·
      have hr := g_if0 h2 hr
      exact c_FP_isFull_J27 hC k M sz d (by omega) R hr
def FP_isFull (k : Int32) (M : gM) : Int32 :=
  if k = (0 : Int32) then (if (8 : Int32) ≤ (M 9 5) then 1 else (FP_isFull_J13 k M)) else (FP_isFull_J13 k M)
set_option maxRecDepth 20000 in
theorem c_FP_isFull {l : Launch} {C : gC} (hC : g_ctx l C) (k : Int32)  (M : gM) (sz d : Nat) (hd : 1 ≤ d) : gPg l C qX6_isFull d [.ref (9), .int (k)] 956 g_S0 M sz (qZp M (FP_isFull k M)) := by
  refine gPg.of (ls := [(0, .ref (9)), (1, .int (k))]) (by decide +kernel) (Nat.le_of_ble_eq_true rfl) rfl ?_
  obtain ⟨R, hr⟩ : ∃ R, FP_isFull k M = R := ⟨_, rfl⟩
  rw [hr]
  unfold FP_isFull at hr
  refine gb_run 1 (pc2 := 1) (ls2 := [(0, .ref (9)), (1, .int (k))]) (st2 := [.int (k)]) (M2 := M) hC hqX6_isFull rfl ?_
  refine gb_if_ne hqX6_isFull rfl (fun h1 => ?_) (fun h1 => ?_)
  ·
    have hr := g_if0 h1 hr
    exact c_FP_isFull_J13 hC k M sz d (by omega) R hr
  ·
    have hr := g_if1 h1 hr
    refine gb_run 3 (pc2 := 10) (ls2 := [(0, .ref (9)), (1, .int (k))]) (st2 := [.int (8), .int (M 9 5)]) (M2 := M) hC hqX6_isFull rfl ?_
    refine gb_icmp_ge hqX6_isFull rfl (fun h2 => ?_) (fun h2 => ?_)
    ·
      have hr := g_if1 h2 hr
      refine gb_run 2 (pc2 := 46) (ls2 := [(0, .ref (9)), (1, .int (k))]) (st2 := [.int (1)]) (M2 := M) hC hqX6_isFull rfl ?_
      refine gb_zret hqX6_isFull rfl rfl (Nat.le_of_ble_eq_true rfl) (Nat.le_of_ble_eq_true rfl) (Or.inr rfl) ?_
      exact gl_Zt (Or.inr rfl) hr
    ·
      have hr := g_if0 h2 hr
      exact c_FP_isFull_J13 hC k M sz d (by omega) R hr
def FP_readNumbers (k : Int32) (M : gM) : Option (gM) :=
  if k = (0 : Int32) then ((F_number (1 : Int32) (20 : Int32) M).bind fun s2 => g_let (r_put (s2.2) 10 8 (M 9 5) s2.1) fun M3 => (F_number (0 : Int32) (16 : Int32) M3).bind fun s4 => g_let (r_put (s4.2) 11 8 (M3 9 5) s4.1) fun M5 => some (g_set M5 9 5 ((M5 9 5) + (1 : Int32)))) else if k = (1 : Int32) then ((F_number (1 : Int32) (9 : Int32) M).bind fun s7 => g_let (r_put (s7.2) 12 8 (M 9 6) s7.1) fun M8 => (F_number (3 : Int32) (14 : Int32) M8).bind fun s9 => g_let (r_put (s9.2) 13 8 (M8 9 6) s9.1) fun M10 => some (g_set M10 9 6 ((M10 9 6) + (1 : Int32)))) else if k = (2 : Int32) then ((F_number (1 : Int32) (9 : Int32) M).bind fun s12 => g_let (r_put (s12.2) 14 8 (M 9 7) s12.1) fun M13 => some (g_set M13 9 7 ((M13 9 7) + (1 : Int32)))) else if k = (3 : Int32) then ((F_number (1 : Int32) (500 : Int32) M).bind fun s15 => some (g_set (s15.2) 9 8 s15.1)) else ((F_number (0 : Int32) (20 : Int32) M).bind fun s16 => some (g_set (s16.2) 9 9 s16.1))
set_option maxRecDepth 20000 in
theorem c_FP_readNumbers {l : Launch} {C : gC} (hC : g_ctx l C) (k : Int32)  (M : gM) (sz d : Nat) (hd : 3 ≤ d) (R : gM) (hr : FP_readNumbers k M = some R) : gPg l C qX6_readNumbers d [.ref (9), .ref (1), .int (k)] 956 g_S0 M sz (qV R) := by
  refine gPg.of (ls := [(0, .ref (9)), (1, .ref (1)), (2, .int (k))]) (by decide +kernel) (Nat.le_of_ble_eq_true rfl) rfl ?_
  unfold FP_readNumbers at hr
  refine gb_run 1 (pc2 := 1) (ls2 := [(0, .ref (9)), (1, .ref (1)), (2, .int (k))]) (st2 := [.int (k)]) (M2 := M) hC hqX6_readNumbers rfl ?_
  by_cases h1 : k = (0 : Int32)
  ·
    have hr := g_if1 h1 hr
    refine gb_tblIn (tgt := 32) hqX6_readNumbers rfl (by rw [h1]; first | done | decide) (by rw [h1]; first | done | decide) (by rw [h1]; first | done | rfl) (by decide) ?_
    refine gb_run 7 (pc2 := 44) (ls2 := [(0, .ref (9)), (1, .ref (1)), (2, .int (k))]) (st2 := [.int (20), .int (1), .ref (1), .int (M 9 5), .ref (10)]) (M2 := M) hC hqX6_readNumbers rfl ?_
    obtain ⟨s2, es2, hr⟩ := g_bd hr
    refine gz_cV (z := qX10_number) (a := 1) (av := [.int (1), .int (20)]) (rest := [.int (M 9 5), .ref (10)]) (pl := 834) hC hqX6_readNumbers rfl kX10_number sX10_number (by decide +kernel) (c_F_number hC (1 : Int32) (20 : Int32)  M sz (d - 1) (by omega) s2 es2) (by omega) ⟨rfl, rfl⟩ rfl (Nat.le_of_ble_eq_true rfl) (Nat.le_of_ble_eq_true rfl) rfl rfl rfl (Nat.le_of_ble_eq_true rfl) ⟨Nat.le_of_ble_eq_true rfl, Nat.le_of_ble_eq_true rfl⟩ (gs_I ?_)
    refine gz_cSN (host := "HoopHours") (z := qX11_put) (av := [.ref (10), .int (M 9 5), .int (s2.1)]) (rest := []) (pl := 843) hC hqX6_readNumbers rfl kX11_put (by decide +kernel) (c_put hC 10 8 _ (M 9 5) s2.1 (s2.2) sz (d - 1) (by omega) (Nat.le_of_ble_eq_true rfl) rfl (Nat.le_of_ble_eq_true rfl)) (by omega) ⟨rfl, rfl⟩ rfl rfl (Nat.le_of_ble_eq_true rfl) ⟨Nat.le_of_ble_eq_true rfl, Nat.le_of_ble_eq_true rfl⟩ (gs_V ?_)
    refine g_letP (P := fun M3 => GW l C qX6_readNumbers d (gQg 956 g_S0 (qV R) sz) gN 0 0 50 [(0, .ref (9)), (1, .ref (1)), (2, .int (k))] [] (956, g_S0, M3, sz)) hr (fun M3 hr => ?_)
    refine gb_run 7 (pc2 := 62) (ls2 := [(0, .ref (9)), (1, .ref (1)), (2, .int (k))]) (st2 := [.int (16), .int (0), .ref (1), .int (M3 9 5), .ref (11)]) (M2 := M3) hC hqX6_readNumbers rfl ?_
    obtain ⟨s4, es4, hr⟩ := g_bd hr
    refine gz_cV (z := qX10_number) (a := 1) (av := [.int (0), .int (16)]) (rest := [.int (M3 9 5), .ref (11)]) (pl := 834) hC hqX6_readNumbers rfl kX10_number sX10_number (by decide +kernel) (c_F_number hC (0 : Int32) (16 : Int32)  M3 sz (d - 1) (by omega) s4 es4) (by omega) ⟨rfl, rfl⟩ rfl (Nat.le_of_ble_eq_true rfl) (Nat.le_of_ble_eq_true rfl) rfl rfl rfl (Nat.le_of_ble_eq_true rfl) ⟨Nat.le_of_ble_eq_true rfl, Nat.le_of_ble_eq_true rfl⟩ (gs_I ?_)
    refine gz_cSN (host := "HoopHours") (z := qX11_put) (av := [.ref (11), .int (M3 9 5), .int (s4.1)]) (rest := []) (pl := 843) hC hqX6_readNumbers rfl kX11_put (by decide +kernel) (c_put hC 11 8 _ (M3 9 5) s4.1 (s4.2) sz (d - 1) (by omega) (Nat.le_of_ble_eq_true rfl) rfl (Nat.le_of_ble_eq_true rfl)) (by omega) ⟨rfl, rfl⟩ rfl rfl (Nat.le_of_ble_eq_true rfl) ⟨Nat.le_of_ble_eq_true rfl, Nat.le_of_ble_eq_true rfl⟩ (gs_V ?_)
    refine g_letP (P := fun M5 => GW l C qX6_readNumbers d (gQg 956 g_S0 (qV R) sz) gN 0 0 68 [(0, .ref (9)), (1, .ref (1)), (2, .int (k))] [] (956, g_S0, M5, sz)) hr (fun M5 hr => ?_)
    refine gb_run 7 (pc2 := 187) (ls2 := [(0, .ref (9)), (1, .ref (1)), (2, .int (k))]) (st2 := []) (M2 := g_set M5 9 5 ((M5 9 5) + (1 : Int32))) hC hqX6_readNumbers rfl ?_
    refine gb_vret hqX6_readNumbers rfl rfl (Nat.le_of_ble_eq_true rfl) (Nat.le_of_ble_eq_true rfl) ?_
    exact gl_V hr
  have hr := g_if0 h1 hr
  by_cases h6 : k = (1 : Int32)
  ·
    have hr := g_if1 h6 hr
    refine gb_tblIn (tgt := 81) hqX6_readNumbers rfl (by rw [h6]; first | done | decide) (by rw [h6]; first | done | decide) (by rw [h6]; first | done | rfl) (by decide) ?_
    refine gb_run 7 (pc2 := 93) (ls2 := [(0, .ref (9)), (1, .ref (1)), (2, .int (k))]) (st2 := [.int (9), .int (1), .ref (1), .int (M 9 6), .ref (12)]) (M2 := M) hC hqX6_readNumbers rfl ?_
    obtain ⟨s7, es7, hr⟩ := g_bd hr
    refine gz_cV (z := qX10_number) (a := 1) (av := [.int (1), .int (9)]) (rest := [.int (M 9 6), .ref (12)]) (pl := 834) hC hqX6_readNumbers rfl kX10_number sX10_number (by decide +kernel) (c_F_number hC (1 : Int32) (9 : Int32)  M sz (d - 1) (by omega) s7 es7) (by omega) ⟨rfl, rfl⟩ rfl (Nat.le_of_ble_eq_true rfl) (Nat.le_of_ble_eq_true rfl) rfl rfl rfl (Nat.le_of_ble_eq_true rfl) ⟨Nat.le_of_ble_eq_true rfl, Nat.le_of_ble_eq_true rfl⟩ (gs_I ?_)
    refine gz_cSN (host := "HoopHours") (z := qX11_put) (av := [.ref (12), .int (M 9 6), .int (s7.1)]) (rest := []) (pl := 843) hC hqX6_readNumbers rfl kX11_put (by decide +kernel) (c_put hC 12 8 _ (M 9 6) s7.1 (s7.2) sz (d - 1) (by omega) (Nat.le_of_ble_eq_true rfl) rfl (Nat.le_of_ble_eq_true rfl)) (by omega) ⟨rfl, rfl⟩ rfl rfl (Nat.le_of_ble_eq_true rfl) ⟨Nat.le_of_ble_eq_true rfl, Nat.le_of_ble_eq_true rfl⟩ (gs_V ?_)
    refine g_letP (P := fun M8 => GW l C qX6_readNumbers d (gQg 956 g_S0 (qV R) sz) gN 0 0 99 [(0, .ref (9)), (1, .ref (1)), (2, .int (k))] [] (956, g_S0, M8, sz)) hr (fun M8 hr => ?_)
    refine gb_run 7 (pc2 := 111) (ls2 := [(0, .ref (9)), (1, .ref (1)), (2, .int (k))]) (st2 := [.int (14), .int (3), .ref (1), .int (M8 9 6), .ref (13)]) (M2 := M8) hC hqX6_readNumbers rfl ?_
    obtain ⟨s9, es9, hr⟩ := g_bd hr
    refine gz_cV (z := qX10_number) (a := 1) (av := [.int (3), .int (14)]) (rest := [.int (M8 9 6), .ref (13)]) (pl := 834) hC hqX6_readNumbers rfl kX10_number sX10_number (by decide +kernel) (c_F_number hC (3 : Int32) (14 : Int32)  M8 sz (d - 1) (by omega) s9 es9) (by omega) ⟨rfl, rfl⟩ rfl (Nat.le_of_ble_eq_true rfl) (Nat.le_of_ble_eq_true rfl) rfl rfl rfl (Nat.le_of_ble_eq_true rfl) ⟨Nat.le_of_ble_eq_true rfl, Nat.le_of_ble_eq_true rfl⟩ (gs_I ?_)
    refine gz_cSN (host := "HoopHours") (z := qX11_put) (av := [.ref (13), .int (M8 9 6), .int (s9.1)]) (rest := []) (pl := 843) hC hqX6_readNumbers rfl kX11_put (by decide +kernel) (c_put hC 13 8 _ (M8 9 6) s9.1 (s9.2) sz (d - 1) (by omega) (Nat.le_of_ble_eq_true rfl) rfl (Nat.le_of_ble_eq_true rfl)) (by omega) ⟨rfl, rfl⟩ rfl rfl (Nat.le_of_ble_eq_true rfl) ⟨Nat.le_of_ble_eq_true rfl, Nat.le_of_ble_eq_true rfl⟩ (gs_V ?_)
    refine g_letP (P := fun M10 => GW l C qX6_readNumbers d (gQg 956 g_S0 (qV R) sz) gN 0 0 117 [(0, .ref (9)), (1, .ref (1)), (2, .int (k))] [] (956, g_S0, M10, sz)) hr (fun M10 hr => ?_)
    refine gb_run 7 (pc2 := 187) (ls2 := [(0, .ref (9)), (1, .ref (1)), (2, .int (k))]) (st2 := []) (M2 := g_set M10 9 6 ((M10 9 6) + (1 : Int32))) hC hqX6_readNumbers rfl ?_
    refine gb_vret hqX6_readNumbers rfl rfl (Nat.le_of_ble_eq_true rfl) (Nat.le_of_ble_eq_true rfl) ?_
    exact gl_V hr
  have hr := g_if0 h6 hr
  by_cases h11 : k = (2 : Int32)
  ·
    have hr := g_if1 h11 hr
    refine gb_tblIn (tgt := 130) hqX6_readNumbers rfl (by rw [h11]; first | done | decide) (by rw [h11]; first | done | decide) (by rw [h11]; first | done | rfl) (by decide) ?_
    refine gb_run 7 (pc2 := 142) (ls2 := [(0, .ref (9)), (1, .ref (1)), (2, .int (k))]) (st2 := [.int (9), .int (1), .ref (1), .int (M 9 7), .ref (14)]) (M2 := M) hC hqX6_readNumbers rfl ?_
    obtain ⟨s12, es12, hr⟩ := g_bd hr
    refine gz_cV (z := qX10_number) (a := 1) (av := [.int (1), .int (9)]) (rest := [.int (M 9 7), .ref (14)]) (pl := 834) hC hqX6_readNumbers rfl kX10_number sX10_number (by decide +kernel) (c_F_number hC (1 : Int32) (9 : Int32)  M sz (d - 1) (by omega) s12 es12) (by omega) ⟨rfl, rfl⟩ rfl (Nat.le_of_ble_eq_true rfl) (Nat.le_of_ble_eq_true rfl) rfl rfl rfl (Nat.le_of_ble_eq_true rfl) ⟨Nat.le_of_ble_eq_true rfl, Nat.le_of_ble_eq_true rfl⟩ (gs_I ?_)
    refine gz_cSN (host := "HoopHours") (z := qX11_put) (av := [.ref (14), .int (M 9 7), .int (s12.1)]) (rest := []) (pl := 843) hC hqX6_readNumbers rfl kX11_put (by decide +kernel) (c_put hC 14 8 _ (M 9 7) s12.1 (s12.2) sz (d - 1) (by omega) (Nat.le_of_ble_eq_true rfl) rfl (Nat.le_of_ble_eq_true rfl)) (by omega) ⟨rfl, rfl⟩ rfl rfl (Nat.le_of_ble_eq_true rfl) ⟨Nat.le_of_ble_eq_true rfl, Nat.le_of_ble_eq_true rfl⟩ (gs_V ?_)
    refine g_letP (P := fun M13 => GW l C qX6_readNumbers d (gQg 956 g_S0 (qV R) sz) gN 0 0 148 [(0, .ref (9)), (1, .ref (1)), (2, .int (k))] [] (956, g_S0, M13, sz)) hr (fun M13 hr => ?_)
    refine gb_run 7 (pc2 := 187) (ls2 := [(0, .ref (9)), (1, .ref (1)), (2, .int (k))]) (st2 := []) (M2 := g_set M13 9 7 ((M13 9 7) + (1 : Int32))) hC hqX6_readNumbers rfl ?_
    refine gb_vret hqX6_readNumbers rfl rfl (Nat.le_of_ble_eq_true rfl) (Nat.le_of_ble_eq_true rfl) ?_
    exact gl_V hr
  have hr := g_if0 h11 hr
  by_cases h14 : k = (3 : Int32)
  ·
    have hr := g_if1 h14 hr
    refine gb_tblIn (tgt := 161) hqX6_readNumbers rfl (by rw [h14]; first | done | decide) (by rw [h14]; first | done | decide) (by rw [h14]; first | done | rfl) (by decide) ?_
    refine gb_run 4 (pc2 := 167) (ls2 := [(0, .ref (9)), (1, .ref (1)), (2, .int (k))]) (st2 := [.int (500), .int (1), .ref (1), .ref (9)]) (M2 := M) hC hqX6_readNumbers rfl ?_
    obtain ⟨s15, es15, hr⟩ := g_bd hr
    refine gz_cV (z := qX10_number) (a := 1) (av := [.int (1), .int (500)]) (rest := [.ref (9)]) (pl := 834) hC hqX6_readNumbers rfl kX10_number sX10_number (by decide +kernel) (c_F_number hC (1 : Int32) (500 : Int32)  M sz (d - 1) (by omega) s15 es15) (by omega) ⟨rfl, rfl⟩ rfl (Nat.le_of_ble_eq_true rfl) (Nat.le_of_ble_eq_true rfl) rfl rfl rfl (Nat.le_of_ble_eq_true rfl) ⟨Nat.le_of_ble_eq_true rfl, Nat.le_of_ble_eq_true rfl⟩ (gs_I ?_)
    refine gb_run 2 (pc2 := 187) (ls2 := [(0, .ref (9)), (1, .ref (1)), (2, .int (k))]) (st2 := []) (M2 := g_set (s15.2) 9 8 s15.1) hC hqX6_readNumbers rfl ?_
    refine gb_vret hqX6_readNumbers rfl rfl (Nat.le_of_ble_eq_true rfl) (Nat.le_of_ble_eq_true rfl) ?_
    exact gl_V hr
  have hr := g_if0 h14 hr
  refine gb_tblOut (tgt := 176) hqX6_readNumbers rfl (by have q0 := gd_ne (z := 0) rfl h1; have q1 := gd_ne (z := 1) rfl h6; have q2 := gd_ne (z := 2) rfl h11; have q3 := gd_ne (z := 3) rfl h14; omega) (by decide) ?_
  refine gb_run 4 (pc2 := 181) (ls2 := [(0, .ref (9)), (1, .ref (1)), (2, .int (k))]) (st2 := [.int (20), .int (0), .ref (1), .ref (9)]) (M2 := M) hC hqX6_readNumbers rfl ?_
  obtain ⟨s16, es16, hr⟩ := g_bd hr
  refine gz_cV (z := qX10_number) (a := 1) (av := [.int (0), .int (20)]) (rest := [.ref (9)]) (pl := 834) hC hqX6_readNumbers rfl kX10_number sX10_number (by decide +kernel) (c_F_number hC (0 : Int32) (20 : Int32)  M sz (d - 1) (by omega) s16 es16) (by omega) ⟨rfl, rfl⟩ rfl (Nat.le_of_ble_eq_true rfl) (Nat.le_of_ble_eq_true rfl) rfl rfl rfl (Nat.le_of_ble_eq_true rfl) ⟨Nat.le_of_ble_eq_true rfl, Nat.le_of_ble_eq_true rfl⟩ (gs_I ?_)
  refine gb_run 1 (pc2 := 187) (ls2 := [(0, .ref (9)), (1, .ref (1)), (2, .int (k))]) (st2 := []) (M2 := g_set (s16.2) 9 9 s16.1) hC hqX6_readNumbers rfl ?_
  refine gb_vret hqX6_readNumbers rfl rfl (Nat.le_of_ble_eq_true rfl) (Nat.le_of_ble_eq_true rfl) ?_
  exact gl_V hr
def FP_readClause_J40 (told : Int32) (M : gM) : Option (gM) :=
  (F_fail (3 : Int32) (M 1 4) M).bind fun s1 => some s1
set_option maxRecDepth 20000 in
theorem c_FP_readClause_J40 {l : Launch} {C : gC} (hC : g_ctx l C) (told : Int32) (sz d : Nat) (hd : 7 ≤ d) (R : gM) (M : gM) (hr : FP_readClause_J40 told M = some R) : GW l C qX6_readClause d (gQg 956 g_S0 (qV R) sz) gN 0 0 40 [(1, .ref (1))] [] (956, g_S0, M, sz) := by
  unfold FP_readClause_J40 at hr
  refine gb_run 4 (pc2 := 46) (ls2 := [(1, .ref (1))]) (st2 := [.int (M 1 4), .int (3), .ref (1)]) (M2 := M) hC hqX6_readClause rfl ?_
  obtain ⟨s1, es1, hr⟩ := g_bd hr
  refine gz_cV (z := qX10_fail) (a := 1) (av := [.int (3), .int (M 1 4)]) (rest := []) (pl := 822) hC hqX6_readClause rfl kX10_fail sX10_fail (by decide +kernel) (c_F_fail hC (3 : Int32) (M 1 4)  M sz (d - 1) (by omega) s1 es1) (by omega) ⟨rfl, rfl⟩ rfl (Nat.le_of_ble_eq_true rfl) (Nat.le_of_ble_eq_true rfl) rfl rfl rfl (Nat.le_of_ble_eq_true rfl) ⟨Nat.le_of_ble_eq_true rfl, Nat.le_of_ble_eq_true rfl⟩ (gs_V ?_)
  refine gb_run 1 (pc2 := 64) (ls2 := [(1, .ref (1))]) (st2 := []) (M2 := s1) hC hqX6_readClause rfl ?_
  refine gb_vret hqX6_readClause rfl rfl (Nat.le_of_ble_eq_true rfl) (Nat.le_of_ble_eq_true rfl) ?_
  exact gl_V hr
def FP_readClause (told : Int32) (M : gM) : Option (gM) :=
  (F_word M).bind fun s1 => (FP_kindOf s1).bind fun s2 => if s2 = (-1 : Int32) then ((F_fail (1 : Int32) (s1 1 4) s1).bind fun s10 => some s10) else (if (60 : Int32) ≤ told then (FP_readClause_J40 told s1) else (if (FP_isFull s2 s1) = (0 : Int32) then ((FP_readNumbers s2 s1).bind fun s8 => (F_need (59 : Int32) s8).bind fun s9 => some s9) else (FP_readClause_J40 told s1)))
set_option maxRecDepth 20000 in
theorem c_FP_readClause {l : Launch} {C : gC} (hC : g_ctx l C) (told : Int32)  (M : gM) (sz d : Nat) (hd : 7 ≤ d) (R : gM) (hr : FP_readClause told M = some R) : gPg l C qX6_readClause d [.ref (9), .ref (1), .int (told)] 956 g_S0 M sz (qV R) := by
  refine gPg.of (ls := [(0, .ref (9)), (1, .ref (1)), (2, .int (told))]) (by decide +kernel) (Nat.le_of_ble_eq_true rfl) rfl ?_
  unfold FP_readClause at hr
  refine gb_run 1 (pc2 := 1) (ls2 := [(0, .ref (9)), (1, .ref (1)), (2, .int (told))]) (st2 := [.ref (1)]) (M2 := M) hC hqX6_readClause rfl ?_
  obtain ⟨s1, es1, hr⟩ := g_bd hr
  refine gz_cV (z := qX10_word) (a := 1) (av := []) (rest := []) (pl := 753) hC hqX6_readClause rfl kX10_word sX10_word (by decide +kernel) (c_F_word hC   M sz (d - 1) (by omega) s1 es1) (by omega) ⟨rfl, rfl⟩ rfl (Nat.le_of_ble_eq_true rfl) (Nat.le_of_ble_eq_true rfl) rfl rfl rfl (Nat.le_of_ble_eq_true rfl) ⟨Nat.le_of_ble_eq_true rfl, Nat.le_of_ble_eq_true rfl⟩ (gs_V ?_)
  refine gb_run 1 (pc2 := 5) (ls2 := [(0, .ref (9)), (1, .ref (1)), (2, .int (told))]) (st2 := [.ref (1)]) (M2 := s1) hC hqX6_readClause rfl ?_
  obtain ⟨s2, es2, hr⟩ := g_bd hr
  refine gz_cS (z := qX6_kindOf) (av := [.ref (1)]) (rest := []) (pl := 762) hC hqX6_readClause rfl kX6_kindOf (by decide +kernel) (c_FP_kindOf hC   s1 sz (d - 1) (by omega) s2 es2) (by omega) ⟨rfl, rfl⟩ rfl rfl (Nat.le_of_ble_eq_true rfl) ⟨Nat.le_of_ble_eq_true rfl, Nat.le_of_ble_eq_true rfl⟩ (gs_Ip ?_)
  refine gb_run 3 (pc2 := 11) (ls2 := [(3, .int (s2)), (0, .ref (9)), (1, .ref (1)), (2, .int (told))]) (st2 := [.int (-1), .int (s2)]) (M2 := s1) hC hqX6_readClause rfl ?_
  refine gb_icmp_ne hqX6_readClause rfl (fun h3 => ?_) (fun h3 => ?_)
  ·
    have hr := g_if0 h3 hr
    refine gb_run 2 (pc2 := 29) (ls2 := [(3, .int (s2)), (0, .ref (9)), (1, .ref (1)), (2, .int (told))]) (st2 := [.int (60), .int (told)]) (M2 := s1) hC hqX6_readClause rfl ?_
    refine gb_icmp_ge hqX6_readClause rfl (fun h4 => ?_) (fun h4 => ?_)
    ·
      have hr := g_if1 h4 hr
      refine gw_pick [2] (ls2 := [(1, .ref (1))]) rfl ?_
      exact c_FP_readClause_J40 hC told sz d (by omega) R s1 hr
    ·
      have hr := g_if0 h4 hr
      refine gb_run 2 (pc2 := 34) (ls2 := [(3, .int (s2)), (0, .ref (9)), (1, .ref (1)), (2, .int (told))]) (st2 := [.int (s2), .ref (9)]) (M2 := s1) hC hqX6_readClause rfl ?_
      refine gz_cV (z := qX6_isFull) (a := 9) (av := [.int (s2)]) (rest := []) (pl := 826) hC hqX6_readClause rfl kX6_isFull sX6_isFull (by decide +kernel) (c_FP_isFull hC s2  s1 sz (d - 1) (by omega)) (by omega) ⟨rfl, rfl⟩ rfl (Nat.le_of_ble_eq_true rfl) (Nat.le_of_ble_eq_true rfl) rfl rfl rfl (Nat.le_of_ble_eq_true rfl) ⟨Nat.le_of_ble_eq_true rfl, Nat.le_of_ble_eq_true rfl⟩ (gs_Zp fun z6 => ?_)
      refine gb_if_eq hqX6_readClause rfl (fun h7 => ?_) (fun h7 => ?_)
      ·
        have hr := g_if1 h7 hr
        refine gb_run 3 (pc2 := 55) (ls2 := [(3, .int (s2)), (0, .ref (9)), (1, .ref (1)), (2, .int (told))]) (st2 := [.int (s2), .ref (1), .ref (9)]) (M2 := s1) hC hqX6_readClause rfl ?_
        obtain ⟨s8, es8, hr⟩ := g_bd hr
        refine gz_cV (z := qX6_readNumbers) (a := 9) (av := [.ref (1), .int (s2)]) (rest := []) (pl := 830) hC hqX6_readClause rfl kX6_readNumbers sX6_readNumbers (by decide +kernel) (c_FP_readNumbers hC s2  s1 sz (d - 1) (by omega) s8 es8) (by omega) ⟨rfl, rfl⟩ rfl (Nat.le_of_ble_eq_true rfl) (Nat.le_of_ble_eq_true rfl) rfl rfl rfl (Nat.le_of_ble_eq_true rfl) ⟨Nat.le_of_ble_eq_true rfl, Nat.le_of_ble_eq_true rfl⟩ (gs_V ?_)
        refine gb_run 2 (pc2 := 61) (ls2 := [(3, .int (s2)), (0, .ref (9)), (1, .ref (1)), (2, .int (told))]) (st2 := [.int (59), .ref (1)]) (M2 := s8) hC hqX6_readClause rfl ?_
        obtain ⟨s9, es9, hr⟩ := g_bd hr
        refine gz_cV (z := qX10_need) (a := 1) (av := [.int (59)]) (rest := []) (pl := 844) hC hqX6_readClause rfl kX10_need sX10_need (by decide +kernel) (c_F_need hC (59 : Int32)  s8 sz (d - 1) (by omega) s9 es9) (by omega) ⟨rfl, rfl⟩ rfl (Nat.le_of_ble_eq_true rfl) (Nat.le_of_ble_eq_true rfl) rfl rfl rfl (Nat.le_of_ble_eq_true rfl) ⟨Nat.le_of_ble_eq_true rfl, Nat.le_of_ble_eq_true rfl⟩ (gs_V ?_)
        refine gb_vret hqX6_readClause rfl rfl (Nat.le_of_ble_eq_true rfl) (Nat.le_of_ble_eq_true rfl) ?_
        exact gl_V hr
      ·
        have hr := g_if0 h7 hr
        refine gw_pick [2] (ls2 := [(1, .ref (1))]) rfl ?_
        exact c_FP_readClause_J40 hC told sz d (by omega) R s1 hr
  ·
    have hr := g_if1 h3 hr
    refine gb_run 4 (pc2 := 20) (ls2 := [(3, .int (s2)), (0, .ref (9)), (1, .ref (1)), (2, .int (told))]) (st2 := [.int (s1 1 4), .int (1), .ref (1)]) (M2 := s1) hC hqX6_readClause rfl ?_
    obtain ⟨s10, es10, hr⟩ := g_bd hr
    refine gz_cV (z := qX10_fail) (a := 1) (av := [.int (1), .int (s1 1 4)]) (rest := []) (pl := 822) hC hqX6_readClause rfl kX10_fail sX10_fail (by decide +kernel) (c_F_fail hC (1 : Int32) (s1 1 4)  s1 sz (d - 1) (by omega) s10 es10) (by omega) ⟨rfl, rfl⟩ rfl (Nat.le_of_ble_eq_true rfl) (Nat.le_of_ble_eq_true rfl) rfl rfl rfl (Nat.le_of_ble_eq_true rfl) ⟨Nat.le_of_ble_eq_true rfl, Nat.le_of_ble_eq_true rfl⟩ (gs_V ?_)
    refine gb_run 1 (pc2 := 64) (ls2 := [(3, .int (s2)), (0, .ref (9)), (1, .ref (1)), (2, .int (told))]) (st2 := []) (M2 := s10) hC hqX6_readClause rfl ?_
    refine gb_vret hqX6_readClause rfl rfl (Nat.le_of_ble_eq_true rfl) (Nat.le_of_ble_eq_true rfl) ?_
    exact gl_V hr
def FP_read_L6 : Nat → Int32 → gM → Option (gM)
  | 0, _, _ => none
  | k + 1, x2, M =>
  if (60 : Int32) < x2 then (some M) else (if (F_faulty M) = (0 : Int32) then ((F_next M).bind fun s5 => if s5.1 = (-1 : Int32) then (some (s5.2)) else ((FP_readClause x2 (s5.2)).bind fun s7 => FP_read_L6 k (x2 + (1 : Int32)) s7)) else (some M))
set_option maxRecDepth 20000 in
theorem c_FP_read_L6 {l : Launch} {C : gC} (hC : g_ctx l C) (sz d : Nat) (hd : 8 ≤ d) (R : gM) : ∀ (k : Nat) (x2 : Int32) (M : gM), FP_read_L6 k x2 M = some R → GW l C qX6_read d (gQg 956 g_S0 (qV R) sz) gN 0 0 6 [(0, .ref (9)), (1, .ref (1)), (2, .int (x2))] [] (956, g_S0, M, sz) := by
  intro k
  induction k with
  | zero => intro x2 M hr; exact nomatch (show (none : Option (gM)) = some R from hr)
  | succ k ih =>
    intro x2 M hr
    unfold FP_read_L6 at hr
    refine gb_run 2 (pc2 := 9) (ls2 := [(0, .ref (9)), (1, .ref (1)), (2, .int (x2))]) (st2 := [.int (60), .int (x2)]) (M2 := M) hC hqX6_read rfl ?_
    refine gb_icmp_gt hqX6_read rfl (fun h1 => ?_) (fun h1 => ?_)
    ·
      have hr := g_if1 h1 hr
      refine gb_vret hqX6_read rfl rfl (Nat.le_of_ble_eq_true rfl) (Nat.le_of_ble_eq_true rfl) ?_
      exact gl_V hr
    ·
      have hr := g_if0 h1 hr
      refine gb_run 1 (pc2 := 13) (ls2 := [(0, .ref (9)), (1, .ref (1)), (2, .int (x2))]) (st2 := [.ref (1)]) (M2 := M) hC hqX6_read rfl ?_
      refine gz_cV (z := qX10_faulty) (a := 1) (av := []) (rest := []) (pl := 741) hC hqX6_read rfl kX10_faulty sX10_faulty (by decide +kernel) (c_F_faulty hC   M sz (d - 1) (by omega)) (by omega) ⟨rfl, rfl⟩ rfl (Nat.le_of_ble_eq_true rfl) (Nat.le_of_ble_eq_true rfl) rfl rfl rfl (Nat.le_of_ble_eq_true rfl) ⟨Nat.le_of_ble_eq_true rfl, Nat.le_of_ble_eq_true rfl⟩ (gs_Zp fun z3 => ?_)
      refine gb_if_ne hqX6_read rfl (fun h4 => ?_) (fun h4 => ?_)
      ·
        have hr := g_if0 h4 hr
        refine gb_vret hqX6_read rfl rfl (Nat.le_of_ble_eq_true rfl) (Nat.le_of_ble_eq_true rfl) ?_
        exact gl_V hr
      ·
        have hr := g_if1 h4 hr
        refine gb_run 1 (pc2 := 20) (ls2 := [(0, .ref (9)), (1, .ref (1)), (2, .int (x2))]) (st2 := [.ref (1)]) (M2 := M) hC hqX6_read rfl ?_
        obtain ⟨s5, es5, hr⟩ := g_bd hr
        refine gz_cV (z := qX10_next) (a := 1) (av := []) (rest := []) (pl := 745) hC hqX6_read rfl kX10_next sX10_next (by decide +kernel) (c_F_next hC   M sz (d - 1) (by omega) s5 es5) (by omega) ⟨rfl, rfl⟩ rfl (Nat.le_of_ble_eq_true rfl) (Nat.le_of_ble_eq_true rfl) rfl rfl rfl (Nat.le_of_ble_eq_true rfl) ⟨Nat.le_of_ble_eq_true rfl, Nat.le_of_ble_eq_true rfl⟩ (gs_I ?_)
        refine gb_run 1 (pc2 := 24) (ls2 := [(0, .ref (9)), (1, .ref (1)), (2, .int (x2))]) (st2 := [.int (-1), .int (s5.1)]) (M2 := s5.2) hC hqX6_read rfl ?_
        refine gb_icmp_ne hqX6_read rfl (fun h6 => ?_) (fun h6 => ?_)
        ·
          have hr := g_if0 h6 hr
          refine gb_run 3 (pc2 := 31) (ls2 := [(0, .ref (9)), (1, .ref (1)), (2, .int (x2))]) (st2 := [.int (x2), .ref (1), .ref (9)]) (M2 := s5.2) hC hqX6_read rfl ?_
          obtain ⟨s7, es7, hr⟩ := g_bd hr
          refine gz_cV (z := qX6_readClause) (a := 9) (av := [.ref (1), .int (x2)]) (rest := []) (pl := 749) hC hqX6_read rfl kX6_readClause sX6_readClause (by decide +kernel) (c_FP_readClause hC x2  (s5.2) sz (d - 1) (by omega) s7 es7) (by omega) ⟨rfl, rfl⟩ rfl (Nat.le_of_ble_eq_true rfl) (Nat.le_of_ble_eq_true rfl) rfl rfl rfl (Nat.le_of_ble_eq_true rfl) ⟨Nat.le_of_ble_eq_true rfl, Nat.le_of_ble_eq_true rfl⟩ (gs_V ?_)
          refine gb_run 2 (pc2 := 6) (ls2 := [(2, .int (x2 + (1 : Int32))), (0, .ref (9)), (1, .ref (1))]) (st2 := []) (M2 := s7) hC hqX6_read rfl ?_
          refine gw_pick [1, 2, 0] (ls2 := [(0, .ref (9)), (1, .ref (1)), (2, .int (x2 + (1 : Int32)))]) rfl ?_
          exact ih (x2 + (1 : Int32)) s7 hr
        ·
          have hr := g_if1 h6 hr
          refine gb_vret hqX6_read rfl rfl (Nat.le_of_ble_eq_true rfl) (Nat.le_of_ble_eq_true rfl) ?_
          exact gl_V hr
def FP_read  (M : gM) : Option (gM) :=
  (FP_clear M).bind fun s1 => FP_read_L6 1000 (0 : Int32) s1
set_option maxRecDepth 20000 in
theorem c_FP_read {l : Launch} {C : gC} (hC : g_ctx l C)   (M : gM) (sz d : Nat) (hd : 8 ≤ d) (R : gM) (hr : FP_read M = some R) : gPg l C qX6_read d [.ref (9), .ref (1)] 956 g_S0 M sz (qV R) := by
  refine gPg.of (ls := [(0, .ref (9)), (1, .ref (1))]) (by decide +kernel) (Nat.le_of_ble_eq_true rfl) rfl ?_
  unfold FP_read at hr
  refine gb_run 1 (pc2 := 1) (ls2 := [(0, .ref (9)), (1, .ref (1))]) (st2 := [.ref (9)]) (M2 := M) hC hqX6_read rfl ?_
  obtain ⟨s1, es1, hr⟩ := g_bd hr
  refine gz_cV (z := qX6_clear) (a := 9) (av := []) (rest := []) (pl := 737) hC hqX6_read rfl kX6_clear sX6_clear (by decide +kernel) (c_FP_clear hC   M sz (d - 1) (by omega) s1 es1) (by omega) ⟨rfl, rfl⟩ rfl (Nat.le_of_ble_eq_true rfl) (Nat.le_of_ble_eq_true rfl) rfl rfl rfl (Nat.le_of_ble_eq_true rfl) ⟨Nat.le_of_ble_eq_true rfl, Nat.le_of_ble_eq_true rfl⟩ (gs_V ?_)
  refine gb_run 2 (pc2 := 6) (ls2 := [(2, .int (0)), (0, .ref (9)), (1, .ref (1))]) (st2 := []) (M2 := s1) hC hqX6_read rfl ?_
  refine gw_pick [1, 2, 0] (ls2 := [(0, .ref (9)), (1, .ref (1)), (2, .int (0))]) rfl ?_
  exact c_FP_read_L6 hC sz d (by omega) R 1000 (0 : Int32) s1 hr
def FP_watchedFrom_J29 (gates : Int32) (M : gM) (c4 : Int32 → Int32 → Option (Int32)) (x2 : Int32) (x3 : Int32) (y0 : Int32) : Option (Int32) :=
  if (F_hasBit gates x3) = (0 : Int32) then (if (F_hasBit gates y0) = (0 : Int32) then (c4 x2 (x3 + (1 : Int32))) else (c4 (x2 ||| ((1 : Int32) <<< (x3 &&& 31))) (x3 + (1 : Int32)))) else (c4 (x2 ||| ((1 : Int32) <<< (x3 &&& 31))) (x3 + (1 : Int32)))
set_option maxRecDepth 20000 in
theorem c_FP_watchedFrom_J29 {l : Launch} {C : gC} (hC : g_ctx l C) (gates : Int32) (M : gM) (sz d : Nat) (hd : 2 ≤ d) (R : Int32) (c4 : Int32 → Int32 → Option (Int32)) (hc4 : ∀ (x2 : Int32) (x3 : Int32), c4 x2 x3 = some R → GW l C qX6_watchedFrom d (gQg 956 g_S0 (qIp M R) sz) gN 0 0 4 [(0, .ref (3)), (1, .int (gates)), (2, .int (x2)), (3, .int (x3))] [] (956, g_S0, M, sz)) (x2 : Int32) (x3 : Int32) (y0 : Int32) (hr : FP_watchedFrom_J29 gates M c4 x2 x3 y0 = some R) : GW l C qX6_watchedFrom d (gQg 956 g_S0 (qIp M R) sz) gN 0 0 29 [(0, .ref (3)), (1, .int (gates)), (2, .int (x2)), (3, .int (x3))] [.int (y0)] (956, g_S0, M, sz) := by
  unfold FP_watchedFrom_J29 at hr
  refine gb_run 3 (pc2 := 33) (ls2 := [(4, .int (y0)), (0, .ref (3)), (1, .int (gates)), (2, .int (x2)), (3, .int (x3))]) (st2 := [.int (x3), .int (gates)]) (M2 := M) hC hqX6_watchedFrom rfl ?_
  refine gz_cSN (host := "HoopHours") (z := qX11_hasBit) (av := [.int (gates), .int (x3)]) (rest := []) (pl := 1273) hC hqX6_watchedFrom rfl kX11_hasBit (by decide +kernel) (c_F_hasBit hC gates x3  M sz (d - 1) (by omega)) (by omega) ⟨rfl, rfl⟩ rfl rfl (Nat.le_of_ble_eq_true rfl) ⟨Nat.le_of_ble_eq_true rfl, Nat.le_of_ble_eq_true rfl⟩ (gs_Zp fun z2 => ?_)
  refine gb_if_ne hqX6_watchedFrom rfl (fun h3 => ?_) (fun h3 => ?_)
  ·
    have hr := g_if0 h3 hr
    refine gb_run 8 (pc2 := 4) (ls2 := [(3, .int (x3 + (1 : Int32))), (2, .int (x2 ||| ((1 : Int32) <<< (x3 &&& 31)))), (4, .int (y0)), (0, .ref (3)), (1, .int (gates))]) (st2 := []) (M2 := M) hC hqX6_watchedFrom rfl ?_
    refine gw_pick [3, 4, 1, 0] (ls2 := [(0, .ref (3)), (1, .int (gates)), (2, .int (x2 ||| ((1 : Int32) <<< (x3 &&& 31)))), (3, .int (x3 + (1 : Int32)))]) rfl ?_
    exact hc4 (x2 ||| ((1 : Int32) <<< (x3 &&& 31))) (x3 + (1 : Int32)) hr
  ·
    have hr := g_if1 h3 hr
    refine gb_run 2 (pc2 := 42) (ls2 := [(4, .int (y0)), (0, .ref (3)), (1, .int (gates)), (2, .int (x2)), (3, .int (x3))]) (st2 := [.int (y0), .int (gates)]) (M2 := M) hC hqX6_watchedFrom rfl ?_
    refine gz_cSN (host := "HoopHours") (z := qX11_hasBit) (av := [.int (gates), .int (y0)]) (rest := []) (pl := 1273) hC hqX6_watchedFrom rfl kX11_hasBit (by decide +kernel) (c_F_hasBit hC gates y0  M sz (d - 1) (by omega)) (by omega) ⟨rfl, rfl⟩ rfl rfl (Nat.le_of_ble_eq_true rfl) ⟨Nat.le_of_ble_eq_true rfl, Nat.le_of_ble_eq_true rfl⟩ (gs_Zp fun z5 => ?_)
    refine gb_if_eq hqX6_watchedFrom rfl (fun h6 => ?_) (fun h6 => ?_)
    ·
      have hr := g_if1 h6 hr
      refine gb_run 2 (pc2 := 4) (ls2 := [(3, .int (x3 + (1 : Int32))), (4, .int (y0)), (0, .ref (3)), (1, .int (gates)), (2, .int (x2))]) (st2 := []) (M2 := M) hC hqX6_watchedFrom rfl ?_
      refine gw_pick [2, 3, 4, 0] (ls2 := [(0, .ref (3)), (1, .int (gates)), (2, .int (x2)), (3, .int (x3 + (1 : Int32)))]) rfl ?_
      exact hc4 x2 (x3 + (1 : Int32)) hr
    ·
      have hr := g_if0 h6 hr
      refine gb_run 8 (pc2 := 4) (ls2 := [(3, .int (x3 + (1 : Int32))), (2, .int (x2 ||| ((1 : Int32) <<< (x3 &&& 31)))), (4, .int (y0)), (0, .ref (3)), (1, .int (gates))]) (st2 := []) (M2 := M) hC hqX6_watchedFrom rfl ?_
      refine gw_pick [3, 4, 1, 0] (ls2 := [(0, .ref (3)), (1, .int (gates)), (2, .int (x2 ||| ((1 : Int32) <<< (x3 &&& 31)))), (3, .int (x3 + (1 : Int32)))]) rfl ?_
      exact hc4 (x2 ||| ((1 : Int32) <<< (x3 &&& 31))) (x3 + (1 : Int32)) hr
def FP_watchedFrom_L4 (gates : Int32) (M : gM) : Nat → Int32 → Int32 → Option (Int32)
  | 0, _, _ => none
  | k + 1, x2, x3 =>
  if (M 3 5) ≤ x3 then (some x2) else (if (M 3 5) ≤ (x3 + (1 : Int32)) then (FP_watchedFrom_J29 gates M (FP_watchedFrom_L4 gates M k) x2 x3 (0 : Int32)) else (FP_watchedFrom_J29 gates M (FP_watchedFrom_L4 gates M k) x2 x3 (x3 + (1 : Int32))))
set_option maxRecDepth 20000 in
theorem c_FP_watchedFrom_L4 {l : Launch} {C : gC} (hC : g_ctx l C) (gates : Int32) (M : gM) (sz d : Nat) (hd : 2 ≤ d) (R : Int32) : ∀ (k : Nat) (x2 : Int32) (x3 : Int32), FP_watchedFrom_L4 gates M k x2 x3 = some R → GW l C qX6_watchedFrom d (gQg 956 g_S0 (qIp M R) sz) gN 0 0 4 [(0, .ref (3)), (1, .int (gates)), (2, .int (x2)), (3, .int (x3))] [] (956, g_S0, M, sz) := by
  intro k
  induction k with
  | zero => intro x2 x3 hr; exact nomatch (show (none : Option (Int32)) = some R from hr)
  | succ k ih =>
    intro x2 x3 hr
    unfold FP_watchedFrom_L4 at hr
    refine gb_run 3 (pc2 := 9) (ls2 := [(0, .ref (3)), (1, .int (gates)), (2, .int (x2)), (3, .int (x3))]) (st2 := [.int (M 3 5), .int (x3)]) (M2 := M) hC hqX6_watchedFrom rfl ?_
    refine gb_icmp_ge hqX6_watchedFrom rfl (fun h1 => ?_) (fun h1 => ?_)
    ·
      have hr := g_if1 h1 hr
      refine gb_run 1 (pc2 := 61) (ls2 := [(0, .ref (3)), (1, .int (gates)), (2, .int (x2)), (3, .int (x3))]) (st2 := [.int (x2)]) (M2 := M) hC hqX6_watchedFrom rfl ?_
      refine gb_iret hqX6_watchedFrom rfl rfl (Nat.le_of_ble_eq_true rfl) (Nat.le_of_ble_eq_true rfl) ?_
      exact gl_Ip hr
    ·
      have hr := g_if0 h1 hr
      refine gb_run 5 (pc2 := 19) (ls2 := [(0, .ref (3)), (1, .int (gates)), (2, .int (x2)), (3, .int (x3))]) (st2 := [.int (M 3 5), .int (x3 + (1 : Int32))]) (M2 := M) hC hqX6_watchedFrom rfl ?_
      refine gb_icmp_ge hqX6_watchedFrom rfl (fun h2 => ?_) (fun h2 => ?_)
      ·
        have hr := g_if1 h2 hr
        refine gb_run 1 (pc2 := 29) (ls2 := [(0, .ref (3)), (1, .int (gates)), (2, .int (x2)), (3, .int (x3))]) (st2 := [.int (0)]) (M2 := M) hC hqX6_watchedFrom rfl ?_
        exact c_FP_watchedFrom_J29 hC gates M sz d (by omega) R (FP_watchedFrom_L4 gates M k) ih x2 x3 (0 : Int32) hr
      ·
        have hr := g_if0 h2 hr
        refine gb_run 4 (pc2 := 29) (ls2 := [(0, .ref (3)), (1, .int (gates)), (2, .int (x2)), (3, .int (x3))]) (st2 := [.int (x3 + (1 : Int32))]) (M2 := M) hC hqX6_watchedFrom rfl ?_
        exact c_FP_watchedFrom_J29 hC gates M sz d (by omega) R (FP_watchedFrom_L4 gates M k) ih x2 x3 (x3 + (1 : Int32)) hr
def FP_watchedFrom (gates : Int32) (M : gM) : Option (Int32) :=
  FP_watchedFrom_L4 gates M 1000 (0 : Int32) (0 : Int32)
set_option maxRecDepth 20000 in
theorem c_FP_watchedFrom {l : Launch} {C : gC} (hC : g_ctx l C) (gates : Int32)  (M : gM) (sz d : Nat) (hd : 2 ≤ d) (R : Int32) (hr : FP_watchedFrom gates M = some R) : gPg l C qX6_watchedFrom d [.ref (3), .int (gates)] 956 g_S0 M sz (qIp M R) := by
  refine gPg.of (ls := [(0, .ref (3)), (1, .int (gates))]) (by decide +kernel) (Nat.le_of_ble_eq_true rfl) rfl ?_
  unfold FP_watchedFrom at hr
  refine gb_run 4 (pc2 := 4) (ls2 := [(3, .int (0)), (2, .int (0)), (0, .ref (3)), (1, .int (gates))]) (st2 := []) (M2 := M) hC hqX6_watchedFrom rfl ?_
  refine gw_pick [2, 3, 1, 0] (ls2 := [(0, .ref (3)), (1, .int (gates)), (2, .int (0)), (3, .int (0))]) rfl ?_
  exact c_FP_watchedFrom_L4 hC gates M sz d (by omega) R 1000 (0 : Int32) (0 : Int32) hr
def FP_fallsOn_L4 (told : Int32) (M : gM) : Nat → Int32 → Int32 → Option (Int32)
  | 0, _, _ => none
  | k + 1, x2, x3 =>
  if (M 3 5) ≤ x3 then (some x2) else (if (F_hasBit told x3) = (0 : Int32) then (FP_fallsOn_L4 told M k (x2 + (0 : Int32)) (x3 + (1 : Int32))) else (FP_fallsOn_L4 told M k (x2 + (r_at (M 5) 8 x3)) (x3 + (1 : Int32))))
set_option maxRecDepth 20000 in
theorem c_FP_fallsOn_L4 {l : Launch} {C : gC} (hC : g_ctx l C) (told : Int32) (M : gM) (sz d : Nat) (hd : 2 ≤ d) (R : Int32) : ∀ (k : Nat) (x2 : Int32) (x3 : Int32), FP_fallsOn_L4 told M k x2 x3 = some R → GW l C qX6_fallsOn d (gQg 956 g_S0 (qIp M R) sz) gN 0 0 4 [(0, .ref (3)), (1, .int (told)), (2, .int (x2)), (3, .int (x3))] [] (956, g_S0, M, sz) := by
  intro k
  induction k with
  | zero => intro x2 x3 hr; exact nomatch (show (none : Option (Int32)) = some R from hr)
  | succ k ih =>
    intro x2 x3 hr
    unfold FP_fallsOn_L4 at hr
    refine gb_run 3 (pc2 := 9) (ls2 := [(0, .ref (3)), (1, .int (told)), (2, .int (x2)), (3, .int (x3))]) (st2 := [.int (M 3 5), .int (x3)]) (M2 := M) hC hqX6_fallsOn rfl ?_
    refine gb_icmp_ge hqX6_fallsOn rfl (fun h1 => ?_) (fun h1 => ?_)
    ·
      have hr := g_if1 h1 hr
      refine gb_run 1 (pc2 := 42) (ls2 := [(0, .ref (3)), (1, .int (told)), (2, .int (x2)), (3, .int (x3))]) (st2 := [.int (x2)]) (M2 := M) hC hqX6_fallsOn rfl ?_
      refine gb_iret hqX6_fallsOn rfl rfl (Nat.le_of_ble_eq_true rfl) (Nat.le_of_ble_eq_true rfl) ?_
      exact gl_Ip hr
    ·
      have hr := g_if0 h1 hr
      refine gb_run 3 (pc2 := 15) (ls2 := [(0, .ref (3)), (1, .int (told)), (2, .int (x2)), (3, .int (x3))]) (st2 := [.int (x3), .int (told), .int (x2)]) (M2 := M) hC hqX6_fallsOn rfl ?_
      refine gz_cSN (host := "HoopHours") (z := qX11_hasBit) (av := [.int (told), .int (x3)]) (rest := [.int (x2)]) (pl := 1273) hC hqX6_fallsOn rfl kX11_hasBit (by decide +kernel) (c_F_hasBit hC told x3  M sz (d - 1) (by omega)) (by omega) ⟨rfl, rfl⟩ rfl rfl (Nat.le_of_ble_eq_true rfl) ⟨Nat.le_of_ble_eq_true rfl, Nat.le_of_ble_eq_true rfl⟩ (gs_Zp fun z3 => ?_)
      refine gb_if_eq hqX6_fallsOn rfl (fun h4 => ?_) (fun h4 => ?_)
      ·
        have hr := g_if1 h4 hr
        refine gb_run 5 (pc2 := 4) (ls2 := [(3, .int (x3 + (1 : Int32))), (2, .int (x2 + (0 : Int32))), (0, .ref (3)), (1, .int (told))]) (st2 := []) (M2 := M) hC hqX6_fallsOn rfl ?_
        refine gw_pick [2, 3, 1, 0] (ls2 := [(0, .ref (3)), (1, .int (told)), (2, .int (x2 + (0 : Int32))), (3, .int (x3 + (1 : Int32)))]) rfl ?_
        exact ih (x2 + (0 : Int32)) (x3 + (1 : Int32)) hr
      ·
        have hr := g_if0 h4 hr
        refine gb_run 3 (pc2 := 26) (ls2 := [(0, .ref (3)), (1, .int (told)), (2, .int (x2)), (3, .int (x3))]) (st2 := [.int (x3), .ref (5), .int (x2)]) (M2 := M) hC hqX6_fallsOn rfl ?_
        refine gz_cSN (host := "HoopHours") (z := qX11_at) (av := [.ref (5), .int (x3)]) (rest := [.int (x2)]) (pl := 1286) hC hqX6_fallsOn rfl kX11_at (by decide +kernel) (c_at hC 5 8 _ x3 M sz (d - 1) (by omega) (Nat.le_of_ble_eq_true rfl) rfl (Nat.le_of_ble_eq_true rfl)) (by omega) ⟨rfl, rfl⟩ rfl rfl (Nat.le_of_ble_eq_true rfl) ⟨Nat.le_of_ble_eq_true rfl, Nat.le_of_ble_eq_true rfl⟩ (gs_Ip ?_)
        refine gb_run 5 (pc2 := 4) (ls2 := [(3, .int (x3 + (1 : Int32))), (2, .int (x2 + (r_at (M 5) 8 x3))), (0, .ref (3)), (1, .int (told))]) (st2 := []) (M2 := M) hC hqX6_fallsOn rfl ?_
        refine gw_pick [2, 3, 1, 0] (ls2 := [(0, .ref (3)), (1, .int (told)), (2, .int (x2 + (r_at (M 5) 8 x3))), (3, .int (x3 + (1 : Int32)))]) rfl ?_
        exact ih (x2 + (r_at (M 5) 8 x3)) (x3 + (1 : Int32)) hr
def FP_fallsOn (told : Int32) (M : gM) : Option (Int32) :=
  FP_fallsOn_L4 told M 1000 (0 : Int32) (0 : Int32)
set_option maxRecDepth 20000 in
theorem c_FP_fallsOn {l : Launch} {C : gC} (hC : g_ctx l C) (told : Int32)  (M : gM) (sz d : Nat) (hd : 2 ≤ d) (R : Int32) (hr : FP_fallsOn told M = some R) : gPg l C qX6_fallsOn d [.ref (3), .int (told)] 956 g_S0 M sz (qIp M R) := by
  refine gPg.of (ls := [(0, .ref (3)), (1, .int (told))]) (by decide +kernel) (Nat.le_of_ble_eq_true rfl) rfl ?_
  unfold FP_fallsOn at hr
  refine gb_run 4 (pc2 := 4) (ls2 := [(3, .int (0)), (2, .int (0)), (0, .ref (3)), (1, .int (told))]) (st2 := []) (M2 := M) hC hqX6_fallsOn rfl ?_
  refine gw_pick [2, 3, 1, 0] (ls2 := [(0, .ref (3)), (1, .int (told)), (2, .int (0)), (3, .int (0))]) rfl ?_
  exact c_FP_fallsOn_L4 hC told M sz d (by omega) R 1000 (0 : Int32) (0 : Int32) hr
def FP_boundOf_L13 (told : Int32) (n : Int32) (M : gM) (c3 : Int32 → Option (Int32)) : Nat → Int32 → Int32 → Int32 → Option (Int32)
  | 0, _, _, _ => none
  | k + 1, x3, x4, x5 =>
  if (M 3 6) ≤ x5 then (if n < x4 then (c3 (x3 + (-1 : Int32))) else (some x3)) else (if (F_hasBit told x5) = (0 : Int32) then (FP_boundOf_L13 told n M c3 k x3 (x4 + (0 : Int32)) (x5 + (1 : Int32))) else (FP_boundOf_L13 told n M c3 k x3 (x4 + (m_min x3 (r_at (M 7) 8 x5))) (x5 + (1 : Int32))))
set_option maxRecDepth 20000 in
theorem c_FP_boundOf_L13 {l : Launch} {C : gC} (hC : g_ctx l C) (told : Int32) (n : Int32) (M : gM) (sz d : Nat) (hd : 2 ≤ d) (R : Int32) (c3 : Int32 → Option (Int32)) (hc3 : ∀ (x3 : Int32), c3 x3 = some R → GW l C qX6_boundOf d (gQg 956 g_S0 (qIp M R) sz) gN 0 0 3 [(0, .ref (3)), (1, .int (told)), (2, .int (n)), (3, .int (x3))] [] (956, g_S0, M, sz)) : ∀ (k : Nat) (x3 : Int32) (x4 : Int32) (x5 : Int32), FP_boundOf_L13 told n M c3 k x3 x4 x5 = some R → GW l C qX6_boundOf d (gQg 956 g_S0 (qIp M R) sz) gN 0 0 13 [(0, .ref (3)), (1, .int (told)), (2, .int (n)), (3, .int (x3)), (4, .int (x4)), (5, .int (x5))] [] (956, g_S0, M, sz) := by
  intro k
  induction k with
  | zero => intro x3 x4 x5 hr; exact nomatch (show (none : Option (Int32)) = some R from hr)
  | succ k ih =>
    intro x3 x4 x5 hr
    unfold FP_boundOf_L13 at hr
    refine gb_run 3 (pc2 := 19) (ls2 := [(0, .ref (3)), (1, .int (told)), (2, .int (n)), (3, .int (x3)), (4, .int (x4)), (5, .int (x5))]) (st2 := [.int (M 3 6), .int (x5)]) (M2 := M) hC hqX6_boundOf rfl ?_
    refine gb_icmp_ge hqX6_boundOf rfl (fun h1 => ?_) (fun h1 => ?_)
    ·
      have hr := g_if1 h1 hr
      refine gb_run 2 (pc2 := 62) (ls2 := [(0, .ref (3)), (1, .int (told)), (2, .int (n)), (3, .int (x3)), (4, .int (x4)), (5, .int (x5))]) (st2 := [.int (n), .int (x4)]) (M2 := M) hC hqX6_boundOf rfl ?_
      refine gb_icmp_gt hqX6_boundOf rfl (fun h2 => ?_) (fun h2 => ?_)
      ·
        have hr := g_if1 h2 hr
        refine gb_run 2 (pc2 := 3) (ls2 := [(3, .int (x3 + (-1 : Int32))), (0, .ref (3)), (1, .int (told)), (2, .int (n)), (4, .int (x4)), (5, .int (x5))]) (st2 := []) (M2 := M) hC hqX6_boundOf rfl ?_
        refine gw_pick [1, 2, 3, 0] (ls2 := [(0, .ref (3)), (1, .int (told)), (2, .int (n)), (3, .int (x3 + (-1 : Int32)))]) rfl ?_
        exact hc3 (x3 + (-1 : Int32)) hr
      ·
        have hr := g_if0 h2 hr
        refine gb_run 1 (pc2 := 66) (ls2 := [(0, .ref (3)), (1, .int (told)), (2, .int (n)), (3, .int (x3)), (4, .int (x4)), (5, .int (x5))]) (st2 := [.int (x3)]) (M2 := M) hC hqX6_boundOf rfl ?_
        refine gb_iret hqX6_boundOf rfl rfl (Nat.le_of_ble_eq_true rfl) (Nat.le_of_ble_eq_true rfl) ?_
        exact gl_Ip hr
    ·
      have hr := g_if0 h1 hr
      refine gb_run 3 (pc2 := 27) (ls2 := [(0, .ref (3)), (1, .int (told)), (2, .int (n)), (3, .int (x3)), (4, .int (x4)), (5, .int (x5))]) (st2 := [.int (x5), .int (told), .int (x4)]) (M2 := M) hC hqX6_boundOf rfl ?_
      refine gz_cSN (host := "HoopHours") (z := qX11_hasBit) (av := [.int (told), .int (x5)]) (rest := [.int (x4)]) (pl := 1273) hC hqX6_boundOf rfl kX11_hasBit (by decide +kernel) (c_F_hasBit hC told x5  M sz (d - 1) (by omega)) (by omega) ⟨rfl, rfl⟩ rfl rfl (Nat.le_of_ble_eq_true rfl) ⟨Nat.le_of_ble_eq_true rfl, Nat.le_of_ble_eq_true rfl⟩ (gs_Zp fun z4 => ?_)
      refine gb_if_eq hqX6_boundOf rfl (fun h5 => ?_) (fun h5 => ?_)
      ·
        have hr := g_if1 h5 hr
        refine gb_run 5 (pc2 := 13) (ls2 := [(5, .int (x5 + (1 : Int32))), (4, .int (x4 + (0 : Int32))), (0, .ref (3)), (1, .int (told)), (2, .int (n)), (3, .int (x3))]) (st2 := []) (M2 := M) hC hqX6_boundOf rfl ?_
        refine gw_pick [2, 3, 4, 5, 1, 0] (ls2 := [(0, .ref (3)), (1, .int (told)), (2, .int (n)), (3, .int (x3)), (4, .int (x4 + (0 : Int32))), (5, .int (x5 + (1 : Int32)))]) rfl ?_
        exact ih x3 (x4 + (0 : Int32)) (x5 + (1 : Int32)) hr
      ·
        have hr := g_if0 h5 hr
        refine gb_run 4 (pc2 := 40) (ls2 := [(0, .ref (3)), (1, .int (told)), (2, .int (n)), (3, .int (x3)), (4, .int (x4)), (5, .int (x5))]) (st2 := [.int (x5), .ref (7), .int (x3), .int (x4)]) (M2 := M) hC hqX6_boundOf rfl ?_
        refine gz_cSN (host := "HoopHours") (z := qX11_at) (av := [.ref (7), .int (x5)]) (rest := [.int (x3), .int (x4)]) (pl := 1286) hC hqX6_boundOf rfl kX11_at (by decide +kernel) (c_at hC 7 8 _ x5 M sz (d - 1) (by omega) (Nat.le_of_ble_eq_true rfl) rfl (Nat.le_of_ble_eq_true rfl)) (by omega) ⟨rfl, rfl⟩ rfl rfl (Nat.le_of_ble_eq_true rfl) ⟨Nat.le_of_ble_eq_true rfl, Nat.le_of_ble_eq_true rfl⟩ (gs_Ip ?_)
        refine gb_min (pl := 1311) hC hqX6_boundOf rfl (by decide +kernel) (Nat.le_of_ble_eq_true rfl) (by omega) (Nat.le_of_ble_eq_true rfl) (Nat.le_of_ble_eq_true rfl) ?_
        refine gb_run 5 (pc2 := 13) (ls2 := [(5, .int (x5 + (1 : Int32))), (4, .int (x4 + (m_min x3 (r_at (M 7) 8 x5)))), (0, .ref (3)), (1, .int (told)), (2, .int (n)), (3, .int (x3))]) (st2 := []) (M2 := M) hC hqX6_boundOf rfl ?_
        refine gw_pick [2, 3, 4, 5, 1, 0] (ls2 := [(0, .ref (3)), (1, .int (told)), (2, .int (n)), (3, .int (x3)), (4, .int (x4 + (m_min x3 (r_at (M 7) 8 x5)))), (5, .int (x5 + (1 : Int32)))]) rfl ?_
        exact ih x3 (x4 + (m_min x3 (r_at (M 7) 8 x5))) (x5 + (1 : Int32)) hr
def FP_boundOf_L3 (told : Int32) (n : Int32) (M : gM) : Nat → Int32 → Option (Int32)
  | 0, _ => none
  | k + 1, x3 =>
  if x3 ≤ (0 : Int32) then (some (0 : Int32)) else (FP_boundOf_L13 told n M (FP_boundOf_L3 told n M k) 1000 x3 (0 : Int32) (0 : Int32))
set_option maxRecDepth 20000 in
theorem c_FP_boundOf_L3 {l : Launch} {C : gC} (hC : g_ctx l C) (told : Int32) (n : Int32) (M : gM) (sz d : Nat) (hd : 2 ≤ d) (R : Int32) : ∀ (k : Nat) (x3 : Int32), FP_boundOf_L3 told n M k x3 = some R → GW l C qX6_boundOf d (gQg 956 g_S0 (qIp M R) sz) gN 0 0 3 [(0, .ref (3)), (1, .int (told)), (2, .int (n)), (3, .int (x3))] [] (956, g_S0, M, sz) := by
  intro k
  induction k with
  | zero => intro x3 hr; exact nomatch (show (none : Option (Int32)) = some R from hr)
  | succ k ih =>
    intro x3 hr
    unfold FP_boundOf_L3 at hr
    refine gb_run 1 (pc2 := 4) (ls2 := [(0, .ref (3)), (1, .int (told)), (2, .int (n)), (3, .int (x3))]) (st2 := [.int (x3)]) (M2 := M) hC hqX6_boundOf rfl ?_
    refine gb_if_le hqX6_boundOf rfl (fun h1 => ?_) (fun h1 => ?_)
    ·
      have hr := g_if1 h1 hr
      refine gb_run 1 (pc2 := 74) (ls2 := [(0, .ref (3)), (1, .int (told)), (2, .int (n)), (3, .int (x3))]) (st2 := [.int (0)]) (M2 := M) hC hqX6_boundOf rfl ?_
      refine gb_iret hqX6_boundOf rfl rfl (Nat.le_of_ble_eq_true rfl) (Nat.le_of_ble_eq_true rfl) ?_
      exact gl_Ip hr
    ·
      have hr := g_if0 h1 hr
      refine gb_run 4 (pc2 := 13) (ls2 := [(5, .int (0)), (4, .int (0)), (0, .ref (3)), (1, .int (told)), (2, .int (n)), (3, .int (x3))]) (st2 := []) (M2 := M) hC hqX6_boundOf rfl ?_
      refine gw_pick [2, 3, 4, 5, 1, 0] (ls2 := [(0, .ref (3)), (1, .int (told)), (2, .int (n)), (3, .int (x3)), (4, .int (0)), (5, .int (0))]) rfl ?_
      exact c_FP_boundOf_L13 hC told n M sz d (by omega) R (FP_boundOf_L3 told n M k) ih 1000 x3 (0 : Int32) (0 : Int32) hr
def FP_boundOf (told : Int32) (n : Int32) (M : gM) : Option (Int32) :=
  FP_boundOf_L3 told n M 1000 (14 : Int32)
set_option maxRecDepth 20000 in
theorem c_FP_boundOf {l : Launch} {C : gC} (hC : g_ctx l C) (told : Int32) (n : Int32)  (M : gM) (sz d : Nat) (hd : 2 ≤ d) (R : Int32) (hr : FP_boundOf told n M = some R) : gPg l C qX6_boundOf d [.ref (3), .int (told), .int (n)] 956 g_S0 M sz (qIp M R) := by
  refine gPg.of (ls := [(0, .ref (3)), (1, .int (told)), (2, .int (n))]) (by decide +kernel) (Nat.le_of_ble_eq_true rfl) rfl ?_
  unfold FP_boundOf at hr
  refine gb_run 2 (pc2 := 3) (ls2 := [(3, .int (14)), (0, .ref (3)), (1, .int (told)), (2, .int (n))]) (st2 := []) (M2 := M) hC hqX6_boundOf rfl ?_
  refine gw_pick [1, 2, 3, 0] (ls2 := [(0, .ref (3)), (1, .int (told)), (2, .int (n)), (3, .int (14))]) rfl ?_
  exact c_FP_boundOf_L3 hC told n M sz d (by omega) R 1000 (14 : Int32) hr
