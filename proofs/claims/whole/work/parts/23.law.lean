/-! law, decompiled. -/
def FL_clear  (M : gM) : Option (gM) :=
  some (g_set (g_set M 15 4 (0 : Int32)) 15 3 (0 : Int32))
set_option maxRecDepth 20000 in
theorem c_FL_clear {l : Launch} {C : gC} (hC : g_ctx l C)   (M : gM) (sz d : Nat) (hd : 1 ≤ d) (R : gM) (hr : FL_clear M = some R) : gPg l C qX4_clear d [.ref (15)] 956 g_S0 M sz (qV R) := by
  refine gPg.of (ls := [(0, .ref (15))]) (by decide +kernel) (Nat.le_of_ble_eq_true rfl) rfl ?_
  unfold FL_clear at hr
  refine gb_run 6 (pc2 := 10) (ls2 := [(0, .ref (15))]) (st2 := []) (M2 := g_set (g_set M 15 4 (0 : Int32)) 15 3 (0 : Int32)) hC hqX4_clear rfl ?_
  refine gb_vret hqX4_clear rfl rfl (Nat.le_of_ble_eq_true rfl) (Nat.le_of_ble_eq_true rfl) ?_
  exact gl_V hr
def FL_copy  (M : gM) : Option (gM) :=
  g_let (r_copy M 20 16 150) fun M1 => g_let (r_copy M1 21 17 150) fun M2 => if (M2 19 4) = 0 ∨ (M2 19 4) = 1 then (some (g_set (g_set M2 15 3 (M2 19 3)) 15 4 (M2 19 4))) else none
set_option maxRecDepth 20000 in
theorem c_FL_copy {l : Launch} {C : gC} (hC : g_ctx l C)   (M : gM) (sz d : Nat) (hd : 2 ≤ d) (R : gM) (hr : FL_copy M = some R) : gPg l C qX4_copy d [.ref (15), .ref (19)] 956 g_S0 M sz (qV R) := by
  refine gPg.of (ls := [(0, .ref (15)), (1, .ref (19))]) (by decide +kernel) (Nat.le_of_ble_eq_true rfl) rfl ?_
  unfold FL_copy at hr
  refine gb_run 4 (pc2 := 8) (ls2 := [(0, .ref (15)), (1, .ref (19))]) (st2 := [.ref (16), .ref (20)]) (M2 := M) hC hqX4_copy rfl ?_
  refine gz_cSN (host := "HoopHours") (z := qX11_copyRow) (av := [.ref (20), .ref (16)]) (rest := []) (pl := 925) hC hqX4_copy rfl kX11_copyRow (by decide +kernel) (c_copyRow hC 20 16 150 _ _ M sz (d - 1) (by omega) (Nat.le_of_ble_eq_true rfl) rfl (Nat.le_of_ble_eq_true rfl) rfl (Nat.le_of_ble_eq_true rfl) (by first | decide | omega)) (by omega) ⟨rfl, rfl⟩ rfl rfl (Nat.le_of_ble_eq_true rfl) ⟨Nat.le_of_ble_eq_true rfl, Nat.le_of_ble_eq_true rfl⟩ (gs_V ?_)
  refine g_letP (P := fun M1 => GW l C qX4_copy d (gQg 956 g_S0 (qV R) sz) gN 0 0 11 [(0, .ref (15)), (1, .ref (19))] [] (956, g_S0, M1, sz)) hr (fun M1 hr => ?_)
  refine gb_run 4 (pc2 := 19) (ls2 := [(0, .ref (15)), (1, .ref (19))]) (st2 := [.ref (17), .ref (21)]) (M2 := M1) hC hqX4_copy rfl ?_
  refine gz_cSN (host := "HoopHours") (z := qX11_copyRow) (av := [.ref (21), .ref (17)]) (rest := []) (pl := 925) hC hqX4_copy rfl kX11_copyRow (by decide +kernel) (c_copyRow hC 21 17 150 _ _ M1 sz (d - 1) (by omega) (Nat.le_of_ble_eq_true rfl) rfl (Nat.le_of_ble_eq_true rfl) rfl (Nat.le_of_ble_eq_true rfl) (by first | decide | omega)) (by omega) ⟨rfl, rfl⟩ rfl rfl (Nat.le_of_ble_eq_true rfl) ⟨Nat.le_of_ble_eq_true rfl, Nat.le_of_ble_eq_true rfl⟩ (gs_V ?_)
  refine g_letP (P := fun M2 => GW l C qX4_copy d (gQg 956 g_S0 (qV R) sz) gN 0 0 22 [(0, .ref (15)), (1, .ref (19))] [] (956, g_S0, M2, sz)) hr (fun M2 hr => ?_)
  refine gb_run 7 (pc2 := 35) (ls2 := [(0, .ref (15)), (1, .ref (19))]) (st2 := [.int (M2 19 4), .ref (15)]) (M2 := g_set M2 15 3 (M2 19 3)) hC hqX4_copy rfl ?_
  obtain ⟨h3, hr⟩ := g_zo hr
  refine gz_putz hC hqX4_copy rfl (Nat.le_of_ble_eq_true rfl) rfl rfl rfl rfl h3 ?_
  refine gb_vret hqX4_copy rfl rfl (Nat.le_of_ble_eq_true rfl) (Nat.le_of_ble_eq_true rfl) ?_
  exact gl_V hr
def FL_mark (kind : Int32) (v : Int32) (M : gM) : Option (gM) :=
  g_let (r_put M 20 150 (M 19 3) kind) fun M1 => g_let (r_put M1 21 150 (M1 19 3) v) fun M2 => some (g_set M2 19 3 ((M2 19 3) + (1 : Int32)))
set_option maxRecDepth 20000 in
theorem c_FL_mark {l : Launch} {C : gC} (hC : g_ctx l C) (kind : Int32) (v : Int32)  (M : gM) (sz d : Nat) (hd : 2 ≤ d) (R : gM) (hr : FL_mark kind v M = some R) : gPg l C qX4_mark d [.ref (19), .int (kind), .int (v)] 956 g_S0 M sz (qV R) := by
  refine gPg.of (ls := [(0, .ref (19)), (1, .int (kind)), (2, .int (v))]) (by decide +kernel) (Nat.le_of_ble_eq_true rfl) rfl ?_
  unfold FL_mark at hr
  refine gb_run 5 (pc2 := 9) (ls2 := [(0, .ref (19)), (1, .int (kind)), (2, .int (v))]) (st2 := [.int (kind), .int (M 19 3), .ref (20)]) (M2 := M) hC hqX4_mark rfl ?_
  refine gz_cSN (host := "HoopHours") (z := qX11_put) (av := [.ref (20), .int (M 19 3), .int (kind)]) (rest := []) (pl := 604) hC hqX4_mark rfl kX11_put (by decide +kernel) (c_put hC 20 150 _ (M 19 3) kind M sz (d - 1) (by omega) (Nat.le_of_ble_eq_true rfl) rfl (Nat.le_of_ble_eq_true rfl)) (by omega) ⟨rfl, rfl⟩ rfl rfl (Nat.le_of_ble_eq_true rfl) ⟨Nat.le_of_ble_eq_true rfl, Nat.le_of_ble_eq_true rfl⟩ (gs_V ?_)
  refine g_letP (P := fun M1 => GW l C qX4_mark d (gQg 956 g_S0 (qV R) sz) gN 0 0 12 [(0, .ref (19)), (1, .int (kind)), (2, .int (v))] [] (956, g_S0, M1, sz)) hr (fun M1 hr => ?_)
  refine gb_run 5 (pc2 := 21) (ls2 := [(0, .ref (19)), (1, .int (kind)), (2, .int (v))]) (st2 := [.int (v), .int (M1 19 3), .ref (21)]) (M2 := M1) hC hqX4_mark rfl ?_
  refine gz_cSN (host := "HoopHours") (z := qX11_put) (av := [.ref (21), .int (M1 19 3), .int (v)]) (rest := []) (pl := 604) hC hqX4_mark rfl kX11_put (by decide +kernel) (c_put hC 21 150 _ (M1 19 3) v M1 sz (d - 1) (by omega) (Nat.le_of_ble_eq_true rfl) rfl (Nat.le_of_ble_eq_true rfl)) (by omega) ⟨rfl, rfl⟩ rfl rfl (Nat.le_of_ble_eq_true rfl) ⟨Nat.le_of_ble_eq_true rfl, Nat.le_of_ble_eq_true rfl⟩ (gs_V ?_)
  refine g_letP (P := fun M2 => GW l C qX4_mark d (gQg 956 g_S0 (qV R) sz) gN 0 0 24 [(0, .ref (19)), (1, .int (kind)), (2, .int (v))] [] (956, g_S0, M2, sz)) hr (fun M2 hr => ?_)
  refine gb_run 6 (pc2 := 34) (ls2 := [(0, .ref (19)), (1, .int (kind)), (2, .int (v))]) (st2 := []) (M2 := g_set M2 19 3 ((M2 19 3) + (1 : Int32))) hC hqX4_mark rfl ?_
  refine gb_vret hqX4_mark rfl rfl (Nat.le_of_ble_eq_true rfl) (Nat.le_of_ble_eq_true rfl) ?_
  exact gl_V hr
def FL_factOf  (M : gM) : Option (Int32) :=
  (F_was 6 M).bind fun s1 => if s1 = (0 : Int32) then ((F_was 7 M).bind fun s4 => if s4 = (0 : Int32) then ((F_was 8 M).bind fun s7 => if s7 = (0 : Int32) then ((F_was 9 M).bind fun s10 => if s10 = (0 : Int32) then ((F_was 10 M).bind fun s13 => if s13 = (0 : Int32) then ((F_was 11 M).bind fun s16 => if s16 = (0 : Int32) then ((F_was 1 M).bind fun s19 => if s19 = (0 : Int32) then ((F_was 3 M).bind fun s22 => if s22 = (0 : Int32) then ((F_was 12 M).bind fun s25 => if s25 = (0 : Int32) then (some (-1 : Int32)) else (some (8 : Int32))) else (some (7 : Int32))) else (some (6 : Int32))) else (some (5 : Int32))) else (some (4 : Int32))) else (some (3 : Int32))) else (some (2 : Int32))) else (some (1 : Int32))) else (some (0 : Int32))
set_option maxRecDepth 20000 in
theorem c_FL_factOf {l : Launch} {C : gC} (hC : g_ctx l C)   (M : gM) (sz d : Nat) (hd : 6 ≤ d) (R : Int32) (hr : FL_factOf M = some R) : gPg l C qX4_factOf d [.ref (1)] 956 g_S0 M sz (qIp M R) := by
  refine gPg.of (ls := [(0, .ref (1))]) (by decide +kernel) (Nat.le_of_ble_eq_true rfl) rfl ?_
  unfold FL_factOf at hr
  refine gb_run 2 (pc2 := 3) (ls2 := [(0, .ref (1))]) (st2 := [.retAddr 6, .ref (1)]) (M2 := M) hC hqX4_factOf rfl ?_
  obtain ⟨s1, es1, hr⟩ := g_bd hr
  refine gz_cV (z := qX10_was) (a := 1) (av := [.retAddr 6]) (rest := []) (pl := 906) hC hqX4_factOf rfl kX10_was sX10_was (by decide +kernel) (c_F_was hC 6 (by decide) M sz (d - 1) (by omega) s1 es1) (by omega) ⟨rfl, rfl⟩ rfl (Nat.le_of_ble_eq_true rfl) (Nat.le_of_ble_eq_true rfl) rfl rfl rfl (Nat.le_of_ble_eq_true rfl) ⟨Nat.le_of_ble_eq_true rfl, Nat.le_of_ble_eq_true rfl⟩ (gs_Zp fun z2 => ?_)
  refine gb_if_eq hqX4_factOf rfl (fun h3 => ?_) (fun h3 => ?_)
  ·
    have hr := g_if1 h3 hr
    refine gb_run 2 (pc2 := 16) (ls2 := [(0, .ref (1))]) (st2 := [.retAddr 7, .ref (1)]) (M2 := M) hC hqX4_factOf rfl ?_
    obtain ⟨s4, es4, hr⟩ := g_bd hr
    refine gz_cV (z := qX10_was) (a := 1) (av := [.retAddr 7]) (rest := []) (pl := 906) hC hqX4_factOf rfl kX10_was sX10_was (by decide +kernel) (c_F_was hC 7 (by decide) M sz (d - 1) (by omega) s4 es4) (by omega) ⟨rfl, rfl⟩ rfl (Nat.le_of_ble_eq_true rfl) (Nat.le_of_ble_eq_true rfl) rfl rfl rfl (Nat.le_of_ble_eq_true rfl) ⟨Nat.le_of_ble_eq_true rfl, Nat.le_of_ble_eq_true rfl⟩ (gs_Zp fun z5 => ?_)
    refine gb_if_eq hqX4_factOf rfl (fun h6 => ?_) (fun h6 => ?_)
    ·
      have hr := g_if1 h6 hr
      refine gb_run 2 (pc2 := 29) (ls2 := [(0, .ref (1))]) (st2 := [.retAddr 8, .ref (1)]) (M2 := M) hC hqX4_factOf rfl ?_
      obtain ⟨s7, es7, hr⟩ := g_bd hr
      refine gz_cV (z := qX10_was) (a := 1) (av := [.retAddr 8]) (rest := []) (pl := 906) hC hqX4_factOf rfl kX10_was sX10_was (by decide +kernel) (c_F_was hC 8 (by decide) M sz (d - 1) (by omega) s7 es7) (by omega) ⟨rfl, rfl⟩ rfl (Nat.le_of_ble_eq_true rfl) (Nat.le_of_ble_eq_true rfl) rfl rfl rfl (Nat.le_of_ble_eq_true rfl) ⟨Nat.le_of_ble_eq_true rfl, Nat.le_of_ble_eq_true rfl⟩ (gs_Zp fun z8 => ?_)
      refine gb_if_eq hqX4_factOf rfl (fun h9 => ?_) (fun h9 => ?_)
      ·
        have hr := g_if1 h9 hr
        refine gb_run 2 (pc2 := 42) (ls2 := [(0, .ref (1))]) (st2 := [.retAddr 9, .ref (1)]) (M2 := M) hC hqX4_factOf rfl ?_
        obtain ⟨s10, es10, hr⟩ := g_bd hr
        refine gz_cV (z := qX10_was) (a := 1) (av := [.retAddr 9]) (rest := []) (pl := 906) hC hqX4_factOf rfl kX10_was sX10_was (by decide +kernel) (c_F_was hC 9 (by decide) M sz (d - 1) (by omega) s10 es10) (by omega) ⟨rfl, rfl⟩ rfl (Nat.le_of_ble_eq_true rfl) (Nat.le_of_ble_eq_true rfl) rfl rfl rfl (Nat.le_of_ble_eq_true rfl) ⟨Nat.le_of_ble_eq_true rfl, Nat.le_of_ble_eq_true rfl⟩ (gs_Zp fun z11 => ?_)
        refine gb_if_eq hqX4_factOf rfl (fun h12 => ?_) (fun h12 => ?_)
        ·
          have hr := g_if1 h12 hr
          refine gb_run 2 (pc2 := 55) (ls2 := [(0, .ref (1))]) (st2 := [.retAddr 10, .ref (1)]) (M2 := M) hC hqX4_factOf rfl ?_
          obtain ⟨s13, es13, hr⟩ := g_bd hr
          refine gz_cV (z := qX10_was) (a := 1) (av := [.retAddr 10]) (rest := []) (pl := 906) hC hqX4_factOf rfl kX10_was sX10_was (by decide +kernel) (c_F_was hC 10 (by decide) M sz (d - 1) (by omega) s13 es13) (by omega) ⟨rfl, rfl⟩ rfl (Nat.le_of_ble_eq_true rfl) (Nat.le_of_ble_eq_true rfl) rfl rfl rfl (Nat.le_of_ble_eq_true rfl) ⟨Nat.le_of_ble_eq_true rfl, Nat.le_of_ble_eq_true rfl⟩ (gs_Zp fun z14 => ?_)
          refine gb_if_eq hqX4_factOf rfl (fun h15 => ?_) (fun h15 => ?_)
          ·
            have hr := g_if1 h15 hr
            refine gb_run 2 (pc2 := 68) (ls2 := [(0, .ref (1))]) (st2 := [.retAddr 11, .ref (1)]) (M2 := M) hC hqX4_factOf rfl ?_
            obtain ⟨s16, es16, hr⟩ := g_bd hr
            refine gz_cV (z := qX10_was) (a := 1) (av := [.retAddr 11]) (rest := []) (pl := 906) hC hqX4_factOf rfl kX10_was sX10_was (by decide +kernel) (c_F_was hC 11 (by decide) M sz (d - 1) (by omega) s16 es16) (by omega) ⟨rfl, rfl⟩ rfl (Nat.le_of_ble_eq_true rfl) (Nat.le_of_ble_eq_true rfl) rfl rfl rfl (Nat.le_of_ble_eq_true rfl) ⟨Nat.le_of_ble_eq_true rfl, Nat.le_of_ble_eq_true rfl⟩ (gs_Zp fun z17 => ?_)
            refine gb_if_eq hqX4_factOf rfl (fun h18 => ?_) (fun h18 => ?_)
            ·
              have hr := g_if1 h18 hr
              refine gb_run 2 (pc2 := 81) (ls2 := [(0, .ref (1))]) (st2 := [.retAddr 1, .ref (1)]) (M2 := M) hC hqX4_factOf rfl ?_
              obtain ⟨s19, es19, hr⟩ := g_bd hr
              refine gz_cV (z := qX10_was) (a := 1) (av := [.retAddr 1]) (rest := []) (pl := 906) hC hqX4_factOf rfl kX10_was sX10_was (by decide +kernel) (c_F_was hC 1 (by decide) M sz (d - 1) (by omega) s19 es19) (by omega) ⟨rfl, rfl⟩ rfl (Nat.le_of_ble_eq_true rfl) (Nat.le_of_ble_eq_true rfl) rfl rfl rfl (Nat.le_of_ble_eq_true rfl) ⟨Nat.le_of_ble_eq_true rfl, Nat.le_of_ble_eq_true rfl⟩ (gs_Zp fun z20 => ?_)
              refine gb_if_eq hqX4_factOf rfl (fun h21 => ?_) (fun h21 => ?_)
              ·
                have hr := g_if1 h21 hr
                refine gb_run 2 (pc2 := 95) (ls2 := [(0, .ref (1))]) (st2 := [.retAddr 3, .ref (1)]) (M2 := M) hC hqX4_factOf rfl ?_
                obtain ⟨s22, es22, hr⟩ := g_bd hr
                refine gz_cV (z := qX10_was) (a := 1) (av := [.retAddr 3]) (rest := []) (pl := 906) hC hqX4_factOf rfl kX10_was sX10_was (by decide +kernel) (c_F_was hC 3 (by decide) M sz (d - 1) (by omega) s22 es22) (by omega) ⟨rfl, rfl⟩ rfl (Nat.le_of_ble_eq_true rfl) (Nat.le_of_ble_eq_true rfl) rfl rfl rfl (Nat.le_of_ble_eq_true rfl) ⟨Nat.le_of_ble_eq_true rfl, Nat.le_of_ble_eq_true rfl⟩ (gs_Zp fun z23 => ?_)
                refine gb_if_eq hqX4_factOf rfl (fun h24 => ?_) (fun h24 => ?_)
                ·
                  have hr := g_if1 h24 hr
                  refine gb_run 2 (pc2 := 109) (ls2 := [(0, .ref (1))]) (st2 := [.retAddr 12, .ref (1)]) (M2 := M) hC hqX4_factOf rfl ?_
                  obtain ⟨s25, es25, hr⟩ := g_bd hr
                  refine gz_cV (z := qX10_was) (a := 1) (av := [.retAddr 12]) (rest := []) (pl := 906) hC hqX4_factOf rfl kX10_was sX10_was (by decide +kernel) (c_F_was hC 12 (by decide) M sz (d - 1) (by omega) s25 es25) (by omega) ⟨rfl, rfl⟩ rfl (Nat.le_of_ble_eq_true rfl) (Nat.le_of_ble_eq_true rfl) rfl rfl rfl (Nat.le_of_ble_eq_true rfl) ⟨Nat.le_of_ble_eq_true rfl, Nat.le_of_ble_eq_true rfl⟩ (gs_Zp fun z26 => ?_)
                  refine gb_if_eq hqX4_factOf rfl (fun h27 => ?_) (fun h27 => ?_)
                  ·
                    have hr := g_if1 h27 hr
                    refine gb_run 1 (pc2 := 121) (ls2 := [(0, .ref (1))]) (st2 := [.int (-1)]) (M2 := M) hC hqX4_factOf rfl ?_
                    refine gb_iret hqX4_factOf rfl rfl (Nat.le_of_ble_eq_true rfl) (Nat.le_of_ble_eq_true rfl) ?_
                    exact gl_Ip hr
                  ·
                    have hr := g_if0 h27 hr
                    refine gb_run 2 (pc2 := 121) (ls2 := [(0, .ref (1))]) (st2 := [.int (8)]) (M2 := M) hC hqX4_factOf rfl ?_
                    refine gb_iret hqX4_factOf rfl rfl (Nat.le_of_ble_eq_true rfl) (Nat.le_of_ble_eq_true rfl) ?_
                    exact gl_Ip hr
                ·
                  have hr := g_if0 h24 hr
                  refine gb_run 2 (pc2 := 121) (ls2 := [(0, .ref (1))]) (st2 := [.int (7)]) (M2 := M) hC hqX4_factOf rfl ?_
                  refine gb_iret hqX4_factOf rfl rfl (Nat.le_of_ble_eq_true rfl) (Nat.le_of_ble_eq_true rfl) ?_
                  exact gl_Ip hr
              ·
                have hr := g_if0 h21 hr
                refine gb_run 2 (pc2 := 121) (ls2 := [(0, .ref (1))]) (st2 := [.int (6)]) (M2 := M) hC hqX4_factOf rfl ?_
                refine gb_iret hqX4_factOf rfl rfl (Nat.le_of_ble_eq_true rfl) (Nat.le_of_ble_eq_true rfl) ?_
                exact gl_Ip hr
            ·
              have hr := g_if0 h18 hr
              refine gb_run 2 (pc2 := 121) (ls2 := [(0, .ref (1))]) (st2 := [.int (5)]) (M2 := M) hC hqX4_factOf rfl ?_
              refine gb_iret hqX4_factOf rfl rfl (Nat.le_of_ble_eq_true rfl) (Nat.le_of_ble_eq_true rfl) ?_
              exact gl_Ip hr
          ·
            have hr := g_if0 h15 hr
            refine gb_run 2 (pc2 := 121) (ls2 := [(0, .ref (1))]) (st2 := [.int (4)]) (M2 := M) hC hqX4_factOf rfl ?_
            refine gb_iret hqX4_factOf rfl rfl (Nat.le_of_ble_eq_true rfl) (Nat.le_of_ble_eq_true rfl) ?_
            exact gl_Ip hr
        ·
          have hr := g_if0 h12 hr
          refine gb_run 2 (pc2 := 121) (ls2 := [(0, .ref (1))]) (st2 := [.int (3)]) (M2 := M) hC hqX4_factOf rfl ?_
          refine gb_iret hqX4_factOf rfl rfl (Nat.le_of_ble_eq_true rfl) (Nat.le_of_ble_eq_true rfl) ?_
          exact gl_Ip hr
      ·
        have hr := g_if0 h9 hr
        refine gb_run 2 (pc2 := 121) (ls2 := [(0, .ref (1))]) (st2 := [.int (2)]) (M2 := M) hC hqX4_factOf rfl ?_
        refine gb_iret hqX4_factOf rfl rfl (Nat.le_of_ble_eq_true rfl) (Nat.le_of_ble_eq_true rfl) ?_
        exact gl_Ip hr
    ·
      have hr := g_if0 h6 hr
      refine gb_run 2 (pc2 := 121) (ls2 := [(0, .ref (1))]) (st2 := [.int (1)]) (M2 := M) hC hqX4_factOf rfl ?_
      refine gb_iret hqX4_factOf rfl rfl (Nat.le_of_ble_eq_true rfl) (Nat.le_of_ble_eq_true rfl) ?_
      exact gl_Ip hr
  ·
    have hr := g_if0 h3 hr
    refine gb_run 2 (pc2 := 121) (ls2 := [(0, .ref (1))]) (st2 := [.int (0)]) (M2 := M) hC hqX4_factOf rfl ?_
    refine gb_iret hqX4_factOf rfl rfl (Nat.le_of_ble_eq_true rfl) (Nat.le_of_ble_eq_true rfl) ?_
    exact gl_Ip hr
def FL_readSum_J43 (op : Int32) (rreadProduct : Int32 → gM → Option (gM)) (c8 : Int32 → gM → Option (gM)) (x3 : Int32) (x4 : Int32) (M : gM) : Option (gM) :=
  (F_need x4 M).bind fun s1 => (rreadProduct op s1).bind fun s2 => (FL_mark x4 (0 : Int32) s2).bind fun s3 => c8 (x3 + (1 : Int32)) s3
set_option maxRecDepth 20000 in
theorem c_FL_readSum_J43 {l : Launch} {C : gC} (hC : g_ctx l C) (op : Int32) (sz d : Nat) (hd : 3 ≤ d) (rreadProduct : Int32 → gM → Option (gM)) (hrreadProduct : ∀ (v2 : Int32) (M : gM) (R : gM), rreadProduct v2 M = some R → gPg l C qX4_readProduct (d - 1) [.ref (19), .ref (1), .int (v2)] 956 g_S0 M sz (qV R)) (R : gM) (c8 : Int32 → gM → Option (gM)) (hc8 : ∀ (x3 : Int32) (M : gM), c8 x3 M = some R → GW l C qX4_readSum d (gQg 956 g_S0 (qV R) sz) gN 0 0 8 [(0, .ref (19)), (1, .ref (1)), (2, .int (op)), (3, .int (x3))] [] (956, g_S0, M, sz)) (x3 : Int32) (x4 : Int32) (M : gM) (hr : FL_readSum_J43 op rreadProduct c8 x3 x4 M = some R) : GW l C qX4_readSum d (gQg 956 g_S0 (qV R) sz) gN 0 0 43 [(0, .ref (19)), (1, .ref (1)), (2, .int (op)), (3, .int (x3)), (4, .int (x4))] [] (956, g_S0, M, sz) := by
  unfold FL_readSum_J43 at hr
  refine gb_run 2 (pc2 := 46) (ls2 := [(0, .ref (19)), (1, .ref (1)), (2, .int (op)), (3, .int (x3)), (4, .int (x4))]) (st2 := [.int (x4), .ref (1)]) (M2 := M) hC hqX4_readSum rfl ?_
  obtain ⟨s1, es1, hr⟩ := g_bd hr
  refine gz_cV (z := qX10_need) (a := 1) (av := [.int (x4)]) (rest := []) (pl := 900) hC hqX4_readSum rfl kX10_need sX10_need (by decide +kernel) (c_F_need hC x4  M sz (d - 1) (by omega) s1 es1) (by omega) ⟨rfl, rfl⟩ rfl (Nat.le_of_ble_eq_true rfl) (Nat.le_of_ble_eq_true rfl) rfl rfl rfl (Nat.le_of_ble_eq_true rfl) ⟨Nat.le_of_ble_eq_true rfl, Nat.le_of_ble_eq_true rfl⟩ (gs_V ?_)
  refine gb_run 3 (pc2 := 52) (ls2 := [(0, .ref (19)), (1, .ref (1)), (2, .int (op)), (3, .int (x3)), (4, .int (x4))]) (st2 := [.int (op), .ref (1), .ref (19)]) (M2 := s1) hC hqX4_readSum rfl ?_
  obtain ⟨s2, es2, hr⟩ := g_bd hr
  refine gz_cV (z := qX4_readProduct) (a := 19) (av := [.ref (1), .int (op)]) (rest := []) (pl := 879) hC hqX4_readSum rfl kX4_readProduct sX4_readProduct (by decide +kernel) (hrreadProduct op s1 s2 es2) (by omega) ⟨rfl, rfl⟩ rfl (Nat.le_of_ble_eq_true rfl) (Nat.le_of_ble_eq_true rfl) rfl rfl rfl (Nat.le_of_ble_eq_true rfl) ⟨Nat.le_of_ble_eq_true rfl, Nat.le_of_ble_eq_true rfl⟩ (gs_V ?_)
  refine gb_run 3 (pc2 := 59) (ls2 := [(0, .ref (19)), (1, .ref (1)), (2, .int (op)), (3, .int (x3)), (4, .int (x4))]) (st2 := [.int (0), .int (x4), .ref (19)]) (M2 := s2) hC hqX4_readSum rfl ?_
  obtain ⟨s3, es3, hr⟩ := g_bd hr
  refine gz_cV (z := qX4_mark) (a := 19) (av := [.int (x4), .int (0)]) (rest := []) (pl := 891) hC hqX4_readSum rfl kX4_mark sX4_mark (by decide +kernel) (c_FL_mark hC x4 (0 : Int32)  s2 sz (d - 1) (by omega) s3 es3) (by omega) ⟨rfl, rfl⟩ rfl (Nat.le_of_ble_eq_true rfl) (Nat.le_of_ble_eq_true rfl) rfl rfl rfl (Nat.le_of_ble_eq_true rfl) ⟨Nat.le_of_ble_eq_true rfl, Nat.le_of_ble_eq_true rfl⟩ (gs_V ?_)
  refine gb_run 2 (pc2 := 8) (ls2 := [(3, .int (x3 + (1 : Int32))), (0, .ref (19)), (1, .ref (1)), (2, .int (op)), (4, .int (x4))]) (st2 := []) (M2 := s3) hC hqX4_readSum rfl ?_
  refine gw_pick [1, 2, 3, 0] (ls2 := [(0, .ref (19)), (1, .ref (1)), (2, .int (op)), (3, .int (x3 + (1 : Int32)))]) rfl ?_
  exact hc8 (x3 + (1 : Int32)) s3 hr
def FL_readSum_L8 (op : Int32) (rreadProduct : Int32 → gM → Option (gM)) : Nat → Int32 → gM → Option (gM)
  | 0, _, _ => none
  | k + 1, x3, M =>
  if (150 : Int32) ≤ x3 then (some M) else (if (F_faulty M) = (0 : Int32) then ((F_next M).bind fun s5 => if s5.1 = (43 : Int32) then (FL_readSum_J43 op rreadProduct (FL_readSum_L8 op rreadProduct k) x3 s5.1 (s5.2)) else (if s5.1 = (45 : Int32) then (FL_readSum_J43 op rreadProduct (FL_readSum_L8 op rreadProduct k) x3 s5.1 (s5.2)) else (some (s5.2)))) else (some M))
set_option maxRecDepth 20000 in
theorem c_FL_readSum_L8 {l : Launch} {C : gC} (hC : g_ctx l C) (op : Int32) (sz d : Nat) (hd : 3 ≤ d) (rreadProduct : Int32 → gM → Option (gM)) (hrreadProduct : ∀ (v2 : Int32) (M : gM) (R : gM), rreadProduct v2 M = some R → gPg l C qX4_readProduct (d - 1) [.ref (19), .ref (1), .int (v2)] 956 g_S0 M sz (qV R)) (R : gM) : ∀ (k : Nat) (x3 : Int32) (M : gM), FL_readSum_L8 op rreadProduct k x3 M = some R → GW l C qX4_readSum d (gQg 956 g_S0 (qV R) sz) gN 0 0 8 [(0, .ref (19)), (1, .ref (1)), (2, .int (op)), (3, .int (x3))] [] (956, g_S0, M, sz) := by
  intro k
  induction k with
  | zero => intro x3 M hr; exact nomatch (show (none : Option (gM)) = some R from hr)
  | succ k ih =>
    intro x3 M hr
    unfold FL_readSum_L8 at hr
    refine gb_run 2 (pc2 := 12) (ls2 := [(0, .ref (19)), (1, .ref (1)), (2, .int (op)), (3, .int (x3))]) (st2 := [.int (150), .int (x3)]) (M2 := M) hC hqX4_readSum rfl ?_
    refine gb_icmp_ge hqX4_readSum rfl (fun h1 => ?_) (fun h1 => ?_)
    ·
      have hr := g_if1 h1 hr
      refine gb_vret hqX4_readSum rfl rfl (Nat.le_of_ble_eq_true rfl) (Nat.le_of_ble_eq_true rfl) ?_
      exact gl_V hr
    ·
      have hr := g_if0 h1 hr
      refine gb_run 1 (pc2 := 16) (ls2 := [(0, .ref (19)), (1, .ref (1)), (2, .int (op)), (3, .int (x3))]) (st2 := [.ref (1)]) (M2 := M) hC hqX4_readSum rfl ?_
      refine gz_cV (z := qX10_faulty) (a := 1) (av := []) (rest := []) (pl := 888) hC hqX4_readSum rfl kX10_faulty sX10_faulty (by decide +kernel) (c_F_faulty hC   M sz (d - 1) (by omega)) (by omega) ⟨rfl, rfl⟩ rfl (Nat.le_of_ble_eq_true rfl) (Nat.le_of_ble_eq_true rfl) rfl rfl rfl (Nat.le_of_ble_eq_true rfl) ⟨Nat.le_of_ble_eq_true rfl, Nat.le_of_ble_eq_true rfl⟩ (gs_Zp fun z3 => ?_)
      refine gb_if_ne hqX4_readSum rfl (fun h4 => ?_) (fun h4 => ?_)
      ·
        have hr := g_if0 h4 hr
        refine gb_vret hqX4_readSum rfl rfl (Nat.le_of_ble_eq_true rfl) (Nat.le_of_ble_eq_true rfl) ?_
        exact gl_V hr
      ·
        have hr := g_if1 h4 hr
        refine gb_run 1 (pc2 := 23) (ls2 := [(0, .ref (19)), (1, .ref (1)), (2, .int (op)), (3, .int (x3))]) (st2 := [.ref (1)]) (M2 := M) hC hqX4_readSum rfl ?_
        obtain ⟨s5, es5, hr⟩ := g_bd hr
        refine gz_cV (z := qX10_next) (a := 1) (av := []) (rest := []) (pl := 887) hC hqX4_readSum rfl kX10_next sX10_next (by decide +kernel) (c_F_next hC   M sz (d - 1) (by omega) s5 es5) (by omega) ⟨rfl, rfl⟩ rfl (Nat.le_of_ble_eq_true rfl) (Nat.le_of_ble_eq_true rfl) rfl rfl rfl (Nat.le_of_ble_eq_true rfl) ⟨Nat.le_of_ble_eq_true rfl, Nat.le_of_ble_eq_true rfl⟩ (gs_I ?_)
        refine gb_run 3 (pc2 := 32) (ls2 := [(4, .int (s5.1)), (0, .ref (19)), (1, .ref (1)), (2, .int (op)), (3, .int (x3))]) (st2 := [.int (43), .int (s5.1)]) (M2 := s5.2) hC hqX4_readSum rfl ?_
        refine gb_icmp_eq hqX4_readSum rfl (fun h6 => ?_) (fun h6 => ?_)
        ·
          have hr := g_if1 h6 hr
          refine gw_pick [1, 2, 3, 4, 0] (ls2 := [(0, .ref (19)), (1, .ref (1)), (2, .int (op)), (3, .int (x3)), (4, .int (s5.1))]) rfl ?_
          exact c_FL_readSum_J43 hC op sz d (by omega) rreadProduct hrreadProduct R (FL_readSum_L8 op rreadProduct k) ih x3 s5.1 (s5.2) hr
        ·
          have hr := g_if0 h6 hr
          refine gb_run 2 (pc2 := 39) (ls2 := [(4, .int (s5.1)), (0, .ref (19)), (1, .ref (1)), (2, .int (op)), (3, .int (x3))]) (st2 := [.int (45), .int (s5.1)]) (M2 := s5.2) hC hqX4_readSum rfl ?_
          refine gb_icmp_eq hqX4_readSum rfl (fun h7 => ?_) (fun h7 => ?_)
          ·
            have hr := g_if1 h7 hr
            refine gw_pick [1, 2, 3, 4, 0] (ls2 := [(0, .ref (19)), (1, .ref (1)), (2, .int (op)), (3, .int (x3)), (4, .int (s5.1))]) rfl ?_
            exact c_FL_readSum_J43 hC op sz d (by omega) rreadProduct hrreadProduct R (FL_readSum_L8 op rreadProduct k) ih x3 s5.1 (s5.2) hr
          ·
            have hr := g_if0 h7 hr
            refine gb_vret hqX4_readSum rfl rfl (Nat.le_of_ble_eq_true rfl) (Nat.le_of_ble_eq_true rfl) ?_
            exact gl_V hr
def FL_readSum_B (rreadProduct : Int32 → gM → Option (gM)) (op : Int32) (M : gM) : Option (gM) :=
  (rreadProduct op M).bind fun s1 => FL_readSum_L8 op rreadProduct 1000 (0 : Int32) s1
set_option maxRecDepth 20000 in
theorem c_FL_readSum_B {l : Launch} {C : gC} (hC : g_ctx l C) (op : Int32)  (M : gM) (sz d : Nat) (hd : 3 ≤ d) (rreadProduct : Int32 → gM → Option (gM)) (hrreadProduct : ∀ (v2 : Int32) (M : gM) (R : gM), rreadProduct v2 M = some R → gPg l C qX4_readProduct (d - 1) [.ref (19), .ref (1), .int (v2)] 956 g_S0 M sz (qV R)) (R : gM) (hr : FL_readSum_B rreadProduct op M = some R) : gPg l C qX4_readSum d [.ref (19), .ref (1), .int (op)] 956 g_S0 M sz (qV R) := by
  refine gPg.of (ls := [(0, .ref (19)), (1, .ref (1)), (2, .int (op))]) (by decide +kernel) (Nat.le_of_ble_eq_true rfl) rfl ?_
  unfold FL_readSum_B at hr
  refine gb_run 3 (pc2 := 3) (ls2 := [(0, .ref (19)), (1, .ref (1)), (2, .int (op))]) (st2 := [.int (op), .ref (1), .ref (19)]) (M2 := M) hC hqX4_readSum rfl ?_
  obtain ⟨s1, es1, hr⟩ := g_bd hr
  refine gz_cV (z := qX4_readProduct) (a := 19) (av := [.ref (1), .int (op)]) (rest := []) (pl := 879) hC hqX4_readSum rfl kX4_readProduct sX4_readProduct (by decide +kernel) (hrreadProduct op M s1 es1) (by omega) ⟨rfl, rfl⟩ rfl (Nat.le_of_ble_eq_true rfl) (Nat.le_of_ble_eq_true rfl) rfl rfl rfl (Nat.le_of_ble_eq_true rfl) ⟨Nat.le_of_ble_eq_true rfl, Nat.le_of_ble_eq_true rfl⟩ (gs_V ?_)
  refine gb_run 2 (pc2 := 8) (ls2 := [(3, .int (0)), (0, .ref (19)), (1, .ref (1)), (2, .int (op))]) (st2 := []) (M2 := s1) hC hqX4_readSum rfl ?_
  refine gw_pick [1, 2, 3, 0] (ls2 := [(0, .ref (19)), (1, .ref (1)), (2, .int (op)), (3, .int (0))]) rfl ?_
  exact c_FL_readSum_L8 hC op sz d (by omega) rreadProduct hrreadProduct R 1000 (0 : Int32) s1 hr
def FL_readProduct_J50 (op : Int32) (rreadUnit : Int32 → gM → Option (gM)) (c8 : Int32 → gM → Option (gM)) (x3 : Int32) (x4 : Int32) (M : gM) : Option (gM) :=
  (F_need x4 M).bind fun s1 => (rreadUnit op s1).bind fun s2 => (FL_mark x4 (0 : Int32) s2).bind fun s3 => c8 (x3 + (1 : Int32)) s3
set_option maxRecDepth 20000 in
theorem c_FL_readProduct_J50 {l : Launch} {C : gC} (hC : g_ctx l C) (op : Int32) (sz d : Nat) (hd : 3 ≤ d) (rreadUnit : Int32 → gM → Option (gM)) (hrreadUnit : ∀ (v2 : Int32) (M : gM) (R : gM), rreadUnit v2 M = some R → gPg l C qX4_readUnit (d - 1) [.ref (19), .ref (1), .int (v2)] 956 g_S0 M sz (qV R)) (R : gM) (c8 : Int32 → gM → Option (gM)) (hc8 : ∀ (x3 : Int32) (M : gM), c8 x3 M = some R → GW l C qX4_readProduct d (gQg 956 g_S0 (qV R) sz) gN 0 0 8 [(0, .ref (19)), (1, .ref (1)), (2, .int (op)), (3, .int (x3))] [] (956, g_S0, M, sz)) (x3 : Int32) (x4 : Int32) (M : gM) (hr : FL_readProduct_J50 op rreadUnit c8 x3 x4 M = some R) : GW l C qX4_readProduct d (gQg 956 g_S0 (qV R) sz) gN 0 0 50 [(0, .ref (19)), (1, .ref (1)), (2, .int (op)), (3, .int (x3)), (4, .int (x4))] [] (956, g_S0, M, sz) := by
  unfold FL_readProduct_J50 at hr
  refine gb_run 2 (pc2 := 53) (ls2 := [(0, .ref (19)), (1, .ref (1)), (2, .int (op)), (3, .int (x3)), (4, .int (x4))]) (st2 := [.int (x4), .ref (1)]) (M2 := M) hC hqX4_readProduct rfl ?_
  obtain ⟨s1, es1, hr⟩ := g_bd hr
  refine gz_cV (z := qX10_need) (a := 1) (av := [.int (x4)]) (rest := []) (pl := 900) hC hqX4_readProduct rfl kX10_need sX10_need (by decide +kernel) (c_F_need hC x4  M sz (d - 1) (by omega) s1 es1) (by omega) ⟨rfl, rfl⟩ rfl (Nat.le_of_ble_eq_true rfl) (Nat.le_of_ble_eq_true rfl) rfl rfl rfl (Nat.le_of_ble_eq_true rfl) ⟨Nat.le_of_ble_eq_true rfl, Nat.le_of_ble_eq_true rfl⟩ (gs_V ?_)
  refine gb_run 3 (pc2 := 59) (ls2 := [(0, .ref (19)), (1, .ref (1)), (2, .int (op)), (3, .int (x3)), (4, .int (x4))]) (st2 := [.int (op), .ref (1), .ref (19)]) (M2 := s1) hC hqX4_readProduct rfl ?_
  obtain ⟨s2, es2, hr⟩ := g_bd hr
  refine gz_cV (z := qX4_readUnit) (a := 19) (av := [.ref (1), .int (op)]) (rest := []) (pl := 883) hC hqX4_readProduct rfl kX4_readUnit sX4_readUnit (by decide +kernel) (hrreadUnit op s1 s2 es2) (by omega) ⟨rfl, rfl⟩ rfl (Nat.le_of_ble_eq_true rfl) (Nat.le_of_ble_eq_true rfl) rfl rfl rfl (Nat.le_of_ble_eq_true rfl) ⟨Nat.le_of_ble_eq_true rfl, Nat.le_of_ble_eq_true rfl⟩ (gs_V ?_)
  refine gb_run 3 (pc2 := 66) (ls2 := [(0, .ref (19)), (1, .ref (1)), (2, .int (op)), (3, .int (x3)), (4, .int (x4))]) (st2 := [.int (0), .int (x4), .ref (19)]) (M2 := s2) hC hqX4_readProduct rfl ?_
  obtain ⟨s3, es3, hr⟩ := g_bd hr
  refine gz_cV (z := qX4_mark) (a := 19) (av := [.int (x4), .int (0)]) (rest := []) (pl := 891) hC hqX4_readProduct rfl kX4_mark sX4_mark (by decide +kernel) (c_FL_mark hC x4 (0 : Int32)  s2 sz (d - 1) (by omega) s3 es3) (by omega) ⟨rfl, rfl⟩ rfl (Nat.le_of_ble_eq_true rfl) (Nat.le_of_ble_eq_true rfl) rfl rfl rfl (Nat.le_of_ble_eq_true rfl) ⟨Nat.le_of_ble_eq_true rfl, Nat.le_of_ble_eq_true rfl⟩ (gs_V ?_)
  refine gb_run 2 (pc2 := 8) (ls2 := [(3, .int (x3 + (1 : Int32))), (0, .ref (19)), (1, .ref (1)), (2, .int (op)), (4, .int (x4))]) (st2 := []) (M2 := s3) hC hqX4_readProduct rfl ?_
  refine gw_pick [1, 2, 3, 0] (ls2 := [(0, .ref (19)), (1, .ref (1)), (2, .int (op)), (3, .int (x3 + (1 : Int32)))]) rfl ?_
  exact hc8 (x3 + (1 : Int32)) s3 hr
def FL_readProduct_L8 (op : Int32) (rreadUnit : Int32 → gM → Option (gM)) : Nat → Int32 → gM → Option (gM)
  | 0, _, _ => none
  | k + 1, x3, M =>
  if (150 : Int32) ≤ x3 then (some M) else (if (F_faulty M) = (0 : Int32) then ((F_next M).bind fun s5 => if s5.1 = (42 : Int32) then (FL_readProduct_J50 op rreadUnit (FL_readProduct_L8 op rreadUnit k) x3 s5.1 (s5.2)) else (if s5.1 = (47 : Int32) then (FL_readProduct_J50 op rreadUnit (FL_readProduct_L8 op rreadUnit k) x3 s5.1 (s5.2)) else (if s5.1 = (37 : Int32) then (FL_readProduct_J50 op rreadUnit (FL_readProduct_L8 op rreadUnit k) x3 s5.1 (s5.2)) else (some (s5.2))))) else (some M))
set_option maxRecDepth 20000 in
theorem c_FL_readProduct_L8 {l : Launch} {C : gC} (hC : g_ctx l C) (op : Int32) (sz d : Nat) (hd : 3 ≤ d) (rreadUnit : Int32 → gM → Option (gM)) (hrreadUnit : ∀ (v2 : Int32) (M : gM) (R : gM), rreadUnit v2 M = some R → gPg l C qX4_readUnit (d - 1) [.ref (19), .ref (1), .int (v2)] 956 g_S0 M sz (qV R)) (R : gM) : ∀ (k : Nat) (x3 : Int32) (M : gM), FL_readProduct_L8 op rreadUnit k x3 M = some R → GW l C qX4_readProduct d (gQg 956 g_S0 (qV R) sz) gN 0 0 8 [(0, .ref (19)), (1, .ref (1)), (2, .int (op)), (3, .int (x3))] [] (956, g_S0, M, sz) := by
  intro k
  induction k with
  | zero => intro x3 M hr; exact nomatch (show (none : Option (gM)) = some R from hr)
  | succ k ih =>
    intro x3 M hr
    unfold FL_readProduct_L8 at hr
    refine gb_run 2 (pc2 := 12) (ls2 := [(0, .ref (19)), (1, .ref (1)), (2, .int (op)), (3, .int (x3))]) (st2 := [.int (150), .int (x3)]) (M2 := M) hC hqX4_readProduct rfl ?_
    refine gb_icmp_ge hqX4_readProduct rfl (fun h1 => ?_) (fun h1 => ?_)
    ·
      have hr := g_if1 h1 hr
      refine gb_vret hqX4_readProduct rfl rfl (Nat.le_of_ble_eq_true rfl) (Nat.le_of_ble_eq_true rfl) ?_
      exact gl_V hr
    ·
      have hr := g_if0 h1 hr
      refine gb_run 1 (pc2 := 16) (ls2 := [(0, .ref (19)), (1, .ref (1)), (2, .int (op)), (3, .int (x3))]) (st2 := [.ref (1)]) (M2 := M) hC hqX4_readProduct rfl ?_
      refine gz_cV (z := qX10_faulty) (a := 1) (av := []) (rest := []) (pl := 888) hC hqX4_readProduct rfl kX10_faulty sX10_faulty (by decide +kernel) (c_F_faulty hC   M sz (d - 1) (by omega)) (by omega) ⟨rfl, rfl⟩ rfl (Nat.le_of_ble_eq_true rfl) (Nat.le_of_ble_eq_true rfl) rfl rfl rfl (Nat.le_of_ble_eq_true rfl) ⟨Nat.le_of_ble_eq_true rfl, Nat.le_of_ble_eq_true rfl⟩ (gs_Zp fun z3 => ?_)
      refine gb_if_ne hqX4_readProduct rfl (fun h4 => ?_) (fun h4 => ?_)
      ·
        have hr := g_if0 h4 hr
        refine gb_vret hqX4_readProduct rfl rfl (Nat.le_of_ble_eq_true rfl) (Nat.le_of_ble_eq_true rfl) ?_
        exact gl_V hr
      ·
        have hr := g_if1 h4 hr
        refine gb_run 1 (pc2 := 23) (ls2 := [(0, .ref (19)), (1, .ref (1)), (2, .int (op)), (3, .int (x3))]) (st2 := [.ref (1)]) (M2 := M) hC hqX4_readProduct rfl ?_
        obtain ⟨s5, es5, hr⟩ := g_bd hr
        refine gz_cV (z := qX10_next) (a := 1) (av := []) (rest := []) (pl := 887) hC hqX4_readProduct rfl kX10_next sX10_next (by decide +kernel) (c_F_next hC   M sz (d - 1) (by omega) s5 es5) (by omega) ⟨rfl, rfl⟩ rfl (Nat.le_of_ble_eq_true rfl) (Nat.le_of_ble_eq_true rfl) rfl rfl rfl (Nat.le_of_ble_eq_true rfl) ⟨Nat.le_of_ble_eq_true rfl, Nat.le_of_ble_eq_true rfl⟩ (gs_I ?_)
        refine gb_run 3 (pc2 := 32) (ls2 := [(4, .int (s5.1)), (0, .ref (19)), (1, .ref (1)), (2, .int (op)), (3, .int (x3))]) (st2 := [.int (42), .int (s5.1)]) (M2 := s5.2) hC hqX4_readProduct rfl ?_
        refine gb_icmp_eq hqX4_readProduct rfl (fun h6 => ?_) (fun h6 => ?_)
        ·
          have hr := g_if1 h6 hr
          refine gw_pick [1, 2, 3, 4, 0] (ls2 := [(0, .ref (19)), (1, .ref (1)), (2, .int (op)), (3, .int (x3)), (4, .int (s5.1))]) rfl ?_
          exact c_FL_readProduct_J50 hC op sz d (by omega) rreadUnit hrreadUnit R (FL_readProduct_L8 op rreadUnit k) ih x3 s5.1 (s5.2) hr
        ·
          have hr := g_if0 h6 hr
          refine gb_run 2 (pc2 := 39) (ls2 := [(4, .int (s5.1)), (0, .ref (19)), (1, .ref (1)), (2, .int (op)), (3, .int (x3))]) (st2 := [.int (47), .int (s5.1)]) (M2 := s5.2) hC hqX4_readProduct rfl ?_
          refine gb_icmp_eq hqX4_readProduct rfl (fun h7 => ?_) (fun h7 => ?_)
          ·
            have hr := g_if1 h7 hr
            refine gw_pick [1, 2, 3, 4, 0] (ls2 := [(0, .ref (19)), (1, .ref (1)), (2, .int (op)), (3, .int (x3)), (4, .int (s5.1))]) rfl ?_
            exact c_FL_readProduct_J50 hC op sz d (by omega) rreadUnit hrreadUnit R (FL_readProduct_L8 op rreadUnit k) ih x3 s5.1 (s5.2) hr
          ·
            have hr := g_if0 h7 hr
            refine gb_run 2 (pc2 := 46) (ls2 := [(4, .int (s5.1)), (0, .ref (19)), (1, .ref (1)), (2, .int (op)), (3, .int (x3))]) (st2 := [.int (37), .int (s5.1)]) (M2 := s5.2) hC hqX4_readProduct rfl ?_
            refine gb_icmp_eq hqX4_readProduct rfl (fun h8 => ?_) (fun h8 => ?_)
            ·
              have hr := g_if1 h8 hr
              refine gw_pick [1, 2, 3, 4, 0] (ls2 := [(0, .ref (19)), (1, .ref (1)), (2, .int (op)), (3, .int (x3)), (4, .int (s5.1))]) rfl ?_
              exact c_FL_readProduct_J50 hC op sz d (by omega) rreadUnit hrreadUnit R (FL_readProduct_L8 op rreadUnit k) ih x3 s5.1 (s5.2) hr
            ·
              have hr := g_if0 h8 hr
              refine gb_vret hqX4_readProduct rfl rfl (Nat.le_of_ble_eq_true rfl) (Nat.le_of_ble_eq_true rfl) ?_
              exact gl_V hr
def FL_readProduct_B (rreadUnit : Int32 → gM → Option (gM)) (op : Int32) (M : gM) : Option (gM) :=
  (rreadUnit op M).bind fun s1 => FL_readProduct_L8 op rreadUnit 1000 (0 : Int32) s1
set_option maxRecDepth 20000 in
theorem c_FL_readProduct_B {l : Launch} {C : gC} (hC : g_ctx l C) (op : Int32)  (M : gM) (sz d : Nat) (hd : 3 ≤ d) (rreadUnit : Int32 → gM → Option (gM)) (hrreadUnit : ∀ (v2 : Int32) (M : gM) (R : gM), rreadUnit v2 M = some R → gPg l C qX4_readUnit (d - 1) [.ref (19), .ref (1), .int (v2)] 956 g_S0 M sz (qV R)) (R : gM) (hr : FL_readProduct_B rreadUnit op M = some R) : gPg l C qX4_readProduct d [.ref (19), .ref (1), .int (op)] 956 g_S0 M sz (qV R) := by
  refine gPg.of (ls := [(0, .ref (19)), (1, .ref (1)), (2, .int (op))]) (by decide +kernel) (Nat.le_of_ble_eq_true rfl) rfl ?_
  unfold FL_readProduct_B at hr
  refine gb_run 3 (pc2 := 3) (ls2 := [(0, .ref (19)), (1, .ref (1)), (2, .int (op))]) (st2 := [.int (op), .ref (1), .ref (19)]) (M2 := M) hC hqX4_readProduct rfl ?_
  obtain ⟨s1, es1, hr⟩ := g_bd hr
  refine gz_cV (z := qX4_readUnit) (a := 19) (av := [.ref (1), .int (op)]) (rest := []) (pl := 883) hC hqX4_readProduct rfl kX4_readUnit sX4_readUnit (by decide +kernel) (hrreadUnit op M s1 es1) (by omega) ⟨rfl, rfl⟩ rfl (Nat.le_of_ble_eq_true rfl) (Nat.le_of_ble_eq_true rfl) rfl rfl rfl (Nat.le_of_ble_eq_true rfl) ⟨Nat.le_of_ble_eq_true rfl, Nat.le_of_ble_eq_true rfl⟩ (gs_V ?_)
  refine gb_run 2 (pc2 := 8) (ls2 := [(3, .int (0)), (0, .ref (19)), (1, .ref (1)), (2, .int (op))]) (st2 := []) (M2 := s1) hC hqX4_readProduct rfl ?_
  refine gw_pick [1, 2, 3, 0] (ls2 := [(0, .ref (19)), (1, .ref (1)), (2, .int (op)), (3, .int (0))]) rfl ?_
  exact c_FL_readProduct_L8 hC op sz d (by omega) rreadUnit hrreadUnit R 1000 (0 : Int32) s1 hr
def FL_readUnit_B (rreadBracket : Int32 → gM → Option (gM)) (rreadPair : Int32 → Int32 → gM → Option (gM)) (op : Int32) (M : gM) : Option (gM) :=
  (F_next M).bind fun s1 => if (F_faulty (s1.2)) = (0 : Int32) then (if (F_isDigit s1.1) = (0 : Int32) then (if s1.1 = (40 : Int32) then ((rreadBracket op (s1.2)).bind fun s22 => some s22) else ((F_word (s1.2)).bind fun s9 => (FL_factOf s9).bind fun s10 => if s10 = (-1 : Int32) then ((F_was 13 s9).bind fun s12 => if s12 = (0 : Int32) then ((F_was 14 s9).bind fun s15 => if s15 = (0 : Int32) then ((F_fail (1 : Int32) (s9 1 4) s9).bind fun s18 => some s18) else ((rreadPair op (109 : Int32) s9).bind fun s19 => some s19)) else ((rreadPair op (108 : Int32) s9).bind fun s20 => some s20)) else ((FL_mark (102 : Int32) s10 s9).bind fun s21 => some s21))) else ((F_number (0 : Int32) (999 : Int32) (s1.2)).bind fun s23 => (FL_mark (110 : Int32) s23.1 (s23.2)).bind fun s24 => some s24)) else (some (s1.2))
set_option maxRecDepth 20000 in
theorem c_FL_readUnit_B {l : Launch} {C : gC} (hC : g_ctx l C) (op : Int32)  (M : gM) (sz d : Nat) (hd : 7 ≤ d) (rreadBracket : Int32 → gM → Option (gM)) (hrreadBracket : ∀ (v2 : Int32) (M : gM) (R : gM), rreadBracket v2 M = some R → gPg l C qX4_readBracket (d - 1) [.ref (19), .ref (1), .int (v2)] 956 g_S0 M sz (qV R)) (rreadPair : Int32 → Int32 → gM → Option (gM)) (hrreadPair : ∀ (v2 : Int32) (v3 : Int32) (M : gM) (R : gM), rreadPair v2 v3 M = some R → gPg l C qX4_readPair (d - 1) [.ref (19), .ref (1), .int (v2), .int (v3)] 956 g_S0 M sz (qV R)) (R : gM) (hr : FL_readUnit_B rreadBracket rreadPair op M = some R) : gPg l C qX4_readUnit d [.ref (19), .ref (1), .int (op)] 956 g_S0 M sz (qV R) := by
  refine gPg.of (ls := [(0, .ref (19)), (1, .ref (1)), (2, .int (op))]) (by decide +kernel) (Nat.le_of_ble_eq_true rfl) rfl ?_
  unfold FL_readUnit_B at hr
  refine gb_run 1 (pc2 := 1) (ls2 := [(0, .ref (19)), (1, .ref (1)), (2, .int (op))]) (st2 := [.ref (1)]) (M2 := M) hC hqX4_readUnit rfl ?_
  obtain ⟨s1, es1, hr⟩ := g_bd hr
  refine gz_cV (z := qX10_next) (a := 1) (av := []) (rest := []) (pl := 887) hC hqX4_readUnit rfl kX10_next sX10_next (by decide +kernel) (c_F_next hC   M sz (d - 1) (by omega) s1 es1) (by omega) ⟨rfl, rfl⟩ rfl (Nat.le_of_ble_eq_true rfl) (Nat.le_of_ble_eq_true rfl) rfl rfl rfl (Nat.le_of_ble_eq_true rfl) ⟨Nat.le_of_ble_eq_true rfl, Nat.le_of_ble_eq_true rfl⟩ (gs_I ?_)
  refine gb_run 2 (pc2 := 6) (ls2 := [(3, .int (s1.1)), (0, .ref (19)), (1, .ref (1)), (2, .int (op))]) (st2 := [.ref (1)]) (M2 := s1.2) hC hqX4_readUnit rfl ?_
  refine gz_cV (z := qX10_faulty) (a := 1) (av := []) (rest := []) (pl := 888) hC hqX4_readUnit rfl kX10_faulty sX10_faulty (by decide +kernel) (c_F_faulty hC   (s1.2) sz (d - 1) (by omega)) (by omega) ⟨rfl, rfl⟩ rfl (Nat.le_of_ble_eq_true rfl) (Nat.le_of_ble_eq_true rfl) rfl rfl rfl (Nat.le_of_ble_eq_true rfl) ⟨Nat.le_of_ble_eq_true rfl, Nat.le_of_ble_eq_true rfl⟩ (gs_Zp fun z3 => ?_)
  refine gb_if_eq hqX4_readUnit rfl (fun h4 => ?_) (fun h4 => ?_)
  ·
    have hr := g_if1 h4 hr
    refine gb_run 1 (pc2 := 14) (ls2 := [(3, .int (s1.1)), (0, .ref (19)), (1, .ref (1)), (2, .int (op))]) (st2 := [.int (s1.1)]) (M2 := s1.2) hC hqX4_readUnit rfl ?_
    refine gz_cS (z := qX10_isDigit) (av := [.int (s1.1)]) (rest := []) (pl := 889) hC hqX4_readUnit rfl kX10_isDigit (by decide +kernel) (c_F_isDigit hC s1.1  (s1.2) sz (d - 1) (by omega)) (by omega) ⟨rfl, rfl⟩ rfl rfl (Nat.le_of_ble_eq_true rfl) ⟨Nat.le_of_ble_eq_true rfl, Nat.le_of_ble_eq_true rfl⟩ (gs_Zp fun z6 => ?_)
    refine gb_if_eq hqX4_readUnit rfl (fun h7 => ?_) (fun h7 => ?_)
    ·
      have hr := g_if1 h7 hr
      refine gb_run 2 (pc2 := 40) (ls2 := [(3, .int (s1.1)), (0, .ref (19)), (1, .ref (1)), (2, .int (op))]) (st2 := [.int (40), .int (s1.1)]) (M2 := s1.2) hC hqX4_readUnit rfl ?_
      refine gb_icmp_ne hqX4_readUnit rfl (fun h8 => ?_) (fun h8 => ?_)
      ·
        have hr := g_if0 h8 hr
        refine gb_run 1 (pc2 := 53) (ls2 := [(3, .int (s1.1)), (0, .ref (19)), (1, .ref (1)), (2, .int (op))]) (st2 := [.ref (1)]) (M2 := s1.2) hC hqX4_readUnit rfl ?_
        obtain ⟨s9, es9, hr⟩ := g_bd hr
        refine gz_cV (z := qX10_word) (a := 1) (av := []) (rest := []) (pl := 901) hC hqX4_readUnit rfl kX10_word sX10_word (by decide +kernel) (c_F_word hC   (s1.2) sz (d - 1) (by omega) s9 es9) (by omega) ⟨rfl, rfl⟩ rfl (Nat.le_of_ble_eq_true rfl) (Nat.le_of_ble_eq_true rfl) rfl rfl rfl (Nat.le_of_ble_eq_true rfl) ⟨Nat.le_of_ble_eq_true rfl, Nat.le_of_ble_eq_true rfl⟩ (gs_V ?_)
        refine gb_run 1 (pc2 := 57) (ls2 := [(3, .int (s1.1)), (0, .ref (19)), (1, .ref (1)), (2, .int (op))]) (st2 := [.ref (1)]) (M2 := s9) hC hqX4_readUnit rfl ?_
        obtain ⟨s10, es10, hr⟩ := g_bd hr
        refine gz_cS (z := qX4_factOf) (av := [.ref (1)]) (rest := []) (pl := 902) hC hqX4_readUnit rfl kX4_factOf (by decide +kernel) (c_FL_factOf hC   s9 sz (d - 1) (by omega) s10 es10) (by omega) ⟨rfl, rfl⟩ rfl rfl (Nat.le_of_ble_eq_true rfl) ⟨Nat.le_of_ble_eq_true rfl, Nat.le_of_ble_eq_true rfl⟩ (gs_Ip ?_)
        refine gb_run 3 (pc2 := 65) (ls2 := [(4, .int (s10)), (3, .int (s1.1)), (0, .ref (19)), (1, .ref (1)), (2, .int (op))]) (st2 := [.int (-1), .int (s10)]) (M2 := s9) hC hqX4_readUnit rfl ?_
        refine gb_icmp_eq hqX4_readUnit rfl (fun h11 => ?_) (fun h11 => ?_)
        ·
          have hr := g_if1 h11 hr
          refine gb_run 2 (pc2 := 82) (ls2 := [(4, .int (s10)), (3, .int (s1.1)), (0, .ref (19)), (1, .ref (1)), (2, .int (op))]) (st2 := [.retAddr 13, .ref (1)]) (M2 := s9) hC hqX4_readUnit rfl ?_
          obtain ⟨s12, es12, hr⟩ := g_bd hr
          refine gz_cV (z := qX10_was) (a := 1) (av := [.retAddr 13]) (rest := []) (pl := 906) hC hqX4_readUnit rfl kX10_was sX10_was (by decide +kernel) (c_F_was hC 13 (by decide) s9 sz (d - 1) (by omega) s12 es12) (by omega) ⟨rfl, rfl⟩ rfl (Nat.le_of_ble_eq_true rfl) (Nat.le_of_ble_eq_true rfl) rfl rfl rfl (Nat.le_of_ble_eq_true rfl) ⟨Nat.le_of_ble_eq_true rfl, Nat.le_of_ble_eq_true rfl⟩ (gs_Zp fun z13 => ?_)
          refine gb_if_eq hqX4_readUnit rfl (fun h14 => ?_) (fun h14 => ?_)
          ·
            have hr := g_if1 h14 hr
            refine gb_run 2 (pc2 := 102) (ls2 := [(4, .int (s10)), (3, .int (s1.1)), (0, .ref (19)), (1, .ref (1)), (2, .int (op))]) (st2 := [.retAddr 14, .ref (1)]) (M2 := s9) hC hqX4_readUnit rfl ?_
            obtain ⟨s15, es15, hr⟩ := g_bd hr
            refine gz_cV (z := qX10_was) (a := 1) (av := [.retAddr 14]) (rest := []) (pl := 906) hC hqX4_readUnit rfl kX10_was sX10_was (by decide +kernel) (c_F_was hC 14 (by decide) s9 sz (d - 1) (by omega) s15 es15) (by omega) ⟨rfl, rfl⟩ rfl (Nat.le_of_ble_eq_true rfl) (Nat.le_of_ble_eq_true rfl) rfl rfl rfl (Nat.le_of_ble_eq_true rfl) ⟨Nat.le_of_ble_eq_true rfl, Nat.le_of_ble_eq_true rfl⟩ (gs_Zp fun z16 => ?_)
            refine gb_if_eq hqX4_readUnit rfl (fun h17 => ?_) (fun h17 => ?_)
            ·
              have hr := g_if1 h17 hr
              refine gb_run 4 (pc2 := 125) (ls2 := [(4, .int (s10)), (3, .int (s1.1)), (0, .ref (19)), (1, .ref (1)), (2, .int (op))]) (st2 := [.int (s9 1 4), .int (1), .ref (1)]) (M2 := s9) hC hqX4_readUnit rfl ?_
              obtain ⟨s18, es18, hr⟩ := g_bd hr
              refine gz_cV (z := qX10_fail) (a := 1) (av := [.int (1), .int (s9 1 4)]) (rest := []) (pl := 899) hC hqX4_readUnit rfl kX10_fail sX10_fail (by decide +kernel) (c_F_fail hC (1 : Int32) (s9 1 4)  s9 sz (d - 1) (by omega) s18 es18) (by omega) ⟨rfl, rfl⟩ rfl (Nat.le_of_ble_eq_true rfl) (Nat.le_of_ble_eq_true rfl) rfl rfl rfl (Nat.le_of_ble_eq_true rfl) ⟨Nat.le_of_ble_eq_true rfl, Nat.le_of_ble_eq_true rfl⟩ (gs_V ?_)
              refine gb_vret hqX4_readUnit rfl rfl (Nat.le_of_ble_eq_true rfl) (Nat.le_of_ble_eq_true rfl) ?_
              exact gl_V hr
            ·
              have hr := g_if0 h17 hr
              refine gb_run 4 (pc2 := 113) (ls2 := [(4, .int (s10)), (3, .int (s1.1)), (0, .ref (19)), (1, .ref (1)), (2, .int (op))]) (st2 := [.int (109), .int (op), .ref (1), .ref (19)]) (M2 := s9) hC hqX4_readUnit rfl ?_
              obtain ⟨s19, es19, hr⟩ := g_bd hr
              refine gz_cV (z := qX4_readPair) (a := 19) (av := [.ref (1), .int (op), .int (109)]) (rest := []) (pl := 916) hC hqX4_readUnit rfl kX4_readPair sX4_readPair (by decide +kernel) (hrreadPair op (109 : Int32) s9 s19 es19) (by omega) ⟨rfl, rfl⟩ rfl (Nat.le_of_ble_eq_true rfl) (Nat.le_of_ble_eq_true rfl) rfl rfl rfl (Nat.le_of_ble_eq_true rfl) ⟨Nat.le_of_ble_eq_true rfl, Nat.le_of_ble_eq_true rfl⟩ (gs_V ?_)
              refine gb_run 1 (pc2 := 128) (ls2 := [(4, .int (s10)), (3, .int (s1.1)), (0, .ref (19)), (1, .ref (1)), (2, .int (op))]) (st2 := []) (M2 := s19) hC hqX4_readUnit rfl ?_
              refine gb_vret hqX4_readUnit rfl rfl (Nat.le_of_ble_eq_true rfl) (Nat.le_of_ble_eq_true rfl) ?_
              exact gl_V hr
          ·
            have hr := g_if0 h14 hr
            refine gb_run 4 (pc2 := 93) (ls2 := [(4, .int (s10)), (3, .int (s1.1)), (0, .ref (19)), (1, .ref (1)), (2, .int (op))]) (st2 := [.int (108), .int (op), .ref (1), .ref (19)]) (M2 := s9) hC hqX4_readUnit rfl ?_
            obtain ⟨s20, es20, hr⟩ := g_bd hr
            refine gz_cV (z := qX4_readPair) (a := 19) (av := [.ref (1), .int (op), .int (108)]) (rest := []) (pl := 916) hC hqX4_readUnit rfl kX4_readPair sX4_readPair (by decide +kernel) (hrreadPair op (108 : Int32) s9 s20 es20) (by omega) ⟨rfl, rfl⟩ rfl (Nat.le_of_ble_eq_true rfl) (Nat.le_of_ble_eq_true rfl) rfl rfl rfl (Nat.le_of_ble_eq_true rfl) ⟨Nat.le_of_ble_eq_true rfl, Nat.le_of_ble_eq_true rfl⟩ (gs_V ?_)
            refine gb_run 1 (pc2 := 128) (ls2 := [(4, .int (s10)), (3, .int (s1.1)), (0, .ref (19)), (1, .ref (1)), (2, .int (op))]) (st2 := []) (M2 := s20) hC hqX4_readUnit rfl ?_
            refine gb_vret hqX4_readUnit rfl rfl (Nat.le_of_ble_eq_true rfl) (Nat.le_of_ble_eq_true rfl) ?_
            exact gl_V hr
        ·
          have hr := g_if0 h11 hr
          refine gb_run 3 (pc2 := 73) (ls2 := [(4, .int (s10)), (3, .int (s1.1)), (0, .ref (19)), (1, .ref (1)), (2, .int (op))]) (st2 := [.int (s10), .int (102), .ref (19)]) (M2 := s9) hC hqX4_readUnit rfl ?_
          obtain ⟨s21, es21, hr⟩ := g_bd hr
          refine gz_cV (z := qX4_mark) (a := 19) (av := [.int (102), .int (s10)]) (rest := []) (pl := 891) hC hqX4_readUnit rfl kX4_mark sX4_mark (by decide +kernel) (c_FL_mark hC (102 : Int32) s10  s9 sz (d - 1) (by omega) s21 es21) (by omega) ⟨rfl, rfl⟩ rfl (Nat.le_of_ble_eq_true rfl) (Nat.le_of_ble_eq_true rfl) rfl rfl rfl (Nat.le_of_ble_eq_true rfl) ⟨Nat.le_of_ble_eq_true rfl, Nat.le_of_ble_eq_true rfl⟩ (gs_V ?_)
          refine gb_run 1 (pc2 := 128) (ls2 := [(4, .int (s10)), (3, .int (s1.1)), (0, .ref (19)), (1, .ref (1)), (2, .int (op))]) (st2 := []) (M2 := s21) hC hqX4_readUnit rfl ?_
          refine gb_vret hqX4_readUnit rfl rfl (Nat.le_of_ble_eq_true rfl) (Nat.le_of_ble_eq_true rfl) ?_
          exact gl_V hr
      ·
        have hr := g_if1 h8 hr
        refine gb_run 3 (pc2 := 46) (ls2 := [(3, .int (s1.1)), (0, .ref (19)), (1, .ref (1)), (2, .int (op))]) (st2 := [.int (op), .ref (1), .ref (19)]) (M2 := s1.2) hC hqX4_readUnit rfl ?_
        obtain ⟨s22, es22, hr⟩ := g_bd hr
        refine gz_cV (z := qX4_readBracket) (a := 19) (av := [.ref (1), .int (op)]) (rest := []) (pl := 895) hC hqX4_readUnit rfl kX4_readBracket sX4_readBracket (by decide +kernel) (hrreadBracket op (s1.2) s22 es22) (by omega) ⟨rfl, rfl⟩ rfl (Nat.le_of_ble_eq_true rfl) (Nat.le_of_ble_eq_true rfl) rfl rfl rfl (Nat.le_of_ble_eq_true rfl) ⟨Nat.le_of_ble_eq_true rfl, Nat.le_of_ble_eq_true rfl⟩ (gs_V ?_)
        refine gb_run 1 (pc2 := 128) (ls2 := [(3, .int (s1.1)), (0, .ref (19)), (1, .ref (1)), (2, .int (op))]) (st2 := []) (M2 := s22) hC hqX4_readUnit rfl ?_
        refine gb_vret hqX4_readUnit rfl rfl (Nat.le_of_ble_eq_true rfl) (Nat.le_of_ble_eq_true rfl) ?_
        exact gl_V hr
    ·
      have hr := g_if0 h7 hr
      refine gb_run 5 (pc2 := 28) (ls2 := [(3, .int (s1.1)), (0, .ref (19)), (1, .ref (1)), (2, .int (op))]) (st2 := [.int (999), .int (0), .ref (1), .int (110), .ref (19)]) (M2 := s1.2) hC hqX4_readUnit rfl ?_
      obtain ⟨s23, es23, hr⟩ := g_bd hr
      refine gz_cV (z := qX10_number) (a := 1) (av := [.int (0), .int (999)]) (rest := [.int (110), .ref (19)]) (pl := 890) hC hqX4_readUnit rfl kX10_number sX10_number (by decide +kernel) (c_F_number hC (0 : Int32) (999 : Int32)  (s1.2) sz (d - 1) (by omega) s23 es23) (by omega) ⟨rfl, rfl⟩ rfl (Nat.le_of_ble_eq_true rfl) (Nat.le_of_ble_eq_true rfl) rfl rfl rfl (Nat.le_of_ble_eq_true rfl) ⟨Nat.le_of_ble_eq_true rfl, Nat.le_of_ble_eq_true rfl⟩ (gs_I ?_)
      obtain ⟨s24, es24, hr⟩ := g_bd hr
      refine gz_cV (z := qX4_mark) (a := 19) (av := [.int (110), .int (s23.1)]) (rest := []) (pl := 891) hC hqX4_readUnit rfl kX4_mark sX4_mark (by decide +kernel) (c_FL_mark hC (110 : Int32) s23.1  (s23.2) sz (d - 1) (by omega) s24 es24) (by omega) ⟨rfl, rfl⟩ rfl (Nat.le_of_ble_eq_true rfl) (Nat.le_of_ble_eq_true rfl) rfl rfl rfl (Nat.le_of_ble_eq_true rfl) ⟨Nat.le_of_ble_eq_true rfl, Nat.le_of_ble_eq_true rfl⟩ (gs_V ?_)
      refine gb_run 1 (pc2 := 128) (ls2 := [(3, .int (s1.1)), (0, .ref (19)), (1, .ref (1)), (2, .int (op))]) (st2 := []) (M2 := s24) hC hqX4_readUnit rfl ?_
      refine gb_vret hqX4_readUnit rfl rfl (Nat.le_of_ble_eq_true rfl) (Nat.le_of_ble_eq_true rfl) ?_
      exact gl_V hr
  ·
    have hr := g_if0 h4 hr
    refine gb_vret hqX4_readUnit rfl rfl (Nat.le_of_ble_eq_true rfl) (Nat.le_of_ble_eq_true rfl) ?_
    exact gl_V hr
def FL_readBracket_B (rreadSum : Int32 → gM → Option (gM)) (op : Int32) (M : gM) : Option (gM) :=
  if op < (6 : Int32) then ((F_need (40 : Int32) M).bind fun s2 => (rreadSum (op + (1 : Int32)) s2).bind fun s3 => (F_need (41 : Int32) s3).bind fun s4 => some s4) else ((F_fail (3 : Int32) (M 1 3) M).bind fun s5 => some s5)
set_option maxRecDepth 20000 in
theorem c_FL_readBracket_B {l : Launch} {C : gC} (hC : g_ctx l C) (op : Int32)  (M : gM) (sz d : Nat) (hd : 3 ≤ d) (rreadSum : Int32 → gM → Option (gM)) (hrreadSum : ∀ (v2 : Int32) (M : gM) (R : gM), rreadSum v2 M = some R → gPg l C qX4_readSum (d - 1) [.ref (19), .ref (1), .int (v2)] 956 g_S0 M sz (qV R)) (R : gM) (hr : FL_readBracket_B rreadSum op M = some R) : gPg l C qX4_readBracket d [.ref (19), .ref (1), .int (op)] 956 g_S0 M sz (qV R) := by
  refine gPg.of (ls := [(0, .ref (19)), (1, .ref (1)), (2, .int (op))]) (by decide +kernel) (Nat.le_of_ble_eq_true rfl) rfl ?_
  unfold FL_readBracket_B at hr
  refine gb_run 2 (pc2 := 3) (ls2 := [(0, .ref (19)), (1, .ref (1)), (2, .int (op))]) (st2 := [.int (6), .int (op)]) (M2 := M) hC hqX4_readBracket rfl ?_
  refine gb_icmp_lt hqX4_readBracket rfl (fun h1 => ?_) (fun h1 => ?_)
  ·
    have hr := g_if1 h1 hr
    refine gb_run 2 (pc2 := 19) (ls2 := [(0, .ref (19)), (1, .ref (1)), (2, .int (op))]) (st2 := [.int (40), .ref (1)]) (M2 := M) hC hqX4_readBracket rfl ?_
    obtain ⟨s2, es2, hr⟩ := g_bd hr
    refine gz_cV (z := qX10_need) (a := 1) (av := [.int (40)]) (rest := []) (pl := 900) hC hqX4_readBracket rfl kX10_need sX10_need (by decide +kernel) (c_F_need hC (40 : Int32)  M sz (d - 1) (by omega) s2 es2) (by omega) ⟨rfl, rfl⟩ rfl (Nat.le_of_ble_eq_true rfl) (Nat.le_of_ble_eq_true rfl) rfl rfl rfl (Nat.le_of_ble_eq_true rfl) ⟨Nat.le_of_ble_eq_true rfl, Nat.le_of_ble_eq_true rfl⟩ (gs_V ?_)
    refine gb_run 5 (pc2 := 27) (ls2 := [(0, .ref (19)), (1, .ref (1)), (2, .int (op))]) (st2 := [.int (op + (1 : Int32)), .ref (1), .ref (19)]) (M2 := s2) hC hqX4_readBracket rfl ?_
    obtain ⟨s3, es3, hr⟩ := g_bd hr
    refine gz_cV (z := qX4_readSum) (a := 19) (av := [.ref (1), .int (op + (1 : Int32))]) (rest := []) (pl := 875) hC hqX4_readBracket rfl kX4_readSum sX4_readSum (by decide +kernel) (hrreadSum (op + (1 : Int32)) s2 s3 es3) (by omega) ⟨rfl, rfl⟩ rfl (Nat.le_of_ble_eq_true rfl) (Nat.le_of_ble_eq_true rfl) rfl rfl rfl (Nat.le_of_ble_eq_true rfl) ⟨Nat.le_of_ble_eq_true rfl, Nat.le_of_ble_eq_true rfl⟩ (gs_V ?_)
    refine gb_run 2 (pc2 := 33) (ls2 := [(0, .ref (19)), (1, .ref (1)), (2, .int (op))]) (st2 := [.int (41), .ref (1)]) (M2 := s3) hC hqX4_readBracket rfl ?_
    obtain ⟨s4, es4, hr⟩ := g_bd hr
    refine gz_cV (z := qX10_need) (a := 1) (av := [.int (41)]) (rest := []) (pl := 900) hC hqX4_readBracket rfl kX10_need sX10_need (by decide +kernel) (c_F_need hC (41 : Int32)  s3 sz (d - 1) (by omega) s4 es4) (by omega) ⟨rfl, rfl⟩ rfl (Nat.le_of_ble_eq_true rfl) (Nat.le_of_ble_eq_true rfl) rfl rfl rfl (Nat.le_of_ble_eq_true rfl) ⟨Nat.le_of_ble_eq_true rfl, Nat.le_of_ble_eq_true rfl⟩ (gs_V ?_)
    refine gb_vret hqX4_readBracket rfl rfl (Nat.le_of_ble_eq_true rfl) (Nat.le_of_ble_eq_true rfl) ?_
    exact gl_V hr
  ·
    have hr := g_if0 h1 hr
    refine gb_run 4 (pc2 := 12) (ls2 := [(0, .ref (19)), (1, .ref (1)), (2, .int (op))]) (st2 := [.int (M 1 3), .int (3), .ref (1)]) (M2 := M) hC hqX4_readBracket rfl ?_
    obtain ⟨s5, es5, hr⟩ := g_bd hr
    refine gz_cV (z := qX10_fail) (a := 1) (av := [.int (3), .int (M 1 3)]) (rest := []) (pl := 899) hC hqX4_readBracket rfl kX10_fail sX10_fail (by decide +kernel) (c_F_fail hC (3 : Int32) (M 1 3)  M sz (d - 1) (by omega) s5 es5) (by omega) ⟨rfl, rfl⟩ rfl (Nat.le_of_ble_eq_true rfl) (Nat.le_of_ble_eq_true rfl) rfl rfl rfl (Nat.le_of_ble_eq_true rfl) ⟨Nat.le_of_ble_eq_true rfl, Nat.le_of_ble_eq_true rfl⟩ (gs_V ?_)
    refine gb_vret hqX4_readBracket rfl rfl (Nat.le_of_ble_eq_true rfl) (Nat.le_of_ble_eq_true rfl) ?_
    exact gl_V hr
def FL_readPair_B (rreadSum : Int32 → gM → Option (gM)) (op : Int32) (kind : Int32) (M : gM) : Option (gM) :=
  if op < (6 : Int32) then ((F_need (91 : Int32) M).bind fun s2 => (rreadSum (op + (1 : Int32)) s2).bind fun s3 => (F_need (44 : Int32) s3).bind fun s4 => (rreadSum (op + (1 : Int32)) s4).bind fun s5 => (F_need (93 : Int32) s5).bind fun s6 => (FL_mark kind (0 : Int32) s6).bind fun s7 => some s7) else ((F_fail (3 : Int32) (M 1 4) M).bind fun s8 => some s8)
set_option maxRecDepth 20000 in
theorem c_FL_readPair_B {l : Launch} {C : gC} (hC : g_ctx l C) (op : Int32) (kind : Int32)  (M : gM) (sz d : Nat) (hd : 3 ≤ d) (rreadSum : Int32 → gM → Option (gM)) (hrreadSum : ∀ (v2 : Int32) (M : gM) (R : gM), rreadSum v2 M = some R → gPg l C qX4_readSum (d - 1) [.ref (19), .ref (1), .int (v2)] 956 g_S0 M sz (qV R)) (R : gM) (hr : FL_readPair_B rreadSum op kind M = some R) : gPg l C qX4_readPair d [.ref (19), .ref (1), .int (op), .int (kind)] 956 g_S0 M sz (qV R) := by
  refine gPg.of (ls := [(0, .ref (19)), (1, .ref (1)), (2, .int (op)), (3, .int (kind))]) (by decide +kernel) (Nat.le_of_ble_eq_true rfl) rfl ?_
  unfold FL_readPair_B at hr
  refine gb_run 2 (pc2 := 3) (ls2 := [(0, .ref (19)), (1, .ref (1)), (2, .int (op)), (3, .int (kind))]) (st2 := [.int (6), .int (op)]) (M2 := M) hC hqX4_readPair rfl ?_
  refine gb_icmp_lt hqX4_readPair rfl (fun h1 => ?_) (fun h1 => ?_)
  ·
    have hr := g_if1 h1 hr
    refine gb_run 2 (pc2 := 19) (ls2 := [(0, .ref (19)), (1, .ref (1)), (2, .int (op)), (3, .int (kind))]) (st2 := [.int (91), .ref (1)]) (M2 := M) hC hqX4_readPair rfl ?_
    obtain ⟨s2, es2, hr⟩ := g_bd hr
    refine gz_cV (z := qX10_need) (a := 1) (av := [.int (91)]) (rest := []) (pl := 900) hC hqX4_readPair rfl kX10_need sX10_need (by decide +kernel) (c_F_need hC (91 : Int32)  M sz (d - 1) (by omega) s2 es2) (by omega) ⟨rfl, rfl⟩ rfl (Nat.le_of_ble_eq_true rfl) (Nat.le_of_ble_eq_true rfl) rfl rfl rfl (Nat.le_of_ble_eq_true rfl) ⟨Nat.le_of_ble_eq_true rfl, Nat.le_of_ble_eq_true rfl⟩ (gs_V ?_)
    refine gb_run 5 (pc2 := 27) (ls2 := [(0, .ref (19)), (1, .ref (1)), (2, .int (op)), (3, .int (kind))]) (st2 := [.int (op + (1 : Int32)), .ref (1), .ref (19)]) (M2 := s2) hC hqX4_readPair rfl ?_
    obtain ⟨s3, es3, hr⟩ := g_bd hr
    refine gz_cV (z := qX4_readSum) (a := 19) (av := [.ref (1), .int (op + (1 : Int32))]) (rest := []) (pl := 875) hC hqX4_readPair rfl kX4_readSum sX4_readSum (by decide +kernel) (hrreadSum (op + (1 : Int32)) s2 s3 es3) (by omega) ⟨rfl, rfl⟩ rfl (Nat.le_of_ble_eq_true rfl) (Nat.le_of_ble_eq_true rfl) rfl rfl rfl (Nat.le_of_ble_eq_true rfl) ⟨Nat.le_of_ble_eq_true rfl, Nat.le_of_ble_eq_true rfl⟩ (gs_V ?_)
    refine gb_run 2 (pc2 := 33) (ls2 := [(0, .ref (19)), (1, .ref (1)), (2, .int (op)), (3, .int (kind))]) (st2 := [.int (44), .ref (1)]) (M2 := s3) hC hqX4_readPair rfl ?_
    obtain ⟨s4, es4, hr⟩ := g_bd hr
    refine gz_cV (z := qX10_need) (a := 1) (av := [.int (44)]) (rest := []) (pl := 900) hC hqX4_readPair rfl kX10_need sX10_need (by decide +kernel) (c_F_need hC (44 : Int32)  s3 sz (d - 1) (by omega) s4 es4) (by omega) ⟨rfl, rfl⟩ rfl (Nat.le_of_ble_eq_true rfl) (Nat.le_of_ble_eq_true rfl) rfl rfl rfl (Nat.le_of_ble_eq_true rfl) ⟨Nat.le_of_ble_eq_true rfl, Nat.le_of_ble_eq_true rfl⟩ (gs_V ?_)
    refine gb_run 5 (pc2 := 41) (ls2 := [(0, .ref (19)), (1, .ref (1)), (2, .int (op)), (3, .int (kind))]) (st2 := [.int (op + (1 : Int32)), .ref (1), .ref (19)]) (M2 := s4) hC hqX4_readPair rfl ?_
    obtain ⟨s5, es5, hr⟩ := g_bd hr
    refine gz_cV (z := qX4_readSum) (a := 19) (av := [.ref (1), .int (op + (1 : Int32))]) (rest := []) (pl := 875) hC hqX4_readPair rfl kX4_readSum sX4_readSum (by decide +kernel) (hrreadSum (op + (1 : Int32)) s4 s5 es5) (by omega) ⟨rfl, rfl⟩ rfl (Nat.le_of_ble_eq_true rfl) (Nat.le_of_ble_eq_true rfl) rfl rfl rfl (Nat.le_of_ble_eq_true rfl) ⟨Nat.le_of_ble_eq_true rfl, Nat.le_of_ble_eq_true rfl⟩ (gs_V ?_)
    refine gb_run 2 (pc2 := 47) (ls2 := [(0, .ref (19)), (1, .ref (1)), (2, .int (op)), (3, .int (kind))]) (st2 := [.int (93), .ref (1)]) (M2 := s5) hC hqX4_readPair rfl ?_
    obtain ⟨s6, es6, hr⟩ := g_bd hr
    refine gz_cV (z := qX10_need) (a := 1) (av := [.int (93)]) (rest := []) (pl := 900) hC hqX4_readPair rfl kX10_need sX10_need (by decide +kernel) (c_F_need hC (93 : Int32)  s5 sz (d - 1) (by omega) s6 es6) (by omega) ⟨rfl, rfl⟩ rfl (Nat.le_of_ble_eq_true rfl) (Nat.le_of_ble_eq_true rfl) rfl rfl rfl (Nat.le_of_ble_eq_true rfl) ⟨Nat.le_of_ble_eq_true rfl, Nat.le_of_ble_eq_true rfl⟩ (gs_V ?_)
    refine gb_run 3 (pc2 := 53) (ls2 := [(0, .ref (19)), (1, .ref (1)), (2, .int (op)), (3, .int (kind))]) (st2 := [.int (0), .int (kind), .ref (19)]) (M2 := s6) hC hqX4_readPair rfl ?_
    obtain ⟨s7, es7, hr⟩ := g_bd hr
    refine gz_cV (z := qX4_mark) (a := 19) (av := [.int (kind), .int (0)]) (rest := []) (pl := 891) hC hqX4_readPair rfl kX4_mark sX4_mark (by decide +kernel) (c_FL_mark hC kind (0 : Int32)  s6 sz (d - 1) (by omega) s7 es7) (by omega) ⟨rfl, rfl⟩ rfl (Nat.le_of_ble_eq_true rfl) (Nat.le_of_ble_eq_true rfl) rfl rfl rfl (Nat.le_of_ble_eq_true rfl) ⟨Nat.le_of_ble_eq_true rfl, Nat.le_of_ble_eq_true rfl⟩ (gs_V ?_)
    refine gb_vret hqX4_readPair rfl rfl (Nat.le_of_ble_eq_true rfl) (Nat.le_of_ble_eq_true rfl) ?_
    exact gl_V hr
  ·
    have hr := g_if0 h1 hr
    refine gb_run 4 (pc2 := 12) (ls2 := [(0, .ref (19)), (1, .ref (1)), (2, .int (op)), (3, .int (kind))]) (st2 := [.int (M 1 4), .int (3), .ref (1)]) (M2 := M) hC hqX4_readPair rfl ?_
    obtain ⟨s8, es8, hr⟩ := g_bd hr
    refine gz_cV (z := qX10_fail) (a := 1) (av := [.int (3), .int (M 1 4)]) (rest := []) (pl := 899) hC hqX4_readPair rfl kX10_fail sX10_fail (by decide +kernel) (c_F_fail hC (3 : Int32) (M 1 4)  M sz (d - 1) (by omega) s8 es8) (by omega) ⟨rfl, rfl⟩ rfl (Nat.le_of_ble_eq_true rfl) (Nat.le_of_ble_eq_true rfl) rfl rfl rfl (Nat.le_of_ble_eq_true rfl) ⟨Nat.le_of_ble_eq_true rfl, Nat.le_of_ble_eq_true rfl⟩ (gs_V ?_)
    refine gb_vret hqX4_readPair rfl rfl (Nat.le_of_ble_eq_true rfl) (Nat.le_of_ble_eq_true rfl) ?_
    exact gl_V hr
def FL_reads_all : Nat → (Int32 → gM → Option (gM)) × (Int32 → gM → Option (gM)) × (Int32 → gM → Option (gM)) × (Int32 → gM → Option (gM)) × (Int32 → Int32 → gM → Option (gM))
  | 0 => (fun _ _ => none, fun _ _ => none, fun _ _ => none, fun _ _ => none, fun _ _ _ => none)
  | f + 1 => (fun op M => FL_readSum_B (FL_reads_all f).2.1 op M, fun op M => FL_readProduct_B (FL_reads_all f).2.2.1 op M, fun op M => FL_readUnit_B (FL_reads_all f).2.2.2.1 (FL_reads_all f).2.2.2.2 op M, fun op M => FL_readBracket_B (FL_reads_all f).1 op M, fun op kind M => FL_readPair_B (FL_reads_all f).1 op kind M)
def FL_readSum (f : Nat) (op : Int32) (M : gM) : Option (gM) := (FL_reads_all f).1 op M
def FL_readProduct (f : Nat) (op : Int32) (M : gM) : Option (gM) := (FL_reads_all f).2.1 op M
def FL_readUnit (f : Nat) (op : Int32) (M : gM) : Option (gM) := (FL_reads_all f).2.2.1 op M
def FL_readBracket (f : Nat) (op : Int32) (M : gM) : Option (gM) := (FL_reads_all f).2.2.2.1 op M
def FL_readPair (f : Nat) (op : Int32) (kind : Int32) (M : gM) : Option (gM) := (FL_reads_all f).2.2.2.2 op kind M
theorem FL_readSum_s (f : Nat) (op : Int32) (M : gM) : FL_readSum (f + 1) op M = FL_readSum_B (FL_readProduct f) op M := rfl
theorem FL_readProduct_s (f : Nat) (op : Int32) (M : gM) : FL_readProduct (f + 1) op M = FL_readProduct_B (FL_readUnit f) op M := rfl
theorem FL_readUnit_s (f : Nat) (op : Int32) (M : gM) : FL_readUnit (f + 1) op M = FL_readUnit_B (FL_readBracket f) (FL_readPair f) op M := rfl
theorem FL_readBracket_s (f : Nat) (op : Int32) (M : gM) : FL_readBracket (f + 1) op M = FL_readBracket_B (FL_readSum f) op M := rfl
theorem FL_readPair_s (f : Nat) (op : Int32) (kind : Int32) (M : gM) : FL_readPair (f + 1) op kind M = FL_readPair_B (FL_readSum f) op kind M := rfl
theorem c_FL_reads {l : Launch} {C : gC} (hC : g_ctx l C) : ∀ f : Nat, (∀ (op : Int32) (M : gM) (sz d : Nat) (R : gM), 7 + f ≤ d → FL_readSum f op M = some R → gPg l C qX4_readSum d [.ref (19), .ref (1), .int (op)] 956 g_S0 M sz (qV R)) ∧ (∀ (op : Int32) (M : gM) (sz d : Nat) (R : gM), 7 + f ≤ d → FL_readProduct f op M = some R → gPg l C qX4_readProduct d [.ref (19), .ref (1), .int (op)] 956 g_S0 M sz (qV R)) ∧ (∀ (op : Int32) (M : gM) (sz d : Nat) (R : gM), 7 + f ≤ d → FL_readUnit f op M = some R → gPg l C qX4_readUnit d [.ref (19), .ref (1), .int (op)] 956 g_S0 M sz (qV R)) ∧ (∀ (op : Int32) (M : gM) (sz d : Nat) (R : gM), 7 + f ≤ d → FL_readBracket f op M = some R → gPg l C qX4_readBracket d [.ref (19), .ref (1), .int (op)] 956 g_S0 M sz (qV R)) ∧ (∀ (op : Int32) (kind : Int32) (M : gM) (sz d : Nat) (R : gM), 7 + f ≤ d → FL_readPair f op kind M = some R → gPg l C qX4_readPair d [.ref (19), .ref (1), .int (op), .int (kind)] 956 g_S0 M sz (qV R)) := by
  intro f
  induction f with
  | zero => exact ⟨fun _ M sz d R _ hr => (nomatch (show (none : Option (gM)) = some R from hr)), fun _ M sz d R _ hr => (nomatch (show (none : Option (gM)) = some R from hr)), fun _ M sz d R _ hr => (nomatch (show (none : Option (gM)) = some R from hr)), fun _ M sz d R _ hr => (nomatch (show (none : Option (gM)) = some R from hr)), fun _ _ M sz d R _ hr => (nomatch (show (none : Option (gM)) = some R from hr))⟩
  | succ f ih =>
    have g0 : ∀ (op : Int32) (M : gM) (sz d : Nat) (R : gM), 7 + (f + 1) ≤ d → FL_readSum_B (FL_readProduct f) op M = some R → gPg l C qX4_readSum d [.ref (19), .ref (1), .int (op)] 956 g_S0 M sz (qV R) :=
      fun op M sz d R hd hr => c_FL_readSum_B hC op  M sz d (by omega) (FL_readProduct f) (fun v2 M R hr => ih.2.1 v2 M sz (d - 1) R (by omega) hr) R hr
    have g1 : ∀ (op : Int32) (M : gM) (sz d : Nat) (R : gM), 7 + (f + 1) ≤ d → FL_readProduct_B (FL_readUnit f) op M = some R → gPg l C qX4_readProduct d [.ref (19), .ref (1), .int (op)] 956 g_S0 M sz (qV R) :=
      fun op M sz d R hd hr => c_FL_readProduct_B hC op  M sz d (by omega) (FL_readUnit f) (fun v2 M R hr => ih.2.2.1 v2 M sz (d - 1) R (by omega) hr) R hr
    have g2 : ∀ (op : Int32) (M : gM) (sz d : Nat) (R : gM), 7 + (f + 1) ≤ d → FL_readUnit_B (FL_readBracket f) (FL_readPair f) op M = some R → gPg l C qX4_readUnit d [.ref (19), .ref (1), .int (op)] 956 g_S0 M sz (qV R) :=
      fun op M sz d R hd hr => c_FL_readUnit_B hC op  M sz d (by omega) (FL_readBracket f) (fun v2 M R hr => ih.2.2.2.1 v2 M sz (d - 1) R (by omega) hr) (FL_readPair f) (fun v2 v3 M R hr => ih.2.2.2.2 v2 v3 M sz (d - 1) R (by omega) hr) R hr
    have g3 : ∀ (op : Int32) (M : gM) (sz d : Nat) (R : gM), 7 + (f + 1) ≤ d → FL_readBracket_B (FL_readSum f) op M = some R → gPg l C qX4_readBracket d [.ref (19), .ref (1), .int (op)] 956 g_S0 M sz (qV R) :=
      fun op M sz d R hd hr => c_FL_readBracket_B hC op  M sz d (by omega) (FL_readSum f) (fun v2 M R hr => ih.1 v2 M sz (d - 1) R (by omega) hr) R hr
    have g4 : ∀ (op : Int32) (kind : Int32) (M : gM) (sz d : Nat) (R : gM), 7 + (f + 1) ≤ d → FL_readPair_B (FL_readSum f) op kind M = some R → gPg l C qX4_readPair d [.ref (19), .ref (1), .int (op), .int (kind)] 956 g_S0 M sz (qV R) :=
      fun op kind M sz d R hd hr => c_FL_readPair_B hC op kind  M sz d (by omega) (FL_readSum f) (fun v2 M R hr => ih.1 v2 M sz (d - 1) R (by omega) hr) R hr
    exact ⟨fun op M sz d R hd hr => g0 op M sz d R hd hr, fun op M sz d R hd hr => g1 op M sz d R hd hr, fun op M sz d R hd hr => g2 op M sz d R hd hr, fun op M sz d R hd hr => g3 op M sz d R hd hr, fun op kind M sz d R hd hr => g4 op kind M sz d R hd hr⟩
theorem c_FL_readSum {l : Launch} {C : gC} (hC : g_ctx l C) (f : Nat) (op : Int32) (M : gM) (sz d : Nat) (hd : 7 + f ≤ d) (R : gM) (hr : FL_readSum f op M = some R) : gPg l C qX4_readSum d [.ref (19), .ref (1), .int (op)] 956 g_S0 M sz (qV R) := (c_FL_reads hC f).1 op M sz d R hd hr
theorem c_FL_readProduct {l : Launch} {C : gC} (hC : g_ctx l C) (f : Nat) (op : Int32) (M : gM) (sz d : Nat) (hd : 7 + f ≤ d) (R : gM) (hr : FL_readProduct f op M = some R) : gPg l C qX4_readProduct d [.ref (19), .ref (1), .int (op)] 956 g_S0 M sz (qV R) := (c_FL_reads hC f).2.1 op M sz d R hd hr
theorem c_FL_readUnit {l : Launch} {C : gC} (hC : g_ctx l C) (f : Nat) (op : Int32) (M : gM) (sz d : Nat) (hd : 7 + f ≤ d) (R : gM) (hr : FL_readUnit f op M = some R) : gPg l C qX4_readUnit d [.ref (19), .ref (1), .int (op)] 956 g_S0 M sz (qV R) := (c_FL_reads hC f).2.2.1 op M sz d R hd hr
theorem c_FL_readBracket {l : Launch} {C : gC} (hC : g_ctx l C) (f : Nat) (op : Int32) (M : gM) (sz d : Nat) (hd : 7 + f ≤ d) (R : gM) (hr : FL_readBracket f op M = some R) : gPg l C qX4_readBracket d [.ref (19), .ref (1), .int (op)] 956 g_S0 M sz (qV R) := (c_FL_reads hC f).2.2.2.1 op M sz d R hd hr
theorem c_FL_readPair {l : Launch} {C : gC} (hC : g_ctx l C) (f : Nat) (op : Int32) (kind : Int32) (M : gM) (sz d : Nat) (hd : 7 + f ≤ d) (R : gM) (hr : FL_readPair f op kind M = some R) : gPg l C qX4_readPair d [.ref (19), .ref (1), .int (op), .int (kind)] 956 g_S0 M sz (qV R) := (c_FL_reads hC f).2.2.2.2 op kind M sz d R hd hr
def FL_read  (M : gM) : Option (gM) :=
  (FL_readSum 40 (0 : Int32) (g_set (g_set M 19 3 (0 : Int32)) 19 4 (1 : Int32))).bind fun s1 => (F_next s1).bind fun s2 => if s2.1 = (-1 : Int32) then (some (s2.2)) else ((F_fail (1 : Int32) ((s2.2) 1 3) (s2.2)).bind fun s4 => some s4)
set_option maxRecDepth 20000 in
theorem c_FL_read {l : Launch} {C : gC} (hC : g_ctx l C)   (M : gM) (sz d : Nat) (hd : 48 ≤ d) (R : gM) (hr : FL_read M = some R) : gPg l C qX4_read d [.ref (19), .ref (1)] 956 g_S0 M sz (qV R) := by
  refine gPg.of (ls := [(0, .ref (19)), (1, .ref (1))]) (by decide +kernel) (Nat.le_of_ble_eq_true rfl) rfl ?_
  unfold FL_read at hr
  refine gb_run 9 (pc2 := 13) (ls2 := [(0, .ref (19)), (1, .ref (1))]) (st2 := [.int (0), .ref (1), .ref (19)]) (M2 := g_set (g_set M 19 3 (0 : Int32)) 19 4 (1 : Int32)) hC hqX4_read rfl ?_
  obtain ⟨s1, es1, hr⟩ := g_bd hr
  refine gz_cV (z := qX4_readSum) (a := 19) (av := [.ref (1), .int (0)]) (rest := []) (pl := 875) hC hqX4_read rfl kX4_readSum sX4_readSum (by decide +kernel) (c_FL_readSum hC 40 (0 : Int32)  (g_set (g_set M 19 3 (0 : Int32)) 19 4 (1 : Int32)) sz (d - 1) (by omega) s1 es1) (by omega) ⟨rfl, rfl⟩ rfl (Nat.le_of_ble_eq_true rfl) (Nat.le_of_ble_eq_true rfl) rfl rfl rfl (Nat.le_of_ble_eq_true rfl) ⟨Nat.le_of_ble_eq_true rfl, Nat.le_of_ble_eq_true rfl⟩ (gs_V ?_)
  refine gb_run 1 (pc2 := 17) (ls2 := [(0, .ref (19)), (1, .ref (1))]) (st2 := [.ref (1)]) (M2 := s1) hC hqX4_read rfl ?_
  obtain ⟨s2, es2, hr⟩ := g_bd hr
  refine gz_cV (z := qX10_next) (a := 1) (av := []) (rest := []) (pl := 887) hC hqX4_read rfl kX10_next sX10_next (by decide +kernel) (c_F_next hC   s1 sz (d - 1) (by omega) s2 es2) (by omega) ⟨rfl, rfl⟩ rfl (Nat.le_of_ble_eq_true rfl) (Nat.le_of_ble_eq_true rfl) rfl rfl rfl (Nat.le_of_ble_eq_true rfl) ⟨Nat.le_of_ble_eq_true rfl, Nat.le_of_ble_eq_true rfl⟩ (gs_I ?_)
  refine gb_run 1 (pc2 := 21) (ls2 := [(0, .ref (19)), (1, .ref (1))]) (st2 := [.int (-1), .int (s2.1)]) (M2 := s2.2) hC hqX4_read rfl ?_
  refine gb_icmp_eq hqX4_read rfl (fun h3 => ?_) (fun h3 => ?_)
  ·
    have hr := g_if1 h3 hr
    refine gb_vret hqX4_read rfl rfl (Nat.le_of_ble_eq_true rfl) (Nat.le_of_ble_eq_true rfl) ?_
    exact gl_V hr
  ·
    have hr := g_if0 h3 hr
    refine gb_run 4 (pc2 := 30) (ls2 := [(0, .ref (19)), (1, .ref (1))]) (st2 := [.int ((s2.2) 1 3), .int (1), .ref (1)]) (M2 := s2.2) hC hqX4_read rfl ?_
    obtain ⟨s4, es4, hr⟩ := g_bd hr
    refine gz_cV (z := qX10_fail) (a := 1) (av := [.int (1), .int ((s2.2) 1 3)]) (rest := []) (pl := 899) hC hqX4_read rfl kX10_fail sX10_fail (by decide +kernel) (c_F_fail hC (1 : Int32) ((s2.2) 1 3)  (s2.2) sz (d - 1) (by omega) s4 es4) (by omega) ⟨rfl, rfl⟩ rfl (Nat.le_of_ble_eq_true rfl) (Nat.le_of_ble_eq_true rfl) rfl rfl rfl (Nat.le_of_ble_eq_true rfl) ⟨Nat.le_of_ble_eq_true rfl, Nat.le_of_ble_eq_true rfl⟩ (gs_V ?_)
    refine gb_vret hqX4_read rfl rfl (Nat.le_of_ble_eq_true rfl) (Nat.le_of_ble_eq_true rfl) ?_
    exact gl_V hr
def FL_fact (k : Int32) (M : gM) : Int32 :=
  if k = (0 : Int32) then (M 15 5) else if k = (1 : Int32) then (M 15 6) else if k = (2 : Int32) then (M 15 7) else if k = (3 : Int32) then (M 15 8) else if k = (4 : Int32) then (M 15 9) else if k = (5 : Int32) then (M 15 10) else if k = (6 : Int32) then (M 15 11) else if k = (7 : Int32) then (M 15 12) else (M 15 13)
set_option maxRecDepth 20000 in
theorem c_FL_fact {l : Launch} {C : gC} (hC : g_ctx l C) (k : Int32)  (M : gM) (sz d : Nat) (hd : 1 ≤ d) : gPg l C qX4_fact d [.ref (15), .int (k)] 956 g_S0 M sz (qIp M (FL_fact k M)) := by
  refine gPg.of (ls := [(0, .ref (15)), (1, .int (k))]) (by decide +kernel) (Nat.le_of_ble_eq_true rfl) rfl ?_
  obtain ⟨R, hr⟩ : ∃ R, FL_fact k M = R := ⟨_, rfl⟩
  rw [hr]
  unfold FL_fact at hr
  refine gb_run 1 (pc2 := 1) (ls2 := [(0, .ref (15)), (1, .int (k))]) (st2 := [.int (k)]) (M2 := M) hC hqX4_fact rfl ?_
  by_cases h1 : k = (0 : Int32)
  ·
    have hr := g_if1 h1 hr
    refine gb_tblIn (tgt := 48) hqX4_fact rfl (by rw [h1]; first | done | decide) (by rw [h1]; first | done | decide) (by rw [h1]; first | done | rfl) (by decide) ?_
    refine gb_run 2 (pc2 := 52) (ls2 := [(0, .ref (15)), (1, .int (k))]) (st2 := [.int (M 15 5)]) (M2 := M) hC hqX4_fact rfl ?_
    refine gb_iret hqX4_fact rfl rfl (Nat.le_of_ble_eq_true rfl) (Nat.le_of_ble_eq_true rfl) ?_
    exact gl_It hr
  have hr := g_if0 h1 hr
  by_cases h2 : k = (1 : Int32)
  ·
    have hr := g_if1 h2 hr
    refine gb_tblIn (tgt := 53) hqX4_fact rfl (by rw [h2]; first | done | decide) (by rw [h2]; first | done | decide) (by rw [h2]; first | done | rfl) (by decide) ?_
    refine gb_run 2 (pc2 := 57) (ls2 := [(0, .ref (15)), (1, .int (k))]) (st2 := [.int (M 15 6)]) (M2 := M) hC hqX4_fact rfl ?_
    refine gb_iret hqX4_fact rfl rfl (Nat.le_of_ble_eq_true rfl) (Nat.le_of_ble_eq_true rfl) ?_
    exact gl_It hr
  have hr := g_if0 h2 hr
  by_cases h3 : k = (2 : Int32)
  ·
    have hr := g_if1 h3 hr
    refine gb_tblIn (tgt := 58) hqX4_fact rfl (by rw [h3]; first | done | decide) (by rw [h3]; first | done | decide) (by rw [h3]; first | done | rfl) (by decide) ?_
    refine gb_run 2 (pc2 := 62) (ls2 := [(0, .ref (15)), (1, .int (k))]) (st2 := [.int (M 15 7)]) (M2 := M) hC hqX4_fact rfl ?_
    refine gb_iret hqX4_fact rfl rfl (Nat.le_of_ble_eq_true rfl) (Nat.le_of_ble_eq_true rfl) ?_
    exact gl_It hr
  have hr := g_if0 h3 hr
  by_cases h4 : k = (3 : Int32)
  ·
    have hr := g_if1 h4 hr
    refine gb_tblIn (tgt := 63) hqX4_fact rfl (by rw [h4]; first | done | decide) (by rw [h4]; first | done | decide) (by rw [h4]; first | done | rfl) (by decide) ?_
    refine gb_run 2 (pc2 := 67) (ls2 := [(0, .ref (15)), (1, .int (k))]) (st2 := [.int (M 15 8)]) (M2 := M) hC hqX4_fact rfl ?_
    refine gb_iret hqX4_fact rfl rfl (Nat.le_of_ble_eq_true rfl) (Nat.le_of_ble_eq_true rfl) ?_
    exact gl_It hr
  have hr := g_if0 h4 hr
  by_cases h5 : k = (4 : Int32)
  ·
    have hr := g_if1 h5 hr
    refine gb_tblIn (tgt := 68) hqX4_fact rfl (by rw [h5]; first | done | decide) (by rw [h5]; first | done | decide) (by rw [h5]; first | done | rfl) (by decide) ?_
    refine gb_run 2 (pc2 := 72) (ls2 := [(0, .ref (15)), (1, .int (k))]) (st2 := [.int (M 15 9)]) (M2 := M) hC hqX4_fact rfl ?_
    refine gb_iret hqX4_fact rfl rfl (Nat.le_of_ble_eq_true rfl) (Nat.le_of_ble_eq_true rfl) ?_
    exact gl_It hr
  have hr := g_if0 h5 hr
  by_cases h6 : k = (5 : Int32)
  ·
    have hr := g_if1 h6 hr
    refine gb_tblIn (tgt := 73) hqX4_fact rfl (by rw [h6]; first | done | decide) (by rw [h6]; first | done | decide) (by rw [h6]; first | done | rfl) (by decide) ?_
    refine gb_run 2 (pc2 := 77) (ls2 := [(0, .ref (15)), (1, .int (k))]) (st2 := [.int (M 15 10)]) (M2 := M) hC hqX4_fact rfl ?_
    refine gb_iret hqX4_fact rfl rfl (Nat.le_of_ble_eq_true rfl) (Nat.le_of_ble_eq_true rfl) ?_
    exact gl_It hr
  have hr := g_if0 h6 hr
  by_cases h7 : k = (6 : Int32)
  ·
    have hr := g_if1 h7 hr
    refine gb_tblIn (tgt := 78) hqX4_fact rfl (by rw [h7]; first | done | decide) (by rw [h7]; first | done | decide) (by rw [h7]; first | done | rfl) (by decide) ?_
    refine gb_run 2 (pc2 := 82) (ls2 := [(0, .ref (15)), (1, .int (k))]) (st2 := [.int (M 15 11)]) (M2 := M) hC hqX4_fact rfl ?_
    refine gb_iret hqX4_fact rfl rfl (Nat.le_of_ble_eq_true rfl) (Nat.le_of_ble_eq_true rfl) ?_
    exact gl_It hr
  have hr := g_if0 h7 hr
  by_cases h8 : k = (7 : Int32)
  ·
    have hr := g_if1 h8 hr
    refine gb_tblIn (tgt := 83) hqX4_fact rfl (by rw [h8]; first | done | decide) (by rw [h8]; first | done | decide) (by rw [h8]; first | done | rfl) (by decide) ?_
    refine gb_run 2 (pc2 := 87) (ls2 := [(0, .ref (15)), (1, .int (k))]) (st2 := [.int (M 15 12)]) (M2 := M) hC hqX4_fact rfl ?_
    refine gb_iret hqX4_fact rfl rfl (Nat.le_of_ble_eq_true rfl) (Nat.le_of_ble_eq_true rfl) ?_
    exact gl_It hr
  have hr := g_if0 h8 hr
  refine gb_tblOut (tgt := 88) hqX4_fact rfl (by have q0 := gd_ne (z := 0) rfl h1; have q1 := gd_ne (z := 1) rfl h2; have q2 := gd_ne (z := 2) rfl h3; have q3 := gd_ne (z := 3) rfl h4; have q4 := gd_ne (z := 4) rfl h5; have q5 := gd_ne (z := 5) rfl h6; have q6 := gd_ne (z := 6) rfl h7; have q7 := gd_ne (z := 7) rfl h8; omega) (by decide) ?_
  refine gb_run 2 (pc2 := 92) (ls2 := [(0, .ref (15)), (1, .int (k))]) (st2 := [.int (M 15 13)]) (M2 := M) hC hqX4_fact rfl ?_
  refine gb_iret hqX4_fact rfl rfl (Nat.le_of_ble_eq_true rfl) (Nat.le_of_ble_eq_true rfl) ?_
  exact gl_It hr
def FL_plain  (M : gM) : Option (Int32) :=
  if (M 15 6) = (0 : Int32) then (some (((0 : Int32) + (M 15 8)) + (M 15 9))) else (if (M 15 6) = 0 then none else (some (((((M 15 5) * (6 : Int32)) / (M 15 6)) + (M 15 8)) + (M 15 9))))
set_option maxRecDepth 20000 in
theorem c_FL_plain {l : Launch} {C : gC} (hC : g_ctx l C)   (M : gM) (sz d : Nat) (hd : 1 ≤ d) (R : Int32) (hr : FL_plain M = some R) : gPg l C qX4_plain d [.ref (15)] 956 g_S0 M sz (qIp M R) := by
  refine gPg.of (ls := [(0, .ref (15))]) (by decide +kernel) (Nat.le_of_ble_eq_true rfl) rfl ?_
  unfold FL_plain at hr
  refine gb_run 2 (pc2 := 4) (ls2 := [(0, .ref (15))]) (st2 := [.int (M 15 6)]) (M2 := M) hC hqX4_plain rfl ?_
  refine gb_if_ne hqX4_plain rfl (fun h1 => ?_) (fun h1 => ?_)
  ·
    have hr := g_if0 h1 hr
    refine gb_run 6 (pc2 := 22) (ls2 := [(0, .ref (15))]) (st2 := [.int (M 15 6), .int ((M 15 5) * (6 : Int32))]) (M2 := M) hC hqX4_plain rfl ?_
    obtain ⟨h2, hr⟩ := g_nz hr
    refine gb_idiv hqX4_plain rfl h2 ?_
    refine gb_run 6 (pc2 := 33) (ls2 := [(0, .ref (15))]) (st2 := [.int (((((M 15 5) * (6 : Int32)) / (M 15 6)) + (M 15 8)) + (M 15 9))]) (M2 := M) hC hqX4_plain rfl ?_
    refine gb_iret hqX4_plain rfl rfl (Nat.le_of_ble_eq_true rfl) (Nat.le_of_ble_eq_true rfl) ?_
    exact gl_Ip hr
  ·
    have hr := g_if1 h1 hr
    refine gb_run 8 (pc2 := 33) (ls2 := [(0, .ref (15))]) (st2 := [.int (((0 : Int32) + (M 15 8)) + (M 15 9))]) (M2 := M) hC hqX4_plain rfl ?_
    refine gb_iret hqX4_plain rfl rfl (Nat.le_of_ble_eq_true rfl) (Nat.le_of_ble_eq_true rfl) ?_
    exact gl_Ip hr
def FL_joined (kind : Int32) (u : Int32) (v : Int32) : Option (Int32) :=
  if kind = (37 : Int32) then (if v = (0 : Int32) then (some (0 : Int32)) else (if v = 0 then none else (some (u - u / v * v)))) else if kind = (42 : Int32) then (some (u * v)) else if kind = (43 : Int32) then (some (u + v)) else if kind = (45 : Int32) then (some (u - v)) else if kind = (47 : Int32) then (if v = (0 : Int32) then (some (0 : Int32)) else (if v = 0 then none else (some (u / v)))) else if kind = (108 : Int32) then (if v ≤ u then (some v) else (some u)) else (if u ≤ v then (some v) else (some u))
set_option maxRecDepth 20000 in
theorem c_FL_joined {l : Launch} {C : gC} (hC : g_ctx l C) (kind : Int32) (u : Int32) (v : Int32)  (M : gM) (sz d : Nat) (hd : 1 ≤ d) (R : Int32) (hr : FL_joined kind u v = some R) : gPg l C qX4_joined d [.int (kind), .int (u), .int (v)] 956 g_S0 M sz (qIp M R) := by
  refine gPg.of (ls := [(0, .int (kind)), (1, .int (u)), (2, .int (v))]) (by decide +kernel) (Nat.le_of_ble_eq_true rfl) rfl ?_
  unfold FL_joined at hr
  refine gb_run 1 (pc2 := 1) (ls2 := [(0, .int (kind)), (1, .int (u)), (2, .int (v))]) (st2 := [.int (kind)]) (M2 := M) hC hqX4_joined rfl ?_
  by_cases h1 : kind = (37 : Int32)
  ·
    have hr := g_if1 h1 hr
    refine gb_lkp (tgt := 84) hqX4_joined rfl (by decide) (by rw [h1]; first | done | rfl) (by decide) ?_
    refine gb_run 1 (pc2 := 85) (ls2 := [(0, .int (kind)), (1, .int (u)), (2, .int (v))]) (st2 := [.int (v)]) (M2 := M) hC hqX4_joined rfl ?_
    refine gb_if_ne hqX4_joined rfl (fun h2 => ?_) (fun h2 => ?_)
    ·
      have hr := g_if0 h2 hr
      refine gb_run 2 (pc2 := 94) (ls2 := [(0, .int (kind)), (1, .int (u)), (2, .int (v))]) (st2 := [.int (v), .int (u)]) (M2 := M) hC hqX4_joined rfl ?_
      obtain ⟨h3, hr⟩ := g_nz hr
      refine gb_irem hqX4_joined rfl h3 ?_
      refine gb_iret hqX4_joined rfl rfl (Nat.le_of_ble_eq_true rfl) (Nat.le_of_ble_eq_true rfl) ?_
      exact gl_Ip hr
    ·
      have hr := g_if1 h2 hr
      refine gb_run 2 (pc2 := 95) (ls2 := [(0, .int (kind)), (1, .int (u)), (2, .int (v))]) (st2 := [.int (0)]) (M2 := M) hC hqX4_joined rfl ?_
      refine gb_iret hqX4_joined rfl rfl (Nat.le_of_ble_eq_true rfl) (Nat.le_of_ble_eq_true rfl) ?_
      exact gl_Ip hr
  have hr := g_if0 h1 hr
  by_cases h4 : kind = (42 : Int32)
  ·
    have hr := g_if1 h4 hr
    refine gb_lkp (tgt := 68) hqX4_joined rfl (by decide) (by rw [h4]; first | done | rfl) (by decide) ?_
    refine gb_run 3 (pc2 := 71) (ls2 := [(0, .int (kind)), (1, .int (u)), (2, .int (v))]) (st2 := [.int (u * v)]) (M2 := M) hC hqX4_joined rfl ?_
    refine gb_iret hqX4_joined rfl rfl (Nat.le_of_ble_eq_true rfl) (Nat.le_of_ble_eq_true rfl) ?_
    exact gl_Ip hr
  have hr := g_if0 h4 hr
  by_cases h5 : kind = (43 : Int32)
  ·
    have hr := g_if1 h5 hr
    refine gb_lkp (tgt := 60) hqX4_joined rfl (by decide) (by rw [h5]; first | done | rfl) (by decide) ?_
    refine gb_run 3 (pc2 := 63) (ls2 := [(0, .int (kind)), (1, .int (u)), (2, .int (v))]) (st2 := [.int (u + v)]) (M2 := M) hC hqX4_joined rfl ?_
    refine gb_iret hqX4_joined rfl rfl (Nat.le_of_ble_eq_true rfl) (Nat.le_of_ble_eq_true rfl) ?_
    exact gl_Ip hr
  have hr := g_if0 h5 hr
  by_cases h6 : kind = (45 : Int32)
  ·
    have hr := g_if1 h6 hr
    refine gb_lkp (tgt := 64) hqX4_joined rfl (by decide) (by rw [h6]; first | done | rfl) (by decide) ?_
    refine gb_run 3 (pc2 := 67) (ls2 := [(0, .int (kind)), (1, .int (u)), (2, .int (v))]) (st2 := [.int (u - v)]) (M2 := M) hC hqX4_joined rfl ?_
    refine gb_iret hqX4_joined rfl rfl (Nat.le_of_ble_eq_true rfl) (Nat.le_of_ble_eq_true rfl) ?_
    exact gl_Ip hr
  have hr := g_if0 h6 hr
  by_cases h7 : kind = (47 : Int32)
  ·
    have hr := g_if1 h7 hr
    refine gb_lkp (tgt := 72) hqX4_joined rfl (by decide) (by rw [h7]; first | done | rfl) (by decide) ?_
    refine gb_run 1 (pc2 := 73) (ls2 := [(0, .int (kind)), (1, .int (u)), (2, .int (v))]) (st2 := [.int (v)]) (M2 := M) hC hqX4_joined rfl ?_
    refine gb_if_ne hqX4_joined rfl (fun h8 => ?_) (fun h8 => ?_)
    ·
      have hr := g_if0 h8 hr
      refine gb_run 2 (pc2 := 82) (ls2 := [(0, .int (kind)), (1, .int (u)), (2, .int (v))]) (st2 := [.int (v), .int (u)]) (M2 := M) hC hqX4_joined rfl ?_
      obtain ⟨h9, hr⟩ := g_nz hr
      refine gb_idiv hqX4_joined rfl h9 ?_
      refine gb_iret hqX4_joined rfl rfl (Nat.le_of_ble_eq_true rfl) (Nat.le_of_ble_eq_true rfl) ?_
      exact gl_Ip hr
    ·
      have hr := g_if1 h8 hr
      refine gb_run 2 (pc2 := 83) (ls2 := [(0, .int (kind)), (1, .int (u)), (2, .int (v))]) (st2 := [.int (0)]) (M2 := M) hC hqX4_joined rfl ?_
      refine gb_iret hqX4_joined rfl rfl (Nat.le_of_ble_eq_true rfl) (Nat.le_of_ble_eq_true rfl) ?_
      exact gl_Ip hr
  have hr := g_if0 h7 hr
  by_cases h10 : kind = (108 : Int32)
  ·
    have hr := g_if1 h10 hr
    refine gb_lkp (tgt := 96) hqX4_joined rfl (by decide) (by rw [h10]; first | done | rfl) (by decide) ?_
    refine gb_run 2 (pc2 := 98) (ls2 := [(0, .int (kind)), (1, .int (u)), (2, .int (v))]) (st2 := [.int (v), .int (u)]) (M2 := M) hC hqX4_joined rfl ?_
    refine gb_icmp_ge hqX4_joined rfl (fun h11 => ?_) (fun h11 => ?_)
    ·
      have hr := g_if1 h11 hr
      refine gb_run 1 (pc2 := 106) (ls2 := [(0, .int (kind)), (1, .int (u)), (2, .int (v))]) (st2 := [.int (v)]) (M2 := M) hC hqX4_joined rfl ?_
      refine gb_iret hqX4_joined rfl rfl (Nat.le_of_ble_eq_true rfl) (Nat.le_of_ble_eq_true rfl) ?_
      exact gl_Ip hr
    ·
      have hr := g_if0 h11 hr
      refine gb_run 2 (pc2 := 106) (ls2 := [(0, .int (kind)), (1, .int (u)), (2, .int (v))]) (st2 := [.int (u)]) (M2 := M) hC hqX4_joined rfl ?_
      refine gb_iret hqX4_joined rfl rfl (Nat.le_of_ble_eq_true rfl) (Nat.le_of_ble_eq_true rfl) ?_
      exact gl_Ip hr
  have hr := g_if0 h10 hr
  refine gb_lkp (tgt := 107) hqX4_joined rfl (by decide) ((lv_osw h1 rfl).trans ((lv_osw h4 rfl).trans ((lv_osw h5 rfl).trans ((lv_osw h6 rfl).trans ((lv_osw h7 rfl).trans ((lv_osw h10 rfl).trans (rfl)))))) : _ = (106 : Int)) (by decide) ?_
  refine gb_run 2 (pc2 := 109) (ls2 := [(0, .int (kind)), (1, .int (u)), (2, .int (v))]) (st2 := [.int (v), .int (u)]) (M2 := M) hC hqX4_joined rfl ?_
  refine gb_icmp_le hqX4_joined rfl (fun h12 => ?_) (fun h12 => ?_)
  ·
    have hr := g_if1 h12 hr
    refine gb_run 1 (pc2 := 117) (ls2 := [(0, .int (kind)), (1, .int (u)), (2, .int (v))]) (st2 := [.int (v)]) (M2 := M) hC hqX4_joined rfl ?_
    refine gb_iret hqX4_joined rfl rfl (Nat.le_of_ble_eq_true rfl) (Nat.le_of_ble_eq_true rfl) ?_
    exact gl_Ip hr
  ·
    have hr := g_if0 h12 hr
    refine gb_run 2 (pc2 := 117) (ls2 := [(0, .int (kind)), (1, .int (u)), (2, .int (v))]) (st2 := [.int (u)]) (M2 := M) hC hqX4_joined rfl ?_
    refine gb_iret hqX4_joined rfl rfl (Nat.le_of_ble_eq_true rfl) (Nat.le_of_ble_eq_true rfl) ?_
    exact gl_Ip hr
def FL_outcome_J137 (y0 : Int32) (M : gM) : Option (Int32 × gM) :=
  if (1 : Int32) ≤ y0 then (if y0 ≤ (99 : Int32) then (some (y0, M)) else (some (99, M))) else (some (1, M))
set_option maxRecDepth 20000 in
theorem c_FL_outcome_J137 {l : Launch} {C : gC} (hC : g_ctx l C) (sz d : Nat) (hd : 2 ≤ d) (R : Int32 × gM) (y0 : Int32) (M : gM) (hr : FL_outcome_J137 y0 M = some R) : GW l C qX4_outcome d (gQg 956 g_S0 (qI R) sz) gN 0 0 137 [] [.int (y0)] (956, g_S0, M, sz) := by
  unfold FL_outcome_J137 at hr
  refine gb_run 3 (pc2 := 140) (ls2 := [(2, .int (y0))]) (st2 := [.int (1), .int (y0)]) (M2 := M) hC hqX4_outcome rfl ?_
  refine gb_icmp_ge hqX4_outcome rfl (fun h1 => ?_) (fun h1 => ?_)
  ·
    have hr := g_if1 h1 hr
    refine gb_run 2 (pc2 := 150) (ls2 := [(2, .int (y0))]) (st2 := [.int (99), .int (y0)]) (M2 := M) hC hqX4_outcome rfl ?_
    refine gb_icmp_le hqX4_outcome rfl (fun h2 => ?_) (fun h2 => ?_)
    ·
      have hr := g_if1 h2 hr
      refine gb_run 1 (pc2 := 159) (ls2 := [(2, .int (y0))]) (st2 := [.int (y0)]) (M2 := M) hC hqX4_outcome rfl ?_
      refine gb_iret hqX4_outcome rfl rfl (Nat.le_of_ble_eq_true rfl) (Nat.le_of_ble_eq_true rfl) ?_
      exact gl_I hr
    ·
      have hr := g_if0 h2 hr
      refine gb_run 2 (pc2 := 159) (ls2 := [(2, .int (y0))]) (st2 := [.int (99)]) (M2 := M) hC hqX4_outcome rfl ?_
      refine gb_iret hqX4_outcome rfl rfl (Nat.le_of_ble_eq_true rfl) (Nat.le_of_ble_eq_true rfl) ?_
      exact gl_I hr
  ·
    have hr := g_if0 h1 hr
    refine gb_run 2 (pc2 := 159) (ls2 := [(2, .int (y0))]) (st2 := [.int (1)]) (M2 := M) hC hqX4_outcome rfl ?_
    refine gb_iret hqX4_outcome rfl rfl (Nat.le_of_ble_eq_true rfl) (Nat.le_of_ble_eq_true rfl) ?_
    exact gl_I hr
def FL_outcome_J43 (c4 : Int32 → Int32 → gM → Option (Int32 × gM)) (x1 : Int32) (x2 : Int32) (x3 : Int32) (x4 : Int32) (M : gM) : Option (Int32 × gM) :=
  if x3 = (110 : Int32) then (g_let (r_put M 18 64 x1 x4) fun M3 => c4 (x1 + (1 : Int32)) (x2 + (1 : Int32)) M3) else (g_let (r_put M 18 64 x1 (FL_fact x4 M)) fun M2 => c4 (x1 + (1 : Int32)) (x2 + (1 : Int32)) M2)
set_option maxRecDepth 20000 in
theorem c_FL_outcome_J43 {l : Launch} {C : gC} (hC : g_ctx l C) (sz d : Nat) (hd : 2 ≤ d) (R : Int32 × gM) (c4 : Int32 → Int32 → gM → Option (Int32 × gM)) (hc4 : ∀ (x1 : Int32) (x2 : Int32) (M : gM), c4 x1 x2 M = some R → GW l C qX4_outcome d (gQg 956 g_S0 (qI R) sz) gN 0 0 4 [(0, .ref (15)), (1, .int (x1)), (2, .int (x2))] [] (956, g_S0, M, sz)) (x1 : Int32) (x2 : Int32) (x3 : Int32) (x4 : Int32) (M : gM) (hr : FL_outcome_J43 c4 x1 x2 x3 x4 M = some R) : GW l C qX4_outcome d (gQg 956 g_S0 (qI R) sz) gN 0 0 43 [(0, .ref (15)), (1, .int (x1)), (2, .int (x2)), (3, .int (x3)), (4, .int (x4))] [] (956, g_S0, M, sz) := by
  unfold FL_outcome_J43 at hr
  refine gb_run 5 (pc2 := 51) (ls2 := [(0, .ref (15)), (1, .int (x1)), (2, .int (x2)), (3, .int (x3)), (4, .int (x4))]) (st2 := [.int (110), .int (x3), .int (x1), .ref (18)]) (M2 := M) hC hqX4_outcome rfl ?_
  refine gb_icmp_ne hqX4_outcome rfl (fun h1 => ?_) (fun h1 => ?_)
  ·
    have hr := g_if0 h1 hr
    refine gb_run 2 (pc2 := 62) (ls2 := [(0, .ref (15)), (1, .int (x1)), (2, .int (x2)), (3, .int (x3)), (4, .int (x4))]) (st2 := [.int (x4), .ref (15), .int (x1), .ref (18)]) (M2 := M) hC hqX4_outcome rfl ?_
    refine gz_cV (z := qX4_fact) (a := 15) (av := [.int (x4)]) (rest := [.int (x1), .ref (18)]) (pl := 600) hC hqX4_outcome rfl kX4_fact sX4_fact (by decide +kernel) (c_FL_fact hC x4  M sz (d - 1) (by omega)) (by omega) ⟨rfl, rfl⟩ rfl (Nat.le_of_ble_eq_true rfl) (Nat.le_of_ble_eq_true rfl) rfl rfl rfl (Nat.le_of_ble_eq_true rfl) ⟨Nat.le_of_ble_eq_true rfl, Nat.le_of_ble_eq_true rfl⟩ (gs_Ip ?_)
    refine gz_cSN (host := "HoopHours") (z := qX11_put) (av := [.ref (18), .int (x1), .int (FL_fact x4 M)]) (rest := []) (pl := 604) hC hqX4_outcome rfl kX11_put (by decide +kernel) (c_put hC 18 64 _ x1 (FL_fact x4 M) M sz (d - 1) (by omega) (Nat.le_of_ble_eq_true rfl) rfl (Nat.le_of_ble_eq_true rfl)) (by omega) ⟨rfl, rfl⟩ rfl rfl (Nat.le_of_ble_eq_true rfl) ⟨Nat.le_of_ble_eq_true rfl, Nat.le_of_ble_eq_true rfl⟩ (gs_V ?_)
    refine g_letP (P := fun M2 => GW l C qX4_outcome d (gQg 956 g_S0 (qI R) sz) gN 0 0 68 [(0, .ref (15)), (1, .int (x1)), (2, .int (x2)), (3, .int (x3)), (4, .int (x4))] [] (956, g_S0, M2, sz)) hr (fun M2 hr => ?_)
    refine gb_run 4 (pc2 := 4) (ls2 := [(2, .int (x2 + (1 : Int32))), (1, .int (x1 + (1 : Int32))), (0, .ref (15)), (3, .int (x3)), (4, .int (x4))]) (st2 := []) (M2 := M2) hC hqX4_outcome rfl ?_
    refine gw_pick [2, 1, 0] (ls2 := [(0, .ref (15)), (1, .int (x1 + (1 : Int32))), (2, .int (x2 + (1 : Int32)))]) rfl ?_
    exact hc4 (x1 + (1 : Int32)) (x2 + (1 : Int32)) M2 hr
  ·
    have hr := g_if1 h1 hr
    refine gb_run 2 (pc2 := 65) (ls2 := [(0, .ref (15)), (1, .int (x1)), (2, .int (x2)), (3, .int (x3)), (4, .int (x4))]) (st2 := [.int (x4), .int (x1), .ref (18)]) (M2 := M) hC hqX4_outcome rfl ?_
    refine gz_cSN (host := "HoopHours") (z := qX11_put) (av := [.ref (18), .int (x1), .int (x4)]) (rest := []) (pl := 604) hC hqX4_outcome rfl kX11_put (by decide +kernel) (c_put hC 18 64 _ x1 x4 M sz (d - 1) (by omega) (Nat.le_of_ble_eq_true rfl) rfl (Nat.le_of_ble_eq_true rfl)) (by omega) ⟨rfl, rfl⟩ rfl rfl (Nat.le_of_ble_eq_true rfl) ⟨Nat.le_of_ble_eq_true rfl, Nat.le_of_ble_eq_true rfl⟩ (gs_V ?_)
    refine g_letP (P := fun M3 => GW l C qX4_outcome d (gQg 956 g_S0 (qI R) sz) gN 0 0 68 [(0, .ref (15)), (1, .int (x1)), (2, .int (x2)), (3, .int (x3)), (4, .int (x4))] [] (956, g_S0, M3, sz)) hr (fun M3 hr => ?_)
    refine gb_run 4 (pc2 := 4) (ls2 := [(2, .int (x2 + (1 : Int32))), (1, .int (x1 + (1 : Int32))), (0, .ref (15)), (3, .int (x3)), (4, .int (x4))]) (st2 := []) (M2 := M3) hC hqX4_outcome rfl ?_
    refine gw_pick [2, 1, 0] (ls2 := [(0, .ref (15)), (1, .int (x1 + (1 : Int32))), (2, .int (x2 + (1 : Int32)))]) rfl ?_
    exact hc4 (x1 + (1 : Int32)) (x2 + (1 : Int32)) M3 hr
def FL_outcome_L4 : Nat → Int32 → Int32 → gM → Option (Int32 × gM)
  | 0, _, _, _ => none
  | k + 1, x1, x2, M =>
  if (M 15 3) ≤ x2 then (if (M 15 4) = (0 : Int32) then ((FL_plain M).bind fun s3 => FL_outcome_J137 s3 M) else (FL_outcome_J137 (r_at (M 18) 64 (0 : Int32)) M)) else (if (r_at (M 16) 150 x2) = (110 : Int32) then (FL_outcome_J43 (FL_outcome_L4 k) x1 x2 (r_at (M 16) 150 x2) (r_at (M 17) 150 x2) M) else (if (r_at (M 16) 150 x2) = (102 : Int32) then (FL_outcome_J43 (FL_outcome_L4 k) x1 x2 (r_at (M 16) 150 x2) (r_at (M 17) 150 x2) M) else ((FL_joined (r_at (M 16) 150 x2) (r_at (M 18) 64 ((x1 + (-1 : Int32)) - (1 : Int32))) (r_at (M 18) 64 (x1 + (-1 : Int32)))).bind fun s6 => g_let (r_put M 18 64 ((x1 + (-1 : Int32)) - (1 : Int32)) s6) fun M7 => FL_outcome_L4 k (x1 + (-1 : Int32)) (x2 + (1 : Int32)) M7)))
set_option maxRecDepth 20000 in
theorem c_FL_outcome_L4 {l : Launch} {C : gC} (hC : g_ctx l C) (sz d : Nat) (hd : 2 ≤ d) (R : Int32 × gM) : ∀ (k : Nat) (x1 : Int32) (x2 : Int32) (M : gM), FL_outcome_L4 k x1 x2 M = some R → GW l C qX4_outcome d (gQg 956 g_S0 (qI R) sz) gN 0 0 4 [(0, .ref (15)), (1, .int (x1)), (2, .int (x2))] [] (956, g_S0, M, sz) := by
  intro k
  induction k with
  | zero => intro x1 x2 M hr; exact nomatch (show (none : Option (Int32 × gM)) = some R from hr)
  | succ k ih =>
    intro x1 x2 M hr
    unfold FL_outcome_L4 at hr
    refine gb_run 3 (pc2 := 9) (ls2 := [(0, .ref (15)), (1, .int (x1)), (2, .int (x2))]) (st2 := [.int (M 15 3), .int (x2)]) (M2 := M) hC hqX4_outcome rfl ?_
    refine gb_icmp_ge hqX4_outcome rfl (fun h1 => ?_) (fun h1 => ?_)
    ·
      have hr := g_if1 h1 hr
      refine gb_run 2 (pc2 := 119) (ls2 := [(0, .ref (15)), (1, .int (x1)), (2, .int (x2))]) (st2 := [.int (M 15 4)]) (M2 := M) hC hqX4_outcome rfl ?_
      refine gb_if_eq hqX4_outcome rfl (fun h2 => ?_) (fun h2 => ?_)
      ·
        have hr := g_if1 h2 hr
        refine gb_run 1 (pc2 := 134) (ls2 := [(0, .ref (15)), (1, .int (x1)), (2, .int (x2))]) (st2 := [.ref (15)]) (M2 := M) hC hqX4_outcome rfl ?_
        obtain ⟨s3, es3, hr⟩ := g_bd hr
        refine gz_cV (z := qX4_plain) (a := 15) (av := []) (rest := []) (pl := 608) hC hqX4_outcome rfl kX4_plain sX4_plain (by decide +kernel) (c_FL_plain hC   M sz (d - 1) (by omega) s3 es3) (by omega) ⟨rfl, rfl⟩ rfl (Nat.le_of_ble_eq_true rfl) (Nat.le_of_ble_eq_true rfl) rfl rfl rfl (Nat.le_of_ble_eq_true rfl) ⟨Nat.le_of_ble_eq_true rfl, Nat.le_of_ble_eq_true rfl⟩ (gs_Ip ?_)
        refine gw_pick [] (ls2 := []) rfl ?_
        exact c_FL_outcome_J137 hC sz d (by omega) R s3 M hr
      ·
        have hr := g_if0 h2 hr
        refine gb_run 3 (pc2 := 127) (ls2 := [(0, .ref (15)), (1, .int (x1)), (2, .int (x2))]) (st2 := [.int (0), .ref (18)]) (M2 := M) hC hqX4_outcome rfl ?_
        refine gz_cSN (host := "HoopHours") (z := qX11_at) (av := [.ref (18), .int (0)]) (rest := []) (pl := 599) hC hqX4_outcome rfl kX11_at (by decide +kernel) (c_at hC 18 64 _ (0 : Int32) M sz (d - 1) (by omega) (Nat.le_of_ble_eq_true rfl) rfl (Nat.le_of_ble_eq_true rfl)) (by omega) ⟨rfl, rfl⟩ rfl rfl (Nat.le_of_ble_eq_true rfl) ⟨Nat.le_of_ble_eq_true rfl, Nat.le_of_ble_eq_true rfl⟩ (gs_Ip ?_)
        refine gb_run 1 (pc2 := 137) (ls2 := [(0, .ref (15)), (1, .int (x1)), (2, .int (x2))]) (st2 := [.int (r_at (M 18) 64 (0 : Int32))]) (M2 := M) hC hqX4_outcome rfl ?_
        refine gw_pick [] (ls2 := []) rfl ?_
        exact c_FL_outcome_J137 hC sz d (by omega) R (r_at (M 18) 64 (0 : Int32)) M hr
    ·
      have hr := g_if0 h1 hr
      refine gb_run 3 (pc2 := 17) (ls2 := [(0, .ref (15)), (1, .int (x1)), (2, .int (x2))]) (st2 := [.int (x2), .ref (16)]) (M2 := M) hC hqX4_outcome rfl ?_
      refine gz_cSN (host := "HoopHours") (z := qX11_at) (av := [.ref (16), .int (x2)]) (rest := []) (pl := 599) hC hqX4_outcome rfl kX11_at (by decide +kernel) (c_at hC 16 150 _ x2 M sz (d - 1) (by omega) (Nat.le_of_ble_eq_true rfl) rfl (Nat.le_of_ble_eq_true rfl)) (by omega) ⟨rfl, rfl⟩ rfl rfl (Nat.le_of_ble_eq_true rfl) ⟨Nat.le_of_ble_eq_true rfl, Nat.le_of_ble_eq_true rfl⟩ (gs_Ip ?_)
      refine gb_run 4 (pc2 := 26) (ls2 := [(3, .int (r_at (M 16) 150 x2)), (0, .ref (15)), (1, .int (x1)), (2, .int (x2))]) (st2 := [.int (x2), .ref (17)]) (M2 := M) hC hqX4_outcome rfl ?_
      refine gz_cSN (host := "HoopHours") (z := qX11_at) (av := [.ref (17), .int (x2)]) (rest := []) (pl := 599) hC hqX4_outcome rfl kX11_at (by decide +kernel) (c_at hC 17 150 _ x2 M sz (d - 1) (by omega) (Nat.le_of_ble_eq_true rfl) rfl (Nat.le_of_ble_eq_true rfl)) (by omega) ⟨rfl, rfl⟩ rfl rfl (Nat.le_of_ble_eq_true rfl) ⟨Nat.le_of_ble_eq_true rfl, Nat.le_of_ble_eq_true rfl⟩ (gs_Ip ?_)
      refine gb_run 3 (pc2 := 34) (ls2 := [(4, .int (r_at (M 17) 150 x2)), (3, .int (r_at (M 16) 150 x2)), (0, .ref (15)), (1, .int (x1)), (2, .int (x2))]) (st2 := [.int (110), .int (r_at (M 16) 150 x2)]) (M2 := M) hC hqX4_outcome rfl ?_
      refine gb_icmp_eq hqX4_outcome rfl (fun h4 => ?_) (fun h4 => ?_)
      ·
        have hr := g_if1 h4 hr
        refine gw_pick [2, 3, 4, 1, 0] (ls2 := [(0, .ref (15)), (1, .int (x1)), (2, .int (x2)), (3, .int (r_at (M 16) 150 x2)), (4, .int (r_at (M 17) 150 x2))]) rfl ?_
        exact c_FL_outcome_J43 hC sz d (by omega) R (FL_outcome_L4 k) ih x1 x2 (r_at (M 16) 150 x2) (r_at (M 17) 150 x2) M hr
      ·
        have hr := g_if0 h4 hr
        refine gb_run 2 (pc2 := 40) (ls2 := [(4, .int (r_at (M 17) 150 x2)), (3, .int (r_at (M 16) 150 x2)), (0, .ref (15)), (1, .int (x1)), (2, .int (x2))]) (st2 := [.int (102), .int (r_at (M 16) 150 x2)]) (M2 := M) hC hqX4_outcome rfl ?_
        refine gb_icmp_ne hqX4_outcome rfl (fun h5 => ?_) (fun h5 => ?_)
        ·
          have hr := g_if0 h5 hr
          refine gb_run 12 (pc2 := 92) (ls2 := [(1, .int (x1 + (-1 : Int32))), (4, .int (r_at (M 17) 150 x2)), (3, .int (r_at (M 16) 150 x2)), (0, .ref (15)), (2, .int (x2))]) (st2 := [.int ((x1 + (-1 : Int32)) - (1 : Int32)), .ref (18), .int (r_at (M 16) 150 x2), .int ((x1 + (-1 : Int32)) - (1 : Int32)), .ref (18)]) (M2 := M) hC hqX4_outcome rfl ?_
          refine gz_cSN (host := "HoopHours") (z := qX11_at) (av := [.ref (18), .int ((x1 + (-1 : Int32)) - (1 : Int32))]) (rest := [.int (r_at (M 16) 150 x2), .int ((x1 + (-1 : Int32)) - (1 : Int32)), .ref (18)]) (pl := 599) hC hqX4_outcome rfl kX11_at (by decide +kernel) (c_at hC 18 64 _ ((x1 + (-1 : Int32)) - (1 : Int32)) M sz (d - 1) (by omega) (Nat.le_of_ble_eq_true rfl) rfl (Nat.le_of_ble_eq_true rfl)) (by omega) ⟨rfl, rfl⟩ rfl rfl (Nat.le_of_ble_eq_true rfl) ⟨Nat.le_of_ble_eq_true rfl, Nat.le_of_ble_eq_true rfl⟩ (gs_Ip ?_)
          refine gb_run 3 (pc2 := 100) (ls2 := [(1, .int (x1 + (-1 : Int32))), (4, .int (r_at (M 17) 150 x2)), (3, .int (r_at (M 16) 150 x2)), (0, .ref (15)), (2, .int (x2))]) (st2 := [.int (x1 + (-1 : Int32)), .ref (18), .int (r_at (M 18) 64 ((x1 + (-1 : Int32)) - (1 : Int32))), .int (r_at (M 16) 150 x2), .int ((x1 + (-1 : Int32)) - (1 : Int32)), .ref (18)]) (M2 := M) hC hqX4_outcome rfl ?_
          refine gz_cSN (host := "HoopHours") (z := qX11_at) (av := [.ref (18), .int (x1 + (-1 : Int32))]) (rest := [.int (r_at (M 18) 64 ((x1 + (-1 : Int32)) - (1 : Int32))), .int (r_at (M 16) 150 x2), .int ((x1 + (-1 : Int32)) - (1 : Int32)), .ref (18)]) (pl := 599) hC hqX4_outcome rfl kX11_at (by decide +kernel) (c_at hC 18 64 _ (x1 + (-1 : Int32)) M sz (d - 1) (by omega) (Nat.le_of_ble_eq_true rfl) rfl (Nat.le_of_ble_eq_true rfl)) (by omega) ⟨rfl, rfl⟩ rfl rfl (Nat.le_of_ble_eq_true rfl) ⟨Nat.le_of_ble_eq_true rfl, Nat.le_of_ble_eq_true rfl⟩ (gs_Ip ?_)
          obtain ⟨s6, es6, hr⟩ := g_bd hr
          refine gz_cS (z := qX4_joined) (av := [.int (r_at (M 16) 150 x2), .int (r_at (M 18) 64 ((x1 + (-1 : Int32)) - (1 : Int32))), .int (r_at (M 18) 64 (x1 + (-1 : Int32)))]) (rest := [.int ((x1 + (-1 : Int32)) - (1 : Int32)), .ref (18)]) (pl := 605) hC hqX4_outcome rfl kX4_joined (by decide +kernel) (c_FL_joined hC (r_at (M 16) 150 x2) (r_at (M 18) 64 ((x1 + (-1 : Int32)) - (1 : Int32))) (r_at (M 18) 64 (x1 + (-1 : Int32)))  M sz (d - 1) (by omega) s6 es6) (by omega) ⟨rfl, rfl⟩ rfl rfl (Nat.le_of_ble_eq_true rfl) ⟨Nat.le_of_ble_eq_true rfl, Nat.le_of_ble_eq_true rfl⟩ (gs_Ip ?_)
          refine gz_cSN (host := "HoopHours") (z := qX11_put) (av := [.ref (18), .int ((x1 + (-1 : Int32)) - (1 : Int32)), .int (s6)]) (rest := []) (pl := 604) hC hqX4_outcome rfl kX11_put (by decide +kernel) (c_put hC 18 64 _ ((x1 + (-1 : Int32)) - (1 : Int32)) s6 M sz (d - 1) (by omega) (Nat.le_of_ble_eq_true rfl) rfl (Nat.le_of_ble_eq_true rfl)) (by omega) ⟨rfl, rfl⟩ rfl rfl (Nat.le_of_ble_eq_true rfl) ⟨Nat.le_of_ble_eq_true rfl, Nat.le_of_ble_eq_true rfl⟩ (gs_V ?_)
          refine g_letP (P := fun M7 => GW l C qX4_outcome d (gQg 956 g_S0 (qI R) sz) gN 0 0 109 [(1, .int (x1 + (-1 : Int32))), (4, .int (r_at (M 17) 150 x2)), (3, .int (r_at (M 16) 150 x2)), (0, .ref (15)), (2, .int (x2))] [] (956, g_S0, M7, sz)) hr (fun M7 hr => ?_)
          refine gb_run 2 (pc2 := 4) (ls2 := [(2, .int (x2 + (1 : Int32))), (1, .int (x1 + (-1 : Int32))), (4, .int (r_at (M 17) 150 x2)), (3, .int (r_at (M 16) 150 x2)), (0, .ref (15))]) (st2 := []) (M2 := M7) hC hqX4_outcome rfl ?_
          refine gw_pick [4, 1, 0] (ls2 := [(0, .ref (15)), (1, .int (x1 + (-1 : Int32))), (2, .int (x2 + (1 : Int32)))]) rfl ?_
          exact ih (x1 + (-1 : Int32)) (x2 + (1 : Int32)) M7 hr
        ·
          have hr := g_if1 h5 hr
          refine gw_pick [2, 3, 4, 1, 0] (ls2 := [(0, .ref (15)), (1, .int (x1)), (2, .int (x2)), (3, .int (r_at (M 16) 150 x2)), (4, .int (r_at (M 17) 150 x2))]) rfl ?_
          exact c_FL_outcome_J43 hC sz d (by omega) R (FL_outcome_L4 k) ih x1 x2 (r_at (M 16) 150 x2) (r_at (M 17) 150 x2) M hr
def FL_outcome  (M : gM) : Option (Int32 × gM) :=
  FL_outcome_L4 1000 (0 : Int32) (0 : Int32) M
set_option maxRecDepth 20000 in
theorem c_FL_outcome {l : Launch} {C : gC} (hC : g_ctx l C)   (M : gM) (sz d : Nat) (hd : 2 ≤ d) (R : Int32 × gM) (hr : FL_outcome M = some R) : gPg l C qX4_outcome d [.ref (15)] 956 g_S0 M sz (qI R) := by
  refine gPg.of (ls := [(0, .ref (15))]) (by decide +kernel) (Nat.le_of_ble_eq_true rfl) rfl ?_
  unfold FL_outcome at hr
  refine gb_run 4 (pc2 := 4) (ls2 := [(2, .int (0)), (1, .int (0)), (0, .ref (15))]) (st2 := []) (M2 := M) hC hqX4_outcome rfl ?_
  refine gw_pick [2, 1, 0] (ls2 := [(0, .ref (15)), (1, .int (0)), (2, .int (0))]) rfl ?_
  exact c_FL_outcome_L4 hC sz d (by omega) R 1000 (0 : Int32) (0 : Int32) M hr
