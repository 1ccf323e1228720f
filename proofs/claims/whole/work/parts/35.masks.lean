/-! masks, decompiled. -/
def FM_told_J21 (what : Int32) (y0 : Int32) (M : gM) : Option (Int32 × gM) :=
  (FM_bad y0 (1 : Int32) (1 : Int32) M).bind fun s1 => if s1.1 = (0 : Int32) then (if what = (0 : Int32) then (g_ix what 5 fun j5 => some ((s1.2) 468 j5, s1.2)) else if what = (1 : Int32) then (g_ix what 5 fun j7 => some ((s1.2) 468 j7, s1.2)) else if what = (2 : Int32) then (g_ix what 5 fun j9 => some ((s1.2) 468 j9, s1.2)) else if what = (3 : Int32) then (some ((s1.2) 930 40, s1.2)) else if what = (4 : Int32) then (some ((s1.2) 930 41, s1.2)) else if what = (5 : Int32) then (some ((s1.2) 930 42, s1.2)) else if what = (6 : Int32) then (some ((s1.2) 930 43, s1.2)) else if what = (7 : Int32) then (some ((s1.2) 930 44, s1.2)) else if what = (8 : Int32) then (some ((s1.2) 930 45, s1.2)) else if what = (9 : Int32) then ((FM_finesIn 930 (s1.2)).bind fun s17 => some (s17, s1.2)) else if what = (10 : Int32) then (some ((s1.2) 464 33, s1.2)) else if what = (11 : Int32) then (some ((s1.2) 464 35, s1.2)) else (some ((s1.2) 930 46, s1.2))) else (some (0, s1.2))
set_option maxRecDepth 20000 in
theorem c_FM_told_J21 {l : Launch} {C : gC} (hC : g_ctx l C) (what : Int32) (sz d : Nat) (hd : 2 ≤ d) (R : Int32 × gM) (y0 : Int32) (M : gM) (hr : FM_told_J21 what y0 M = some R) : GW l C qX12_told d (gQg 956 g_S0 (qI R) sz) gN 0 0 21 [(0, .ref (464)), (1, .int (what))] [.int (y0), .ref (464)] (956, g_S0, M, sz) := by
  unfold FM_told_J21 at hr
  refine gb_run 2 (pc2 := 23) (ls2 := [(0, .ref (464)), (1, .int (what))]) (st2 := [.int (1), .int (1), .int (y0), .ref (464)]) (M2 := M) hC hqX12_told rfl ?_
  obtain ⟨s1, es1, hr⟩ := g_bd hr
  refine gz_cV (z := qX12_bad) (a := 464) (av := [.int (y0), .int (1), .int (1)]) (rest := []) (pl := 1551) hC hqX12_told rfl kX12_bad sX12_bad (by decide +kernel) (c_FM_bad hC y0 (1 : Int32) (1 : Int32)  M sz (d - 1) (by omega) s1 es1) (by omega) ⟨rfl, rfl⟩ rfl (Nat.le_of_ble_eq_true rfl) (Nat.le_of_ble_eq_true rfl) rfl rfl rfl (Nat.le_of_ble_eq_true rfl) ⟨Nat.le_of_ble_eq_true rfl, Nat.le_of_ble_eq_true rfl⟩ (gs_Z fun z2 => ?_)
  refine gb_if_eq hqX12_told rfl (fun h3 => ?_) (fun h3 => ?_)
  ·
    have hr := g_if1 h3 hr
    refine gb_run 1 (pc2 := 32) (ls2 := [(0, .ref (464)), (1, .int (what))]) (st2 := [.int (what)]) (M2 := s1.2) hC hqX12_told rfl ?_
    by_cases h4 : what = (0 : Int32)
    ·
      have hr := g_if1 h4 hr
      refine gb_tblIn (tgt := 96) hqX12_told rfl (by rw [h4]; first | done | decide) (by rw [h4]; first | done | decide) (by rw [h4]; first | done | rfl) (by decide) ?_
      refine gb_run 3 (pc2 := 101) (ls2 := [(0, .ref (464)), (1, .int (what))]) (st2 := [.int (what), .ref (468)]) (M2 := s1.2) hC hqX12_told rfl ?_
      obtain ⟨j5, ej5, ij5, lj5, hr⟩ := g_ixo hr
      refine gz_iaload hC hqX12_told rfl (Nat.le_of_ble_eq_true rfl) rfl ij5 ej5 ?_
      refine gb_iret hqX12_told rfl rfl (Nat.le_of_ble_eq_true rfl) (Nat.le_of_ble_eq_true rfl) ?_
      exact gl_I hr
    have hr := g_if0 h4 hr
    by_cases h6 : what = (1 : Int32)
    ·
      have hr := g_if1 h6 hr
      refine gb_tblIn (tgt := 96) hqX12_told rfl (by rw [h6]; first | done | decide) (by rw [h6]; first | done | decide) (by rw [h6]; first | done | rfl) (by decide) ?_
      refine gb_run 3 (pc2 := 101) (ls2 := [(0, .ref (464)), (1, .int (what))]) (st2 := [.int (what), .ref (468)]) (M2 := s1.2) hC hqX12_told rfl ?_
      obtain ⟨j7, ej7, ij7, lj7, hr⟩ := g_ixo hr
      refine gz_iaload hC hqX12_told rfl (Nat.le_of_ble_eq_true rfl) rfl ij7 ej7 ?_
      refine gb_iret hqX12_told rfl rfl (Nat.le_of_ble_eq_true rfl) (Nat.le_of_ble_eq_true rfl) ?_
      exact gl_I hr
    have hr := g_if0 h6 hr
    by_cases h8 : what = (2 : Int32)
    ·
      have hr := g_if1 h8 hr
      refine gb_tblIn (tgt := 96) hqX12_told rfl (by rw [h8]; first | done | decide) (by rw [h8]; first | done | decide) (by rw [h8]; first | done | rfl) (by decide) ?_
      refine gb_run 3 (pc2 := 101) (ls2 := [(0, .ref (464)), (1, .int (what))]) (st2 := [.int (what), .ref (468)]) (M2 := s1.2) hC hqX12_told rfl ?_
      obtain ⟨j9, ej9, ij9, lj9, hr⟩ := g_ixo hr
      refine gz_iaload hC hqX12_told rfl (Nat.le_of_ble_eq_true rfl) rfl ij9 ej9 ?_
      refine gb_iret hqX12_told rfl rfl (Nat.le_of_ble_eq_true rfl) (Nat.le_of_ble_eq_true rfl) ?_
      exact gl_I hr
    have hr := g_if0 h8 hr
    by_cases h10 : what = (3 : Int32)
    ·
      have hr := g_if1 h10 hr
      refine gb_tblIn (tgt := 103) hqX12_told rfl (by rw [h10]; first | done | decide) (by rw [h10]; first | done | decide) (by rw [h10]; first | done | rfl) (by decide) ?_
      refine gb_run 3 (pc2 := 109) (ls2 := [(0, .ref (464)), (1, .int (what))]) (st2 := [.int (40), .ref (930)]) (M2 := s1.2) hC hqX12_told rfl ?_
      refine gb_iaload hC hqX12_told rfl (Nat.le_of_ble_eq_true rfl) rfl (by unfold vp_in; decide) ?_
      rw [show (40 : Int32).toNatClampNeg = 40 from rfl]
      refine gb_iret hqX12_told rfl rfl (Nat.le_of_ble_eq_true rfl) (Nat.le_of_ble_eq_true rfl) ?_
      exact gl_I hr
    have hr := g_if0 h10 hr
    by_cases h11 : what = (4 : Int32)
    ·
      have hr := g_if1 h11 hr
      refine gb_tblIn (tgt := 111) hqX12_told rfl (by rw [h11]; first | done | decide) (by rw [h11]; first | done | decide) (by rw [h11]; first | done | rfl) (by decide) ?_
      refine gb_run 3 (pc2 := 117) (ls2 := [(0, .ref (464)), (1, .int (what))]) (st2 := [.int (41), .ref (930)]) (M2 := s1.2) hC hqX12_told rfl ?_
      refine gb_iaload hC hqX12_told rfl (Nat.le_of_ble_eq_true rfl) rfl (by unfold vp_in; decide) ?_
      rw [show (41 : Int32).toNatClampNeg = 41 from rfl]
      refine gb_iret hqX12_told rfl rfl (Nat.le_of_ble_eq_true rfl) (Nat.le_of_ble_eq_true rfl) ?_
      exact gl_I hr
    have hr := g_if0 h11 hr
    by_cases h12 : what = (5 : Int32)
    ·
      have hr := g_if1 h12 hr
      refine gb_tblIn (tgt := 119) hqX12_told rfl (by rw [h12]; first | done | decide) (by rw [h12]; first | done | decide) (by rw [h12]; first | done | rfl) (by decide) ?_
      refine gb_run 3 (pc2 := 125) (ls2 := [(0, .ref (464)), (1, .int (what))]) (st2 := [.int (42), .ref (930)]) (M2 := s1.2) hC hqX12_told rfl ?_
      refine gb_iaload hC hqX12_told rfl (Nat.le_of_ble_eq_true rfl) rfl (by unfold vp_in; decide) ?_
      rw [show (42 : Int32).toNatClampNeg = 42 from rfl]
      refine gb_iret hqX12_told rfl rfl (Nat.le_of_ble_eq_true rfl) (Nat.le_of_ble_eq_true rfl) ?_
      exact gl_I hr
    have hr := g_if0 h12 hr
    by_cases h13 : what = (6 : Int32)
    ·
      have hr := g_if1 h13 hr
      refine gb_tblIn (tgt := 127) hqX12_told rfl (by rw [h13]; first | done | decide) (by rw [h13]; first | done | decide) (by rw [h13]; first | done | rfl) (by decide) ?_
      refine gb_run 3 (pc2 := 133) (ls2 := [(0, .ref (464)), (1, .int (what))]) (st2 := [.int (43), .ref (930)]) (M2 := s1.2) hC hqX12_told rfl ?_
      refine gb_iaload hC hqX12_told rfl (Nat.le_of_ble_eq_true rfl) rfl (by unfold vp_in; decide) ?_
      rw [show (43 : Int32).toNatClampNeg = 43 from rfl]
      refine gb_iret hqX12_told rfl rfl (Nat.le_of_ble_eq_true rfl) (Nat.le_of_ble_eq_true rfl) ?_
      exact gl_I hr
    have hr := g_if0 h13 hr
    by_cases h14 : what = (7 : Int32)
    ·
      have hr := g_if1 h14 hr
      refine gb_tblIn (tgt := 135) hqX12_told rfl (by rw [h14]; first | done | decide) (by rw [h14]; first | done | decide) (by rw [h14]; first | done | rfl) (by decide) ?_
      refine gb_run 3 (pc2 := 141) (ls2 := [(0, .ref (464)), (1, .int (what))]) (st2 := [.int (44), .ref (930)]) (M2 := s1.2) hC hqX12_told rfl ?_
      refine gb_iaload hC hqX12_told rfl (Nat.le_of_ble_eq_true rfl) rfl (by unfold vp_in; decide) ?_
      rw [show (44 : Int32).toNatClampNeg = 44 from rfl]
      refine gb_iret hqX12_told rfl rfl (Nat.le_of_ble_eq_true rfl) (Nat.le_of_ble_eq_true rfl) ?_
      exact gl_I hr
    have hr := g_if0 h14 hr
    by_cases h15 : what = (8 : Int32)
    ·
      have hr := g_if1 h15 hr
      refine gb_tblIn (tgt := 143) hqX12_told rfl (by rw [h15]; first | done | decide) (by rw [h15]; first | done | decide) (by rw [h15]; first | done | rfl) (by decide) ?_
      refine gb_run 3 (pc2 := 149) (ls2 := [(0, .ref (464)), (1, .int (what))]) (st2 := [.int (45), .ref (930)]) (M2 := s1.2) hC hqX12_told rfl ?_
      refine gb_iaload hC hqX12_told rfl (Nat.le_of_ble_eq_true rfl) rfl (by unfold vp_in; decide) ?_
      rw [show (45 : Int32).toNatClampNeg = 45 from rfl]
      refine gb_iret hqX12_told rfl rfl (Nat.le_of_ble_eq_true rfl) (Nat.le_of_ble_eq_true rfl) ?_
      exact gl_I hr
    have hr := g_if0 h15 hr
    by_cases h16 : what = (9 : Int32)
    ·
      have hr := g_if1 h16 hr
      refine gb_tblIn (tgt := 151) hqX12_told rfl (by rw [h16]; first | done | decide) (by rw [h16]; first | done | decide) (by rw [h16]; first | done | rfl) (by decide) ?_
      refine gb_run 3 (pc2 := 156) (ls2 := [(0, .ref (464)), (1, .int (what))]) (st2 := [.ref (930), .ref (464)]) (M2 := s1.2) hC hqX12_told rfl ?_
      obtain ⟨s17, es17, hr⟩ := g_bd hr
      refine gz_cV (z := qX12_finesIn) (a := 464) (av := [.ref (930)]) (rest := []) (pl := 1724) hC hqX12_told rfl kX12_finesIn sX12_finesIn (by decide +kernel) (c_FM_finesIn hC 930 (by decide +kernel) (s1.2) sz (d - 1) (by omega) s17 es17) (by omega) ⟨rfl, rfl⟩ rfl (Nat.le_of_ble_eq_true rfl) (Nat.le_of_ble_eq_true rfl) rfl rfl rfl (Nat.le_of_ble_eq_true rfl) ⟨Nat.le_of_ble_eq_true rfl, Nat.le_of_ble_eq_true rfl⟩ (gs_Ip ?_)
      refine gb_iret hqX12_told rfl rfl (Nat.le_of_ble_eq_true rfl) (Nat.le_of_ble_eq_true rfl) ?_
      exact gl_I hr
    have hr := g_if0 h16 hr
    by_cases h18 : what = (10 : Int32)
    ·
      have hr := g_if1 h18 hr
      refine gb_tblIn (tgt := 160) hqX12_told rfl (by rw [h18]; first | done | decide) (by rw [h18]; first | done | decide) (by rw [h18]; first | done | rfl) (by decide) ?_
      refine gb_run 2 (pc2 := 164) (ls2 := [(0, .ref (464)), (1, .int (what))]) (st2 := [.int ((s1.2) 464 33)]) (M2 := s1.2) hC hqX12_told rfl ?_
      refine gb_iret hqX12_told rfl rfl (Nat.le_of_ble_eq_true rfl) (Nat.le_of_ble_eq_true rfl) ?_
      exact gl_I hr
    have hr := g_if0 h18 hr
    by_cases h19 : what = (11 : Int32)
    ·
      have hr := g_if1 h19 hr
      refine gb_tblIn (tgt := 165) hqX12_told rfl (by rw [h19]; first | done | decide) (by rw [h19]; first | done | decide) (by rw [h19]; first | done | rfl) (by decide) ?_
      refine gb_run 2 (pc2 := 169) (ls2 := [(0, .ref (464)), (1, .int (what))]) (st2 := [.int ((s1.2) 464 35)]) (M2 := s1.2) hC hqX12_told rfl ?_
      refine gb_iret hqX12_told rfl rfl (Nat.le_of_ble_eq_true rfl) (Nat.le_of_ble_eq_true rfl) ?_
      exact gl_I hr
    have hr := g_if0 h19 hr
    refine gb_tblOut (tgt := 170) hqX12_told rfl (by have q0 := gd_ne (z := 0) rfl h4; have q1 := gd_ne (z := 1) rfl h6; have q2 := gd_ne (z := 2) rfl h8; have q3 := gd_ne (z := 3) rfl h10; have q4 := gd_ne (z := 4) rfl h11; have q5 := gd_ne (z := 5) rfl h12; have q6 := gd_ne (z := 6) rfl h13; have q7 := gd_ne (z := 7) rfl h14; have q8 := gd_ne (z := 8) rfl h15; have q9 := gd_ne (z := 9) rfl h16; have q10 := gd_ne (z := 10) rfl h18; have q11 := gd_ne (z := 11) rfl h19; omega) (by decide) ?_
    refine gb_run 3 (pc2 := 176) (ls2 := [(0, .ref (464)), (1, .int (what))]) (st2 := [.int (46), .ref (930)]) (M2 := s1.2) hC hqX12_told rfl ?_
    refine gb_iaload hC hqX12_told rfl (Nat.le_of_ble_eq_true rfl) rfl (by unfold vp_in; decide) ?_
    rw [show (46 : Int32).toNatClampNeg = 46 from rfl]
    refine gb_iret hqX12_told rfl rfl (Nat.le_of_ble_eq_true rfl) (Nat.le_of_ble_eq_true rfl) ?_
    exact gl_I hr
  ·
    have hr := g_if0 h3 hr
    refine gb_run 1 (pc2 := 30) (ls2 := [(0, .ref (464)), (1, .int (what))]) (st2 := [.int (0)]) (M2 := s1.2) hC hqX12_told rfl ?_
    refine gb_iret hqX12_told rfl rfl (Nat.le_of_ble_eq_true rfl) (Nat.le_of_ble_eq_true rfl) ?_
    exact gl_I hr
def FM_told (what : Int32) (M : gM) : Option (Int32 × gM) :=
  if (FM_in what (0 : Int32) (12 : Int32)) = (0 : Int32) then (FM_told_J21 what (1 : Int32) (g_set M 464 0 (0 : Int32))) else (FM_told_J21 what (0 : Int32) (g_set M 464 0 (0 : Int32)))
set_option maxRecDepth 20000 in
theorem c_FM_told {l : Launch} {C : gC} (hC : g_ctx l C) (what : Int32)  (M : gM) (sz d : Nat) (hd : 2 ≤ d) (R : Int32 × gM) (hr : FM_told what M = some R) : gPg l C qX12_told d [.ref (464), .int (what)] 956 g_S0 M sz (qI R) := by
  refine gPg.of (ls := [(0, .ref (464)), (1, .int (what))]) (by decide +kernel) (Nat.le_of_ble_eq_true rfl) rfl ?_
  unfold FM_told at hr
  refine gb_run 7 (pc2 := 10) (ls2 := [(0, .ref (464)), (1, .int (what))]) (st2 := [.int (12), .int (0), .int (what), .ref (464)]) (M2 := g_set M 464 0 (0 : Int32)) hC hqX12_told rfl ?_
  refine gz_cS (z := qX12_in) (av := [.int (what), .int (0), .int (12)]) (rest := [.ref (464)]) (pl := 1548) hC hqX12_told rfl kX12_in (by decide +kernel) (c_FM_in hC what (0 : Int32) (12 : Int32)  (g_set M 464 0 (0 : Int32)) sz (d - 1) (by omega)) (by omega) ⟨rfl, rfl⟩ rfl rfl (Nat.le_of_ble_eq_true rfl) ⟨Nat.le_of_ble_eq_true rfl, Nat.le_of_ble_eq_true rfl⟩ (gs_Zp fun z2 => ?_)
  refine gb_if_ne hqX12_told rfl (fun h3 => ?_) (fun h3 => ?_)
  ·
    have hr := g_if0 h3 hr
    refine gb_run 1 (pc2 := 21) (ls2 := [(0, .ref (464)), (1, .int (what))]) (st2 := [.int (0), .ref (464)]) (M2 := g_set M 464 0 (0 : Int32)) hC hqX12_told rfl ?_
    exact c_FM_told_J21 hC what sz d (by omega) R (0 : Int32) (g_set M 464 0 (0 : Int32)) hr
  ·
    have hr := g_if1 h3 hr
    refine gb_run 2 (pc2 := 21) (ls2 := [(0, .ref (464)), (1, .int (what))]) (st2 := [.int (1), .ref (464)]) (M2 := g_set M 464 0 (0 : Int32)) hC hqX12_told rfl ?_
    exact c_FM_told_J21 hC what sz d (by omega) R (1 : Int32) (g_set M 464 0 (0 : Int32)) hr
def FM_isWalk (w : Int32) (M : gM) : Int32 :=
  FM_in w (0 : Int32) ((M 468 0) - (1 : Int32))
set_option maxRecDepth 20000 in
theorem c_FM_isWalk {l : Launch} {C : gC} (hC : g_ctx l C) (w : Int32)  (M : gM) (sz d : Nat) (hd : 2 ≤ d) : gPg l C qX12_isWalk d [.ref (464), .int (w)] 956 g_S0 M sz (qZp M (FM_isWalk w M)) := by
  refine gPg.of (ls := [(0, .ref (464)), (1, .int (w))]) (by decide +kernel) (Nat.le_of_ble_eq_true rfl) rfl ?_
  obtain ⟨R, hr⟩ : ∃ R, FM_isWalk w M = R := ⟨_, rfl⟩
  rw [hr]
  unfold FM_isWalk at hr
  refine gb_run 5 (pc2 := 7) (ls2 := [(0, .ref (464)), (1, .int (w))]) (st2 := [.int (0), .ref (468), .int (0), .int (w)]) (M2 := M) hC hqX12_isWalk rfl ?_
  refine gb_iaload hC hqX12_isWalk rfl (Nat.le_of_ble_eq_true rfl) rfl (by unfold vp_in; decide) ?_
  rw [show (0 : Int32).toNatClampNeg = 0 from rfl]
  refine gb_run 2 (pc2 := 10) (ls2 := [(0, .ref (464)), (1, .int (w))]) (st2 := [.int ((M 468 0) - (1 : Int32)), .int (0), .int (w)]) (M2 := M) hC hqX12_isWalk rfl ?_
  refine gz_cS (z := qX12_in) (av := [.int (w), .int (0), .int ((M 468 0) - (1 : Int32))]) (rest := []) (pl := 1548) hC hqX12_isWalk rfl kX12_in (by decide +kernel) (c_FM_in hC w (0 : Int32) ((M 468 0) - (1 : Int32))  M sz (d - 1) (by omega)) (by omega) ⟨rfl, rfl⟩ rfl rfl (Nat.le_of_ble_eq_true rfl) ⟨Nat.le_of_ble_eq_true rfl, Nat.le_of_ble_eq_true rfl⟩ (gs_Zp fun z2 => ?_)
  refine gb_zret hqX12_isWalk rfl rfl (Nat.le_of_ble_eq_true rfl) (Nat.le_of_ble_eq_true rfl) (z2) ?_
  exact gl_Zt (z2) hr
def FM_isChild (c : Int32) (M : gM) : Int32 :=
  FM_in c (0 : Int32) ((M 468 1) - (1 : Int32))
set_option maxRecDepth 20000 in
theorem c_FM_isChild {l : Launch} {C : gC} (hC : g_ctx l C) (c : Int32)  (M : gM) (sz d : Nat) (hd : 2 ≤ d) : gPg l C qX12_isChild d [.ref (464), .int (c)] 956 g_S0 M sz (qZp M (FM_isChild c M)) := by
  refine gPg.of (ls := [(0, .ref (464)), (1, .int (c))]) (by decide +kernel) (Nat.le_of_ble_eq_true rfl) rfl ?_
  obtain ⟨R, hr⟩ : ∃ R, FM_isChild c M = R := ⟨_, rfl⟩
  rw [hr]
  unfold FM_isChild at hr
  refine gb_run 5 (pc2 := 7) (ls2 := [(0, .ref (464)), (1, .int (c))]) (st2 := [.int (1), .ref (468), .int (0), .int (c)]) (M2 := M) hC hqX12_isChild rfl ?_
  refine gb_iaload hC hqX12_isChild rfl (Nat.le_of_ble_eq_true rfl) rfl (by unfold vp_in; decide) ?_
  rw [show (1 : Int32).toNatClampNeg = 1 from rfl]
  refine gb_run 2 (pc2 := 10) (ls2 := [(0, .ref (464)), (1, .int (c))]) (st2 := [.int ((M 468 1) - (1 : Int32)), .int (0), .int (c)]) (M2 := M) hC hqX12_isChild rfl ?_
  refine gz_cS (z := qX12_in) (av := [.int (c), .int (0), .int ((M 468 1) - (1 : Int32))]) (rest := []) (pl := 1548) hC hqX12_isChild rfl kX12_in (by decide +kernel) (c_FM_in hC c (0 : Int32) ((M 468 1) - (1 : Int32))  M sz (d - 1) (by omega)) (by omega) ⟨rfl, rfl⟩ rfl rfl (Nat.le_of_ble_eq_true rfl) ⟨Nat.le_of_ble_eq_true rfl, Nat.le_of_ble_eq_true rfl⟩ (gs_Zp fun z2 => ?_)
  refine gb_zret hqX12_isChild rfl rfl (Nat.le_of_ble_eq_true rfl) (Nat.le_of_ble_eq_true rfl) (z2) ?_
  exact gl_Zt (z2) hr
def FM_isHoop (h : Int32) (M : gM) : Int32 :=
  FM_in h (0 : Int32) ((M 468 2) - (1 : Int32))
set_option maxRecDepth 20000 in
theorem c_FM_isHoop {l : Launch} {C : gC} (hC : g_ctx l C) (h : Int32)  (M : gM) (sz d : Nat) (hd : 2 ≤ d) : gPg l C qX12_isHoop d [.ref (464), .int (h)] 956 g_S0 M sz (qZp M (FM_isHoop h M)) := by
  refine gPg.of (ls := [(0, .ref (464)), (1, .int (h))]) (by decide +kernel) (Nat.le_of_ble_eq_true rfl) rfl ?_
  obtain ⟨R, hr⟩ : ∃ R, FM_isHoop h M = R := ⟨_, rfl⟩
  rw [hr]
  unfold FM_isHoop at hr
  refine gb_run 5 (pc2 := 7) (ls2 := [(0, .ref (464)), (1, .int (h))]) (st2 := [.int (2), .ref (468), .int (0), .int (h)]) (M2 := M) hC hqX12_isHoop rfl ?_
  refine gb_iaload hC hqX12_isHoop rfl (Nat.le_of_ble_eq_true rfl) rfl (by unfold vp_in; decide) ?_
  rw [show (2 : Int32).toNatClampNeg = 2 from rfl]
  refine gb_run 2 (pc2 := 10) (ls2 := [(0, .ref (464)), (1, .int (h))]) (st2 := [.int ((M 468 2) - (1 : Int32)), .int (0), .int (h)]) (M2 := M) hC hqX12_isHoop rfl ?_
  refine gz_cS (z := qX12_in) (av := [.int (h), .int (0), .int ((M 468 2) - (1 : Int32))]) (rest := []) (pl := 1548) hC hqX12_isHoop rfl kX12_in (by decide +kernel) (c_FM_in hC h (0 : Int32) ((M 468 2) - (1 : Int32))  M sz (d - 1) (by omega)) (by omega) ⟨rfl, rfl⟩ rfl rfl (Nat.le_of_ble_eq_true rfl) ⟨Nat.le_of_ble_eq_true rfl, Nat.le_of_ble_eq_true rfl⟩ (gs_Zp fun z2 => ?_)
  refine gb_zret hqX12_isHoop rfl rfl (Nat.le_of_ble_eq_true rfl) (Nat.le_of_ble_eq_true rfl) (z2) ?_
  exact gl_Zt (z2) hr
def FM_walk_J42 (w : Int32) (what : Int32) (y0 : Int32) (M : gM) : Option (Int32 × gM) :=
  (FM_bad y0 (2 : Int32) (1 : Int32) M).bind fun s1 => if s1.1 = (0 : Int32) then (g_ix w 8 fun j4 => g_ix what 2 fun j5 => some ((s1.2) (481 + j4) j5, s1.2)) else (some (0, s1.2))
set_option maxRecDepth 20000 in
theorem c_FM_walk_J42 {l : Launch} {C : gC} (hC : g_ctx l C) (w : Int32) (what : Int32) (sz d : Nat) (hd : 3 ≤ d) (R : Int32 × gM) (y0 : Int32) (M : gM) (hr : FM_walk_J42 w what y0 M = some R) : GW l C qX12_walk d (gQg 956 g_S0 (qI R) sz) gN 0 0 42 [(0, .ref (464)), (1, .int (w)), (2, .int (what))] [.int (y0), .ref (464)] (956, g_S0, M, sz) := by
  unfold FM_walk_J42 at hr
  refine gb_run 2 (pc2 := 44) (ls2 := [(0, .ref (464)), (1, .int (w)), (2, .int (what))]) (st2 := [.int (1), .int (2), .int (y0), .ref (464)]) (M2 := M) hC hqX12_walk rfl ?_
  obtain ⟨s1, es1, hr⟩ := g_bd hr
  refine gz_cV (z := qX12_bad) (a := 464) (av := [.int (y0), .int (2), .int (1)]) (rest := []) (pl := 1551) hC hqX12_walk rfl kX12_bad sX12_bad (by decide +kernel) (c_FM_bad hC y0 (2 : Int32) (1 : Int32)  M sz (d - 1) (by omega) s1 es1) (by omega) ⟨rfl, rfl⟩ rfl (Nat.le_of_ble_eq_true rfl) (Nat.le_of_ble_eq_true rfl) rfl rfl rfl (Nat.le_of_ble_eq_true rfl) ⟨Nat.le_of_ble_eq_true rfl, Nat.le_of_ble_eq_true rfl⟩ (gs_Z fun z2 => ?_)
  refine gb_if_eq hqX12_walk rfl (fun h3 => ?_) (fun h3 => ?_)
  ·
    have hr := g_if1 h3 hr
    refine gb_run 3 (pc2 := 57) (ls2 := [(0, .ref (464)), (1, .int (w)), (2, .int (what))]) (st2 := [.int (w), .ref (480)]) (M2 := s1.2) hC hqX12_walk rfl ?_
    obtain ⟨j4, ej4, ij4, lj4, hr⟩ := g_ixo hr
    have tj4 := g_t480 j4 lj4
    refine gz_aaload (k0 := 2) (q := 481 + j4) hC hqX12_walk rfl (Nat.le_of_ble_eq_true rfl) rfl (Nat.le_of_ble_eq_true rfl) ij4 ej4 tj4.1 ?_
    refine gb_run 1 (pc2 := 59) (ls2 := [(0, .ref (464)), (1, .int (w)), (2, .int (what))]) (st2 := [.int (what), .ref (481 + j4)]) (M2 := s1.2) hC hqX12_walk rfl ?_
    obtain ⟨j5, ej5, ij5, lj5, hr⟩ := g_ixo hr
    refine gz_iaload hC hqX12_walk rfl tj4.2.1 (g_S3 tj4.2.2.1 tj4.2.2.2) ij5 ej5 ?_
    refine gb_iret hqX12_walk rfl rfl (Nat.le_of_ble_eq_true rfl) (Nat.le_of_ble_eq_true rfl) ?_
    exact gl_I hr
  ·
    have hr := g_if0 h3 hr
    refine gb_run 1 (pc2 := 51) (ls2 := [(0, .ref (464)), (1, .int (w)), (2, .int (what))]) (st2 := [.int (0)]) (M2 := s1.2) hC hqX12_walk rfl ?_
    refine gb_iret hqX12_walk rfl rfl (Nat.le_of_ble_eq_true rfl) (Nat.le_of_ble_eq_true rfl) ?_
    exact gl_I hr
def FM_walk_J19 (w : Int32) (what : Int32) (y0 : Int32) (M : gM) : Option (Int32 × gM) :=
  (FM_bad y0 (1 : Int32) (0 : Int32) M).bind fun s1 => if s1.1 = (0 : Int32) then (if (FM_in what (0 : Int32) (1 : Int32)) = (0 : Int32) then (FM_walk_J42 w what (1 : Int32) (s1.2)) else (FM_walk_J42 w what (0 : Int32) (s1.2))) else (some (0, s1.2))
set_option maxRecDepth 20000 in
theorem c_FM_walk_J19 {l : Launch} {C : gC} (hC : g_ctx l C) (w : Int32) (what : Int32) (sz d : Nat) (hd : 3 ≤ d) (R : Int32 × gM) (y0 : Int32) (M : gM) (hr : FM_walk_J19 w what y0 M = some R) : GW l C qX12_walk d (gQg 956 g_S0 (qI R) sz) gN 0 0 19 [(0, .ref (464)), (1, .int (w)), (2, .int (what))] [.int (y0), .ref (464)] (956, g_S0, M, sz) := by
  unfold FM_walk_J19 at hr
  refine gb_run 2 (pc2 := 21) (ls2 := [(0, .ref (464)), (1, .int (w)), (2, .int (what))]) (st2 := [.int (0), .int (1), .int (y0), .ref (464)]) (M2 := M) hC hqX12_walk rfl ?_
  obtain ⟨s1, es1, hr⟩ := g_bd hr
  refine gz_cV (z := qX12_bad) (a := 464) (av := [.int (y0), .int (1), .int (0)]) (rest := []) (pl := 1551) hC hqX12_walk rfl kX12_bad sX12_bad (by decide +kernel) (c_FM_bad hC y0 (1 : Int32) (0 : Int32)  M sz (d - 1) (by omega) s1 es1) (by omega) ⟨rfl, rfl⟩ rfl (Nat.le_of_ble_eq_true rfl) (Nat.le_of_ble_eq_true rfl) rfl rfl rfl (Nat.le_of_ble_eq_true rfl) ⟨Nat.le_of_ble_eq_true rfl, Nat.le_of_ble_eq_true rfl⟩ (gs_Z fun z2 => ?_)
  refine gb_if_ne hqX12_walk rfl (fun h3 => ?_) (fun h3 => ?_)
  ·
    have hr := g_if0 h3 hr
    refine gb_run 1 (pc2 := 51) (ls2 := [(0, .ref (464)), (1, .int (w)), (2, .int (what))]) (st2 := [.int (0)]) (M2 := s1.2) hC hqX12_walk rfl ?_
    refine gb_iret hqX12_walk rfl rfl (Nat.le_of_ble_eq_true rfl) (Nat.le_of_ble_eq_true rfl) ?_
    exact gl_I hr
  ·
    have hr := g_if1 h3 hr
    refine gb_run 4 (pc2 := 31) (ls2 := [(0, .ref (464)), (1, .int (w)), (2, .int (what))]) (st2 := [.int (1), .int (0), .int (what), .ref (464)]) (M2 := s1.2) hC hqX12_walk rfl ?_
    refine gz_cS (z := qX12_in) (av := [.int (what), .int (0), .int (1)]) (rest := [.ref (464)]) (pl := 1548) hC hqX12_walk rfl kX12_in (by decide +kernel) (c_FM_in hC what (0 : Int32) (1 : Int32)  (s1.2) sz (d - 1) (by omega)) (by omega) ⟨rfl, rfl⟩ rfl rfl (Nat.le_of_ble_eq_true rfl) ⟨Nat.le_of_ble_eq_true rfl, Nat.le_of_ble_eq_true rfl⟩ (gs_Zp fun z5 => ?_)
    refine gb_if_ne hqX12_walk rfl (fun h6 => ?_) (fun h6 => ?_)
    ·
      have hr := g_if0 h6 hr
      refine gb_run 1 (pc2 := 42) (ls2 := [(0, .ref (464)), (1, .int (w)), (2, .int (what))]) (st2 := [.int (0), .ref (464)]) (M2 := s1.2) hC hqX12_walk rfl ?_
      exact c_FM_walk_J42 hC w what sz d (by omega) R (0 : Int32) (s1.2) hr
    ·
      have hr := g_if1 h6 hr
      refine gb_run 2 (pc2 := 42) (ls2 := [(0, .ref (464)), (1, .int (w)), (2, .int (what))]) (st2 := [.int (1), .ref (464)]) (M2 := s1.2) hC hqX12_walk rfl ?_
      exact c_FM_walk_J42 hC w what sz d (by omega) R (1 : Int32) (s1.2) hr
def FM_walk (w : Int32) (what : Int32) (M : gM) : Option (Int32 × gM) :=
  if (FM_isWalk w (g_set M 464 0 (0 : Int32))) = (0 : Int32) then (FM_walk_J19 w what (1 : Int32) (g_set M 464 0 (0 : Int32))) else (FM_walk_J19 w what (0 : Int32) (g_set M 464 0 (0 : Int32)))
set_option maxRecDepth 20000 in
theorem c_FM_walk {l : Launch} {C : gC} (hC : g_ctx l C) (w : Int32) (what : Int32)  (M : gM) (sz d : Nat) (hd : 3 ≤ d) (R : Int32 × gM) (hr : FM_walk w what M = some R) : gPg l C qX12_walk d [.ref (464), .int (w), .int (what)] 956 g_S0 M sz (qI R) := by
  refine gPg.of (ls := [(0, .ref (464)), (1, .int (w)), (2, .int (what))]) (by decide +kernel) (Nat.le_of_ble_eq_true rfl) rfl ?_
  unfold FM_walk at hr
  refine gb_run 6 (pc2 := 8) (ls2 := [(0, .ref (464)), (1, .int (w)), (2, .int (what))]) (st2 := [.int (w), .ref (464), .ref (464)]) (M2 := g_set M 464 0 (0 : Int32)) hC hqX12_walk rfl ?_
  refine gz_cV (z := qX12_isWalk) (a := 464) (av := [.int (w)]) (rest := [.ref (464)]) (pl := 1732) hC hqX12_walk rfl kX12_isWalk sX12_isWalk (by decide +kernel) (c_FM_isWalk hC w  (g_set M 464 0 (0 : Int32)) sz (d - 1) (by omega)) (by omega) ⟨rfl, rfl⟩ rfl (Nat.le_of_ble_eq_true rfl) (Nat.le_of_ble_eq_true rfl) rfl rfl rfl (Nat.le_of_ble_eq_true rfl) ⟨Nat.le_of_ble_eq_true rfl, Nat.le_of_ble_eq_true rfl⟩ (gs_Zp fun z2 => ?_)
  refine gb_if_ne hqX12_walk rfl (fun h3 => ?_) (fun h3 => ?_)
  ·
    have hr := g_if0 h3 hr
    refine gb_run 1 (pc2 := 19) (ls2 := [(0, .ref (464)), (1, .int (w)), (2, .int (what))]) (st2 := [.int (0), .ref (464)]) (M2 := g_set M 464 0 (0 : Int32)) hC hqX12_walk rfl ?_
    exact c_FM_walk_J19 hC w what sz d (by omega) R (0 : Int32) (g_set M 464 0 (0 : Int32)) hr
  ·
    have hr := g_if1 h3 hr
    refine gb_run 2 (pc2 := 19) (ls2 := [(0, .ref (464)), (1, .int (w)), (2, .int (what))]) (st2 := [.int (1), .ref (464)]) (M2 := g_set M 464 0 (0 : Int32)) hC hqX12_walk rfl ?_
    exact c_FM_walk_J19 hC w what sz d (by omega) R (1 : Int32) (g_set M 464 0 (0 : Int32)) hr
def FM_child_L57 (c : Int32) (what : Int32) : Nat → Int32 → Int32 → gM → Option (Int32 × gM)
  | 0, _, _, _ => none
  | k + 1, x3, x4, M =>
  if (M 468 2) ≤ x4 then (if what = (2 : Int32) then (g_ix ((8 : Int32) + c) 48 fun j3 => some (M 930 j3, M)) else if what = (3 : Int32) then (g_ix ((16 : Int32) + c) 48 fun j5 => some (M 930 j5, M)) else if what = (4 : Int32) then (g_ix ((24 : Int32) + c) 48 fun j7 => some (M 930 j7, M)) else if what = (5 : Int32) then (some (x3, M)) else (g_ix c 8 fun j9 => g_ix what 2 fun j10 => some (M (499 + j9) j10, M))) else (g_ix ((0 : Int32) + x4) 48 fun j11 => if (M 930 j11) = c then (FM_child_L57 c what k (x3 ||| ((1 : Int32) <<< (x4 &&& 31))) (x4 + (1 : Int32)) M) else (FM_child_L57 c what k (x3 ||| (0 : Int32)) (x4 + (1 : Int32)) M))
set_option maxRecDepth 20000 in
theorem c_FM_child_L57 {l : Launch} {C : gC} (hC : g_ctx l C) (c : Int32) (what : Int32) (sz d : Nat) (hd : 3 ≤ d) (R : Int32 × gM) : ∀ (k : Nat) (x3 : Int32) (x4 : Int32) (M : gM), FM_child_L57 c what k x3 x4 M = some R → GW l C qX12_child d (gQg 956 g_S0 (qI R) sz) gN 0 0 57 [(0, .ref (464)), (1, .int (c)), (2, .int (what)), (3, .int (x3)), (4, .int (x4))] [] (956, g_S0, M, sz) := by
  intro k
  induction k with
  | zero => intro x3 x4 M hr; exact nomatch (show (none : Option (Int32 × gM)) = some R from hr)
  | succ k ih =>
    intro x3 x4 M hr
    unfold FM_child_L57 at hr
    refine gb_run 4 (pc2 := 64) (ls2 := [(0, .ref (464)), (1, .int (c)), (2, .int (what)), (3, .int (x3)), (4, .int (x4))]) (st2 := [.int (2), .ref (468), .int (x4)]) (M2 := M) hC hqX12_child rfl ?_
    refine gb_iaload hC hqX12_child rfl (Nat.le_of_ble_eq_true rfl) rfl (by unfold vp_in; decide) ?_
    rw [show (2 : Int32).toNatClampNeg = 2 from rfl]
    refine gb_icmp_ge hqX12_child rfl (fun h1 => ?_) (fun h1 => ?_)
    ·
      have hr := g_if1 h1 hr
      refine gb_run 1 (pc2 := 99) (ls2 := [(0, .ref (464)), (1, .int (c)), (2, .int (what)), (3, .int (x3)), (4, .int (x4))]) (st2 := [.int (what)]) (M2 := M) hC hqX12_child rfl ?_
      by_cases h2 : what = (2 : Int32)
      ·
        have hr := g_if1 h2 hr
        refine gb_tblIn (tgt := 128) hqX12_child rfl (by rw [h2]; first | done | decide) (by rw [h2]; first | done | decide) (by rw [h2]; first | done | rfl) (by decide) ?_
        refine gb_run 5 (pc2 := 136) (ls2 := [(0, .ref (464)), (1, .int (c)), (2, .int (what)), (3, .int (x3)), (4, .int (x4))]) (st2 := [.int ((8 : Int32) + c), .ref (930)]) (M2 := M) hC hqX12_child rfl ?_
        obtain ⟨j3, ej3, ij3, lj3, hr⟩ := g_ixo hr
        refine gz_iaload hC hqX12_child rfl (Nat.le_of_ble_eq_true rfl) rfl ij3 ej3 ?_
        refine gb_iret hqX12_child rfl rfl (Nat.le_of_ble_eq_true rfl) (Nat.le_of_ble_eq_true rfl) ?_
        exact gl_I hr
      have hr := g_if0 h2 hr
      by_cases h4 : what = (3 : Int32)
      ·
        have hr := g_if1 h4 hr
        refine gb_tblIn (tgt := 138) hqX12_child rfl (by rw [h4]; first | done | decide) (by rw [h4]; first | done | decide) (by rw [h4]; first | done | rfl) (by decide) ?_
        refine gb_run 5 (pc2 := 146) (ls2 := [(0, .ref (464)), (1, .int (c)), (2, .int (what)), (3, .int (x3)), (4, .int (x4))]) (st2 := [.int ((16 : Int32) + c), .ref (930)]) (M2 := M) hC hqX12_child rfl ?_
        obtain ⟨j5, ej5, ij5, lj5, hr⟩ := g_ixo hr
        refine gz_iaload hC hqX12_child rfl (Nat.le_of_ble_eq_true rfl) rfl ij5 ej5 ?_
        refine gb_iret hqX12_child rfl rfl (Nat.le_of_ble_eq_true rfl) (Nat.le_of_ble_eq_true rfl) ?_
        exact gl_I hr
      have hr := g_if0 h4 hr
      by_cases h6 : what = (4 : Int32)
      ·
        have hr := g_if1 h6 hr
        refine gb_tblIn (tgt := 148) hqX12_child rfl (by rw [h6]; first | done | decide) (by rw [h6]; first | done | decide) (by rw [h6]; first | done | rfl) (by decide) ?_
        refine gb_run 5 (pc2 := 156) (ls2 := [(0, .ref (464)), (1, .int (c)), (2, .int (what)), (3, .int (x3)), (4, .int (x4))]) (st2 := [.int ((24 : Int32) + c), .ref (930)]) (M2 := M) hC hqX12_child rfl ?_
        obtain ⟨j7, ej7, ij7, lj7, hr⟩ := g_ixo hr
        refine gz_iaload hC hqX12_child rfl (Nat.le_of_ble_eq_true rfl) rfl ij7 ej7 ?_
        refine gb_iret hqX12_child rfl rfl (Nat.le_of_ble_eq_true rfl) (Nat.le_of_ble_eq_true rfl) ?_
        exact gl_I hr
      have hr := g_if0 h6 hr
      by_cases h8 : what = (5 : Int32)
      ·
        have hr := g_if1 h8 hr
        refine gb_tblIn (tgt := 158) hqX12_child rfl (by rw [h8]; first | done | decide) (by rw [h8]; first | done | decide) (by rw [h8]; first | done | rfl) (by decide) ?_
        refine gb_run 1 (pc2 := 159) (ls2 := [(0, .ref (464)), (1, .int (c)), (2, .int (what)), (3, .int (x3)), (4, .int (x4))]) (st2 := [.int (x3)]) (M2 := M) hC hqX12_child rfl ?_
        refine gb_iret hqX12_child rfl rfl (Nat.le_of_ble_eq_true rfl) (Nat.le_of_ble_eq_true rfl) ?_
        exact gl_I hr
      have hr := g_if0 h8 hr
      refine gb_tblOut (tgt := 160) hqX12_child rfl (by have q0 := gd_ne (z := 2) rfl h2; have q1 := gd_ne (z := 3) rfl h4; have q2 := gd_ne (z := 4) rfl h6; have q3 := gd_ne (z := 5) rfl h8; omega) (by decide) ?_
      refine gb_run 3 (pc2 := 165) (ls2 := [(0, .ref (464)), (1, .int (c)), (2, .int (what)), (3, .int (x3)), (4, .int (x4))]) (st2 := [.int (c), .ref (498)]) (M2 := M) hC hqX12_child rfl ?_
      obtain ⟨j9, ej9, ij9, lj9, hr⟩ := g_ixo hr
      have tj9 := g_t498 j9 lj9
      refine gz_aaload (k0 := 2) (q := 499 + j9) hC hqX12_child rfl (Nat.le_of_ble_eq_true rfl) rfl (Nat.le_of_ble_eq_true rfl) ij9 ej9 tj9.1 ?_
      refine gb_run 1 (pc2 := 167) (ls2 := [(0, .ref (464)), (1, .int (c)), (2, .int (what)), (3, .int (x3)), (4, .int (x4))]) (st2 := [.int (what), .ref (499 + j9)]) (M2 := M) hC hqX12_child rfl ?_
      obtain ⟨j10, ej10, ij10, lj10, hr⟩ := g_ixo hr
      refine gz_iaload hC hqX12_child rfl tj9.2.1 (g_S3 tj9.2.2.1 tj9.2.2.2) ij10 ej10 ?_
      refine gb_iret hqX12_child rfl rfl (Nat.le_of_ble_eq_true rfl) (Nat.le_of_ble_eq_true rfl) ?_
      exact gl_I hr
    ·
      have hr := g_if0 h1 hr
      refine gb_run 6 (pc2 := 77) (ls2 := [(0, .ref (464)), (1, .int (c)), (2, .int (what)), (3, .int (x3)), (4, .int (x4))]) (st2 := [.int ((0 : Int32) + x4), .ref (930), .int (x3)]) (M2 := M) hC hqX12_child rfl ?_
      obtain ⟨j11, ej11, ij11, lj11, hr⟩ := g_ixo hr
      refine gz_iaload hC hqX12_child rfl (Nat.le_of_ble_eq_true rfl) rfl ij11 ej11 ?_
      refine gb_run 1 (pc2 := 79) (ls2 := [(0, .ref (464)), (1, .int (c)), (2, .int (what)), (3, .int (x3)), (4, .int (x4))]) (st2 := [.int (c), .int (M 930 j11), .int (x3)]) (M2 := M) hC hqX12_child rfl ?_
      refine gb_icmp_ne hqX12_child rfl (fun h12 => ?_) (fun h12 => ?_)
      ·
        have hr := g_if0 h12 hr
        refine gb_run 5 (pc2 := 57) (ls2 := [(4, .int (x4 + (1 : Int32))), (3, .int (x3 ||| (0 : Int32))), (0, .ref (464)), (1, .int (c)), (2, .int (what))]) (st2 := []) (M2 := M) hC hqX12_child rfl ?_
        refine gw_pick [2, 3, 4, 1, 0] (ls2 := [(0, .ref (464)), (1, .int (c)), (2, .int (what)), (3, .int (x3 ||| (0 : Int32))), (4, .int (x4 + (1 : Int32)))]) rfl ?_
        exact ih (x3 ||| (0 : Int32)) (x4 + (1 : Int32)) M hr
      ·
        have hr := g_if1 h12 hr
        refine gb_run 8 (pc2 := 57) (ls2 := [(4, .int (x4 + (1 : Int32))), (3, .int (x3 ||| ((1 : Int32) <<< (x4 &&& 31)))), (0, .ref (464)), (1, .int (c)), (2, .int (what))]) (st2 := []) (M2 := M) hC hqX12_child rfl ?_
        refine gw_pick [2, 3, 4, 1, 0] (ls2 := [(0, .ref (464)), (1, .int (c)), (2, .int (what)), (3, .int (x3 ||| ((1 : Int32) <<< (x4 &&& 31)))), (4, .int (x4 + (1 : Int32)))]) rfl ?_
        exact ih (x3 ||| ((1 : Int32) <<< (x4 &&& 31))) (x4 + (1 : Int32)) M hr
def FM_child_J42 (c : Int32) (what : Int32) (y0 : Int32) (M : gM) : Option (Int32 × gM) :=
  (FM_bad y0 (2 : Int32) (1 : Int32) M).bind fun s1 => if s1.1 = (0 : Int32) then (FM_child_L57 c what 1000 (0 : Int32) (0 : Int32) (s1.2)) else (some (0, s1.2))
set_option maxRecDepth 20000 in
theorem c_FM_child_J42 {l : Launch} {C : gC} (hC : g_ctx l C) (c : Int32) (what : Int32) (sz d : Nat) (hd : 3 ≤ d) (R : Int32 × gM) (y0 : Int32) (M : gM) (hr : FM_child_J42 c what y0 M = some R) : GW l C qX12_child d (gQg 956 g_S0 (qI R) sz) gN 0 0 42 [(0, .ref (464)), (1, .int (c)), (2, .int (what))] [.int (y0), .ref (464)] (956, g_S0, M, sz) := by
  unfold FM_child_J42 at hr
  refine gb_run 2 (pc2 := 44) (ls2 := [(0, .ref (464)), (1, .int (c)), (2, .int (what))]) (st2 := [.int (1), .int (2), .int (y0), .ref (464)]) (M2 := M) hC hqX12_child rfl ?_
  obtain ⟨s1, es1, hr⟩ := g_bd hr
  refine gz_cV (z := qX12_bad) (a := 464) (av := [.int (y0), .int (2), .int (1)]) (rest := []) (pl := 1551) hC hqX12_child rfl kX12_bad sX12_bad (by decide +kernel) (c_FM_bad hC y0 (2 : Int32) (1 : Int32)  M sz (d - 1) (by omega) s1 es1) (by omega) ⟨rfl, rfl⟩ rfl (Nat.le_of_ble_eq_true rfl) (Nat.le_of_ble_eq_true rfl) rfl rfl rfl (Nat.le_of_ble_eq_true rfl) ⟨Nat.le_of_ble_eq_true rfl, Nat.le_of_ble_eq_true rfl⟩ (gs_Z fun z2 => ?_)
  refine gb_if_eq hqX12_child rfl (fun h3 => ?_) (fun h3 => ?_)
  ·
    have hr := g_if1 h3 hr
    refine gb_run 4 (pc2 := 57) (ls2 := [(4, .int (0)), (3, .int (0)), (0, .ref (464)), (1, .int (c)), (2, .int (what))]) (st2 := []) (M2 := s1.2) hC hqX12_child rfl ?_
    refine gw_pick [2, 3, 4, 1, 0] (ls2 := [(0, .ref (464)), (1, .int (c)), (2, .int (what)), (3, .int (0)), (4, .int (0))]) rfl ?_
    exact c_FM_child_L57 hC c what sz d (by omega) R 1000 (0 : Int32) (0 : Int32) (s1.2) hr
  ·
    have hr := g_if0 h3 hr
    refine gb_run 1 (pc2 := 51) (ls2 := [(0, .ref (464)), (1, .int (c)), (2, .int (what))]) (st2 := [.int (0)]) (M2 := s1.2) hC hqX12_child rfl ?_
    refine gb_iret hqX12_child rfl rfl (Nat.le_of_ble_eq_true rfl) (Nat.le_of_ble_eq_true rfl) ?_
    exact gl_I hr
def FM_child_J19 (c : Int32) (what : Int32) (y0 : Int32) (M : gM) : Option (Int32 × gM) :=
  (FM_bad y0 (1 : Int32) (0 : Int32) M).bind fun s1 => if s1.1 = (0 : Int32) then (if (FM_in what (0 : Int32) (5 : Int32)) = (0 : Int32) then (FM_child_J42 c what (1 : Int32) (s1.2)) else (FM_child_J42 c what (0 : Int32) (s1.2))) else (some (0, s1.2))
set_option maxRecDepth 20000 in
theorem c_FM_child_J19 {l : Launch} {C : gC} (hC : g_ctx l C) (c : Int32) (what : Int32) (sz d : Nat) (hd : 3 ≤ d) (R : Int32 × gM) (y0 : Int32) (M : gM) (hr : FM_child_J19 c what y0 M = some R) : GW l C qX12_child d (gQg 956 g_S0 (qI R) sz) gN 0 0 19 [(0, .ref (464)), (1, .int (c)), (2, .int (what))] [.int (y0), .ref (464)] (956, g_S0, M, sz) := by
  unfold FM_child_J19 at hr
  refine gb_run 2 (pc2 := 21) (ls2 := [(0, .ref (464)), (1, .int (c)), (2, .int (what))]) (st2 := [.int (0), .int (1), .int (y0), .ref (464)]) (M2 := M) hC hqX12_child rfl ?_
  obtain ⟨s1, es1, hr⟩ := g_bd hr
  refine gz_cV (z := qX12_bad) (a := 464) (av := [.int (y0), .int (1), .int (0)]) (rest := []) (pl := 1551) hC hqX12_child rfl kX12_bad sX12_bad (by decide +kernel) (c_FM_bad hC y0 (1 : Int32) (0 : Int32)  M sz (d - 1) (by omega) s1 es1) (by omega) ⟨rfl, rfl⟩ rfl (Nat.le_of_ble_eq_true rfl) (Nat.le_of_ble_eq_true rfl) rfl rfl rfl (Nat.le_of_ble_eq_true rfl) ⟨Nat.le_of_ble_eq_true rfl, Nat.le_of_ble_eq_true rfl⟩ (gs_Z fun z2 => ?_)
  refine gb_if_ne hqX12_child rfl (fun h3 => ?_) (fun h3 => ?_)
  ·
    have hr := g_if0 h3 hr
    refine gb_run 1 (pc2 := 51) (ls2 := [(0, .ref (464)), (1, .int (c)), (2, .int (what))]) (st2 := [.int (0)]) (M2 := s1.2) hC hqX12_child rfl ?_
    refine gb_iret hqX12_child rfl rfl (Nat.le_of_ble_eq_true rfl) (Nat.le_of_ble_eq_true rfl) ?_
    exact gl_I hr
  ·
    have hr := g_if1 h3 hr
    refine gb_run 4 (pc2 := 31) (ls2 := [(0, .ref (464)), (1, .int (c)), (2, .int (what))]) (st2 := [.int (5), .int (0), .int (what), .ref (464)]) (M2 := s1.2) hC hqX12_child rfl ?_
    refine gz_cS (z := qX12_in) (av := [.int (what), .int (0), .int (5)]) (rest := [.ref (464)]) (pl := 1548) hC hqX12_child rfl kX12_in (by decide +kernel) (c_FM_in hC what (0 : Int32) (5 : Int32)  (s1.2) sz (d - 1) (by omega)) (by omega) ⟨rfl, rfl⟩ rfl rfl (Nat.le_of_ble_eq_true rfl) ⟨Nat.le_of_ble_eq_true rfl, Nat.le_of_ble_eq_true rfl⟩ (gs_Zp fun z5 => ?_)
    refine gb_if_ne hqX12_child rfl (fun h6 => ?_) (fun h6 => ?_)
    ·
      have hr := g_if0 h6 hr
      refine gb_run 1 (pc2 := 42) (ls2 := [(0, .ref (464)), (1, .int (c)), (2, .int (what))]) (st2 := [.int (0), .ref (464)]) (M2 := s1.2) hC hqX12_child rfl ?_
      exact c_FM_child_J42 hC c what sz d (by omega) R (0 : Int32) (s1.2) hr
    ·
      have hr := g_if1 h6 hr
      refine gb_run 2 (pc2 := 42) (ls2 := [(0, .ref (464)), (1, .int (c)), (2, .int (what))]) (st2 := [.int (1), .ref (464)]) (M2 := s1.2) hC hqX12_child rfl ?_
      exact c_FM_child_J42 hC c what sz d (by omega) R (1 : Int32) (s1.2) hr
def FM_child (c : Int32) (what : Int32) (M : gM) : Option (Int32 × gM) :=
  if (FM_isChild c (g_set M 464 0 (0 : Int32))) = (0 : Int32) then (FM_child_J19 c what (1 : Int32) (g_set M 464 0 (0 : Int32))) else (FM_child_J19 c what (0 : Int32) (g_set M 464 0 (0 : Int32)))
set_option maxRecDepth 20000 in
theorem c_FM_child {l : Launch} {C : gC} (hC : g_ctx l C) (c : Int32) (what : Int32)  (M : gM) (sz d : Nat) (hd : 3 ≤ d) (R : Int32 × gM) (hr : FM_child c what M = some R) : gPg l C qX12_child d [.ref (464), .int (c), .int (what)] 956 g_S0 M sz (qI R) := by
  refine gPg.of (ls := [(0, .ref (464)), (1, .int (c)), (2, .int (what))]) (by decide +kernel) (Nat.le_of_ble_eq_true rfl) rfl ?_
  unfold FM_child at hr
  refine gb_run 6 (pc2 := 8) (ls2 := [(0, .ref (464)), (1, .int (c)), (2, .int (what))]) (st2 := [.int (c), .ref (464), .ref (464)]) (M2 := g_set M 464 0 (0 : Int32)) hC hqX12_child rfl ?_
  refine gz_cV (z := qX12_isChild) (a := 464) (av := [.int (c)]) (rest := [.ref (464)]) (pl := 1740) hC hqX12_child rfl kX12_isChild sX12_isChild (by decide +kernel) (c_FM_isChild hC c  (g_set M 464 0 (0 : Int32)) sz (d - 1) (by omega)) (by omega) ⟨rfl, rfl⟩ rfl (Nat.le_of_ble_eq_true rfl) (Nat.le_of_ble_eq_true rfl) rfl rfl rfl (Nat.le_of_ble_eq_true rfl) ⟨Nat.le_of_ble_eq_true rfl, Nat.le_of_ble_eq_true rfl⟩ (gs_Zp fun z2 => ?_)
  refine gb_if_ne hqX12_child rfl (fun h3 => ?_) (fun h3 => ?_)
  ·
    have hr := g_if0 h3 hr
    refine gb_run 1 (pc2 := 19) (ls2 := [(0, .ref (464)), (1, .int (c)), (2, .int (what))]) (st2 := [.int (0), .ref (464)]) (M2 := g_set M 464 0 (0 : Int32)) hC hqX12_child rfl ?_
    exact c_FM_child_J19 hC c what sz d (by omega) R (0 : Int32) (g_set M 464 0 (0 : Int32)) hr
  ·
    have hr := g_if1 h3 hr
    refine gb_run 2 (pc2 := 19) (ls2 := [(0, .ref (464)), (1, .int (c)), (2, .int (what))]) (st2 := [.int (1), .ref (464)]) (M2 := g_set M 464 0 (0 : Int32)) hC hqX12_child rfl ?_
    exact c_FM_child_J19 hC c what sz d (by omega) R (1 : Int32) (g_set M 464 0 (0 : Int32)) hr
def FM_hoop_J42 (h : Int32) (what : Int32) (y0 : Int32) (M : gM) : Option (Int32 × gM) :=
  (FM_bad y0 (2 : Int32) (1 : Int32) M).bind fun s1 => if s1.1 = (0 : Int32) then (if what = (0 : Int32) then (g_ix h 8 fun j8 => some ((s1.2) 470 j8, s1.2)) else (if what = (1 : Int32) then (g_ix ((0 : Int32) + h) 48 fun j7 => some ((s1.2) 930 j7, s1.2)) else (g_ix ((32 : Int32) + h) 48 fun j6 => some ((s1.2) 930 j6, s1.2)))) else (some (0, s1.2))
set_option maxRecDepth 20000 in
theorem c_FM_hoop_J42 {l : Launch} {C : gC} (hC : g_ctx l C) (h : Int32) (what : Int32) (sz d : Nat) (hd : 3 ≤ d) (R : Int32 × gM) (y0 : Int32) (M : gM) (hr : FM_hoop_J42 h what y0 M = some R) : GW l C qX12_hoop d (gQg 956 g_S0 (qI R) sz) gN 0 0 42 [(0, .ref (464)), (1, .int (h)), (2, .int (what))] [.int (y0), .ref (464)] (956, g_S0, M, sz) := by
  unfold FM_hoop_J42 at hr
  refine gb_run 2 (pc2 := 44) (ls2 := [(0, .ref (464)), (1, .int (h)), (2, .int (what))]) (st2 := [.int (1), .int (2), .int (y0), .ref (464)]) (M2 := M) hC hqX12_hoop rfl ?_
  obtain ⟨s1, es1, hr⟩ := g_bd hr
  refine gz_cV (z := qX12_bad) (a := 464) (av := [.int (y0), .int (2), .int (1)]) (rest := []) (pl := 1551) hC hqX12_hoop rfl kX12_bad sX12_bad (by decide +kernel) (c_FM_bad hC y0 (2 : Int32) (1 : Int32)  M sz (d - 1) (by omega) s1 es1) (by omega) ⟨rfl, rfl⟩ rfl (Nat.le_of_ble_eq_true rfl) (Nat.le_of_ble_eq_true rfl) rfl rfl rfl (Nat.le_of_ble_eq_true rfl) ⟨Nat.le_of_ble_eq_true rfl, Nat.le_of_ble_eq_true rfl⟩ (gs_Z fun z2 => ?_)
  refine gb_if_eq hqX12_hoop rfl (fun h3 => ?_) (fun h3 => ?_)
  ·
    have hr := g_if1 h3 hr
    refine gb_run 1 (pc2 := 53) (ls2 := [(0, .ref (464)), (1, .int (h)), (2, .int (what))]) (st2 := [.int (what)]) (M2 := s1.2) hC hqX12_hoop rfl ?_
    refine gb_if_ne hqX12_hoop rfl (fun h4 => ?_) (fun h4 => ?_)
    ·
      have hr := g_if0 h4 hr
      refine gb_run 4 (pc2 := 71) (ls2 := [(0, .ref (464)), (1, .int (h)), (2, .int (what))]) (st2 := [.int (1), .int (what), .ref (930)]) (M2 := s1.2) hC hqX12_hoop rfl ?_
      refine gb_icmp_ne hqX12_hoop rfl (fun h5 => ?_) (fun h5 => ?_)
      ·
        have hr := g_if0 h5 hr
        refine gb_run 3 (pc2 := 82) (ls2 := [(0, .ref (464)), (1, .int (h)), (2, .int (what))]) (st2 := [.int ((32 : Int32) + h), .ref (930)]) (M2 := s1.2) hC hqX12_hoop rfl ?_
        obtain ⟨j6, ej6, ij6, lj6, hr⟩ := g_ixo hr
        refine gz_iaload hC hqX12_hoop rfl (Nat.le_of_ble_eq_true rfl) rfl ij6 ej6 ?_
        refine gb_iret hqX12_hoop rfl rfl (Nat.le_of_ble_eq_true rfl) (Nat.le_of_ble_eq_true rfl) ?_
        exact gl_I hr
      ·
        have hr := g_if1 h5 hr
        refine gb_run 4 (pc2 := 82) (ls2 := [(0, .ref (464)), (1, .int (h)), (2, .int (what))]) (st2 := [.int ((0 : Int32) + h), .ref (930)]) (M2 := s1.2) hC hqX12_hoop rfl ?_
        obtain ⟨j7, ej7, ij7, lj7, hr⟩ := g_ixo hr
        refine gz_iaload hC hqX12_hoop rfl (Nat.le_of_ble_eq_true rfl) rfl ij7 ej7 ?_
        refine gb_iret hqX12_hoop rfl rfl (Nat.le_of_ble_eq_true rfl) (Nat.le_of_ble_eq_true rfl) ?_
        exact gl_I hr
    ·
      have hr := g_if1 h4 hr
      refine gb_run 3 (pc2 := 61) (ls2 := [(0, .ref (464)), (1, .int (h)), (2, .int (what))]) (st2 := [.int (h), .ref (470)]) (M2 := s1.2) hC hqX12_hoop rfl ?_
      obtain ⟨j8, ej8, ij8, lj8, hr⟩ := g_ixo hr
      refine gz_iaload hC hqX12_hoop rfl (Nat.le_of_ble_eq_true rfl) rfl ij8 ej8 ?_
      refine gb_run 1 (pc2 := 83) (ls2 := [(0, .ref (464)), (1, .int (h)), (2, .int (what))]) (st2 := [.int ((s1.2) 470 j8)]) (M2 := s1.2) hC hqX12_hoop rfl ?_
      refine gb_iret hqX12_hoop rfl rfl (Nat.le_of_ble_eq_true rfl) (Nat.le_of_ble_eq_true rfl) ?_
      exact gl_I hr
  ·
    have hr := g_if0 h3 hr
    refine gb_run 1 (pc2 := 51) (ls2 := [(0, .ref (464)), (1, .int (h)), (2, .int (what))]) (st2 := [.int (0)]) (M2 := s1.2) hC hqX12_hoop rfl ?_
    refine gb_iret hqX12_hoop rfl rfl (Nat.le_of_ble_eq_true rfl) (Nat.le_of_ble_eq_true rfl) ?_
    exact gl_I hr
def FM_hoop_J19 (h : Int32) (what : Int32) (y0 : Int32) (M : gM) : Option (Int32 × gM) :=
  (FM_bad y0 (1 : Int32) (0 : Int32) M).bind fun s1 => if s1.1 = (0 : Int32) then (if (FM_in what (0 : Int32) (2 : Int32)) = (0 : Int32) then (FM_hoop_J42 h what (1 : Int32) (s1.2)) else (FM_hoop_J42 h what (0 : Int32) (s1.2))) else (some (0, s1.2))
set_option maxRecDepth 20000 in
theorem c_FM_hoop_J19 {l : Launch} {C : gC} (hC : g_ctx l C) (h : Int32) (what : Int32) (sz d : Nat) (hd : 3 ≤ d) (R : Int32 × gM) (y0 : Int32) (M : gM) (hr : FM_hoop_J19 h what y0 M = some R) : GW l C qX12_hoop d (gQg 956 g_S0 (qI R) sz) gN 0 0 19 [(0, .ref (464)), (1, .int (h)), (2, .int (what))] [.int (y0), .ref (464)] (956, g_S0, M, sz) := by
  unfold FM_hoop_J19 at hr
  refine gb_run 2 (pc2 := 21) (ls2 := [(0, .ref (464)), (1, .int (h)), (2, .int (what))]) (st2 := [.int (0), .int (1), .int (y0), .ref (464)]) (M2 := M) hC hqX12_hoop rfl ?_
  obtain ⟨s1, es1, hr⟩ := g_bd hr
  refine gz_cV (z := qX12_bad) (a := 464) (av := [.int (y0), .int (1), .int (0)]) (rest := []) (pl := 1551) hC hqX12_hoop rfl kX12_bad sX12_bad (by decide +kernel) (c_FM_bad hC y0 (1 : Int32) (0 : Int32)  M sz (d - 1) (by omega) s1 es1) (by omega) ⟨rfl, rfl⟩ rfl (Nat.le_of_ble_eq_true rfl) (Nat.le_of_ble_eq_true rfl) rfl rfl rfl (Nat.le_of_ble_eq_true rfl) ⟨Nat.le_of_ble_eq_true rfl, Nat.le_of_ble_eq_true rfl⟩ (gs_Z fun z2 => ?_)
  refine gb_if_ne hqX12_hoop rfl (fun h3 => ?_) (fun h3 => ?_)
  ·
    have hr := g_if0 h3 hr
    refine gb_run 1 (pc2 := 51) (ls2 := [(0, .ref (464)), (1, .int (h)), (2, .int (what))]) (st2 := [.int (0)]) (M2 := s1.2) hC hqX12_hoop rfl ?_
    refine gb_iret hqX12_hoop rfl rfl (Nat.le_of_ble_eq_true rfl) (Nat.le_of_ble_eq_true rfl) ?_
    exact gl_I hr
  ·
    have hr := g_if1 h3 hr
    refine gb_run 4 (pc2 := 31) (ls2 := [(0, .ref (464)), (1, .int (h)), (2, .int (what))]) (st2 := [.int (2), .int (0), .int (what), .ref (464)]) (M2 := s1.2) hC hqX12_hoop rfl ?_
    refine gz_cS (z := qX12_in) (av := [.int (what), .int (0), .int (2)]) (rest := [.ref (464)]) (pl := 1548) hC hqX12_hoop rfl kX12_in (by decide +kernel) (c_FM_in hC what (0 : Int32) (2 : Int32)  (s1.2) sz (d - 1) (by omega)) (by omega) ⟨rfl, rfl⟩ rfl rfl (Nat.le_of_ble_eq_true rfl) ⟨Nat.le_of_ble_eq_true rfl, Nat.le_of_ble_eq_true rfl⟩ (gs_Zp fun z5 => ?_)
    refine gb_if_ne hqX12_hoop rfl (fun h6 => ?_) (fun h6 => ?_)
    ·
      have hr := g_if0 h6 hr
      refine gb_run 1 (pc2 := 42) (ls2 := [(0, .ref (464)), (1, .int (h)), (2, .int (what))]) (st2 := [.int (0), .ref (464)]) (M2 := s1.2) hC hqX12_hoop rfl ?_
      exact c_FM_hoop_J42 hC h what sz d (by omega) R (0 : Int32) (s1.2) hr
    ·
      have hr := g_if1 h6 hr
      refine gb_run 2 (pc2 := 42) (ls2 := [(0, .ref (464)), (1, .int (h)), (2, .int (what))]) (st2 := [.int (1), .ref (464)]) (M2 := s1.2) hC hqX12_hoop rfl ?_
      exact c_FM_hoop_J42 hC h what sz d (by omega) R (1 : Int32) (s1.2) hr
def FM_hoop (h : Int32) (what : Int32) (M : gM) : Option (Int32 × gM) :=
  if (FM_isHoop h (g_set M 464 0 (0 : Int32))) = (0 : Int32) then (FM_hoop_J19 h what (1 : Int32) (g_set M 464 0 (0 : Int32))) else (FM_hoop_J19 h what (0 : Int32) (g_set M 464 0 (0 : Int32)))
set_option maxRecDepth 20000 in
theorem c_FM_hoop {l : Launch} {C : gC} (hC : g_ctx l C) (h : Int32) (what : Int32)  (M : gM) (sz d : Nat) (hd : 3 ≤ d) (R : Int32 × gM) (hr : FM_hoop h what M = some R) : gPg l C qX12_hoop d [.ref (464), .int (h), .int (what)] 956 g_S0 M sz (qI R) := by
  refine gPg.of (ls := [(0, .ref (464)), (1, .int (h)), (2, .int (what))]) (by decide +kernel) (Nat.le_of_ble_eq_true rfl) rfl ?_
  unfold FM_hoop at hr
  refine gb_run 6 (pc2 := 8) (ls2 := [(0, .ref (464)), (1, .int (h)), (2, .int (what))]) (st2 := [.int (h), .ref (464), .ref (464)]) (M2 := g_set M 464 0 (0 : Int32)) hC hqX12_hoop rfl ?_
  refine gz_cV (z := qX12_isHoop) (a := 464) (av := [.int (h)]) (rest := [.ref (464)]) (pl := 1748) hC hqX12_hoop rfl kX12_isHoop sX12_isHoop (by decide +kernel) (c_FM_isHoop hC h  (g_set M 464 0 (0 : Int32)) sz (d - 1) (by omega)) (by omega) ⟨rfl, rfl⟩ rfl (Nat.le_of_ble_eq_true rfl) (Nat.le_of_ble_eq_true rfl) rfl rfl rfl (Nat.le_of_ble_eq_true rfl) ⟨Nat.le_of_ble_eq_true rfl, Nat.le_of_ble_eq_true rfl⟩ (gs_Zp fun z2 => ?_)
  refine gb_if_ne hqX12_hoop rfl (fun h3 => ?_) (fun h3 => ?_)
  ·
    have hr := g_if0 h3 hr
    refine gb_run 1 (pc2 := 19) (ls2 := [(0, .ref (464)), (1, .int (h)), (2, .int (what))]) (st2 := [.int (0), .ref (464)]) (M2 := g_set M 464 0 (0 : Int32)) hC hqX12_hoop rfl ?_
    exact c_FM_hoop_J19 hC h what sz d (by omega) R (0 : Int32) (g_set M 464 0 (0 : Int32)) hr
  ·
    have hr := g_if1 h3 hr
    refine gb_run 2 (pc2 := 19) (ls2 := [(0, .ref (464)), (1, .int (h)), (2, .int (what))]) (st2 := [.int (1), .ref (464)]) (M2 := g_set M 464 0 (0 : Int32)) hC hqX12_hoop rfl ?_
    exact c_FM_hoop_J19 hC h what sz d (by omega) R (1 : Int32) (g_set M 464 0 (0 : Int32)) hr
def FM_minutes_J35 (w : Int32) (c : Int32) (h : Int32) (y0 : Int32) (M : gM) : Option (Int32 × gM) :=
  (FM_bad y0 (1 : Int32) (0 : Int32) M).bind fun s1 => if s1.1 = (0 : Int32) then ((FM_minutesOf 930 w c h (s1.2)).bind fun s4 => some (s4.1, s4.2)) else (some (0, s1.2))
set_option maxRecDepth 20000 in
theorem c_FM_minutes_J35 {l : Launch} {C : gC} (hC : g_ctx l C) (w : Int32) (c : Int32) (h : Int32) (sz d : Nat) (hd : 6 ≤ d) (R : Int32 × gM) (y0 : Int32) (M : gM) (hr : FM_minutes_J35 w c h y0 M = some R) : GW l C qX12_minutes d (gQg 956 g_S0 (qI R) sz) gN 0 0 35 [(0, .ref (464)), (1, .int (w)), (2, .int (c)), (3, .int (h))] [.int (y0), .ref (464)] (956, g_S0, M, sz) := by
  unfold FM_minutes_J35 at hr
  refine gb_run 2 (pc2 := 37) (ls2 := [(0, .ref (464)), (1, .int (w)), (2, .int (c)), (3, .int (h))]) (st2 := [.int (0), .int (1), .int (y0), .ref (464)]) (M2 := M) hC hqX12_minutes rfl ?_
  obtain ⟨s1, es1, hr⟩ := g_bd hr
  refine gz_cV (z := qX12_bad) (a := 464) (av := [.int (y0), .int (1), .int (0)]) (rest := []) (pl := 1551) hC hqX12_minutes rfl kX12_bad sX12_bad (by decide +kernel) (c_FM_bad hC y0 (1 : Int32) (0 : Int32)  M sz (d - 1) (by omega) s1 es1) (by omega) ⟨rfl, rfl⟩ rfl (Nat.le_of_ble_eq_true rfl) (Nat.le_of_ble_eq_true rfl) rfl rfl rfl (Nat.le_of_ble_eq_true rfl) ⟨Nat.le_of_ble_eq_true rfl, Nat.le_of_ble_eq_true rfl⟩ (gs_Z fun z2 => ?_)
  refine gb_if_eq hqX12_minutes rfl (fun h3 => ?_) (fun h3 => ?_)
  ·
    have hr := g_if1 h3 hr
    refine gb_run 6 (pc2 := 53) (ls2 := [(0, .ref (464)), (1, .int (w)), (2, .int (c)), (3, .int (h))]) (st2 := [.int (h), .int (c), .int (w), .ref (930), .ref (464)]) (M2 := s1.2) hC hqX12_minutes rfl ?_
    obtain ⟨s4, es4, hr⟩ := g_bd hr
    refine gz_cV (z := qX12_minutesOf) (a := 464) (av := [.ref (930), .int (w), .int (c), .int (h)]) (rest := []) (pl := 1691) hC hqX12_minutes rfl kX12_minutesOf sX12_minutesOf (by decide +kernel) (c_FM_minutesOf hC 930 w c h (by decide +kernel) (s1.2) sz (d - 1) (by omega) s4 es4) (by omega) ⟨rfl, rfl⟩ rfl (Nat.le_of_ble_eq_true rfl) (Nat.le_of_ble_eq_true rfl) rfl rfl rfl (Nat.le_of_ble_eq_true rfl) ⟨Nat.le_of_ble_eq_true rfl, Nat.le_of_ble_eq_true rfl⟩ (gs_I ?_)
    refine gb_iret hqX12_minutes rfl rfl (Nat.le_of_ble_eq_true rfl) (Nat.le_of_ble_eq_true rfl) ?_
    exact gl_I hr
  ·
    have hr := g_if0 h3 hr
    refine gb_run 1 (pc2 := 44) (ls2 := [(0, .ref (464)), (1, .int (w)), (2, .int (c)), (3, .int (h))]) (st2 := [.int (0)]) (M2 := s1.2) hC hqX12_minutes rfl ?_
    refine gb_iret hqX12_minutes rfl rfl (Nat.le_of_ble_eq_true rfl) (Nat.le_of_ble_eq_true rfl) ?_
    exact gl_I hr
def FM_minutes_J30 (w : Int32) (c : Int32) (h : Int32) (M : gM) : Option (Int32 × gM) :=
  FM_minutes_J35 w c h (1 : Int32) M
set_option maxRecDepth 20000 in
theorem c_FM_minutes_J30 {l : Launch} {C : gC} (hC : g_ctx l C) (w : Int32) (c : Int32) (h : Int32) (sz d : Nat) (hd : 6 ≤ d) (R : Int32 × gM) (M : gM) (hr : FM_minutes_J30 w c h M = some R) : GW l C qX12_minutes d (gQg 956 g_S0 (qI R) sz) gN 0 0 30 [(0, .ref (464)), (1, .int (w)), (2, .int (c)), (3, .int (h))] [.ref (464)] (956, g_S0, M, sz) := by
  unfold FM_minutes_J30 at hr
  refine gb_run 2 (pc2 := 35) (ls2 := [(0, .ref (464)), (1, .int (w)), (2, .int (c)), (3, .int (h))]) (st2 := [.int (1), .ref (464)]) (M2 := M) hC hqX12_minutes rfl ?_
  exact c_FM_minutes_J35 hC w c h sz d (by omega) R (1 : Int32) M hr
def FM_minutes (w : Int32) (c : Int32) (h : Int32) (M : gM) : Option (Int32 × gM) :=
  if (FM_isWalk w (g_set M 464 0 (0 : Int32))) = (0 : Int32) then (FM_minutes_J30 w c h (g_set M 464 0 (0 : Int32))) else (if (FM_isChild c (g_set M 464 0 (0 : Int32))) = (0 : Int32) then (FM_minutes_J30 w c h (g_set M 464 0 (0 : Int32))) else (if (FM_isHoop h (g_set M 464 0 (0 : Int32))) = (0 : Int32) then (FM_minutes_J30 w c h (g_set M 464 0 (0 : Int32))) else (FM_minutes_J35 w c h (0 : Int32) (g_set M 464 0 (0 : Int32)))))
set_option maxRecDepth 20000 in
theorem c_FM_minutes {l : Launch} {C : gC} (hC : g_ctx l C) (w : Int32) (c : Int32) (h : Int32)  (M : gM) (sz d : Nat) (hd : 6 ≤ d) (R : Int32 × gM) (hr : FM_minutes w c h M = some R) : gPg l C qX12_minutes d [.ref (464), .int (w), .int (c), .int (h)] 956 g_S0 M sz (qI R) := by
  refine gPg.of (ls := [(0, .ref (464)), (1, .int (w)), (2, .int (c)), (3, .int (h))]) (by decide +kernel) (Nat.le_of_ble_eq_true rfl) rfl ?_
  unfold FM_minutes at hr
  refine gb_run 6 (pc2 := 8) (ls2 := [(0, .ref (464)), (1, .int (w)), (2, .int (c)), (3, .int (h))]) (st2 := [.int (w), .ref (464), .ref (464)]) (M2 := g_set M 464 0 (0 : Int32)) hC hqX12_minutes rfl ?_
  refine gz_cV (z := qX12_isWalk) (a := 464) (av := [.int (w)]) (rest := [.ref (464)]) (pl := 1732) hC hqX12_minutes rfl kX12_isWalk sX12_isWalk (by decide +kernel) (c_FM_isWalk hC w  (g_set M 464 0 (0 : Int32)) sz (d - 1) (by omega)) (by omega) ⟨rfl, rfl⟩ rfl (Nat.le_of_ble_eq_true rfl) (Nat.le_of_ble_eq_true rfl) rfl rfl rfl (Nat.le_of_ble_eq_true rfl) ⟨Nat.le_of_ble_eq_true rfl, Nat.le_of_ble_eq_true rfl⟩ (gs_Zp fun z2 => ?_)
  refine gb_if_eq hqX12_minutes rfl (fun h3 => ?_) (fun h3 => ?_)
  ·
    have hr := g_if1 h3 hr
    exact c_FM_minutes_J30 hC w c h sz d (by omega) R (g_set M 464 0 (0 : Int32)) hr
  ·
    have hr := g_if0 h3 hr
    refine gb_run 2 (pc2 := 16) (ls2 := [(0, .ref (464)), (1, .int (w)), (2, .int (c)), (3, .int (h))]) (st2 := [.int (c), .ref (464), .ref (464)]) (M2 := g_set M 464 0 (0 : Int32)) hC hqX12_minutes rfl ?_
    refine gz_cV (z := qX12_isChild) (a := 464) (av := [.int (c)]) (rest := [.ref (464)]) (pl := 1740) hC hqX12_minutes rfl kX12_isChild sX12_isChild (by decide +kernel) (c_FM_isChild hC c  (g_set M 464 0 (0 : Int32)) sz (d - 1) (by omega)) (by omega) ⟨rfl, rfl⟩ rfl (Nat.le_of_ble_eq_true rfl) (Nat.le_of_ble_eq_true rfl) rfl rfl rfl (Nat.le_of_ble_eq_true rfl) ⟨Nat.le_of_ble_eq_true rfl, Nat.le_of_ble_eq_true rfl⟩ (gs_Zp fun z5 => ?_)
    refine gb_if_eq hqX12_minutes rfl (fun h6 => ?_) (fun h6 => ?_)
    ·
      have hr := g_if1 h6 hr
      exact c_FM_minutes_J30 hC w c h sz d (by omega) R (g_set M 464 0 (0 : Int32)) hr
    ·
      have hr := g_if0 h6 hr
      refine gb_run 2 (pc2 := 24) (ls2 := [(0, .ref (464)), (1, .int (w)), (2, .int (c)), (3, .int (h))]) (st2 := [.int (h), .ref (464), .ref (464)]) (M2 := g_set M 464 0 (0 : Int32)) hC hqX12_minutes rfl ?_
      refine gz_cV (z := qX12_isHoop) (a := 464) (av := [.int (h)]) (rest := [.ref (464)]) (pl := 1748) hC hqX12_minutes rfl kX12_isHoop sX12_isHoop (by decide +kernel) (c_FM_isHoop hC h  (g_set M 464 0 (0 : Int32)) sz (d - 1) (by omega)) (by omega) ⟨rfl, rfl⟩ rfl (Nat.le_of_ble_eq_true rfl) (Nat.le_of_ble_eq_true rfl) rfl rfl rfl (Nat.le_of_ble_eq_true rfl) ⟨Nat.le_of_ble_eq_true rfl, Nat.le_of_ble_eq_true rfl⟩ (gs_Zp fun z8 => ?_)
      refine gb_if_ne hqX12_minutes rfl (fun h9 => ?_) (fun h9 => ?_)
      ·
        have hr := g_if0 h9 hr
        refine gb_run 1 (pc2 := 35) (ls2 := [(0, .ref (464)), (1, .int (w)), (2, .int (c)), (3, .int (h))]) (st2 := [.int (0), .ref (464)]) (M2 := g_set M 464 0 (0 : Int32)) hC hqX12_minutes rfl ?_
        exact c_FM_minutes_J35 hC w c h sz d (by omega) R (0 : Int32) (g_set M 464 0 (0 : Int32)) hr
      ·
        have hr := g_if1 h9 hr
        exact c_FM_minutes_J30 hC w c h sz d (by omega) R (g_set M 464 0 (0 : Int32)) hr
def FM_would_J84 (len : Int32) (pace : Int32) (age : Int32) (heavy : Int32) (tired : Int32) (rain : Int32) (bribe : Int32) (y0 : Int32) (M : gM) : Option (Int32 × gM) :=
  (FM_bad y0 (1 : Int32) (1 : Int32) M).bind fun s1 => if s1.1 = (0 : Int32) then (g_let (g_set (s1.2) 848 0 len) fun M4 => g_let (g_set M4 848 1 pace) fun M5 => g_let (g_set M5 848 2 age) fun M6 => g_let (g_set M6 848 3 heavy) fun M7 => g_let (g_set M7 848 4 tired) fun M8 => g_let (g_set M8 848 5 rain) fun M9 => g_let (g_set M9 848 6 (0 : Int32)) fun M10 => g_let (g_set M10 848 7 (0 : Int32)) fun M11 => g_let (g_set M11 848 8 bribe) fun M12 => (FM_byLaw M12).bind fun s13 => some (s13.1, s13.2)) else (some (0, s1.2))
set_option maxRecDepth 20000 in
theorem c_FM_would_J84 {l : Launch} {C : gC} (hC : g_ctx l C) (len : Int32) (pace : Int32) (age : Int32) (heavy : Int32) (tired : Int32) (rain : Int32) (bribe : Int32) (sz d : Nat) (hd : 4 ≤ d) (R : Int32 × gM) (y0 : Int32) (M : gM) (hr : FM_would_J84 len pace age heavy tired rain bribe y0 M = some R) : GW l C qX12_would d (gQg 956 g_S0 (qI R) sz) gN 0 0 84 [(0, .ref (464)), (1, .int (len)), (2, .int (pace)), (3, .int (age)), (4, .int (heavy)), (5, .int (tired)), (6, .int (rain)), (7, .int (bribe))] [.int (y0), .ref (464)] (956, g_S0, M, sz) := by
  unfold FM_would_J84 at hr
  refine gb_run 2 (pc2 := 86) (ls2 := [(0, .ref (464)), (1, .int (len)), (2, .int (pace)), (3, .int (age)), (4, .int (heavy)), (5, .int (tired)), (6, .int (rain)), (7, .int (bribe))]) (st2 := [.int (1), .int (1), .int (y0), .ref (464)]) (M2 := M) hC hqX12_would rfl ?_
  obtain ⟨s1, es1, hr⟩ := g_bd hr
  refine gz_cV (z := qX12_bad) (a := 464) (av := [.int (y0), .int (1), .int (1)]) (rest := []) (pl := 1551) hC hqX12_would rfl kX12_bad sX12_bad (by decide +kernel) (c_FM_bad hC y0 (1 : Int32) (1 : Int32)  M sz (d - 1) (by omega) s1 es1) (by omega) ⟨rfl, rfl⟩ rfl (Nat.le_of_ble_eq_true rfl) (Nat.le_of_ble_eq_true rfl) rfl rfl rfl (Nat.le_of_ble_eq_true rfl) ⟨Nat.le_of_ble_eq_true rfl, Nat.le_of_ble_eq_true rfl⟩ (gs_Z fun z2 => ?_)
  refine gb_if_eq hqX12_would rfl (fun h3 => ?_) (fun h3 => ?_)
  ·
    have hr := g_if1 h3 hr
    refine gb_run 4 (pc2 := 100) (ls2 := [(0, .ref (464)), (1, .int (len)), (2, .int (pace)), (3, .int (age)), (4, .int (heavy)), (5, .int (tired)), (6, .int (rain)), (7, .int (bribe))]) (st2 := [.int (len), .int (0), .ref (848)]) (M2 := s1.2) hC hqX12_would rfl ?_
    refine gb_iastore hC hqX12_would rfl (Nat.le_of_ble_eq_true rfl) rfl (by unfold vp_in; decide) ?_
    rw [show (0 : Int32).toNatClampNeg = 0 from rfl]
    refine g_letP (P := fun M4 => GW l C qX12_would d (gQg 956 g_S0 (qI R) sz) gN 0 0 101 [(0, .ref (464)), (1, .int (len)), (2, .int (pace)), (3, .int (age)), (4, .int (heavy)), (5, .int (tired)), (6, .int (rain)), (7, .int (bribe))] [] (956, g_S0, M4, sz)) hr (fun M4 hr => ?_)
    refine gb_run 4 (pc2 := 107) (ls2 := [(0, .ref (464)), (1, .int (len)), (2, .int (pace)), (3, .int (age)), (4, .int (heavy)), (5, .int (tired)), (6, .int (rain)), (7, .int (bribe))]) (st2 := [.int (pace), .int (1), .ref (848)]) (M2 := M4) hC hqX12_would rfl ?_
    refine gb_iastore hC hqX12_would rfl (Nat.le_of_ble_eq_true rfl) rfl (by unfold vp_in; decide) ?_
    rw [show (1 : Int32).toNatClampNeg = 1 from rfl]
    refine g_letP (P := fun M5 => GW l C qX12_would d (gQg 956 g_S0 (qI R) sz) gN 0 0 108 [(0, .ref (464)), (1, .int (len)), (2, .int (pace)), (3, .int (age)), (4, .int (heavy)), (5, .int (tired)), (6, .int (rain)), (7, .int (bribe))] [] (956, g_S0, M5, sz)) hr (fun M5 hr => ?_)
    refine gb_run 4 (pc2 := 114) (ls2 := [(0, .ref (464)), (1, .int (len)), (2, .int (pace)), (3, .int (age)), (4, .int (heavy)), (5, .int (tired)), (6, .int (rain)), (7, .int (bribe))]) (st2 := [.int (age), .int (2), .ref (848)]) (M2 := M5) hC hqX12_would rfl ?_
    refine gb_iastore hC hqX12_would rfl (Nat.le_of_ble_eq_true rfl) rfl (by unfold vp_in; decide) ?_
    rw [show (2 : Int32).toNatClampNeg = 2 from rfl]
    refine g_letP (P := fun M6 => GW l C qX12_would d (gQg 956 g_S0 (qI R) sz) gN 0 0 115 [(0, .ref (464)), (1, .int (len)), (2, .int (pace)), (3, .int (age)), (4, .int (heavy)), (5, .int (tired)), (6, .int (rain)), (7, .int (bribe))] [] (956, g_S0, M6, sz)) hr (fun M6 hr => ?_)
    refine gb_run 4 (pc2 := 122) (ls2 := [(0, .ref (464)), (1, .int (len)), (2, .int (pace)), (3, .int (age)), (4, .int (heavy)), (5, .int (tired)), (6, .int (rain)), (7, .int (bribe))]) (st2 := [.int (heavy), .int (3), .ref (848)]) (M2 := M6) hC hqX12_would rfl ?_
    refine gb_iastore hC hqX12_would rfl (Nat.le_of_ble_eq_true rfl) rfl (by unfold vp_in; decide) ?_
    rw [show (3 : Int32).toNatClampNeg = 3 from rfl]
    refine g_letP (P := fun M7 => GW l C qX12_would d (gQg 956 g_S0 (qI R) sz) gN 0 0 123 [(0, .ref (464)), (1, .int (len)), (2, .int (pace)), (3, .int (age)), (4, .int (heavy)), (5, .int (tired)), (6, .int (rain)), (7, .int (bribe))] [] (956, g_S0, M7, sz)) hr (fun M7 hr => ?_)
    refine gb_run 4 (pc2 := 130) (ls2 := [(0, .ref (464)), (1, .int (len)), (2, .int (pace)), (3, .int (age)), (4, .int (heavy)), (5, .int (tired)), (6, .int (rain)), (7, .int (bribe))]) (st2 := [.int (tired), .int (4), .ref (848)]) (M2 := M7) hC hqX12_would rfl ?_
    refine gb_iastore hC hqX12_would rfl (Nat.le_of_ble_eq_true rfl) rfl (by unfold vp_in; decide) ?_
    rw [show (4 : Int32).toNatClampNeg = 4 from rfl]
    refine g_letP (P := fun M8 => GW l C qX12_would d (gQg 956 g_S0 (qI R) sz) gN 0 0 131 [(0, .ref (464)), (1, .int (len)), (2, .int (pace)), (3, .int (age)), (4, .int (heavy)), (5, .int (tired)), (6, .int (rain)), (7, .int (bribe))] [] (956, g_S0, M8, sz)) hr (fun M8 hr => ?_)
    refine gb_run 4 (pc2 := 138) (ls2 := [(0, .ref (464)), (1, .int (len)), (2, .int (pace)), (3, .int (age)), (4, .int (heavy)), (5, .int (tired)), (6, .int (rain)), (7, .int (bribe))]) (st2 := [.int (rain), .int (5), .ref (848)]) (M2 := M8) hC hqX12_would rfl ?_
    refine gb_iastore hC hqX12_would rfl (Nat.le_of_ble_eq_true rfl) rfl (by unfold vp_in; decide) ?_
    rw [show (5 : Int32).toNatClampNeg = 5 from rfl]
    refine g_letP (P := fun M9 => GW l C qX12_would d (gQg 956 g_S0 (qI R) sz) gN 0 0 139 [(0, .ref (464)), (1, .int (len)), (2, .int (pace)), (3, .int (age)), (4, .int (heavy)), (5, .int (tired)), (6, .int (rain)), (7, .int (bribe))] [] (956, g_S0, M9, sz)) hr (fun M9 hr => ?_)
    refine gb_run 4 (pc2 := 146) (ls2 := [(0, .ref (464)), (1, .int (len)), (2, .int (pace)), (3, .int (age)), (4, .int (heavy)), (5, .int (tired)), (6, .int (rain)), (7, .int (bribe))]) (st2 := [.int (0), .int (6), .ref (848)]) (M2 := M9) hC hqX12_would rfl ?_
    refine gb_iastore hC hqX12_would rfl (Nat.le_of_ble_eq_true rfl) rfl (by unfold vp_in; decide) ?_
    rw [show (6 : Int32).toNatClampNeg = 6 from rfl]
    refine g_letP (P := fun M10 => GW l C qX12_would d (gQg 956 g_S0 (qI R) sz) gN 0 0 147 [(0, .ref (464)), (1, .int (len)), (2, .int (pace)), (3, .int (age)), (4, .int (heavy)), (5, .int (tired)), (6, .int (rain)), (7, .int (bribe))] [] (956, g_S0, M10, sz)) hr (fun M10 hr => ?_)
    refine gb_run 4 (pc2 := 154) (ls2 := [(0, .ref (464)), (1, .int (len)), (2, .int (pace)), (3, .int (age)), (4, .int (heavy)), (5, .int (tired)), (6, .int (rain)), (7, .int (bribe))]) (st2 := [.int (0), .int (7), .ref (848)]) (M2 := M10) hC hqX12_would rfl ?_
    refine gb_iastore hC hqX12_would rfl (Nat.le_of_ble_eq_true rfl) rfl (by unfold vp_in; decide) ?_
    rw [show (7 : Int32).toNatClampNeg = 7 from rfl]
    refine g_letP (P := fun M11 => GW l C qX12_would d (gQg 956 g_S0 (qI R) sz) gN 0 0 155 [(0, .ref (464)), (1, .int (len)), (2, .int (pace)), (3, .int (age)), (4, .int (heavy)), (5, .int (tired)), (6, .int (rain)), (7, .int (bribe))] [] (956, g_S0, M11, sz)) hr (fun M11 hr => ?_)
    refine gb_run 4 (pc2 := 163) (ls2 := [(0, .ref (464)), (1, .int (len)), (2, .int (pace)), (3, .int (age)), (4, .int (heavy)), (5, .int (tired)), (6, .int (rain)), (7, .int (bribe))]) (st2 := [.int (bribe), .int (8), .ref (848)]) (M2 := M11) hC hqX12_would rfl ?_
    refine gb_iastore hC hqX12_would rfl (Nat.le_of_ble_eq_true rfl) rfl (by unfold vp_in; decide) ?_
    rw [show (8 : Int32).toNatClampNeg = 8 from rfl]
    refine g_letP (P := fun M12 => GW l C qX12_would d (gQg 956 g_S0 (qI R) sz) gN 0 0 164 [(0, .ref (464)), (1, .int (len)), (2, .int (pace)), (3, .int (age)), (4, .int (heavy)), (5, .int (tired)), (6, .int (rain)), (7, .int (bribe))] [] (956, g_S0, M12, sz)) hr (fun M12 hr => ?_)
    refine gb_run 1 (pc2 := 165) (ls2 := [(0, .ref (464)), (1, .int (len)), (2, .int (pace)), (3, .int (age)), (4, .int (heavy)), (5, .int (tired)), (6, .int (rain)), (7, .int (bribe))]) (st2 := [.ref (464)]) (M2 := M12) hC hqX12_would rfl ?_
    obtain ⟨s13, es13, hr⟩ := g_bd hr
    refine gz_cV (z := qX12_byLaw) (a := 464) (av := []) (rest := []) (pl := 1699) hC hqX12_would rfl kX12_byLaw sX12_byLaw (by decide +kernel) (c_FM_byLaw hC   M12 sz (d - 1) (by omega) s13 es13) (by omega) ⟨rfl, rfl⟩ rfl (Nat.le_of_ble_eq_true rfl) (Nat.le_of_ble_eq_true rfl) rfl rfl rfl (Nat.le_of_ble_eq_true rfl) ⟨Nat.le_of_ble_eq_true rfl, Nat.le_of_ble_eq_true rfl⟩ (gs_I ?_)
    refine gb_iret hqX12_would rfl rfl (Nat.le_of_ble_eq_true rfl) (Nat.le_of_ble_eq_true rfl) ?_
    exact gl_I hr
  ·
    have hr := g_if0 h3 hr
    refine gb_run 1 (pc2 := 93) (ls2 := [(0, .ref (464)), (1, .int (len)), (2, .int (pace)), (3, .int (age)), (4, .int (heavy)), (5, .int (tired)), (6, .int (rain)), (7, .int (bribe))]) (st2 := [.int (0)]) (M2 := s1.2) hC hqX12_would rfl ?_
    refine gb_iret hqX12_would rfl rfl (Nat.le_of_ble_eq_true rfl) (Nat.le_of_ble_eq_true rfl) ?_
    exact gl_I hr
def FM_would_J79 (len : Int32) (pace : Int32) (age : Int32) (heavy : Int32) (tired : Int32) (rain : Int32) (bribe : Int32) (M : gM) : Option (Int32 × gM) :=
  FM_would_J84 len pace age heavy tired rain bribe (1 : Int32) M
set_option maxRecDepth 20000 in
theorem c_FM_would_J79 {l : Launch} {C : gC} (hC : g_ctx l C) (len : Int32) (pace : Int32) (age : Int32) (heavy : Int32) (tired : Int32) (rain : Int32) (bribe : Int32) (sz d : Nat) (hd : 4 ≤ d) (R : Int32 × gM) (M : gM) (hr : FM_would_J79 len pace age heavy tired rain bribe M = some R) : GW l C qX12_would d (gQg 956 g_S0 (qI R) sz) gN 0 0 79 [(0, .ref (464)), (1, .int (len)), (2, .int (pace)), (3, .int (age)), (4, .int (heavy)), (5, .int (tired)), (6, .int (rain)), (7, .int (bribe))] [.ref (464)] (956, g_S0, M, sz) := by
  unfold FM_would_J79 at hr
  refine gb_run 2 (pc2 := 84) (ls2 := [(0, .ref (464)), (1, .int (len)), (2, .int (pace)), (3, .int (age)), (4, .int (heavy)), (5, .int (tired)), (6, .int (rain)), (7, .int (bribe))]) (st2 := [.int (1), .ref (464)]) (M2 := M) hC hqX12_would rfl ?_
  exact c_FM_would_J84 hC len pace age heavy tired rain bribe sz d (by omega) R (1 : Int32) M hr
def FM_would (len : Int32) (pace : Int32) (age : Int32) (heavy : Int32) (tired : Int32) (rain : Int32) (bribe : Int32) (M : gM) : Option (Int32 × gM) :=
  if (FM_in len (1 : Int32) (20 : Int32)) = (0 : Int32) then (FM_would_J79 len pace age heavy tired rain bribe (g_set M 464 0 (0 : Int32))) else (if (FM_in pace (1 : Int32) (9 : Int32)) = (0 : Int32) then (FM_would_J79 len pace age heavy tired rain bribe (g_set M 464 0 (0 : Int32))) else (if (FM_in age (3 : Int32) (14 : Int32)) = (0 : Int32) then (FM_would_J79 len pace age heavy tired rain bribe (g_set M 464 0 (0 : Int32))) else (if (FM_in heavy (1 : Int32) (9 : Int32)) = (0 : Int32) then (FM_would_J79 len pace age heavy tired rain bribe (g_set M 464 0 (0 : Int32))) else (if (FM_in tired (0 : Int32) (99 : Int32)) = (0 : Int32) then (FM_would_J79 len pace age heavy tired rain bribe (g_set M 464 0 (0 : Int32))) else (if (FM_in rain (0 : Int32) (1 : Int32)) = (0 : Int32) then (FM_would_J79 len pace age heavy tired rain bribe (g_set M 464 0 (0 : Int32))) else (if (FM_in bribe (0 : Int32) (99 : Int32)) = (0 : Int32) then (FM_would_J79 len pace age heavy tired rain bribe (g_set M 464 0 (0 : Int32))) else (FM_would_J84 len pace age heavy tired rain bribe (0 : Int32) (g_set M 464 0 (0 : Int32)))))))))
set_option maxRecDepth 20000 in
theorem c_FM_would {l : Launch} {C : gC} (hC : g_ctx l C) (len : Int32) (pace : Int32) (age : Int32) (heavy : Int32) (tired : Int32) (rain : Int32) (bribe : Int32)  (M : gM) (sz d : Nat) (hd : 4 ≤ d) (R : Int32 × gM) (hr : FM_would len pace age heavy tired rain bribe M = some R) : gPg l C qX12_would d [.ref (464), .int (len), .int (pace), .int (age), .int (heavy), .int (tired), .int (rain), .int (bribe)] 956 g_S0 M sz (qI R) := by
  refine gPg.of (ls := [(0, .ref (464)), (1, .int (len)), (2, .int (pace)), (3, .int (age)), (4, .int (heavy)), (5, .int (tired)), (6, .int (rain)), (7, .int (bribe))]) (by decide +kernel) (Nat.le_of_ble_eq_true rfl) rfl ?_
  unfold FM_would at hr
  refine gb_run 7 (pc2 := 10) (ls2 := [(0, .ref (464)), (1, .int (len)), (2, .int (pace)), (3, .int (age)), (4, .int (heavy)), (5, .int (tired)), (6, .int (rain)), (7, .int (bribe))]) (st2 := [.int (20), .int (1), .int (len), .ref (464)]) (M2 := g_set M 464 0 (0 : Int32)) hC hqX12_would rfl ?_
  refine gz_cS (z := qX12_in) (av := [.int (len), .int (1), .int (20)]) (rest := [.ref (464)]) (pl := 1548) hC hqX12_would rfl kX12_in (by decide +kernel) (c_FM_in hC len (1 : Int32) (20 : Int32)  (g_set M 464 0 (0 : Int32)) sz (d - 1) (by omega)) (by omega) ⟨rfl, rfl⟩ rfl rfl (Nat.le_of_ble_eq_true rfl) ⟨Nat.le_of_ble_eq_true rfl, Nat.le_of_ble_eq_true rfl⟩ (gs_Zp fun z2 => ?_)
  refine gb_if_eq hqX12_would rfl (fun h3 => ?_) (fun h3 => ?_)
  ·
    have hr := g_if1 h3 hr
    exact c_FM_would_J79 hC len pace age heavy tired rain bribe sz d (by omega) R (g_set M 464 0 (0 : Int32)) hr
  ·
    have hr := g_if0 h3 hr
    refine gb_run 3 (pc2 := 20) (ls2 := [(0, .ref (464)), (1, .int (len)), (2, .int (pace)), (3, .int (age)), (4, .int (heavy)), (5, .int (tired)), (6, .int (rain)), (7, .int (bribe))]) (st2 := [.int (9), .int (1), .int (pace), .ref (464)]) (M2 := g_set M 464 0 (0 : Int32)) hC hqX12_would rfl ?_
    refine gz_cS (z := qX12_in) (av := [.int (pace), .int (1), .int (9)]) (rest := [.ref (464)]) (pl := 1548) hC hqX12_would rfl kX12_in (by decide +kernel) (c_FM_in hC pace (1 : Int32) (9 : Int32)  (g_set M 464 0 (0 : Int32)) sz (d - 1) (by omega)) (by omega) ⟨rfl, rfl⟩ rfl rfl (Nat.le_of_ble_eq_true rfl) ⟨Nat.le_of_ble_eq_true rfl, Nat.le_of_ble_eq_true rfl⟩ (gs_Zp fun z5 => ?_)
    refine gb_if_eq hqX12_would rfl (fun h6 => ?_) (fun h6 => ?_)
    ·
      have hr := g_if1 h6 hr
      exact c_FM_would_J79 hC len pace age heavy tired rain bribe sz d (by omega) R (g_set M 464 0 (0 : Int32)) hr
    ·
      have hr := g_if0 h6 hr
      refine gb_run 3 (pc2 := 30) (ls2 := [(0, .ref (464)), (1, .int (len)), (2, .int (pace)), (3, .int (age)), (4, .int (heavy)), (5, .int (tired)), (6, .int (rain)), (7, .int (bribe))]) (st2 := [.int (14), .int (3), .int (age), .ref (464)]) (M2 := g_set M 464 0 (0 : Int32)) hC hqX12_would rfl ?_
      refine gz_cS (z := qX12_in) (av := [.int (age), .int (3), .int (14)]) (rest := [.ref (464)]) (pl := 1548) hC hqX12_would rfl kX12_in (by decide +kernel) (c_FM_in hC age (3 : Int32) (14 : Int32)  (g_set M 464 0 (0 : Int32)) sz (d - 1) (by omega)) (by omega) ⟨rfl, rfl⟩ rfl rfl (Nat.le_of_ble_eq_true rfl) ⟨Nat.le_of_ble_eq_true rfl, Nat.le_of_ble_eq_true rfl⟩ (gs_Zp fun z8 => ?_)
      refine gb_if_eq hqX12_would rfl (fun h9 => ?_) (fun h9 => ?_)
      ·
        have hr := g_if1 h9 hr
        exact c_FM_would_J79 hC len pace age heavy tired rain bribe sz d (by omega) R (g_set M 464 0 (0 : Int32)) hr
      ·
        have hr := g_if0 h9 hr
        refine gb_run 3 (pc2 := 41) (ls2 := [(0, .ref (464)), (1, .int (len)), (2, .int (pace)), (3, .int (age)), (4, .int (heavy)), (5, .int (tired)), (6, .int (rain)), (7, .int (bribe))]) (st2 := [.int (9), .int (1), .int (heavy), .ref (464)]) (M2 := g_set M 464 0 (0 : Int32)) hC hqX12_would rfl ?_
        refine gz_cS (z := qX12_in) (av := [.int (heavy), .int (1), .int (9)]) (rest := [.ref (464)]) (pl := 1548) hC hqX12_would rfl kX12_in (by decide +kernel) (c_FM_in hC heavy (1 : Int32) (9 : Int32)  (g_set M 464 0 (0 : Int32)) sz (d - 1) (by omega)) (by omega) ⟨rfl, rfl⟩ rfl rfl (Nat.le_of_ble_eq_true rfl) ⟨Nat.le_of_ble_eq_true rfl, Nat.le_of_ble_eq_true rfl⟩ (gs_Zp fun z11 => ?_)
        refine gb_if_eq hqX12_would rfl (fun h12 => ?_) (fun h12 => ?_)
        ·
          have hr := g_if1 h12 hr
          exact c_FM_would_J79 hC len pace age heavy tired rain bribe sz d (by omega) R (g_set M 464 0 (0 : Int32)) hr
        ·
          have hr := g_if0 h12 hr
          refine gb_run 3 (pc2 := 52) (ls2 := [(0, .ref (464)), (1, .int (len)), (2, .int (pace)), (3, .int (age)), (4, .int (heavy)), (5, .int (tired)), (6, .int (rain)), (7, .int (bribe))]) (st2 := [.int (99), .int (0), .int (tired), .ref (464)]) (M2 := g_set M 464 0 (0 : Int32)) hC hqX12_would rfl ?_
          refine gz_cS (z := qX12_in) (av := [.int (tired), .int (0), .int (99)]) (rest := [.ref (464)]) (pl := 1548) hC hqX12_would rfl kX12_in (by decide +kernel) (c_FM_in hC tired (0 : Int32) (99 : Int32)  (g_set M 464 0 (0 : Int32)) sz (d - 1) (by omega)) (by omega) ⟨rfl, rfl⟩ rfl rfl (Nat.le_of_ble_eq_true rfl) ⟨Nat.le_of_ble_eq_true rfl, Nat.le_of_ble_eq_true rfl⟩ (gs_Zp fun z14 => ?_)
          refine gb_if_eq hqX12_would rfl (fun h15 => ?_) (fun h15 => ?_)
          ·
            have hr := g_if1 h15 hr
            exact c_FM_would_J79 hC len pace age heavy tired rain bribe sz d (by omega) R (g_set M 464 0 (0 : Int32)) hr
          ·
            have hr := g_if0 h15 hr
            refine gb_run 3 (pc2 := 62) (ls2 := [(0, .ref (464)), (1, .int (len)), (2, .int (pace)), (3, .int (age)), (4, .int (heavy)), (5, .int (tired)), (6, .int (rain)), (7, .int (bribe))]) (st2 := [.int (1), .int (0), .int (rain), .ref (464)]) (M2 := g_set M 464 0 (0 : Int32)) hC hqX12_would rfl ?_
            refine gz_cS (z := qX12_in) (av := [.int (rain), .int (0), .int (1)]) (rest := [.ref (464)]) (pl := 1548) hC hqX12_would rfl kX12_in (by decide +kernel) (c_FM_in hC rain (0 : Int32) (1 : Int32)  (g_set M 464 0 (0 : Int32)) sz (d - 1) (by omega)) (by omega) ⟨rfl, rfl⟩ rfl rfl (Nat.le_of_ble_eq_true rfl) ⟨Nat.le_of_ble_eq_true rfl, Nat.le_of_ble_eq_true rfl⟩ (gs_Zp fun z17 => ?_)
            refine gb_if_eq hqX12_would rfl (fun h18 => ?_) (fun h18 => ?_)
            ·
              have hr := g_if1 h18 hr
              exact c_FM_would_J79 hC len pace age heavy tired rain bribe sz d (by omega) R (g_set M 464 0 (0 : Int32)) hr
            ·
              have hr := g_if0 h18 hr
              refine gb_run 3 (pc2 := 73) (ls2 := [(0, .ref (464)), (1, .int (len)), (2, .int (pace)), (3, .int (age)), (4, .int (heavy)), (5, .int (tired)), (6, .int (rain)), (7, .int (bribe))]) (st2 := [.int (99), .int (0), .int (bribe), .ref (464)]) (M2 := g_set M 464 0 (0 : Int32)) hC hqX12_would rfl ?_
              refine gz_cS (z := qX12_in) (av := [.int (bribe), .int (0), .int (99)]) (rest := [.ref (464)]) (pl := 1548) hC hqX12_would rfl kX12_in (by decide +kernel) (c_FM_in hC bribe (0 : Int32) (99 : Int32)  (g_set M 464 0 (0 : Int32)) sz (d - 1) (by omega)) (by omega) ⟨rfl, rfl⟩ rfl rfl (Nat.le_of_ble_eq_true rfl) ⟨Nat.le_of_ble_eq_true rfl, Nat.le_of_ble_eq_true rfl⟩ (gs_Zp fun z20 => ?_)
              refine gb_if_ne hqX12_would rfl (fun h21 => ?_) (fun h21 => ?_)
              ·
                have hr := g_if0 h21 hr
                refine gb_run 1 (pc2 := 84) (ls2 := [(0, .ref (464)), (1, .int (len)), (2, .int (pace)), (3, .int (age)), (4, .int (heavy)), (5, .int (tired)), (6, .int (rain)), (7, .int (bribe))]) (st2 := [.int (0), .ref (464)]) (M2 := g_set M 464 0 (0 : Int32)) hC hqX12_would rfl ?_
                exact c_FM_would_J84 hC len pace age heavy tired rain bribe sz d (by omega) R (0 : Int32) (g_set M 464 0 (0 : Int32)) hr
              ·
                have hr := g_if1 h21 hr
                exact c_FM_would_J79 hC len pace age heavy tired rain bribe sz d (by omega) R (g_set M 464 0 (0 : Int32)) hr
def FM_lastsBy_L6 (h : Int32) (c : Int32) (walks : Int32) (tired : Int32) : Nat → Int32 → Int32 → gM → Option (Int32 × gM)
  | 0, _, _, _ => none
  | k + 1, x5, x6, M =>
  if walks ≤ x6 then (some (x5, M)) else (g_ix ((16 : Int32) + c) 48 fun j2 => (FM_minutesBy x6 c h (FM_less (99 : Int32) (tired + x6)) (M 930 45) (M 930 j2) M).bind fun s3 => FM_lastsBy_L6 h c walks tired k (x5 + s3.1) (x6 + (1 : Int32)) (s3.2))
set_option maxRecDepth 20000 in
theorem c_FM_lastsBy_L6 {l : Launch} {C : gC} (hC : g_ctx l C) (h : Int32) (c : Int32) (walks : Int32) (tired : Int32) (sz d : Nat) (hd : 5 ≤ d) (R : Int32 × gM) : ∀ (k : Nat) (x5 : Int32) (x6 : Int32) (M : gM), FM_lastsBy_L6 h c walks tired k x5 x6 M = some R → GW l C qX12_lastsBy d (gQg 956 g_S0 (qI R) sz) gN 0 0 6 [(0, .ref (464)), (1, .int (h)), (2, .int (c)), (3, .int (walks)), (4, .int (tired)), (5, .int (x5)), (6, .int (x6))] [] (956, g_S0, M, sz) := by
  intro k
  induction k with
  | zero => intro x5 x6 M hr; exact nomatch (show (none : Option (Int32 × gM)) = some R from hr)
  | succ k ih =>
    intro x5 x6 M hr
    unfold FM_lastsBy_L6 at hr
    refine gb_run 2 (pc2 := 9) (ls2 := [(0, .ref (464)), (1, .int (h)), (2, .int (c)), (3, .int (walks)), (4, .int (tired)), (5, .int (x5)), (6, .int (x6))]) (st2 := [.int (walks), .int (x6)]) (M2 := M) hC hqX12_lastsBy rfl ?_
    refine gb_icmp_ge hqX12_lastsBy rfl (fun h1 => ?_) (fun h1 => ?_)
    ·
      have hr := g_if1 h1 hr
      refine gb_run 1 (pc2 := 59) (ls2 := [(0, .ref (464)), (1, .int (h)), (2, .int (c)), (3, .int (walks)), (4, .int (tired)), (5, .int (x5)), (6, .int (x6))]) (st2 := [.int (x5)]) (M2 := M) hC hqX12_lastsBy rfl ?_
      refine gb_iret hqX12_lastsBy rfl rfl (Nat.le_of_ble_eq_true rfl) (Nat.le_of_ble_eq_true rfl) ?_
      exact gl_I hr
    ·
      have hr := g_if0 h1 hr
      refine gb_run 9 (pc2 := 26) (ls2 := [(0, .ref (464)), (1, .int (h)), (2, .int (c)), (3, .int (walks)), (4, .int (tired)), (5, .int (x5)), (6, .int (x6))]) (st2 := [.int (tired + x6), .int (99), .int (h), .int (c), .int (x6), .ref (464), .int (x5)]) (M2 := M) hC hqX12_lastsBy rfl ?_
      refine gz_cS (z := qX12_less) (av := [.int (99), .int (tired + x6)]) (rest := [.int (h), .int (c), .int (x6), .ref (464), .int (x5)]) (pl := 1709) hC hqX12_lastsBy rfl kX12_less (by decide +kernel) (c_FM_less hC (99 : Int32) (tired + x6)  M sz (d - 1) (by omega)) (by omega) ⟨rfl, rfl⟩ rfl rfl (Nat.le_of_ble_eq_true rfl) ⟨Nat.le_of_ble_eq_true rfl, Nat.le_of_ble_eq_true rfl⟩ (gs_Ip ?_)
      refine gb_run 3 (pc2 := 35) (ls2 := [(0, .ref (464)), (1, .int (h)), (2, .int (c)), (3, .int (walks)), (4, .int (tired)), (5, .int (x5)), (6, .int (x6))]) (st2 := [.int (45), .ref (930), .int (FM_less (99 : Int32) (tired + x6)), .int (h), .int (c), .int (x6), .ref (464), .int (x5)]) (M2 := M) hC hqX12_lastsBy rfl ?_
      refine gb_iaload hC hqX12_lastsBy rfl (Nat.le_of_ble_eq_true rfl) rfl (by unfold vp_in; decide) ?_
      rw [show (45 : Int32).toNatClampNeg = 45 from rfl]
      refine gb_run 5 (pc2 := 44) (ls2 := [(0, .ref (464)), (1, .int (h)), (2, .int (c)), (3, .int (walks)), (4, .int (tired)), (5, .int (x5)), (6, .int (x6))]) (st2 := [.int ((16 : Int32) + c), .ref (930), .int (M 930 45), .int (FM_less (99 : Int32) (tired + x6)), .int (h), .int (c), .int (x6), .ref (464), .int (x5)]) (M2 := M) hC hqX12_lastsBy rfl ?_
      obtain ⟨j2, ej2, ij2, lj2, hr⟩ := g_ixo hr
      refine gz_iaload hC hqX12_lastsBy rfl (Nat.le_of_ble_eq_true rfl) rfl ij2 ej2 ?_
      obtain ⟨s3, es3, hr⟩ := g_bd hr
      refine gz_cV (z := qX12_minutesBy) (a := 464) (av := [.int (x6), .int (c), .int (h), .int (FM_less (99 : Int32) (tired + x6)), .int (M 930 45), .int (M 930 j2)]) (rest := [.int (x5)]) (pl := 1695) hC hqX12_lastsBy rfl kX12_minutesBy sX12_minutesBy (by decide +kernel) (c_FM_minutesBy hC x6 c h (FM_less (99 : Int32) (tired + x6)) (M 930 45) (M 930 j2)  M sz (d - 1) (by omega) s3 es3) (by omega) ⟨rfl, rfl⟩ rfl (Nat.le_of_ble_eq_true rfl) (Nat.le_of_ble_eq_true rfl) rfl rfl rfl (Nat.le_of_ble_eq_true rfl) ⟨Nat.le_of_ble_eq_true rfl, Nat.le_of_ble_eq_true rfl⟩ (gs_I ?_)
      refine gb_run 4 (pc2 := 6) (ls2 := [(6, .int (x6 + (1 : Int32))), (5, .int (x5 + s3.1)), (0, .ref (464)), (1, .int (h)), (2, .int (c)), (3, .int (walks)), (4, .int (tired))]) (st2 := []) (M2 := s3.2) hC hqX12_lastsBy rfl ?_
      refine gw_pick [2, 3, 4, 5, 6, 1, 0] (ls2 := [(0, .ref (464)), (1, .int (h)), (2, .int (c)), (3, .int (walks)), (4, .int (tired)), (5, .int (x5 + s3.1)), (6, .int (x6 + (1 : Int32)))]) rfl ?_
      exact ih (x5 + s3.1) (x6 + (1 : Int32)) (s3.2) hr
def FM_lastsBy (h : Int32) (c : Int32) (walks : Int32) (tired : Int32) (M : gM) : Option (Int32 × gM) :=
  FM_lastsBy_L6 h c walks tired 1000 (0 : Int32) (0 : Int32) M
set_option maxRecDepth 20000 in
theorem c_FM_lastsBy {l : Launch} {C : gC} (hC : g_ctx l C) (h : Int32) (c : Int32) (walks : Int32) (tired : Int32)  (M : gM) (sz d : Nat) (hd : 5 ≤ d) (R : Int32 × gM) (hr : FM_lastsBy h c walks tired M = some R) : gPg l C qX12_lastsBy d [.ref (464), .int (h), .int (c), .int (walks), .int (tired)] 956 g_S0 M sz (qI R) := by
  refine gPg.of (ls := [(0, .ref (464)), (1, .int (h)), (2, .int (c)), (3, .int (walks)), (4, .int (tired))]) (by decide +kernel) (Nat.le_of_ble_eq_true rfl) rfl ?_
  unfold FM_lastsBy at hr
  refine gb_run 4 (pc2 := 6) (ls2 := [(6, .int (0)), (5, .int (0)), (0, .ref (464)), (1, .int (h)), (2, .int (c)), (3, .int (walks)), (4, .int (tired))]) (st2 := []) (M2 := M) hC hqX12_lastsBy rfl ?_
  refine gw_pick [2, 3, 4, 5, 6, 1, 0] (ls2 := [(0, .ref (464)), (1, .int (h)), (2, .int (c)), (3, .int (walks)), (4, .int (tired)), (5, .int (0)), (6, .int (0))]) rfl ?_
  exact c_FM_lastsBy_L6 hC h c walks tired sz d (by omega) R 1000 (0 : Int32) (0 : Int32) M hr
def FM_longOf (h : Int32) (c : Int32) (M : gM) : Option (Int32 × gM) :=
  g_ix ((8 : Int32) + c) 48 fun j1 => (FM_lastsBy h c (M 468 0) (M 930 j1) M).bind fun s2 => some (s2.1, s2.2)
set_option maxRecDepth 20000 in
theorem c_FM_longOf {l : Launch} {C : gC} (hC : g_ctx l C) (h : Int32) (c : Int32)  (M : gM) (sz d : Nat) (hd : 6 ≤ d) (R : Int32 × gM) (hr : FM_longOf h c M = some R) : gPg l C qX12_longOf d [.ref (464), .int (h), .int (c)] 956 g_S0 M sz (qI R) := by
  refine gPg.of (ls := [(0, .ref (464)), (1, .int (h)), (2, .int (c))]) (by decide +kernel) (Nat.le_of_ble_eq_true rfl) rfl ?_
  unfold FM_longOf at hr
  refine gb_run 6 (pc2 := 8) (ls2 := [(0, .ref (464)), (1, .int (h)), (2, .int (c))]) (st2 := [.int (0), .ref (468), .int (c), .int (h), .ref (464)]) (M2 := M) hC hqX12_longOf rfl ?_
  refine gb_iaload hC hqX12_longOf rfl (Nat.le_of_ble_eq_true rfl) rfl (by unfold vp_in; decide) ?_
  rw [show (0 : Int32).toNatClampNeg = 0 from rfl]
  refine gb_run 5 (pc2 := 17) (ls2 := [(0, .ref (464)), (1, .int (h)), (2, .int (c))]) (st2 := [.int ((8 : Int32) + c), .ref (930), .int (M 468 0), .int (c), .int (h), .ref (464)]) (M2 := M) hC hqX12_longOf rfl ?_
  obtain ⟨j1, ej1, ij1, lj1, hr⟩ := g_ixo hr
  refine gz_iaload hC hqX12_longOf rfl (Nat.le_of_ble_eq_true rfl) rfl ij1 ej1 ?_
  obtain ⟨s2, es2, hr⟩ := g_bd hr
  refine gz_cV (z := qX12_lastsBy) (a := 464) (av := [.int (h), .int (c), .int (M 468 0), .int (M 930 j1)]) (rest := []) (pl := 1768) hC hqX12_longOf rfl kX12_lastsBy sX12_lastsBy (by decide +kernel) (c_FM_lastsBy hC h c (M 468 0) (M 930 j1)  M sz (d - 1) (by omega) s2 es2) (by omega) ⟨rfl, rfl⟩ rfl (Nat.le_of_ble_eq_true rfl) (Nat.le_of_ble_eq_true rfl) rfl rfl rfl (Nat.le_of_ble_eq_true rfl) ⟨Nat.le_of_ble_eq_true rfl, Nat.le_of_ble_eq_true rfl⟩ (gs_I ?_)
  refine gb_iret hqX12_longOf rfl rfl (Nat.le_of_ble_eq_true rfl) (Nat.le_of_ble_eq_true rfl) ?_
  exact gl_I hr
def FM_lasts_J27 (h : Int32) (c : Int32) (y0 : Int32) (M : gM) : Option (Int32 × gM) :=
  (FM_bad y0 (1 : Int32) (0 : Int32) M).bind fun s1 => if s1.1 = (0 : Int32) then ((FM_longOf h c (s1.2)).bind fun s4 => some (s4.1, s4.2)) else (some (0, s1.2))
set_option maxRecDepth 20000 in
theorem c_FM_lasts_J27 {l : Launch} {C : gC} (hC : g_ctx l C) (h : Int32) (c : Int32) (sz d : Nat) (hd : 7 ≤ d) (R : Int32 × gM) (y0 : Int32) (M : gM) (hr : FM_lasts_J27 h c y0 M = some R) : GW l C qX12_lasts d (gQg 956 g_S0 (qI R) sz) gN 0 0 27 [(0, .ref (464)), (1, .int (h)), (2, .int (c))] [.int (y0), .ref (464)] (956, g_S0, M, sz) := by
  unfold FM_lasts_J27 at hr
  refine gb_run 2 (pc2 := 29) (ls2 := [(0, .ref (464)), (1, .int (h)), (2, .int (c))]) (st2 := [.int (0), .int (1), .int (y0), .ref (464)]) (M2 := M) hC hqX12_lasts rfl ?_
  obtain ⟨s1, es1, hr⟩ := g_bd hr
  refine gz_cV (z := qX12_bad) (a := 464) (av := [.int (y0), .int (1), .int (0)]) (rest := []) (pl := 1551) hC hqX12_lasts rfl kX12_bad sX12_bad (by decide +kernel) (c_FM_bad hC y0 (1 : Int32) (0 : Int32)  M sz (d - 1) (by omega) s1 es1) (by omega) ⟨rfl, rfl⟩ rfl (Nat.le_of_ble_eq_true rfl) (Nat.le_of_ble_eq_true rfl) rfl rfl rfl (Nat.le_of_ble_eq_true rfl) ⟨Nat.le_of_ble_eq_true rfl, Nat.le_of_ble_eq_true rfl⟩ (gs_Z fun z2 => ?_)
  refine gb_if_eq hqX12_lasts rfl (fun h3 => ?_) (fun h3 => ?_)
  ·
    have hr := g_if1 h3 hr
    refine gb_run 3 (pc2 := 40) (ls2 := [(0, .ref (464)), (1, .int (h)), (2, .int (c))]) (st2 := [.int (c), .int (h), .ref (464)]) (M2 := s1.2) hC hqX12_lasts rfl ?_
    obtain ⟨s4, es4, hr⟩ := g_bd hr
    refine gz_cV (z := qX12_longOf) (a := 464) (av := [.int (h), .int (c)]) (rest := []) (pl := 1764) hC hqX12_lasts rfl kX12_longOf sX12_longOf (by decide +kernel) (c_FM_longOf hC h c  (s1.2) sz (d - 1) (by omega) s4 es4) (by omega) ⟨rfl, rfl⟩ rfl (Nat.le_of_ble_eq_true rfl) (Nat.le_of_ble_eq_true rfl) rfl rfl rfl (Nat.le_of_ble_eq_true rfl) ⟨Nat.le_of_ble_eq_true rfl, Nat.le_of_ble_eq_true rfl⟩ (gs_I ?_)
    refine gb_iret hqX12_lasts rfl rfl (Nat.le_of_ble_eq_true rfl) (Nat.le_of_ble_eq_true rfl) ?_
    exact gl_I hr
  ·
    have hr := g_if0 h3 hr
    refine gb_run 1 (pc2 := 36) (ls2 := [(0, .ref (464)), (1, .int (h)), (2, .int (c))]) (st2 := [.int (0)]) (M2 := s1.2) hC hqX12_lasts rfl ?_
    refine gb_iret hqX12_lasts rfl rfl (Nat.le_of_ble_eq_true rfl) (Nat.le_of_ble_eq_true rfl) ?_
    exact gl_I hr
def FM_lasts_J22 (h : Int32) (c : Int32) (M : gM) : Option (Int32 × gM) :=
  FM_lasts_J27 h c (1 : Int32) M
set_option maxRecDepth 20000 in
theorem c_FM_lasts_J22 {l : Launch} {C : gC} (hC : g_ctx l C) (h : Int32) (c : Int32) (sz d : Nat) (hd : 7 ≤ d) (R : Int32 × gM) (M : gM) (hr : FM_lasts_J22 h c M = some R) : GW l C qX12_lasts d (gQg 956 g_S0 (qI R) sz) gN 0 0 22 [(0, .ref (464)), (1, .int (h)), (2, .int (c))] [.ref (464)] (956, g_S0, M, sz) := by
  unfold FM_lasts_J22 at hr
  refine gb_run 2 (pc2 := 27) (ls2 := [(0, .ref (464)), (1, .int (h)), (2, .int (c))]) (st2 := [.int (1), .ref (464)]) (M2 := M) hC hqX12_lasts rfl ?_
  exact c_FM_lasts_J27 hC h c sz d (by omega) R (1 : Int32) M hr
def FM_lasts (h : Int32) (c : Int32) (M : gM) : Option (Int32 × gM) :=
  if (FM_isHoop h (g_set M 464 0 (0 : Int32))) = (0 : Int32) then (FM_lasts_J22 h c (g_set M 464 0 (0 : Int32))) else (if (FM_isChild c (g_set M 464 0 (0 : Int32))) = (0 : Int32) then (FM_lasts_J22 h c (g_set M 464 0 (0 : Int32))) else (FM_lasts_J27 h c (0 : Int32) (g_set M 464 0 (0 : Int32))))
set_option maxRecDepth 20000 in
theorem c_FM_lasts {l : Launch} {C : gC} (hC : g_ctx l C) (h : Int32) (c : Int32)  (M : gM) (sz d : Nat) (hd : 7 ≤ d) (R : Int32 × gM) (hr : FM_lasts h c M = some R) : gPg l C qX12_lasts d [.ref (464), .int (h), .int (c)] 956 g_S0 M sz (qI R) := by
  refine gPg.of (ls := [(0, .ref (464)), (1, .int (h)), (2, .int (c))]) (by decide +kernel) (Nat.le_of_ble_eq_true rfl) rfl ?_
  unfold FM_lasts at hr
  refine gb_run 6 (pc2 := 8) (ls2 := [(0, .ref (464)), (1, .int (h)), (2, .int (c))]) (st2 := [.int (h), .ref (464), .ref (464)]) (M2 := g_set M 464 0 (0 : Int32)) hC hqX12_lasts rfl ?_
  refine gz_cV (z := qX12_isHoop) (a := 464) (av := [.int (h)]) (rest := [.ref (464)]) (pl := 1748) hC hqX12_lasts rfl kX12_isHoop sX12_isHoop (by decide +kernel) (c_FM_isHoop hC h  (g_set M 464 0 (0 : Int32)) sz (d - 1) (by omega)) (by omega) ⟨rfl, rfl⟩ rfl (Nat.le_of_ble_eq_true rfl) (Nat.le_of_ble_eq_true rfl) rfl rfl rfl (Nat.le_of_ble_eq_true rfl) ⟨Nat.le_of_ble_eq_true rfl, Nat.le_of_ble_eq_true rfl⟩ (gs_Zp fun z2 => ?_)
  refine gb_if_eq hqX12_lasts rfl (fun h3 => ?_) (fun h3 => ?_)
  ·
    have hr := g_if1 h3 hr
    exact c_FM_lasts_J22 hC h c sz d (by omega) R (g_set M 464 0 (0 : Int32)) hr
  ·
    have hr := g_if0 h3 hr
    refine gb_run 2 (pc2 := 16) (ls2 := [(0, .ref (464)), (1, .int (h)), (2, .int (c))]) (st2 := [.int (c), .ref (464), .ref (464)]) (M2 := g_set M 464 0 (0 : Int32)) hC hqX12_lasts rfl ?_
    refine gz_cV (z := qX12_isChild) (a := 464) (av := [.int (c)]) (rest := [.ref (464)]) (pl := 1740) hC hqX12_lasts rfl kX12_isChild sX12_isChild (by decide +kernel) (c_FM_isChild hC c  (g_set M 464 0 (0 : Int32)) sz (d - 1) (by omega)) (by omega) ⟨rfl, rfl⟩ rfl (Nat.le_of_ble_eq_true rfl) (Nat.le_of_ble_eq_true rfl) rfl rfl rfl (Nat.le_of_ble_eq_true rfl) ⟨Nat.le_of_ble_eq_true rfl, Nat.le_of_ble_eq_true rfl⟩ (gs_Zp fun z5 => ?_)
    refine gb_if_ne hqX12_lasts rfl (fun h6 => ?_) (fun h6 => ?_)
    ·
      have hr := g_if0 h6 hr
      refine gb_run 1 (pc2 := 27) (ls2 := [(0, .ref (464)), (1, .int (h)), (2, .int (c))]) (st2 := [.int (0), .ref (464)]) (M2 := g_set M 464 0 (0 : Int32)) hC hqX12_lasts rfl ?_
      exact c_FM_lasts_J27 hC h c sz d (by omega) R (0 : Int32) (g_set M 464 0 (0 : Int32)) hr
    ·
      have hr := g_if1 h6 hr
      exact c_FM_lasts_J22 hC h c sz d (by omega) R (g_set M 464 0 (0 : Int32)) hr
def FM_ahead_J86 (n : Int32) (what : Int32) (x3 : Int32) (M : gM) : Option (Int32 × gM) :=
  if what = (0 : Int32) then (some ((M 931 47) - (M 930 47), M)) else if what = (1 : Int32) then (some (M 931 40, M)) else if what = (2 : Int32) then (some (M 931 41, M)) else if what = (3 : Int32) then ((FM_finesIn 931 M).bind fun s5 => (FM_finesIn 930 M).bind fun s6 => some (s5 - s6, M)) else (some (x3, M))
set_option maxRecDepth 20000 in
theorem c_FM_ahead_J86 {l : Launch} {C : gC} (hC : g_ctx l C) (n : Int32) (what : Int32) (sz d : Nat) (hd : 7 ≤ d) (R : Int32 × gM) (x3 : Int32) (M : gM) (hr : FM_ahead_J86 n what x3 M = some R) : GW l C qX12_ahead d (gQg 956 g_S0 (qI R) sz) gN 0 0 86 [(0, .ref (464)), (2, .int (what)), (3, .int (x3))] [] (956, g_S0, M, sz) := by
  unfold FM_ahead_J86 at hr
  refine gb_run 1 (pc2 := 87) (ls2 := [(0, .ref (464)), (2, .int (what)), (3, .int (x3))]) (st2 := [.int (what)]) (M2 := M) hC hqX12_ahead rfl ?_
  by_cases h1 : what = (0 : Int32)
  ·
    have hr := g_if1 h1 hr
    refine gb_tblIn (tgt := 116) hqX12_ahead rfl (by rw [h1]; first | done | decide) (by rw [h1]; first | done | decide) (by rw [h1]; first | done | rfl) (by decide) ?_
    refine gb_run 3 (pc2 := 122) (ls2 := [(0, .ref (464)), (2, .int (what)), (3, .int (x3))]) (st2 := [.int (47), .ref (931)]) (M2 := M) hC hqX12_ahead rfl ?_
    refine gb_iaload hC hqX12_ahead rfl (Nat.le_of_ble_eq_true rfl) rfl (by unfold vp_in; decide) ?_
    rw [show (47 : Int32).toNatClampNeg = 47 from rfl]
    refine gb_run 3 (pc2 := 129) (ls2 := [(0, .ref (464)), (2, .int (what)), (3, .int (x3))]) (st2 := [.int (47), .ref (930), .int (M 931 47)]) (M2 := M) hC hqX12_ahead rfl ?_
    refine gb_iaload hC hqX12_ahead rfl (Nat.le_of_ble_eq_true rfl) rfl (by unfold vp_in; decide) ?_
    rw [show (47 : Int32).toNatClampNeg = 47 from rfl]
    refine gb_run 1 (pc2 := 131) (ls2 := [(0, .ref (464)), (2, .int (what)), (3, .int (x3))]) (st2 := [.int ((M 931 47) - (M 930 47))]) (M2 := M) hC hqX12_ahead rfl ?_
    refine gb_iret hqX12_ahead rfl rfl (Nat.le_of_ble_eq_true rfl) (Nat.le_of_ble_eq_true rfl) ?_
    exact gl_I hr
  have hr := g_if0 h1 hr
  by_cases h2 : what = (1 : Int32)
  ·
    have hr := g_if1 h2 hr
    refine gb_tblIn (tgt := 132) hqX12_ahead rfl (by rw [h2]; first | done | decide) (by rw [h2]; first | done | decide) (by rw [h2]; first | done | rfl) (by decide) ?_
    refine gb_run 3 (pc2 := 138) (ls2 := [(0, .ref (464)), (2, .int (what)), (3, .int (x3))]) (st2 := [.int (40), .ref (931)]) (M2 := M) hC hqX12_ahead rfl ?_
    refine gb_iaload hC hqX12_ahead rfl (Nat.le_of_ble_eq_true rfl) rfl (by unfold vp_in; decide) ?_
    rw [show (40 : Int32).toNatClampNeg = 40 from rfl]
    refine gb_iret hqX12_ahead rfl rfl (Nat.le_of_ble_eq_true rfl) (Nat.le_of_ble_eq_true rfl) ?_
    exact gl_I hr
  have hr := g_if0 h2 hr
  by_cases h3 : what = (2 : Int32)
  ·
    have hr := g_if1 h3 hr
    refine gb_tblIn (tgt := 140) hqX12_ahead rfl (by rw [h3]; first | done | decide) (by rw [h3]; first | done | decide) (by rw [h3]; first | done | rfl) (by decide) ?_
    refine gb_run 3 (pc2 := 146) (ls2 := [(0, .ref (464)), (2, .int (what)), (3, .int (x3))]) (st2 := [.int (41), .ref (931)]) (M2 := M) hC hqX12_ahead rfl ?_
    refine gb_iaload hC hqX12_ahead rfl (Nat.le_of_ble_eq_true rfl) rfl (by unfold vp_in; decide) ?_
    rw [show (41 : Int32).toNatClampNeg = 41 from rfl]
    refine gb_iret hqX12_ahead rfl rfl (Nat.le_of_ble_eq_true rfl) (Nat.le_of_ble_eq_true rfl) ?_
    exact gl_I hr
  have hr := g_if0 h3 hr
  by_cases h4 : what = (3 : Int32)
  ·
    have hr := g_if1 h4 hr
    refine gb_tblIn (tgt := 148) hqX12_ahead rfl (by rw [h4]; first | done | decide) (by rw [h4]; first | done | decide) (by rw [h4]; first | done | rfl) (by decide) ?_
    refine gb_run 3 (pc2 := 153) (ls2 := [(0, .ref (464)), (2, .int (what)), (3, .int (x3))]) (st2 := [.ref (931), .ref (464)]) (M2 := M) hC hqX12_ahead rfl ?_
    obtain ⟨s5, es5, hr⟩ := g_bd hr
    refine gz_cV (z := qX12_finesIn) (a := 464) (av := [.ref (931)]) (rest := []) (pl := 1724) hC hqX12_ahead rfl kX12_finesIn sX12_finesIn (by decide +kernel) (c_FM_finesIn hC 931 (by decide +kernel) M sz (d - 1) (by omega) s5 es5) (by omega) ⟨rfl, rfl⟩ rfl (Nat.le_of_ble_eq_true rfl) (Nat.le_of_ble_eq_true rfl) rfl rfl rfl (Nat.le_of_ble_eq_true rfl) ⟨Nat.le_of_ble_eq_true rfl, Nat.le_of_ble_eq_true rfl⟩ (gs_Ip ?_)
    refine gb_run 3 (pc2 := 161) (ls2 := [(0, .ref (464)), (2, .int (what)), (3, .int (x3))]) (st2 := [.ref (930), .ref (464), .int (s5)]) (M2 := M) hC hqX12_ahead rfl ?_
    obtain ⟨s6, es6, hr⟩ := g_bd hr
    refine gz_cV (z := qX12_finesIn) (a := 464) (av := [.ref (930)]) (rest := [.int (s5)]) (pl := 1724) hC hqX12_ahead rfl kX12_finesIn sX12_finesIn (by decide +kernel) (c_FM_finesIn hC 930 (by decide +kernel) M sz (d - 1) (by omega) s6 es6) (by omega) ⟨rfl, rfl⟩ rfl (Nat.le_of_ble_eq_true rfl) (Nat.le_of_ble_eq_true rfl) rfl rfl rfl (Nat.le_of_ble_eq_true rfl) ⟨Nat.le_of_ble_eq_true rfl, Nat.le_of_ble_eq_true rfl⟩ (gs_Ip ?_)
    refine gb_run 1 (pc2 := 165) (ls2 := [(0, .ref (464)), (2, .int (what)), (3, .int (x3))]) (st2 := [.int (s5 - s6)]) (M2 := M) hC hqX12_ahead rfl ?_
    refine gb_iret hqX12_ahead rfl rfl (Nat.le_of_ble_eq_true rfl) (Nat.le_of_ble_eq_true rfl) ?_
    exact gl_I hr
  have hr := g_if0 h4 hr
  refine gb_tblOut (tgt := 166) hqX12_ahead rfl (by have q0 := gd_ne (z := 0) rfl h1; have q1 := gd_ne (z := 1) rfl h2; have q2 := gd_ne (z := 2) rfl h3; have q3 := gd_ne (z := 3) rfl h4; omega) (by decide) ?_
  refine gb_run 1 (pc2 := 167) (ls2 := [(0, .ref (464)), (2, .int (what)), (3, .int (x3))]) (st2 := [.int (x3)]) (M2 := M) hC hqX12_ahead rfl ?_
  refine gb_iret hqX12_ahead rfl rfl (Nat.le_of_ble_eq_true rfl) (Nat.le_of_ble_eq_true rfl) ?_
  exact gl_I hr
def FM_ahead_L54 (n : Int32) (what : Int32) : Nat → Int32 → gM → Option (Int32 × gM)
  | 0, _, _ => none
  | k + 1, x3, M =>
  if n ≤ x3 then (FM_ahead_J86 n what x3 M) else ((FM_canRoll 931 M).bind fun s2 => if s2 = (0 : Int32) then (FM_ahead_J86 n what x3 M) else ((FM_rolls 931 (0 : Int32) M).bind fun s5 => FM_ahead_L54 n what k (x3 + (1 : Int32)) (s5.2)))
set_option maxRecDepth 20000 in
theorem c_FM_ahead_L54 {l : Launch} {C : gC} (hC : g_ctx l C) (n : Int32) (what : Int32) (sz d : Nat) (hd : 7 ≤ d) (R : Int32 × gM) : ∀ (k : Nat) (x3 : Int32) (M : gM), FM_ahead_L54 n what k x3 M = some R → GW l C qX12_ahead d (gQg 956 g_S0 (qI R) sz) gN 0 0 54 [(0, .ref (464)), (1, .int (n)), (2, .int (what)), (3, .int (x3))] [] (956, g_S0, M, sz) := by
  intro k
  induction k with
  | zero => intro x3 M hr; exact nomatch (show (none : Option (Int32 × gM)) = some R from hr)
  | succ k ih =>
    intro x3 M hr
    unfold FM_ahead_L54 at hr
    refine gb_run 2 (pc2 := 56) (ls2 := [(0, .ref (464)), (1, .int (n)), (2, .int (what)), (3, .int (x3))]) (st2 := [.int (n), .int (x3)]) (M2 := M) hC hqX12_ahead rfl ?_
    refine gb_icmp_ge hqX12_ahead rfl (fun h1 => ?_) (fun h1 => ?_)
    ·
      have hr := g_if1 h1 hr
      refine gw_pick [0, 2, 3] (ls2 := [(0, .ref (464)), (2, .int (what)), (3, .int (x3))]) rfl ?_
      exact c_FM_ahead_J86 hC n what sz d (by omega) R x3 M hr
    ·
      have hr := g_if0 h1 hr
      refine gb_run 3 (pc2 := 64) (ls2 := [(0, .ref (464)), (1, .int (n)), (2, .int (what)), (3, .int (x3))]) (st2 := [.ref (931), .ref (464)]) (M2 := M) hC hqX12_ahead rfl ?_
      obtain ⟨s2, es2, hr⟩ := g_bd hr
      refine gz_cV (z := qX12_canRoll) (a := 464) (av := [.ref (931)]) (rest := []) (pl := 1683) hC hqX12_ahead rfl kX12_canRoll sX12_canRoll (by decide +kernel) (c_FM_canRoll hC 931 (by decide +kernel) M sz (d - 1) (by omega) s2 es2) (by omega) ⟨rfl, rfl⟩ rfl (Nat.le_of_ble_eq_true rfl) (Nat.le_of_ble_eq_true rfl) rfl rfl rfl (Nat.le_of_ble_eq_true rfl) ⟨Nat.le_of_ble_eq_true rfl, Nat.le_of_ble_eq_true rfl⟩ (gs_Zp fun z3 => ?_)
      refine gb_if_eq hqX12_ahead rfl (fun h4 => ?_) (fun h4 => ?_)
      ·
        have hr := g_if1 h4 hr
        refine gw_pick [0, 2, 3] (ls2 := [(0, .ref (464)), (2, .int (what)), (3, .int (x3))]) rfl ?_
        exact c_FM_ahead_J86 hC n what sz d (by omega) R x3 M hr
      ·
        have hr := g_if0 h4 hr
        refine gb_run 4 (pc2 := 76) (ls2 := [(0, .ref (464)), (1, .int (n)), (2, .int (what)), (3, .int (x3))]) (st2 := [.int (0), .ref (931), .ref (464)]) (M2 := M) hC hqX12_ahead rfl ?_
        obtain ⟨s5, es5, hr⟩ := g_bd hr
        refine gz_cV (z := qX12_rolls) (a := 464) (av := [.ref (931), .int (0)]) (rest := []) (pl := 1687) hC hqX12_ahead rfl kX12_rolls sX12_rolls (by decide +kernel) (c_FM_rolls hC 931 (0 : Int32) (by decide +kernel) M sz (d - 1) (by omega) s5 es5) (by omega) ⟨rfl, rfl⟩ rfl (Nat.le_of_ble_eq_true rfl) (Nat.le_of_ble_eq_true rfl) rfl rfl rfl (Nat.le_of_ble_eq_true rfl) ⟨Nat.le_of_ble_eq_true rfl, Nat.le_of_ble_eq_true rfl⟩ (gs_I ?_)
        refine gb_run 3 (pc2 := 54) (ls2 := [(3, .int (x3 + (1 : Int32))), (0, .ref (464)), (1, .int (n)), (2, .int (what))]) (st2 := []) (M2 := s5.2) hC hqX12_ahead rfl ?_
        refine gw_pick [1, 2, 3, 0] (ls2 := [(0, .ref (464)), (1, .int (n)), (2, .int (what)), (3, .int (x3 + (1 : Int32)))]) rfl ?_
        exact ih (x3 + (1 : Int32)) (s5.2) hr
def FM_ahead_J31 (n : Int32) (what : Int32) (y0 : Int32) (M : gM) : Option (Int32 × gM) :=
  (FM_bad y0 (1 : Int32) (1 : Int32) M).bind fun s1 => if s1.1 = (0 : Int32) then ((FM_copies 930 931 (s1.2)).bind fun s4 => FM_ahead_L54 n what 1000 (0 : Int32) s4) else (some (0, s1.2))
set_option maxRecDepth 20000 in
theorem c_FM_ahead_J31 {l : Launch} {C : gC} (hC : g_ctx l C) (n : Int32) (what : Int32) (sz d : Nat) (hd : 7 ≤ d) (R : Int32 × gM) (y0 : Int32) (M : gM) (hr : FM_ahead_J31 n what y0 M = some R) : GW l C qX12_ahead d (gQg 956 g_S0 (qI R) sz) gN 0 0 31 [(0, .ref (464)), (1, .int (n)), (2, .int (what))] [.int (y0), .ref (464)] (956, g_S0, M, sz) := by
  unfold FM_ahead_J31 at hr
  refine gb_run 2 (pc2 := 33) (ls2 := [(0, .ref (464)), (1, .int (n)), (2, .int (what))]) (st2 := [.int (1), .int (1), .int (y0), .ref (464)]) (M2 := M) hC hqX12_ahead rfl ?_
  obtain ⟨s1, es1, hr⟩ := g_bd hr
  refine gz_cV (z := qX12_bad) (a := 464) (av := [.int (y0), .int (1), .int (1)]) (rest := []) (pl := 1551) hC hqX12_ahead rfl kX12_bad sX12_bad (by decide +kernel) (c_FM_bad hC y0 (1 : Int32) (1 : Int32)  M sz (d - 1) (by omega) s1 es1) (by omega) ⟨rfl, rfl⟩ rfl (Nat.le_of_ble_eq_true rfl) (Nat.le_of_ble_eq_true rfl) rfl rfl rfl (Nat.le_of_ble_eq_true rfl) ⟨Nat.le_of_ble_eq_true rfl, Nat.le_of_ble_eq_true rfl⟩ (gs_Z fun z2 => ?_)
  refine gb_if_eq hqX12_ahead rfl (fun h3 => ?_) (fun h3 => ?_)
  ·
    have hr := g_if1 h3 hr
    refine gb_run 6 (pc2 := 51) (ls2 := [(3, .int (0)), (0, .ref (464)), (1, .int (n)), (2, .int (what))]) (st2 := [.ref (931), .ref (930)]) (M2 := s1.2) hC hqX12_ahead rfl ?_
    obtain ⟨s4, es4, hr⟩ := g_bd hr
    refine gz_cS (z := qX12_copies) (av := [.ref (930), .ref (931)]) (rest := []) (pl := 1672) hC hqX12_ahead rfl kX12_copies (by decide +kernel) (c_FM_copies hC 930 931 (by decide +kernel) (by decide +kernel) (s1.2) sz (d - 1) (by omega) s4 es4) (by omega) ⟨rfl, rfl⟩ rfl rfl (Nat.le_of_ble_eq_true rfl) ⟨Nat.le_of_ble_eq_true rfl, Nat.le_of_ble_eq_true rfl⟩ (gs_V ?_)
    refine gw_pick [1, 2, 3, 0] (ls2 := [(0, .ref (464)), (1, .int (n)), (2, .int (what)), (3, .int (0))]) rfl ?_
    exact c_FM_ahead_L54 hC n what sz d (by omega) R 1000 (0 : Int32) s4 hr
  ·
    have hr := g_if0 h3 hr
    refine gb_run 1 (pc2 := 40) (ls2 := [(0, .ref (464)), (1, .int (n)), (2, .int (what))]) (st2 := [.int (0)]) (M2 := s1.2) hC hqX12_ahead rfl ?_
    refine gb_iret hqX12_ahead rfl rfl (Nat.le_of_ble_eq_true rfl) (Nat.le_of_ble_eq_true rfl) ?_
    exact gl_I hr
def FM_ahead_J26 (n : Int32) (what : Int32) (M : gM) : Option (Int32 × gM) :=
  FM_ahead_J31 n what (1 : Int32) M
set_option maxRecDepth 20000 in
theorem c_FM_ahead_J26 {l : Launch} {C : gC} (hC : g_ctx l C) (n : Int32) (what : Int32) (sz d : Nat) (hd : 7 ≤ d) (R : Int32 × gM) (M : gM) (hr : FM_ahead_J26 n what M = some R) : GW l C qX12_ahead d (gQg 956 g_S0 (qI R) sz) gN 0 0 26 [(0, .ref (464)), (1, .int (n)), (2, .int (what))] [.ref (464)] (956, g_S0, M, sz) := by
  unfold FM_ahead_J26 at hr
  refine gb_run 2 (pc2 := 31) (ls2 := [(0, .ref (464)), (1, .int (n)), (2, .int (what))]) (st2 := [.int (1), .ref (464)]) (M2 := M) hC hqX12_ahead rfl ?_
  exact c_FM_ahead_J31 hC n what sz d (by omega) R (1 : Int32) M hr
def FM_ahead (n : Int32) (what : Int32) (M : gM) : Option (Int32 × gM) :=
  if (FM_in n (0 : Int32) (200 : Int32)) = (0 : Int32) then (FM_ahead_J26 n what (g_set M 464 0 (0 : Int32))) else (if (FM_in what (0 : Int32) (4 : Int32)) = (0 : Int32) then (FM_ahead_J26 n what (g_set M 464 0 (0 : Int32))) else (FM_ahead_J31 n what (0 : Int32) (g_set M 464 0 (0 : Int32))))
set_option maxRecDepth 20000 in
theorem c_FM_ahead {l : Launch} {C : gC} (hC : g_ctx l C) (n : Int32) (what : Int32)  (M : gM) (sz d : Nat) (hd : 7 ≤ d) (R : Int32 × gM) (hr : FM_ahead n what M = some R) : gPg l C qX12_ahead d [.ref (464), .int (n), .int (what)] 956 g_S0 M sz (qI R) := by
  refine gPg.of (ls := [(0, .ref (464)), (1, .int (n)), (2, .int (what))]) (by decide +kernel) (Nat.le_of_ble_eq_true rfl) rfl ?_
  unfold FM_ahead at hr
  refine gb_run 7 (pc2 := 11) (ls2 := [(0, .ref (464)), (1, .int (n)), (2, .int (what))]) (st2 := [.int (200), .int (0), .int (n), .ref (464)]) (M2 := g_set M 464 0 (0 : Int32)) hC hqX12_ahead rfl ?_
  refine gz_cS (z := qX12_in) (av := [.int (n), .int (0), .int (200)]) (rest := [.ref (464)]) (pl := 1548) hC hqX12_ahead rfl kX12_in (by decide +kernel) (c_FM_in hC n (0 : Int32) (200 : Int32)  (g_set M 464 0 (0 : Int32)) sz (d - 1) (by omega)) (by omega) ⟨rfl, rfl⟩ rfl rfl (Nat.le_of_ble_eq_true rfl) ⟨Nat.le_of_ble_eq_true rfl, Nat.le_of_ble_eq_true rfl⟩ (gs_Zp fun z2 => ?_)
  refine gb_if_eq hqX12_ahead rfl (fun h3 => ?_) (fun h3 => ?_)
  ·
    have hr := g_if1 h3 hr
    exact c_FM_ahead_J26 hC n what sz d (by omega) R (g_set M 464 0 (0 : Int32)) hr
  ·
    have hr := g_if0 h3 hr
    refine gb_run 3 (pc2 := 20) (ls2 := [(0, .ref (464)), (1, .int (n)), (2, .int (what))]) (st2 := [.int (4), .int (0), .int (what), .ref (464)]) (M2 := g_set M 464 0 (0 : Int32)) hC hqX12_ahead rfl ?_
    refine gz_cS (z := qX12_in) (av := [.int (what), .int (0), .int (4)]) (rest := [.ref (464)]) (pl := 1548) hC hqX12_ahead rfl kX12_in (by decide +kernel) (c_FM_in hC what (0 : Int32) (4 : Int32)  (g_set M 464 0 (0 : Int32)) sz (d - 1) (by omega)) (by omega) ⟨rfl, rfl⟩ rfl rfl (Nat.le_of_ble_eq_true rfl) ⟨Nat.le_of_ble_eq_true rfl, Nat.le_of_ble_eq_true rfl⟩ (gs_Zp fun z5 => ?_)
    refine gb_if_ne hqX12_ahead rfl (fun h6 => ?_) (fun h6 => ?_)
    ·
      have hr := g_if0 h6 hr
      refine gb_run 1 (pc2 := 31) (ls2 := [(0, .ref (464)), (1, .int (n)), (2, .int (what))]) (st2 := [.int (0), .ref (464)]) (M2 := g_set M 464 0 (0 : Int32)) hC hqX12_ahead rfl ?_
      exact c_FM_ahead_J31 hC n what sz d (by omega) R (0 : Int32) (g_set M 464 0 (0 : Int32)) hr
    ·
      have hr := g_if1 h6 hr
      exact c_FM_ahead_J26 hC n what sz d (by omega) R (g_set M 464 0 (0 : Int32)) hr
def FM_due_J86 (h : Int32) (c42 : Int32 → gM → Option (Int32 × gM)) (x2 : Int32) (M : gM) : Option (Int32 × gM) :=
  (FM_canRoll 931 M).bind fun s1 => if s1 = (0 : Int32) then (some (-1, M)) else ((FM_rolls 931 (0 : Int32) M).bind fun s4 => c42 (x2 + (1 : Int32)) (s4.2))
set_option maxRecDepth 20000 in
theorem c_FM_due_J86 {l : Launch} {C : gC} (hC : g_ctx l C) (h : Int32) (sz d : Nat) (hd : 7 ≤ d) (R : Int32 × gM) (c42 : Int32 → gM → Option (Int32 × gM)) (hc42 : ∀ (x2 : Int32) (M : gM), c42 x2 M = some R → GW l C qX12_due d (gQg 956 g_S0 (qI R) sz) gN 0 0 42 [(0, .ref (464)), (1, .int (h)), (2, .int (x2))] [] (956, g_S0, M, sz)) (x2 : Int32) (M : gM) (hr : FM_due_J86 h c42 x2 M = some R) : GW l C qX12_due d (gQg 956 g_S0 (qI R) sz) gN 0 0 86 [(0, .ref (464)), (1, .int (h)), (2, .int (x2))] [] (956, g_S0, M, sz) := by
  unfold FM_due_J86 at hr
  refine gb_run 3 (pc2 := 91) (ls2 := [(0, .ref (464)), (1, .int (h)), (2, .int (x2))]) (st2 := [.ref (931), .ref (464)]) (M2 := M) hC hqX12_due rfl ?_
  obtain ⟨s1, es1, hr⟩ := g_bd hr
  refine gz_cV (z := qX12_canRoll) (a := 464) (av := [.ref (931)]) (rest := []) (pl := 1683) hC hqX12_due rfl kX12_canRoll sX12_canRoll (by decide +kernel) (c_FM_canRoll hC 931 (by decide +kernel) M sz (d - 1) (by omega) s1 es1) (by omega) ⟨rfl, rfl⟩ rfl (Nat.le_of_ble_eq_true rfl) (Nat.le_of_ble_eq_true rfl) rfl rfl rfl (Nat.le_of_ble_eq_true rfl) ⟨Nat.le_of_ble_eq_true rfl, Nat.le_of_ble_eq_true rfl⟩ (gs_Zp fun z2 => ?_)
  refine gb_if_ne hqX12_due rfl (fun h3 => ?_) (fun h3 => ?_)
  ·
    have hr := g_if0 h3 hr
    refine gb_run 4 (pc2 := 105) (ls2 := [(0, .ref (464)), (1, .int (h)), (2, .int (x2))]) (st2 := [.int (0), .ref (931), .ref (464)]) (M2 := M) hC hqX12_due rfl ?_
    obtain ⟨s4, es4, hr⟩ := g_bd hr
    refine gz_cV (z := qX12_rolls) (a := 464) (av := [.ref (931), .int (0)]) (rest := []) (pl := 1687) hC hqX12_due rfl kX12_rolls sX12_rolls (by decide +kernel) (c_FM_rolls hC 931 (0 : Int32) (by decide +kernel) M sz (d - 1) (by omega) s4 es4) (by omega) ⟨rfl, rfl⟩ rfl (Nat.le_of_ble_eq_true rfl) (Nat.le_of_ble_eq_true rfl) rfl rfl rfl (Nat.le_of_ble_eq_true rfl) ⟨Nat.le_of_ble_eq_true rfl, Nat.le_of_ble_eq_true rfl⟩ (gs_I ?_)
    refine gb_run 3 (pc2 := 42) (ls2 := [(2, .int (x2 + (1 : Int32))), (0, .ref (464)), (1, .int (h))]) (st2 := []) (M2 := s4.2) hC hqX12_due rfl ?_
    refine gw_pick [1, 2, 0] (ls2 := [(0, .ref (464)), (1, .int (h)), (2, .int (x2 + (1 : Int32)))]) rfl ?_
    exact hc42 (x2 + (1 : Int32)) (s4.2) hr
  ·
    have hr := g_if1 h3 hr
    refine gb_run 1 (pc2 := 98) (ls2 := [(0, .ref (464)), (1, .int (h)), (2, .int (x2))]) (st2 := [.int (-1)]) (M2 := M) hC hqX12_due rfl ?_
    refine gb_iret hqX12_due rfl rfl (Nat.le_of_ble_eq_true rfl) (Nat.le_of_ble_eq_true rfl) ?_
    exact gl_I hr
def FM_due_L42 (h : Int32) : Nat → Int32 → gM → Option (Int32 × gM)
  | 0, _, _ => none
  | k + 1, x2, M =>
  if (400 : Int32) < x2 then (some (-1, M)) else (if (M 931 40) = h then (if (M 931 41) = (0 : Int32) then (some ((M 931 47) - (M 930 47), M)) else (FM_due_J86 h (FM_due_L42 h k) x2 M)) else (FM_due_J86 h (FM_due_L42 h k) x2 M))
set_option maxRecDepth 20000 in
theorem c_FM_due_L42 {l : Launch} {C : gC} (hC : g_ctx l C) (h : Int32) (sz d : Nat) (hd : 7 ≤ d) (R : Int32 × gM) : ∀ (k : Nat) (x2 : Int32) (M : gM), FM_due_L42 h k x2 M = some R → GW l C qX12_due d (gQg 956 g_S0 (qI R) sz) gN 0 0 42 [(0, .ref (464)), (1, .int (h)), (2, .int (x2))] [] (956, g_S0, M, sz) := by
  intro k
  induction k with
  | zero => intro x2 M hr; exact nomatch (show (none : Option (Int32 × gM)) = some R from hr)
  | succ k ih =>
    intro x2 M hr
    unfold FM_due_L42 at hr
    refine gb_run 2 (pc2 := 46) (ls2 := [(0, .ref (464)), (1, .int (h)), (2, .int (x2))]) (st2 := [.int (400), .int (x2)]) (M2 := M) hC hqX12_due rfl ?_
    refine gb_icmp_gt hqX12_due rfl (fun h1 => ?_) (fun h1 => ?_)
    ·
      have hr := g_if1 h1 hr
      refine gb_run 1 (pc2 := 116) (ls2 := [(0, .ref (464)), (1, .int (h)), (2, .int (x2))]) (st2 := [.int (-1)]) (M2 := M) hC hqX12_due rfl ?_
      refine gb_iret hqX12_due rfl rfl (Nat.le_of_ble_eq_true rfl) (Nat.le_of_ble_eq_true rfl) ?_
      exact gl_I hr
    ·
      have hr := g_if0 h1 hr
      refine gb_run 3 (pc2 := 55) (ls2 := [(0, .ref (464)), (1, .int (h)), (2, .int (x2))]) (st2 := [.int (40), .ref (931)]) (M2 := M) hC hqX12_due rfl ?_
      refine gb_iaload hC hqX12_due rfl (Nat.le_of_ble_eq_true rfl) rfl (by unfold vp_in; decide) ?_
      rw [show (40 : Int32).toNatClampNeg = 40 from rfl]
      refine gb_run 1 (pc2 := 57) (ls2 := [(0, .ref (464)), (1, .int (h)), (2, .int (x2))]) (st2 := [.int (h), .int (M 931 40)]) (M2 := M) hC hqX12_due rfl ?_
      refine gb_icmp_ne hqX12_due rfl (fun h2 => ?_) (fun h2 => ?_)
      ·
        have hr := g_if0 h2 hr
        exact c_FM_due_J86 hC h sz d (by omega) R (FM_due_L42 h k) ih x2 M hr
      ·
        have hr := g_if1 h2 hr
        refine gb_run 3 (pc2 := 66) (ls2 := [(0, .ref (464)), (1, .int (h)), (2, .int (x2))]) (st2 := [.int (41), .ref (931)]) (M2 := M) hC hqX12_due rfl ?_
        refine gb_iaload hC hqX12_due rfl (Nat.le_of_ble_eq_true rfl) rfl (by unfold vp_in; decide) ?_
        rw [show (41 : Int32).toNatClampNeg = 41 from rfl]
        refine gb_if_ne hqX12_due rfl (fun h3 => ?_) (fun h3 => ?_)
        ·
          have hr := g_if0 h3 hr
          exact c_FM_due_J86 hC h sz d (by omega) R (FM_due_L42 h k) ih x2 M hr
        ·
          have hr := g_if1 h3 hr
          refine gb_run 3 (pc2 := 76) (ls2 := [(0, .ref (464)), (1, .int (h)), (2, .int (x2))]) (st2 := [.int (47), .ref (931)]) (M2 := M) hC hqX12_due rfl ?_
          refine gb_iaload hC hqX12_due rfl (Nat.le_of_ble_eq_true rfl) rfl (by unfold vp_in; decide) ?_
          rw [show (47 : Int32).toNatClampNeg = 47 from rfl]
          refine gb_run 3 (pc2 := 83) (ls2 := [(0, .ref (464)), (1, .int (h)), (2, .int (x2))]) (st2 := [.int (47), .ref (930), .int (M 931 47)]) (M2 := M) hC hqX12_due rfl ?_
          refine gb_iaload hC hqX12_due rfl (Nat.le_of_ble_eq_true rfl) rfl (by unfold vp_in; decide) ?_
          rw [show (47 : Int32).toNatClampNeg = 47 from rfl]
          refine gb_run 1 (pc2 := 85) (ls2 := [(0, .ref (464)), (1, .int (h)), (2, .int (x2))]) (st2 := [.int ((M 931 47) - (M 930 47))]) (M2 := M) hC hqX12_due rfl ?_
          refine gb_iret hqX12_due rfl rfl (Nat.le_of_ble_eq_true rfl) (Nat.le_of_ble_eq_true rfl) ?_
          exact gl_I hr
def FM_due_J19 (h : Int32) (y0 : Int32) (M : gM) : Option (Int32 × gM) :=
  (FM_bad y0 (1 : Int32) (0 : Int32) M).bind fun s1 => if s1.1 = (0 : Int32) then ((FM_copies 930 931 (s1.2)).bind fun s4 => FM_due_L42 h 1000 (0 : Int32) s4) else (some (0, s1.2))
set_option maxRecDepth 20000 in
theorem c_FM_due_J19 {l : Launch} {C : gC} (hC : g_ctx l C) (h : Int32) (sz d : Nat) (hd : 7 ≤ d) (R : Int32 × gM) (y0 : Int32) (M : gM) (hr : FM_due_J19 h y0 M = some R) : GW l C qX12_due d (gQg 956 g_S0 (qI R) sz) gN 0 0 19 [(0, .ref (464)), (1, .int (h))] [.int (y0), .ref (464)] (956, g_S0, M, sz) := by
  unfold FM_due_J19 at hr
  refine gb_run 2 (pc2 := 21) (ls2 := [(0, .ref (464)), (1, .int (h))]) (st2 := [.int (0), .int (1), .int (y0), .ref (464)]) (M2 := M) hC hqX12_due rfl ?_
  obtain ⟨s1, es1, hr⟩ := g_bd hr
  refine gz_cV (z := qX12_bad) (a := 464) (av := [.int (y0), .int (1), .int (0)]) (rest := []) (pl := 1551) hC hqX12_due rfl kX12_bad sX12_bad (by decide +kernel) (c_FM_bad hC y0 (1 : Int32) (0 : Int32)  M sz (d - 1) (by omega) s1 es1) (by omega) ⟨rfl, rfl⟩ rfl (Nat.le_of_ble_eq_true rfl) (Nat.le_of_ble_eq_true rfl) rfl rfl rfl (Nat.le_of_ble_eq_true rfl) ⟨Nat.le_of_ble_eq_true rfl, Nat.le_of_ble_eq_true rfl⟩ (gs_Z fun z2 => ?_)
  refine gb_if_eq hqX12_due rfl (fun h3 => ?_) (fun h3 => ?_)
  ·
    have hr := g_if1 h3 hr
    refine gb_run 4 (pc2 := 37) (ls2 := [(0, .ref (464)), (1, .int (h))]) (st2 := [.ref (931), .ref (930)]) (M2 := s1.2) hC hqX12_due rfl ?_
    obtain ⟨s4, es4, hr⟩ := g_bd hr
    refine gz_cS (z := qX12_copies) (av := [.ref (930), .ref (931)]) (rest := []) (pl := 1672) hC hqX12_due rfl kX12_copies (by decide +kernel) (c_FM_copies hC 930 931 (by decide +kernel) (by decide +kernel) (s1.2) sz (d - 1) (by omega) s4 es4) (by omega) ⟨rfl, rfl⟩ rfl rfl (Nat.le_of_ble_eq_true rfl) ⟨Nat.le_of_ble_eq_true rfl, Nat.le_of_ble_eq_true rfl⟩ (gs_V ?_)
    refine gb_run 2 (pc2 := 42) (ls2 := [(2, .int (0)), (0, .ref (464)), (1, .int (h))]) (st2 := []) (M2 := s4) hC hqX12_due rfl ?_
    refine gw_pick [1, 2, 0] (ls2 := [(0, .ref (464)), (1, .int (h)), (2, .int (0))]) rfl ?_
    exact c_FM_due_L42 hC h sz d (by omega) R 1000 (0 : Int32) s4 hr
  ·
    have hr := g_if0 h3 hr
    refine gb_run 1 (pc2 := 28) (ls2 := [(0, .ref (464)), (1, .int (h))]) (st2 := [.int (0)]) (M2 := s1.2) hC hqX12_due rfl ?_
    refine gb_iret hqX12_due rfl rfl (Nat.le_of_ble_eq_true rfl) (Nat.le_of_ble_eq_true rfl) ?_
    exact gl_I hr
def FM_due (h : Int32) (M : gM) : Option (Int32 × gM) :=
  if (FM_isHoop h (g_set M 464 0 (0 : Int32))) = (0 : Int32) then (FM_due_J19 h (1 : Int32) (g_set M 464 0 (0 : Int32))) else (FM_due_J19 h (0 : Int32) (g_set M 464 0 (0 : Int32)))
set_option maxRecDepth 20000 in
theorem c_FM_due {l : Launch} {C : gC} (hC : g_ctx l C) (h : Int32)  (M : gM) (sz d : Nat) (hd : 7 ≤ d) (R : Int32 × gM) (hr : FM_due h M = some R) : gPg l C qX12_due d [.ref (464), .int (h)] 956 g_S0 M sz (qI R) := by
  refine gPg.of (ls := [(0, .ref (464)), (1, .int (h))]) (by decide +kernel) (Nat.le_of_ble_eq_true rfl) rfl ?_
  unfold FM_due at hr
  refine gb_run 6 (pc2 := 8) (ls2 := [(0, .ref (464)), (1, .int (h))]) (st2 := [.int (h), .ref (464), .ref (464)]) (M2 := g_set M 464 0 (0 : Int32)) hC hqX12_due rfl ?_
  refine gz_cV (z := qX12_isHoop) (a := 464) (av := [.int (h)]) (rest := [.ref (464)]) (pl := 1748) hC hqX12_due rfl kX12_isHoop sX12_isHoop (by decide +kernel) (c_FM_isHoop hC h  (g_set M 464 0 (0 : Int32)) sz (d - 1) (by omega)) (by omega) ⟨rfl, rfl⟩ rfl (Nat.le_of_ble_eq_true rfl) (Nat.le_of_ble_eq_true rfl) rfl rfl rfl (Nat.le_of_ble_eq_true rfl) ⟨Nat.le_of_ble_eq_true rfl, Nat.le_of_ble_eq_true rfl⟩ (gs_Zp fun z2 => ?_)
  refine gb_if_ne hqX12_due rfl (fun h3 => ?_) (fun h3 => ?_)
  ·
    have hr := g_if0 h3 hr
    refine gb_run 1 (pc2 := 19) (ls2 := [(0, .ref (464)), (1, .int (h))]) (st2 := [.int (0), .ref (464)]) (M2 := g_set M 464 0 (0 : Int32)) hC hqX12_due rfl ?_
    exact c_FM_due_J19 hC h sz d (by omega) R (0 : Int32) (g_set M 464 0 (0 : Int32)) hr
  ·
    have hr := g_if1 h3 hr
    refine gb_run 2 (pc2 := 19) (ls2 := [(0, .ref (464)), (1, .int (h))]) (st2 := [.int (1), .ref (464)]) (M2 := g_set M 464 0 (0 : Int32)) hC hqX12_due rfl ?_
    exact c_FM_due_J19 hC h sz d (by omega) R (1 : Int32) (g_set M 464 0 (0 : Int32)) hr
def FM_hour_L45 (m : Int32) : Nat → Int32 → gM → Option (Int32 × gM)
  | 0, _, _ => none
  | k + 1, x2, M =>
  if (400 : Int32) ≤ x2 then (some (-1, M)) else ((FM_canRoll 931 M).bind fun s2 => if s2 = (0 : Int32) then (some (-1, M)) else ((FM_rolls 931 (0 : Int32) M).bind fun s5 => if (((s5.2) 931 47) - ((s5.2) 930 47)) ≤ m then (FM_hour_L45 m k (x2 + (1 : Int32)) (s5.2)) else (some (M 931 40, s5.2))))
set_option maxRecDepth 20000 in
theorem c_FM_hour_L45 {l : Launch} {C : gC} (hC : g_ctx l C) (m : Int32) (sz d : Nat) (hd : 7 ≤ d) (R : Int32 × gM) : ∀ (k : Nat) (x2 : Int32) (M : gM), FM_hour_L45 m k x2 M = some R → GW l C qX12_hour d (gQg 956 g_S0 (qI R) sz) gN 0 0 45 [(0, .ref (464)), (1, .int (m)), (2, .int (x2))] [] (956, g_S0, M, sz) := by
  intro k
  induction k with
  | zero => intro x2 M hr; exact nomatch (show (none : Option (Int32 × gM)) = some R from hr)
  | succ k ih =>
    intro x2 M hr
    unfold FM_hour_L45 at hr
    refine gb_run 2 (pc2 := 49) (ls2 := [(0, .ref (464)), (1, .int (m)), (2, .int (x2))]) (st2 := [.int (400), .int (x2)]) (M2 := M) hC hqX12_hour rfl ?_
    refine gb_icmp_ge hqX12_hour rfl (fun h1 => ?_) (fun h1 => ?_)
    ·
      have hr := g_if1 h1 hr
      refine gb_run 1 (pc2 := 109) (ls2 := [(0, .ref (464)), (1, .int (m)), (2, .int (x2))]) (st2 := [.int (-1)]) (M2 := M) hC hqX12_hour rfl ?_
      refine gb_iret hqX12_hour rfl rfl (Nat.le_of_ble_eq_true rfl) (Nat.le_of_ble_eq_true rfl) ?_
      exact gl_I hr
    ·
      have hr := g_if0 h1 hr
      refine gb_run 3 (pc2 := 57) (ls2 := [(0, .ref (464)), (1, .int (m)), (2, .int (x2))]) (st2 := [.ref (931), .ref (464)]) (M2 := M) hC hqX12_hour rfl ?_
      obtain ⟨s2, es2, hr⟩ := g_bd hr
      refine gz_cV (z := qX12_canRoll) (a := 464) (av := [.ref (931)]) (rest := []) (pl := 1683) hC hqX12_hour rfl kX12_canRoll sX12_canRoll (by decide +kernel) (c_FM_canRoll hC 931 (by decide +kernel) M sz (d - 1) (by omega) s2 es2) (by omega) ⟨rfl, rfl⟩ rfl (Nat.le_of_ble_eq_true rfl) (Nat.le_of_ble_eq_true rfl) rfl rfl rfl (Nat.le_of_ble_eq_true rfl) ⟨Nat.le_of_ble_eq_true rfl, Nat.le_of_ble_eq_true rfl⟩ (gs_Zp fun z3 => ?_)
      refine gb_if_eq hqX12_hour rfl (fun h4 => ?_) (fun h4 => ?_)
      ·
        have hr := g_if1 h4 hr
        refine gb_run 1 (pc2 := 109) (ls2 := [(0, .ref (464)), (1, .int (m)), (2, .int (x2))]) (st2 := [.int (-1)]) (M2 := M) hC hqX12_hour rfl ?_
        refine gb_iret hqX12_hour rfl rfl (Nat.le_of_ble_eq_true rfl) (Nat.le_of_ble_eq_true rfl) ?_
        exact gl_I hr
      ·
        have hr := g_if0 h4 hr
        refine gb_run 3 (pc2 := 69) (ls2 := [(0, .ref (464)), (1, .int (m)), (2, .int (x2))]) (st2 := [.int (40), .ref (931)]) (M2 := M) hC hqX12_hour rfl ?_
        refine gb_iaload hC hqX12_hour rfl (Nat.le_of_ble_eq_true rfl) rfl (by unfold vp_in; decide) ?_
        rw [show (40 : Int32).toNatClampNeg = 40 from rfl]
        refine gb_run 5 (pc2 := 77) (ls2 := [(3, .int (M 931 40)), (0, .ref (464)), (1, .int (m)), (2, .int (x2))]) (st2 := [.int (0), .ref (931), .ref (464)]) (M2 := M) hC hqX12_hour rfl ?_
        obtain ⟨s5, es5, hr⟩ := g_bd hr
        refine gz_cV (z := qX12_rolls) (a := 464) (av := [.ref (931), .int (0)]) (rest := []) (pl := 1687) hC hqX12_hour rfl kX12_rolls sX12_rolls (by decide +kernel) (c_FM_rolls hC 931 (0 : Int32) (by decide +kernel) M sz (d - 1) (by omega) s5 es5) (by omega) ⟨rfl, rfl⟩ rfl (Nat.le_of_ble_eq_true rfl) (Nat.le_of_ble_eq_true rfl) rfl rfl rfl (Nat.le_of_ble_eq_true rfl) ⟨Nat.le_of_ble_eq_true rfl, Nat.le_of_ble_eq_true rfl⟩ (gs_I ?_)
        refine gb_run 4 (pc2 := 87) (ls2 := [(3, .int (M 931 40)), (0, .ref (464)), (1, .int (m)), (2, .int (x2))]) (st2 := [.int (47), .ref (931)]) (M2 := s5.2) hC hqX12_hour rfl ?_
        refine gb_iaload hC hqX12_hour rfl (Nat.le_of_ble_eq_true rfl) rfl (by unfold vp_in; decide) ?_
        rw [show (47 : Int32).toNatClampNeg = 47 from rfl]
        refine gb_run 3 (pc2 := 94) (ls2 := [(3, .int (M 931 40)), (0, .ref (464)), (1, .int (m)), (2, .int (x2))]) (st2 := [.int (47), .ref (930), .int ((s5.2) 931 47)]) (M2 := s5.2) hC hqX12_hour rfl ?_
        refine gb_iaload hC hqX12_hour rfl (Nat.le_of_ble_eq_true rfl) rfl (by unfold vp_in; decide) ?_
        rw [show (47 : Int32).toNatClampNeg = 47 from rfl]
        refine gb_run 2 (pc2 := 97) (ls2 := [(3, .int (M 931 40)), (0, .ref (464)), (1, .int (m)), (2, .int (x2))]) (st2 := [.int (m), .int (((s5.2) 931 47) - ((s5.2) 930 47))]) (M2 := s5.2) hC hqX12_hour rfl ?_
        refine gb_icmp_le hqX12_hour rfl (fun h6 => ?_) (fun h6 => ?_)
        ·
          have hr := g_if1 h6 hr
          refine gb_run 2 (pc2 := 45) (ls2 := [(2, .int (x2 + (1 : Int32))), (3, .int (M 931 40)), (0, .ref (464)), (1, .int (m))]) (st2 := []) (M2 := s5.2) hC hqX12_hour rfl ?_
          refine gw_pick [2, 3, 0] (ls2 := [(0, .ref (464)), (1, .int (m)), (2, .int (x2 + (1 : Int32)))]) rfl ?_
          exact ih (x2 + (1 : Int32)) (s5.2) hr
        ·
          have hr := g_if0 h6 hr
          refine gb_run 1 (pc2 := 101) (ls2 := [(3, .int (M 931 40)), (0, .ref (464)), (1, .int (m)), (2, .int (x2))]) (st2 := [.int (M 931 40)]) (M2 := s5.2) hC hqX12_hour rfl ?_
          refine gb_iret hqX12_hour rfl rfl (Nat.le_of_ble_eq_true rfl) (Nat.le_of_ble_eq_true rfl) ?_
          exact gl_I hr
def FM_hour_J22 (m : Int32) (y0 : Int32) (M : gM) : Option (Int32 × gM) :=
  (FM_bad y0 (1 : Int32) (1 : Int32) M).bind fun s1 => if s1.1 = (0 : Int32) then ((FM_copies 930 931 (s1.2)).bind fun s4 => FM_hour_L45 m 1000 (0 : Int32) s4) else (some (0, s1.2))
set_option maxRecDepth 20000 in
theorem c_FM_hour_J22 {l : Launch} {C : gC} (hC : g_ctx l C) (m : Int32) (sz d : Nat) (hd : 7 ≤ d) (R : Int32 × gM) (y0 : Int32) (M : gM) (hr : FM_hour_J22 m y0 M = some R) : GW l C qX12_hour d (gQg 956 g_S0 (qI R) sz) gN 0 0 22 [(0, .ref (464)), (1, .int (m))] [.int (y0), .ref (464)] (956, g_S0, M, sz) := by
  unfold FM_hour_J22 at hr
  refine gb_run 2 (pc2 := 24) (ls2 := [(0, .ref (464)), (1, .int (m))]) (st2 := [.int (1), .int (1), .int (y0), .ref (464)]) (M2 := M) hC hqX12_hour rfl ?_
  obtain ⟨s1, es1, hr⟩ := g_bd hr
  refine gz_cV (z := qX12_bad) (a := 464) (av := [.int (y0), .int (1), .int (1)]) (rest := []) (pl := 1551) hC hqX12_hour rfl kX12_bad sX12_bad (by decide +kernel) (c_FM_bad hC y0 (1 : Int32) (1 : Int32)  M sz (d - 1) (by omega) s1 es1) (by omega) ⟨rfl, rfl⟩ rfl (Nat.le_of_ble_eq_true rfl) (Nat.le_of_ble_eq_true rfl) rfl rfl rfl (Nat.le_of_ble_eq_true rfl) ⟨Nat.le_of_ble_eq_true rfl, Nat.le_of_ble_eq_true rfl⟩ (gs_Z fun z2 => ?_)
  refine gb_if_eq hqX12_hour rfl (fun h3 => ?_) (fun h3 => ?_)
  ·
    have hr := g_if1 h3 hr
    refine gb_run 4 (pc2 := 40) (ls2 := [(0, .ref (464)), (1, .int (m))]) (st2 := [.ref (931), .ref (930)]) (M2 := s1.2) hC hqX12_hour rfl ?_
    obtain ⟨s4, es4, hr⟩ := g_bd hr
    refine gz_cS (z := qX12_copies) (av := [.ref (930), .ref (931)]) (rest := []) (pl := 1672) hC hqX12_hour rfl kX12_copies (by decide +kernel) (c_FM_copies hC 930 931 (by decide +kernel) (by decide +kernel) (s1.2) sz (d - 1) (by omega) s4 es4) (by omega) ⟨rfl, rfl⟩ rfl rfl (Nat.le_of_ble_eq_true rfl) ⟨Nat.le_of_ble_eq_true rfl, Nat.le_of_ble_eq_true rfl⟩ (gs_V ?_)
    refine gb_run 2 (pc2 := 45) (ls2 := [(2, .int (0)), (0, .ref (464)), (1, .int (m))]) (st2 := []) (M2 := s4) hC hqX12_hour rfl ?_
    refine gw_pick [1, 2, 0] (ls2 := [(0, .ref (464)), (1, .int (m)), (2, .int (0))]) rfl ?_
    exact c_FM_hour_L45 hC m sz d (by omega) R 1000 (0 : Int32) s4 hr
  ·
    have hr := g_if0 h3 hr
    refine gb_run 1 (pc2 := 31) (ls2 := [(0, .ref (464)), (1, .int (m))]) (st2 := [.int (0)]) (M2 := s1.2) hC hqX12_hour rfl ?_
    refine gb_iret hqX12_hour rfl rfl (Nat.le_of_ble_eq_true rfl) (Nat.le_of_ble_eq_true rfl) ?_
    exact gl_I hr
def FM_hour (m : Int32) (M : gM) : Option (Int32 × gM) :=
  if (FM_in m (0 : Int32) (999 : Int32)) = (0 : Int32) then (FM_hour_J22 m (1 : Int32) (g_set M 464 0 (0 : Int32))) else (FM_hour_J22 m (0 : Int32) (g_set M 464 0 (0 : Int32)))
set_option maxRecDepth 20000 in
theorem c_FM_hour {l : Launch} {C : gC} (hC : g_ctx l C) (m : Int32)  (M : gM) (sz d : Nat) (hd : 7 ≤ d) (R : Int32 × gM) (hr : FM_hour m M = some R) : gPg l C qX12_hour d [.ref (464), .int (m)] 956 g_S0 M sz (qI R) := by
  refine gPg.of (ls := [(0, .ref (464)), (1, .int (m))]) (by decide +kernel) (Nat.le_of_ble_eq_true rfl) rfl ?_
  unfold FM_hour at hr
  refine gb_run 7 (pc2 := 11) (ls2 := [(0, .ref (464)), (1, .int (m))]) (st2 := [.int (999), .int (0), .int (m), .ref (464)]) (M2 := g_set M 464 0 (0 : Int32)) hC hqX12_hour rfl ?_
  refine gz_cS (z := qX12_in) (av := [.int (m), .int (0), .int (999)]) (rest := [.ref (464)]) (pl := 1548) hC hqX12_hour rfl kX12_in (by decide +kernel) (c_FM_in hC m (0 : Int32) (999 : Int32)  (g_set M 464 0 (0 : Int32)) sz (d - 1) (by omega)) (by omega) ⟨rfl, rfl⟩ rfl rfl (Nat.le_of_ble_eq_true rfl) ⟨Nat.le_of_ble_eq_true rfl, Nat.le_of_ble_eq_true rfl⟩ (gs_Zp fun z2 => ?_)
  refine gb_if_ne hqX12_hour rfl (fun h3 => ?_) (fun h3 => ?_)
  ·
    have hr := g_if0 h3 hr
    refine gb_run 1 (pc2 := 22) (ls2 := [(0, .ref (464)), (1, .int (m))]) (st2 := [.int (0), .ref (464)]) (M2 := g_set M 464 0 (0 : Int32)) hC hqX12_hour rfl ?_
    exact c_FM_hour_J22 hC m sz d (by omega) R (0 : Int32) (g_set M 464 0 (0 : Int32)) hr
  ·
    have hr := g_if1 h3 hr
    refine gb_run 2 (pc2 := 22) (ls2 := [(0, .ref (464)), (1, .int (m))]) (st2 := [.int (1), .ref (464)]) (M2 := g_set M 464 0 (0 : Int32)) hC hqX12_hour rfl ?_
    exact c_FM_hour_J22 hC m sz d (by omega) R (1 : Int32) (g_set M 464 0 (0 : Int32)) hr
def FM_late_L18 : Nat → Int32 → gM → Option (Int32 × gM)
  | 0, _, _ => none
  | k + 1, x1, M =>
  if (400 : Int32) ≤ x1 then (some (-1, M)) else ((FM_canRoll 931 M).bind fun s2 => if s2 = (0 : Int32) then (some (-1, M)) else ((FM_rolls 931 (0 : Int32) M).bind fun s5 => if ((s5.2) 931 46) ≤ (M 931 46) then (FM_late_L18 k (x1 + (1 : Int32)) (s5.2)) else (some (M 931 40, s5.2))))
set_option maxRecDepth 20000 in
theorem c_FM_late_L18 {l : Launch} {C : gC} (hC : g_ctx l C) (sz d : Nat) (hd : 7 ≤ d) (R : Int32 × gM) : ∀ (k : Nat) (x1 : Int32) (M : gM), FM_late_L18 k x1 M = some R → GW l C qX12_late d (gQg 956 g_S0 (qI R) sz) gN 0 0 18 [(0, .ref (464)), (1, .int (x1))] [] (956, g_S0, M, sz) := by
  intro k
  induction k with
  | zero => intro x1 M hr; exact nomatch (show (none : Option (Int32 × gM)) = some R from hr)
  | succ k ih =>
    intro x1 M hr
    unfold FM_late_L18 at hr
    refine gb_run 2 (pc2 := 22) (ls2 := [(0, .ref (464)), (1, .int (x1))]) (st2 := [.int (400), .int (x1)]) (M2 := M) hC hqX12_late rfl ?_
    refine gb_icmp_ge hqX12_late rfl (fun h1 => ?_) (fun h1 => ?_)
    ·
      have hr := g_if1 h1 hr
      refine gb_run 1 (pc2 := 82) (ls2 := [(0, .ref (464)), (1, .int (x1))]) (st2 := [.int (-1)]) (M2 := M) hC hqX12_late rfl ?_
      refine gb_iret hqX12_late rfl rfl (Nat.le_of_ble_eq_true rfl) (Nat.le_of_ble_eq_true rfl) ?_
      exact gl_I hr
    ·
      have hr := g_if0 h1 hr
      refine gb_run 3 (pc2 := 30) (ls2 := [(0, .ref (464)), (1, .int (x1))]) (st2 := [.ref (931), .ref (464)]) (M2 := M) hC hqX12_late rfl ?_
      obtain ⟨s2, es2, hr⟩ := g_bd hr
      refine gz_cV (z := qX12_canRoll) (a := 464) (av := [.ref (931)]) (rest := []) (pl := 1683) hC hqX12_late rfl kX12_canRoll sX12_canRoll (by decide +kernel) (c_FM_canRoll hC 931 (by decide +kernel) M sz (d - 1) (by omega) s2 es2) (by omega) ⟨rfl, rfl⟩ rfl (Nat.le_of_ble_eq_true rfl) (Nat.le_of_ble_eq_true rfl) rfl rfl rfl (Nat.le_of_ble_eq_true rfl) ⟨Nat.le_of_ble_eq_true rfl, Nat.le_of_ble_eq_true rfl⟩ (gs_Zp fun z3 => ?_)
      refine gb_if_eq hqX12_late rfl (fun h4 => ?_) (fun h4 => ?_)
      ·
        have hr := g_if1 h4 hr
        refine gb_run 1 (pc2 := 82) (ls2 := [(0, .ref (464)), (1, .int (x1))]) (st2 := [.int (-1)]) (M2 := M) hC hqX12_late rfl ?_
        refine gb_iret hqX12_late rfl rfl (Nat.le_of_ble_eq_true rfl) (Nat.le_of_ble_eq_true rfl) ?_
        exact gl_I hr
      ·
        have hr := g_if0 h4 hr
        refine gb_run 3 (pc2 := 42) (ls2 := [(0, .ref (464)), (1, .int (x1))]) (st2 := [.int (40), .ref (931)]) (M2 := M) hC hqX12_late rfl ?_
        refine gb_iaload hC hqX12_late rfl (Nat.le_of_ble_eq_true rfl) rfl (by unfold vp_in; decide) ?_
        rw [show (40 : Int32).toNatClampNeg = 40 from rfl]
        refine gb_run 4 (pc2 := 50) (ls2 := [(2, .int (M 931 40)), (0, .ref (464)), (1, .int (x1))]) (st2 := [.int (46), .ref (931)]) (M2 := M) hC hqX12_late rfl ?_
        refine gb_iaload hC hqX12_late rfl (Nat.le_of_ble_eq_true rfl) rfl (by unfold vp_in; decide) ?_
        rw [show (46 : Int32).toNatClampNeg = 46 from rfl]
        refine gb_run 5 (pc2 := 58) (ls2 := [(3, .int (M 931 46)), (2, .int (M 931 40)), (0, .ref (464)), (1, .int (x1))]) (st2 := [.int (0), .ref (931), .ref (464)]) (M2 := M) hC hqX12_late rfl ?_
        obtain ⟨s5, es5, hr⟩ := g_bd hr
        refine gz_cV (z := qX12_rolls) (a := 464) (av := [.ref (931), .int (0)]) (rest := []) (pl := 1687) hC hqX12_late rfl kX12_rolls sX12_rolls (by decide +kernel) (c_FM_rolls hC 931 (0 : Int32) (by decide +kernel) M sz (d - 1) (by omega) s5 es5) (by omega) ⟨rfl, rfl⟩ rfl (Nat.le_of_ble_eq_true rfl) (Nat.le_of_ble_eq_true rfl) rfl rfl rfl (Nat.le_of_ble_eq_true rfl) ⟨Nat.le_of_ble_eq_true rfl, Nat.le_of_ble_eq_true rfl⟩ (gs_I ?_)
        refine gb_run 4 (pc2 := 68) (ls2 := [(3, .int (M 931 46)), (2, .int (M 931 40)), (0, .ref (464)), (1, .int (x1))]) (st2 := [.int (46), .ref (931)]) (M2 := s5.2) hC hqX12_late rfl ?_
        refine gb_iaload hC hqX12_late rfl (Nat.le_of_ble_eq_true rfl) rfl (by unfold vp_in; decide) ?_
        rw [show (46 : Int32).toNatClampNeg = 46 from rfl]
        refine gb_run 1 (pc2 := 70) (ls2 := [(3, .int (M 931 46)), (2, .int (M 931 40)), (0, .ref (464)), (1, .int (x1))]) (st2 := [.int (M 931 46), .int ((s5.2) 931 46)]) (M2 := s5.2) hC hqX12_late rfl ?_
        refine gb_icmp_le hqX12_late rfl (fun h6 => ?_) (fun h6 => ?_)
        ·
          have hr := g_if1 h6 hr
          refine gb_run 2 (pc2 := 18) (ls2 := [(1, .int (x1 + (1 : Int32))), (3, .int (M 931 46)), (2, .int (M 931 40)), (0, .ref (464))]) (st2 := []) (M2 := s5.2) hC hqX12_late rfl ?_
          refine gw_pick [3, 0] (ls2 := [(0, .ref (464)), (1, .int (x1 + (1 : Int32)))]) rfl ?_
          exact ih (x1 + (1 : Int32)) (s5.2) hr
        ·
          have hr := g_if0 h6 hr
          refine gb_run 1 (pc2 := 74) (ls2 := [(3, .int (M 931 46)), (2, .int (M 931 40)), (0, .ref (464)), (1, .int (x1))]) (st2 := [.int (M 931 40)]) (M2 := s5.2) hC hqX12_late rfl ?_
          refine gb_iret hqX12_late rfl rfl (Nat.le_of_ble_eq_true rfl) (Nat.le_of_ble_eq_true rfl) ?_
          exact gl_I hr
def FM_late  (M : gM) : Option (Int32 × gM) :=
  (FM_copies 930 931 (g_set M 464 0 (0 : Int32))).bind fun s1 => FM_late_L18 1000 (0 : Int32) s1
set_option maxRecDepth 20000 in
theorem c_FM_late {l : Launch} {C : gC} (hC : g_ctx l C)   (M : gM) (sz d : Nat) (hd : 7 ≤ d) (R : Int32 × gM) (hr : FM_late M = some R) : gPg l C qX12_late d [.ref (464)] 956 g_S0 M sz (qI R) := by
  refine gPg.of (ls := [(0, .ref (464))]) (by decide +kernel) (Nat.le_of_ble_eq_true rfl) rfl ?_
  unfold FM_late at hr
  refine gb_run 7 (pc2 := 13) (ls2 := [(0, .ref (464))]) (st2 := [.ref (931), .ref (930)]) (M2 := g_set M 464 0 (0 : Int32)) hC hqX12_late rfl ?_
  obtain ⟨s1, es1, hr⟩ := g_bd hr
  refine gz_cS (z := qX12_copies) (av := [.ref (930), .ref (931)]) (rest := []) (pl := 1672) hC hqX12_late rfl kX12_copies (by decide +kernel) (c_FM_copies hC 930 931 (by decide +kernel) (by decide +kernel) (g_set M 464 0 (0 : Int32)) sz (d - 1) (by omega) s1 es1) (by omega) ⟨rfl, rfl⟩ rfl rfl (Nat.le_of_ble_eq_true rfl) ⟨Nat.le_of_ble_eq_true rfl, Nat.le_of_ble_eq_true rfl⟩ (gs_V ?_)
  refine gb_run 2 (pc2 := 18) (ls2 := [(1, .int (0)), (0, .ref (464))]) (st2 := []) (M2 := s1) hC hqX12_late rfl ?_
  refine gw_pick [1, 0] (ls2 := [(0, .ref (464)), (1, .int (0))]) rfl ?_
  exact c_FM_late_L18 hC sz d (by omega) R 1000 (0 : Int32) s1 hr
def FM_bowls_J111 (c : Int32) (n : Int32) (c70 : Int32 → Int32 → gM → Option (Int32 × gM)) (x4 : Int32) (y0 : Int32) (y1 : Int32) (M : gM) : Option (Int32 × gM) :=
  (FM_rolls 931 (0 : Int32) M).bind fun s1 => c70 (y1 + y0) (x4 + (1 : Int32)) (s1.2)
set_option maxRecDepth 20000 in
theorem c_FM_bowls_J111 {l : Launch} {C : gC} (hC : g_ctx l C) (c : Int32) (n : Int32) (sz d : Nat) (hd : 7 ≤ d) (R : Int32 × gM) (c70 : Int32 → Int32 → gM → Option (Int32 × gM)) (hc70 : ∀ (x3 : Int32) (x4 : Int32) (M : gM), c70 x3 x4 M = some R → GW l C qX12_bowls d (gQg 956 g_S0 (qI R) sz) gN 0 0 70 [(0, .ref (464)), (1, .int (c)), (2, .int (n)), (3, .int (x3)), (4, .int (x4))] [] (956, g_S0, M, sz)) (x4 : Int32) (y0 : Int32) (y1 : Int32) (M : gM) (hr : FM_bowls_J111 c n c70 x4 y0 y1 M = some R) : GW l C qX12_bowls d (gQg 956 g_S0 (qI R) sz) gN 0 0 111 [(0, .ref (464)), (1, .int (c)), (2, .int (n)), (4, .int (x4))] [.int (y0), .int (y1)] (956, g_S0, M, sz) := by
  unfold FM_bowls_J111 at hr
  refine gb_run 6 (pc2 := 119) (ls2 := [(3, .int (y1 + y0)), (0, .ref (464)), (1, .int (c)), (2, .int (n)), (4, .int (x4))]) (st2 := [.int (0), .ref (931), .ref (464)]) (M2 := M) hC hqX12_bowls rfl ?_
  obtain ⟨s1, es1, hr⟩ := g_bd hr
  refine gz_cV (z := qX12_rolls) (a := 464) (av := [.ref (931), .int (0)]) (rest := []) (pl := 1687) hC hqX12_bowls rfl kX12_rolls sX12_rolls (by decide +kernel) (c_FM_rolls hC 931 (0 : Int32) (by decide +kernel) M sz (d - 1) (by omega) s1 es1) (by omega) ⟨rfl, rfl⟩ rfl (Nat.le_of_ble_eq_true rfl) (Nat.le_of_ble_eq_true rfl) rfl rfl rfl (Nat.le_of_ble_eq_true rfl) ⟨Nat.le_of_ble_eq_true rfl, Nat.le_of_ble_eq_true rfl⟩ (gs_I ?_)
  refine gb_run 3 (pc2 := 70) (ls2 := [(4, .int (x4 + (1 : Int32))), (3, .int (y1 + y0)), (0, .ref (464)), (1, .int (c)), (2, .int (n))]) (st2 := []) (M2 := s1.2) hC hqX12_bowls rfl ?_
  refine gw_pick [2, 3, 4, 1, 0] (ls2 := [(0, .ref (464)), (1, .int (c)), (2, .int (n)), (3, .int (y1 + y0)), (4, .int (x4 + (1 : Int32)))]) rfl ?_
  exact hc70 (y1 + y0) (x4 + (1 : Int32)) (s1.2) hr
def FM_bowls_L70 (c : Int32) (n : Int32) : Nat → Int32 → Int32 → gM → Option (Int32 × gM)
  | 0, _, _, _ => none
  | k + 1, x3, x4, M =>
  if n ≤ x4 then (some (x3, M)) else ((FM_canRoll 931 M).bind fun s2 => if s2 = (0 : Int32) then (some (x3, M)) else (g_ix ((0 : Int32) + (M 931 40)) 48 fun j5 => if (M 931 j5) = c then (FM_bowls_J111 c n (FM_bowls_L70 c n k) x4 (1 : Int32) x3 M) else (FM_bowls_J111 c n (FM_bowls_L70 c n k) x4 (0 : Int32) x3 M)))
set_option maxRecDepth 20000 in
theorem c_FM_bowls_L70 {l : Launch} {C : gC} (hC : g_ctx l C) (c : Int32) (n : Int32) (sz d : Nat) (hd : 7 ≤ d) (R : Int32 × gM) : ∀ (k : Nat) (x3 : Int32) (x4 : Int32) (M : gM), FM_bowls_L70 c n k x3 x4 M = some R → GW l C qX12_bowls d (gQg 956 g_S0 (qI R) sz) gN 0 0 70 [(0, .ref (464)), (1, .int (c)), (2, .int (n)), (3, .int (x3)), (4, .int (x4))] [] (956, g_S0, M, sz) := by
  intro k
  induction k with
  | zero => intro x3 x4 M hr; exact nomatch (show (none : Option (Int32 × gM)) = some R from hr)
  | succ k ih =>
    intro x3 x4 M hr
    unfold FM_bowls_L70 at hr
    refine gb_run 2 (pc2 := 73) (ls2 := [(0, .ref (464)), (1, .int (c)), (2, .int (n)), (3, .int (x3)), (4, .int (x4))]) (st2 := [.int (n), .int (x4)]) (M2 := M) hC hqX12_bowls rfl ?_
    refine gb_icmp_ge hqX12_bowls rfl (fun h1 => ?_) (fun h1 => ?_)
    ·
      have hr := g_if1 h1 hr
      refine gb_run 1 (pc2 := 130) (ls2 := [(0, .ref (464)), (1, .int (c)), (2, .int (n)), (3, .int (x3)), (4, .int (x4))]) (st2 := [.int (x3)]) (M2 := M) hC hqX12_bowls rfl ?_
      refine gb_iret hqX12_bowls rfl rfl (Nat.le_of_ble_eq_true rfl) (Nat.le_of_ble_eq_true rfl) ?_
      exact gl_I hr
    ·
      have hr := g_if0 h1 hr
      refine gb_run 3 (pc2 := 81) (ls2 := [(0, .ref (464)), (1, .int (c)), (2, .int (n)), (3, .int (x3)), (4, .int (x4))]) (st2 := [.ref (931), .ref (464)]) (M2 := M) hC hqX12_bowls rfl ?_
      obtain ⟨s2, es2, hr⟩ := g_bd hr
      refine gz_cV (z := qX12_canRoll) (a := 464) (av := [.ref (931)]) (rest := []) (pl := 1683) hC hqX12_bowls rfl kX12_canRoll sX12_canRoll (by decide +kernel) (c_FM_canRoll hC 931 (by decide +kernel) M sz (d - 1) (by omega) s2 es2) (by omega) ⟨rfl, rfl⟩ rfl (Nat.le_of_ble_eq_true rfl) (Nat.le_of_ble_eq_true rfl) rfl rfl rfl (Nat.le_of_ble_eq_true rfl) ⟨Nat.le_of_ble_eq_true rfl, Nat.le_of_ble_eq_true rfl⟩ (gs_Zp fun z3 => ?_)
      refine gb_if_eq hqX12_bowls rfl (fun h4 => ?_) (fun h4 => ?_)
      ·
        have hr := g_if1 h4 hr
        refine gb_run 1 (pc2 := 130) (ls2 := [(0, .ref (464)), (1, .int (c)), (2, .int (n)), (3, .int (x3)), (4, .int (x4))]) (st2 := [.int (x3)]) (M2 := M) hC hqX12_bowls rfl ?_
        refine gb_iret hqX12_bowls rfl rfl (Nat.le_of_ble_eq_true rfl) (Nat.le_of_ble_eq_true rfl) ?_
        exact gl_I hr
      ·
        have hr := g_if0 h4 hr
        refine gb_run 7 (pc2 := 99) (ls2 := [(0, .ref (464)), (1, .int (c)), (2, .int (n)), (3, .int (x3)), (4, .int (x4))]) (st2 := [.int (40), .ref (931), .int (0), .ref (931), .int (x3)]) (M2 := M) hC hqX12_bowls rfl ?_
        refine gb_iaload hC hqX12_bowls rfl (Nat.le_of_ble_eq_true rfl) rfl (by unfold vp_in; decide) ?_
        rw [show (40 : Int32).toNatClampNeg = 40 from rfl]
        refine gb_run 1 (pc2 := 101) (ls2 := [(0, .ref (464)), (1, .int (c)), (2, .int (n)), (3, .int (x3)), (4, .int (x4))]) (st2 := [.int ((0 : Int32) + (M 931 40)), .ref (931), .int (x3)]) (M2 := M) hC hqX12_bowls rfl ?_
        obtain ⟨j5, ej5, ij5, lj5, hr⟩ := g_ixo hr
        refine gz_iaload hC hqX12_bowls rfl (Nat.le_of_ble_eq_true rfl) rfl ij5 ej5 ?_
        refine gb_run 1 (pc2 := 103) (ls2 := [(0, .ref (464)), (1, .int (c)), (2, .int (n)), (3, .int (x3)), (4, .int (x4))]) (st2 := [.int (c), .int (M 931 j5), .int (x3)]) (M2 := M) hC hqX12_bowls rfl ?_
        refine gb_icmp_ne hqX12_bowls rfl (fun h6 => ?_) (fun h6 => ?_)
        ·
          have hr := g_if0 h6 hr
          refine gb_run 1 (pc2 := 111) (ls2 := [(0, .ref (464)), (1, .int (c)), (2, .int (n)), (3, .int (x3)), (4, .int (x4))]) (st2 := [.int (0), .int (x3)]) (M2 := M) hC hqX12_bowls rfl ?_
          refine gw_pick [0, 1, 2, 4] (ls2 := [(0, .ref (464)), (1, .int (c)), (2, .int (n)), (4, .int (x4))]) rfl ?_
          exact c_FM_bowls_J111 hC c n sz d (by omega) R (FM_bowls_L70 c n k) ih x4 (0 : Int32) x3 M hr
        ·
          have hr := g_if1 h6 hr
          refine gb_run 2 (pc2 := 111) (ls2 := [(0, .ref (464)), (1, .int (c)), (2, .int (n)), (3, .int (x3)), (4, .int (x4))]) (st2 := [.int (1), .int (x3)]) (M2 := M) hC hqX12_bowls rfl ?_
          refine gw_pick [0, 1, 2, 4] (ls2 := [(0, .ref (464)), (1, .int (c)), (2, .int (n)), (4, .int (x4))]) rfl ?_
          exact c_FM_bowls_J111 hC c n sz d (by omega) R (FM_bowls_L70 c n k) ih x4 (1 : Int32) x3 M hr
def FM_bowls_J44 (c : Int32) (n : Int32) (y0 : Int32) (M : gM) : Option (Int32 × gM) :=
  (FM_bad y0 (2 : Int32) (1 : Int32) M).bind fun s1 => if s1.1 = (0 : Int32) then ((FM_copies 930 931 (s1.2)).bind fun s4 => FM_bowls_L70 c n 1000 (0 : Int32) (0 : Int32) s4) else (some (0, s1.2))
set_option maxRecDepth 20000 in
theorem c_FM_bowls_J44 {l : Launch} {C : gC} (hC : g_ctx l C) (c : Int32) (n : Int32) (sz d : Nat) (hd : 7 ≤ d) (R : Int32 × gM) (y0 : Int32) (M : gM) (hr : FM_bowls_J44 c n y0 M = some R) : GW l C qX12_bowls d (gQg 956 g_S0 (qI R) sz) gN 0 0 44 [(0, .ref (464)), (1, .int (c)), (2, .int (n))] [.int (y0), .ref (464)] (956, g_S0, M, sz) := by
  unfold FM_bowls_J44 at hr
  refine gb_run 2 (pc2 := 46) (ls2 := [(0, .ref (464)), (1, .int (c)), (2, .int (n))]) (st2 := [.int (1), .int (2), .int (y0), .ref (464)]) (M2 := M) hC hqX12_bowls rfl ?_
  obtain ⟨s1, es1, hr⟩ := g_bd hr
  refine gz_cV (z := qX12_bad) (a := 464) (av := [.int (y0), .int (2), .int (1)]) (rest := []) (pl := 1551) hC hqX12_bowls rfl kX12_bad sX12_bad (by decide +kernel) (c_FM_bad hC y0 (2 : Int32) (1 : Int32)  M sz (d - 1) (by omega) s1 es1) (by omega) ⟨rfl, rfl⟩ rfl (Nat.le_of_ble_eq_true rfl) (Nat.le_of_ble_eq_true rfl) rfl rfl rfl (Nat.le_of_ble_eq_true rfl) ⟨Nat.le_of_ble_eq_true rfl, Nat.le_of_ble_eq_true rfl⟩ (gs_Z fun z2 => ?_)
  refine gb_if_eq hqX12_bowls rfl (fun h3 => ?_) (fun h3 => ?_)
  ·
    have hr := g_if1 h3 hr
    refine gb_run 6 (pc2 := 64) (ls2 := [(3, .int (0)), (0, .ref (464)), (1, .int (c)), (2, .int (n))]) (st2 := [.ref (931), .ref (930)]) (M2 := s1.2) hC hqX12_bowls rfl ?_
    obtain ⟨s4, es4, hr⟩ := g_bd hr
    refine gz_cS (z := qX12_copies) (av := [.ref (930), .ref (931)]) (rest := []) (pl := 1672) hC hqX12_bowls rfl kX12_copies (by decide +kernel) (c_FM_copies hC 930 931 (by decide +kernel) (by decide +kernel) (s1.2) sz (d - 1) (by omega) s4 es4) (by omega) ⟨rfl, rfl⟩ rfl rfl (Nat.le_of_ble_eq_true rfl) ⟨Nat.le_of_ble_eq_true rfl, Nat.le_of_ble_eq_true rfl⟩ (gs_V ?_)
    refine gb_run 2 (pc2 := 70) (ls2 := [(4, .int (0)), (3, .int (0)), (0, .ref (464)), (1, .int (c)), (2, .int (n))]) (st2 := []) (M2 := s4) hC hqX12_bowls rfl ?_
    refine gw_pick [2, 3, 4, 1, 0] (ls2 := [(0, .ref (464)), (1, .int (c)), (2, .int (n)), (3, .int (0)), (4, .int (0))]) rfl ?_
    exact c_FM_bowls_L70 hC c n sz d (by omega) R 1000 (0 : Int32) (0 : Int32) s4 hr
  ·
    have hr := g_if0 h3 hr
    refine gb_run 1 (pc2 := 53) (ls2 := [(0, .ref (464)), (1, .int (c)), (2, .int (n))]) (st2 := [.int (0)]) (M2 := s1.2) hC hqX12_bowls rfl ?_
    refine gb_iret hqX12_bowls rfl rfl (Nat.le_of_ble_eq_true rfl) (Nat.le_of_ble_eq_true rfl) ?_
    exact gl_I hr
def FM_bowls_J19 (c : Int32) (n : Int32) (y0 : Int32) (M : gM) : Option (Int32 × gM) :=
  (FM_bad y0 (1 : Int32) (0 : Int32) M).bind fun s1 => if s1.1 = (0 : Int32) then (if (FM_in n (0 : Int32) (200 : Int32)) = (0 : Int32) then (FM_bowls_J44 c n (1 : Int32) (s1.2)) else (FM_bowls_J44 c n (0 : Int32) (s1.2))) else (some (0, s1.2))
set_option maxRecDepth 20000 in
theorem c_FM_bowls_J19 {l : Launch} {C : gC} (hC : g_ctx l C) (c : Int32) (n : Int32) (sz d : Nat) (hd : 7 ≤ d) (R : Int32 × gM) (y0 : Int32) (M : gM) (hr : FM_bowls_J19 c n y0 M = some R) : GW l C qX12_bowls d (gQg 956 g_S0 (qI R) sz) gN 0 0 19 [(0, .ref (464)), (1, .int (c)), (2, .int (n))] [.int (y0), .ref (464)] (956, g_S0, M, sz) := by
  unfold FM_bowls_J19 at hr
  refine gb_run 2 (pc2 := 21) (ls2 := [(0, .ref (464)), (1, .int (c)), (2, .int (n))]) (st2 := [.int (0), .int (1), .int (y0), .ref (464)]) (M2 := M) hC hqX12_bowls rfl ?_
  obtain ⟨s1, es1, hr⟩ := g_bd hr
  refine gz_cV (z := qX12_bad) (a := 464) (av := [.int (y0), .int (1), .int (0)]) (rest := []) (pl := 1551) hC hqX12_bowls rfl kX12_bad sX12_bad (by decide +kernel) (c_FM_bad hC y0 (1 : Int32) (0 : Int32)  M sz (d - 1) (by omega) s1 es1) (by omega) ⟨rfl, rfl⟩ rfl (Nat.le_of_ble_eq_true rfl) (Nat.le_of_ble_eq_true rfl) rfl rfl rfl (Nat.le_of_ble_eq_true rfl) ⟨Nat.le_of_ble_eq_true rfl, Nat.le_of_ble_eq_true rfl⟩ (gs_Z fun z2 => ?_)
  refine gb_if_ne hqX12_bowls rfl (fun h3 => ?_) (fun h3 => ?_)
  ·
    have hr := g_if0 h3 hr
    refine gb_run 1 (pc2 := 53) (ls2 := [(0, .ref (464)), (1, .int (c)), (2, .int (n))]) (st2 := [.int (0)]) (M2 := s1.2) hC hqX12_bowls rfl ?_
    refine gb_iret hqX12_bowls rfl rfl (Nat.le_of_ble_eq_true rfl) (Nat.le_of_ble_eq_true rfl) ?_
    exact gl_I hr
  ·
    have hr := g_if1 h3 hr
    refine gb_run 4 (pc2 := 33) (ls2 := [(0, .ref (464)), (1, .int (c)), (2, .int (n))]) (st2 := [.int (200), .int (0), .int (n), .ref (464)]) (M2 := s1.2) hC hqX12_bowls rfl ?_
    refine gz_cS (z := qX12_in) (av := [.int (n), .int (0), .int (200)]) (rest := [.ref (464)]) (pl := 1548) hC hqX12_bowls rfl kX12_in (by decide +kernel) (c_FM_in hC n (0 : Int32) (200 : Int32)  (s1.2) sz (d - 1) (by omega)) (by omega) ⟨rfl, rfl⟩ rfl rfl (Nat.le_of_ble_eq_true rfl) ⟨Nat.le_of_ble_eq_true rfl, Nat.le_of_ble_eq_true rfl⟩ (gs_Zp fun z5 => ?_)
    refine gb_if_ne hqX12_bowls rfl (fun h6 => ?_) (fun h6 => ?_)
    ·
      have hr := g_if0 h6 hr
      refine gb_run 1 (pc2 := 44) (ls2 := [(0, .ref (464)), (1, .int (c)), (2, .int (n))]) (st2 := [.int (0), .ref (464)]) (M2 := s1.2) hC hqX12_bowls rfl ?_
      exact c_FM_bowls_J44 hC c n sz d (by omega) R (0 : Int32) (s1.2) hr
    ·
      have hr := g_if1 h6 hr
      refine gb_run 2 (pc2 := 44) (ls2 := [(0, .ref (464)), (1, .int (c)), (2, .int (n))]) (st2 := [.int (1), .ref (464)]) (M2 := s1.2) hC hqX12_bowls rfl ?_
      exact c_FM_bowls_J44 hC c n sz d (by omega) R (1 : Int32) (s1.2) hr
def FM_bowls (c : Int32) (n : Int32) (M : gM) : Option (Int32 × gM) :=
  if (FM_isChild c (g_set M 464 0 (0 : Int32))) = (0 : Int32) then (FM_bowls_J19 c n (1 : Int32) (g_set M 464 0 (0 : Int32))) else (FM_bowls_J19 c n (0 : Int32) (g_set M 464 0 (0 : Int32)))
set_option maxRecDepth 20000 in
theorem c_FM_bowls {l : Launch} {C : gC} (hC : g_ctx l C) (c : Int32) (n : Int32)  (M : gM) (sz d : Nat) (hd : 7 ≤ d) (R : Int32 × gM) (hr : FM_bowls c n M = some R) : gPg l C qX12_bowls d [.ref (464), .int (c), .int (n)] 956 g_S0 M sz (qI R) := by
  refine gPg.of (ls := [(0, .ref (464)), (1, .int (c)), (2, .int (n))]) (by decide +kernel) (Nat.le_of_ble_eq_true rfl) rfl ?_
  unfold FM_bowls at hr
  refine gb_run 6 (pc2 := 8) (ls2 := [(0, .ref (464)), (1, .int (c)), (2, .int (n))]) (st2 := [.int (c), .ref (464), .ref (464)]) (M2 := g_set M 464 0 (0 : Int32)) hC hqX12_bowls rfl ?_
  refine gz_cV (z := qX12_isChild) (a := 464) (av := [.int (c)]) (rest := [.ref (464)]) (pl := 1740) hC hqX12_bowls rfl kX12_isChild sX12_isChild (by decide +kernel) (c_FM_isChild hC c  (g_set M 464 0 (0 : Int32)) sz (d - 1) (by omega)) (by omega) ⟨rfl, rfl⟩ rfl (Nat.le_of_ble_eq_true rfl) (Nat.le_of_ble_eq_true rfl) rfl rfl rfl (Nat.le_of_ble_eq_true rfl) ⟨Nat.le_of_ble_eq_true rfl, Nat.le_of_ble_eq_true rfl⟩ (gs_Zp fun z2 => ?_)
  refine gb_if_ne hqX12_bowls rfl (fun h3 => ?_) (fun h3 => ?_)
  ·
    have hr := g_if0 h3 hr
    refine gb_run 1 (pc2 := 19) (ls2 := [(0, .ref (464)), (1, .int (c)), (2, .int (n))]) (st2 := [.int (0), .ref (464)]) (M2 := g_set M 464 0 (0 : Int32)) hC hqX12_bowls rfl ?_
    exact c_FM_bowls_J19 hC c n sz d (by omega) R (0 : Int32) (g_set M 464 0 (0 : Int32)) hr
  ·
    have hr := g_if1 h3 hr
    refine gb_run 2 (pc2 := 19) (ls2 := [(0, .ref (464)), (1, .int (c)), (2, .int (n))]) (st2 := [.int (1), .ref (464)]) (M2 := g_set M 464 0 (0 : Int32)) hC hqX12_bowls rfl ?_
    exact c_FM_bowls_J19 hC c n sz d (by omega) R (1 : Int32) (g_set M 464 0 (0 : Int32)) hr
def FM_load_L33 (c : Int32) : Nat → Int32 → Int32 → gM → Option (Int32 × gM)
  | 0, _, _, _ => none
  | k + 1, x2, x3, M =>
  if (M 468 2) ≤ x3 then (some (x2, M)) else (g_ix ((0 : Int32) + x3) 48 fun j2 => if (M 930 j2) = c then (g_ix x3 8 fun j4 => FM_load_L33 c k (x2 + (M 470 j4)) (x3 + (1 : Int32)) M) else (FM_load_L33 c k (x2 + (0 : Int32)) (x3 + (1 : Int32)) M))
set_option maxRecDepth 20000 in
theorem c_FM_load_L33 {l : Launch} {C : gC} (hC : g_ctx l C) (c : Int32) (sz d : Nat) (hd : 3 ≤ d) (R : Int32 × gM) : ∀ (k : Nat) (x2 : Int32) (x3 : Int32) (M : gM), FM_load_L33 c k x2 x3 M = some R → GW l C qX12_load d (gQg 956 g_S0 (qI R) sz) gN 0 0 33 [(0, .ref (464)), (1, .int (c)), (2, .int (x2)), (3, .int (x3))] [] (956, g_S0, M, sz) := by
  intro k
  induction k with
  | zero => intro x2 x3 M hr; exact nomatch (show (none : Option (Int32 × gM)) = some R from hr)
  | succ k ih =>
    intro x2 x3 M hr
    unfold FM_load_L33 at hr
    refine gb_run 4 (pc2 := 39) (ls2 := [(0, .ref (464)), (1, .int (c)), (2, .int (x2)), (3, .int (x3))]) (st2 := [.int (2), .ref (468), .int (x3)]) (M2 := M) hC hqX12_load rfl ?_
    refine gb_iaload hC hqX12_load rfl (Nat.le_of_ble_eq_true rfl) rfl (by unfold vp_in; decide) ?_
    rw [show (2 : Int32).toNatClampNeg = 2 from rfl]
    refine gb_icmp_ge hqX12_load rfl (fun h1 => ?_) (fun h1 => ?_)
    ·
      have hr := g_if1 h1 hr
      refine gb_run 1 (pc2 := 75) (ls2 := [(0, .ref (464)), (1, .int (c)), (2, .int (x2)), (3, .int (x3))]) (st2 := [.int (x2)]) (M2 := M) hC hqX12_load rfl ?_
      refine gb_iret hqX12_load rfl rfl (Nat.le_of_ble_eq_true rfl) (Nat.le_of_ble_eq_true rfl) ?_
      exact gl_I hr
    ·
      have hr := g_if0 h1 hr
      refine gb_run 6 (pc2 := 51) (ls2 := [(0, .ref (464)), (1, .int (c)), (2, .int (x2)), (3, .int (x3))]) (st2 := [.int ((0 : Int32) + x3), .ref (930), .int (x2)]) (M2 := M) hC hqX12_load rfl ?_
      obtain ⟨j2, ej2, ij2, lj2, hr⟩ := g_ixo hr
      refine gz_iaload hC hqX12_load rfl (Nat.le_of_ble_eq_true rfl) rfl ij2 ej2 ?_
      refine gb_run 1 (pc2 := 53) (ls2 := [(0, .ref (464)), (1, .int (c)), (2, .int (x2)), (3, .int (x3))]) (st2 := [.int (c), .int (M 930 j2), .int (x2)]) (M2 := M) hC hqX12_load rfl ?_
      refine gb_icmp_ne hqX12_load rfl (fun h3 => ?_) (fun h3 => ?_)
      ·
        have hr := g_if0 h3 hr
        refine gb_run 5 (pc2 := 33) (ls2 := [(3, .int (x3 + (1 : Int32))), (2, .int (x2 + (0 : Int32))), (0, .ref (464)), (1, .int (c))]) (st2 := []) (M2 := M) hC hqX12_load rfl ?_
        refine gw_pick [2, 3, 1, 0] (ls2 := [(0, .ref (464)), (1, .int (c)), (2, .int (x2 + (0 : Int32))), (3, .int (x3 + (1 : Int32)))]) rfl ?_
        exact ih (x2 + (0 : Int32)) (x3 + (1 : Int32)) M hr
      ·
        have hr := g_if1 h3 hr
        refine gb_run 3 (pc2 := 61) (ls2 := [(0, .ref (464)), (1, .int (c)), (2, .int (x2)), (3, .int (x3))]) (st2 := [.int (x3), .ref (470), .int (x2)]) (M2 := M) hC hqX12_load rfl ?_
        obtain ⟨j4, ej4, ij4, lj4, hr⟩ := g_ixo hr
        refine gz_iaload hC hqX12_load rfl (Nat.le_of_ble_eq_true rfl) rfl ij4 ej4 ?_
        refine gb_run 5 (pc2 := 33) (ls2 := [(3, .int (x3 + (1 : Int32))), (2, .int (x2 + (M 470 j4))), (0, .ref (464)), (1, .int (c))]) (st2 := []) (M2 := M) hC hqX12_load rfl ?_
        refine gw_pick [2, 3, 1, 0] (ls2 := [(0, .ref (464)), (1, .int (c)), (2, .int (x2 + (M 470 j4))), (3, .int (x3 + (1 : Int32)))]) rfl ?_
        exact ih (x2 + (M 470 j4)) (x3 + (1 : Int32)) M hr
def FM_load_J19 (c : Int32) (y0 : Int32) (M : gM) : Option (Int32 × gM) :=
  (FM_bad y0 (1 : Int32) (0 : Int32) M).bind fun s1 => if s1.1 = (0 : Int32) then (FM_load_L33 c 1000 (0 : Int32) (0 : Int32) (s1.2)) else (some (0, s1.2))
set_option maxRecDepth 20000 in
theorem c_FM_load_J19 {l : Launch} {C : gC} (hC : g_ctx l C) (c : Int32) (sz d : Nat) (hd : 3 ≤ d) (R : Int32 × gM) (y0 : Int32) (M : gM) (hr : FM_load_J19 c y0 M = some R) : GW l C qX12_load d (gQg 956 g_S0 (qI R) sz) gN 0 0 19 [(0, .ref (464)), (1, .int (c))] [.int (y0), .ref (464)] (956, g_S0, M, sz) := by
  unfold FM_load_J19 at hr
  refine gb_run 2 (pc2 := 21) (ls2 := [(0, .ref (464)), (1, .int (c))]) (st2 := [.int (0), .int (1), .int (y0), .ref (464)]) (M2 := M) hC hqX12_load rfl ?_
  obtain ⟨s1, es1, hr⟩ := g_bd hr
  refine gz_cV (z := qX12_bad) (a := 464) (av := [.int (y0), .int (1), .int (0)]) (rest := []) (pl := 1551) hC hqX12_load rfl kX12_bad sX12_bad (by decide +kernel) (c_FM_bad hC y0 (1 : Int32) (0 : Int32)  M sz (d - 1) (by omega) s1 es1) (by omega) ⟨rfl, rfl⟩ rfl (Nat.le_of_ble_eq_true rfl) (Nat.le_of_ble_eq_true rfl) rfl rfl rfl (Nat.le_of_ble_eq_true rfl) ⟨Nat.le_of_ble_eq_true rfl, Nat.le_of_ble_eq_true rfl⟩ (gs_Z fun z2 => ?_)
  refine gb_if_eq hqX12_load rfl (fun h3 => ?_) (fun h3 => ?_)
  ·
    have hr := g_if1 h3 hr
    refine gb_run 4 (pc2 := 33) (ls2 := [(3, .int (0)), (2, .int (0)), (0, .ref (464)), (1, .int (c))]) (st2 := []) (M2 := s1.2) hC hqX12_load rfl ?_
    refine gw_pick [2, 3, 1, 0] (ls2 := [(0, .ref (464)), (1, .int (c)), (2, .int (0)), (3, .int (0))]) rfl ?_
    exact c_FM_load_L33 hC c sz d (by omega) R 1000 (0 : Int32) (0 : Int32) (s1.2) hr
  ·
    have hr := g_if0 h3 hr
    refine gb_run 1 (pc2 := 28) (ls2 := [(0, .ref (464)), (1, .int (c))]) (st2 := [.int (0)]) (M2 := s1.2) hC hqX12_load rfl ?_
    refine gb_iret hqX12_load rfl rfl (Nat.le_of_ble_eq_true rfl) (Nat.le_of_ble_eq_true rfl) ?_
    exact gl_I hr
def FM_load (c : Int32) (M : gM) : Option (Int32 × gM) :=
  if (FM_isChild c (g_set M 464 0 (0 : Int32))) = (0 : Int32) then (FM_load_J19 c (1 : Int32) (g_set M 464 0 (0 : Int32))) else (FM_load_J19 c (0 : Int32) (g_set M 464 0 (0 : Int32)))
set_option maxRecDepth 20000 in
theorem c_FM_load {l : Launch} {C : gC} (hC : g_ctx l C) (c : Int32)  (M : gM) (sz d : Nat) (hd : 3 ≤ d) (R : Int32 × gM) (hr : FM_load c M = some R) : gPg l C qX12_load d [.ref (464), .int (c)] 956 g_S0 M sz (qI R) := by
  refine gPg.of (ls := [(0, .ref (464)), (1, .int (c))]) (by decide +kernel) (Nat.le_of_ble_eq_true rfl) rfl ?_
  unfold FM_load at hr
  refine gb_run 6 (pc2 := 8) (ls2 := [(0, .ref (464)), (1, .int (c))]) (st2 := [.int (c), .ref (464), .ref (464)]) (M2 := g_set M 464 0 (0 : Int32)) hC hqX12_load rfl ?_
  refine gz_cV (z := qX12_isChild) (a := 464) (av := [.int (c)]) (rest := [.ref (464)]) (pl := 1740) hC hqX12_load rfl kX12_isChild sX12_isChild (by decide +kernel) (c_FM_isChild hC c  (g_set M 464 0 (0 : Int32)) sz (d - 1) (by omega)) (by omega) ⟨rfl, rfl⟩ rfl (Nat.le_of_ble_eq_true rfl) (Nat.le_of_ble_eq_true rfl) rfl rfl rfl (Nat.le_of_ble_eq_true rfl) ⟨Nat.le_of_ble_eq_true rfl, Nat.le_of_ble_eq_true rfl⟩ (gs_Zp fun z2 => ?_)
  refine gb_if_ne hqX12_load rfl (fun h3 => ?_) (fun h3 => ?_)
  ·
    have hr := g_if0 h3 hr
    refine gb_run 1 (pc2 := 19) (ls2 := [(0, .ref (464)), (1, .int (c))]) (st2 := [.int (0), .ref (464)]) (M2 := g_set M 464 0 (0 : Int32)) hC hqX12_load rfl ?_
    exact c_FM_load_J19 hC c sz d (by omega) R (0 : Int32) (g_set M 464 0 (0 : Int32)) hr
  ·
    have hr := g_if1 h3 hr
    refine gb_run 2 (pc2 := 19) (ls2 := [(0, .ref (464)), (1, .int (c))]) (st2 := [.int (1), .ref (464)]) (M2 := g_set M 464 0 (0 : Int32)) hC hqX12_load rfl ?_
    exact c_FM_load_J19 hC c sz d (by omega) R (1 : Int32) (g_set M 464 0 (0 : Int32)) hr
def FM_slowest_J80 (what : Int32) (c37 : Int32 → Int32 → Int32 → gM → Option (Int32 × gM)) (x2 : Int32) (x3 : Int32) (x4 : Int32) (y0 : Int32) (M : gM) : Option (Int32 × gM) :=
  if x3 < y0 then (c37 x4 y0 (x4 + (1 : Int32)) M) else (c37 x2 x3 (x4 + (1 : Int32)) M)
set_option maxRecDepth 20000 in
theorem c_FM_slowest_J80 {l : Launch} {C : gC} (hC : g_ctx l C) (what : Int32) (sz d : Nat) (hd : 7 ≤ d) (R : Int32 × gM) (c37 : Int32 → Int32 → Int32 → gM → Option (Int32 × gM)) (hc37 : ∀ (x2 : Int32) (x3 : Int32) (x4 : Int32) (M : gM), c37 x2 x3 x4 M = some R → GW l C qX12_slowest d (gQg 956 g_S0 (qI R) sz) gN 0 0 37 [(0, .ref (464)), (1, .int (what)), (2, .int (x2)), (3, .int (x3)), (4, .int (x4))] [] (956, g_S0, M, sz)) (x2 : Int32) (x3 : Int32) (x4 : Int32) (y0 : Int32) (M : gM) (hr : FM_slowest_J80 what c37 x2 x3 x4 y0 M = some R) : GW l C qX12_slowest d (gQg 956 g_S0 (qI R) sz) gN 0 0 80 [(0, .ref (464)), (1, .int (what)), (2, .int (x2)), (3, .int (x3)), (4, .int (x4))] [.int (y0)] (956, g_S0, M, sz) := by
  unfold FM_slowest_J80 at hr
  refine gb_run 3 (pc2 := 85) (ls2 := [(5, .int (y0)), (0, .ref (464)), (1, .int (what)), (2, .int (x2)), (3, .int (x3)), (4, .int (x4))]) (st2 := [.int (x3), .int (y0)]) (M2 := M) hC hqX12_slowest rfl ?_
  refine gb_icmp_gt hqX12_slowest rfl (fun h1 => ?_) (fun h1 => ?_)
  ·
    have hr := g_if1 h1 hr
    refine gb_run 6 (pc2 := 37) (ls2 := [(4, .int (x4 + (1 : Int32))), (3, .int (y0)), (2, .int (x4)), (5, .int (y0)), (0, .ref (464)), (1, .int (what))]) (st2 := []) (M2 := M) hC hqX12_slowest rfl ?_
    refine gw_pick [4, 5, 2, 1, 0] (ls2 := [(0, .ref (464)), (1, .int (what)), (2, .int (x4)), (3, .int (y0)), (4, .int (x4 + (1 : Int32)))]) rfl ?_
    exact hc37 x4 y0 (x4 + (1 : Int32)) M hr
  ·
    have hr := g_if0 h1 hr
    refine gb_run 3 (pc2 := 37) (ls2 := [(4, .int (x4 + (1 : Int32))), (5, .int (y0)), (0, .ref (464)), (1, .int (what)), (2, .int (x2)), (3, .int (x3))]) (st2 := []) (M2 := M) hC hqX12_slowest rfl ?_
    refine gw_pick [2, 3, 4, 5, 0] (ls2 := [(0, .ref (464)), (1, .int (what)), (2, .int (x2)), (3, .int (x3)), (4, .int (x4 + (1 : Int32)))]) rfl ?_
    exact hc37 x2 x3 (x4 + (1 : Int32)) M hr
def FM_slowest_L37 (what : Int32) : Nat → Int32 → Int32 → Int32 → gM → Option (Int32 × gM)
  | 0, _, _, _, _ => none
  | k + 1, x2, x3, x4, M =>
  if (M 468 2) ≤ x4 then (if what = (0 : Int32) then (some (x2, M)) else (some (x3, M))) else (g_ix ((0 : Int32) + x4) 48 fun j3 => if (M 930 j3) = (-1 : Int32) then (FM_slowest_J80 what (FM_slowest_L37 what k) x2 x3 x4 (-1 : Int32) M) else (g_ix ((0 : Int32) + x4) 48 fun j5 => (FM_longOf x4 (M 930 j5) M).bind fun s6 => FM_slowest_J80 what (FM_slowest_L37 what k) x2 x3 x4 s6.1 (s6.2)))
set_option maxRecDepth 20000 in
theorem c_FM_slowest_L37 {l : Launch} {C : gC} (hC : g_ctx l C) (what : Int32) (sz d : Nat) (hd : 7 ≤ d) (R : Int32 × gM) : ∀ (k : Nat) (x2 : Int32) (x3 : Int32) (x4 : Int32) (M : gM), FM_slowest_L37 what k x2 x3 x4 M = some R → GW l C qX12_slowest d (gQg 956 g_S0 (qI R) sz) gN 0 0 37 [(0, .ref (464)), (1, .int (what)), (2, .int (x2)), (3, .int (x3)), (4, .int (x4))] [] (956, g_S0, M, sz) := by
  intro k
  induction k with
  | zero => intro x2 x3 x4 M hr; exact nomatch (show (none : Option (Int32 × gM)) = some R from hr)
  | succ k ih =>
    intro x2 x3 x4 M hr
    unfold FM_slowest_L37 at hr
    refine gb_run 4 (pc2 := 44) (ls2 := [(0, .ref (464)), (1, .int (what)), (2, .int (x2)), (3, .int (x3)), (4, .int (x4))]) (st2 := [.int (2), .ref (468), .int (x4)]) (M2 := M) hC hqX12_slowest rfl ?_
    refine gb_iaload hC hqX12_slowest rfl (Nat.le_of_ble_eq_true rfl) rfl (by unfold vp_in; decide) ?_
    rw [show (2 : Int32).toNatClampNeg = 2 from rfl]
    refine gb_icmp_ge hqX12_slowest rfl (fun h1 => ?_) (fun h1 => ?_)
    ·
      have hr := g_if1 h1 hr
      refine gb_run 1 (pc2 := 104) (ls2 := [(0, .ref (464)), (1, .int (what)), (2, .int (x2)), (3, .int (x3)), (4, .int (x4))]) (st2 := [.int (what)]) (M2 := M) hC hqX12_slowest rfl ?_
      refine gb_if_ne hqX12_slowest rfl (fun h2 => ?_) (fun h2 => ?_)
      ·
        have hr := g_if0 h2 hr
        refine gb_run 1 (pc2 := 112) (ls2 := [(0, .ref (464)), (1, .int (what)), (2, .int (x2)), (3, .int (x3)), (4, .int (x4))]) (st2 := [.int (x3)]) (M2 := M) hC hqX12_slowest rfl ?_
        refine gb_iret hqX12_slowest rfl rfl (Nat.le_of_ble_eq_true rfl) (Nat.le_of_ble_eq_true rfl) ?_
        exact gl_I hr
      ·
        have hr := g_if1 h2 hr
        refine gb_run 2 (pc2 := 112) (ls2 := [(0, .ref (464)), (1, .int (what)), (2, .int (x2)), (3, .int (x3)), (4, .int (x4))]) (st2 := [.int (x2)]) (M2 := M) hC hqX12_slowest rfl ?_
        refine gb_iret hqX12_slowest rfl rfl (Nat.le_of_ble_eq_true rfl) (Nat.le_of_ble_eq_true rfl) ?_
        exact gl_I hr
    ·
      have hr := g_if0 h1 hr
      refine gb_run 5 (pc2 := 56) (ls2 := [(0, .ref (464)), (1, .int (what)), (2, .int (x2)), (3, .int (x3)), (4, .int (x4))]) (st2 := [.int ((0 : Int32) + x4), .ref (930)]) (M2 := M) hC hqX12_slowest rfl ?_
      obtain ⟨j3, ej3, ij3, lj3, hr⟩ := g_ixo hr
      refine gz_iaload hC hqX12_slowest rfl (Nat.le_of_ble_eq_true rfl) rfl ij3 ej3 ?_
      refine gb_run 1 (pc2 := 58) (ls2 := [(0, .ref (464)), (1, .int (what)), (2, .int (x2)), (3, .int (x3)), (4, .int (x4))]) (st2 := [.int (-1), .int (M 930 j3)]) (M2 := M) hC hqX12_slowest rfl ?_
      refine gb_icmp_ne hqX12_slowest rfl (fun h4 => ?_) (fun h4 => ?_)
      ·
        have hr := g_if0 h4 hr
        refine gb_run 7 (pc2 := 76) (ls2 := [(0, .ref (464)), (1, .int (what)), (2, .int (x2)), (3, .int (x3)), (4, .int (x4))]) (st2 := [.int ((0 : Int32) + x4), .ref (930), .int (x4), .ref (464)]) (M2 := M) hC hqX12_slowest rfl ?_
        obtain ⟨j5, ej5, ij5, lj5, hr⟩ := g_ixo hr
        refine gz_iaload hC hqX12_slowest rfl (Nat.le_of_ble_eq_true rfl) rfl ij5 ej5 ?_
        obtain ⟨s6, es6, hr⟩ := g_bd hr
        refine gz_cV (z := qX12_longOf) (a := 464) (av := [.int (x4), .int (M 930 j5)]) (rest := []) (pl := 1764) hC hqX12_slowest rfl kX12_longOf sX12_longOf (by decide +kernel) (c_FM_longOf hC x4 (M 930 j5)  M sz (d - 1) (by omega) s6 es6) (by omega) ⟨rfl, rfl⟩ rfl (Nat.le_of_ble_eq_true rfl) (Nat.le_of_ble_eq_true rfl) rfl rfl rfl (Nat.le_of_ble_eq_true rfl) ⟨Nat.le_of_ble_eq_true rfl, Nat.le_of_ble_eq_true rfl⟩ (gs_I ?_)
        exact c_FM_slowest_J80 hC what sz d (by omega) R (FM_slowest_L37 what k) ih x2 x3 x4 s6.1 (s6.2) hr
      ·
        have hr := g_if1 h4 hr
        refine gb_run 2 (pc2 := 80) (ls2 := [(0, .ref (464)), (1, .int (what)), (2, .int (x2)), (3, .int (x3)), (4, .int (x4))]) (st2 := [.int (-1)]) (M2 := M) hC hqX12_slowest rfl ?_
        exact c_FM_slowest_J80 hC what sz d (by omega) R (FM_slowest_L37 what k) ih x2 x3 x4 (-1 : Int32) M hr
def FM_slowest_J20 (what : Int32) (y0 : Int32) (M : gM) : Option (Int32 × gM) :=
  (FM_bad y0 (1 : Int32) (1 : Int32) M).bind fun s1 => if s1.1 = (0 : Int32) then (FM_slowest_L37 what 1000 (-1 : Int32) (-1 : Int32) (0 : Int32) (s1.2)) else (some (0, s1.2))
set_option maxRecDepth 20000 in
theorem c_FM_slowest_J20 {l : Launch} {C : gC} (hC : g_ctx l C) (what : Int32) (sz d : Nat) (hd : 7 ≤ d) (R : Int32 × gM) (y0 : Int32) (M : gM) (hr : FM_slowest_J20 what y0 M = some R) : GW l C qX12_slowest d (gQg 956 g_S0 (qI R) sz) gN 0 0 20 [(0, .ref (464)), (1, .int (what))] [.int (y0), .ref (464)] (956, g_S0, M, sz) := by
  unfold FM_slowest_J20 at hr
  refine gb_run 2 (pc2 := 22) (ls2 := [(0, .ref (464)), (1, .int (what))]) (st2 := [.int (1), .int (1), .int (y0), .ref (464)]) (M2 := M) hC hqX12_slowest rfl ?_
  obtain ⟨s1, es1, hr⟩ := g_bd hr
  refine gz_cV (z := qX12_bad) (a := 464) (av := [.int (y0), .int (1), .int (1)]) (rest := []) (pl := 1551) hC hqX12_slowest rfl kX12_bad sX12_bad (by decide +kernel) (c_FM_bad hC y0 (1 : Int32) (1 : Int32)  M sz (d - 1) (by omega) s1 es1) (by omega) ⟨rfl, rfl⟩ rfl (Nat.le_of_ble_eq_true rfl) (Nat.le_of_ble_eq_true rfl) rfl rfl rfl (Nat.le_of_ble_eq_true rfl) ⟨Nat.le_of_ble_eq_true rfl, Nat.le_of_ble_eq_true rfl⟩ (gs_Z fun z2 => ?_)
  refine gb_if_eq hqX12_slowest rfl (fun h3 => ?_) (fun h3 => ?_)
  ·
    have hr := g_if1 h3 hr
    refine gb_run 6 (pc2 := 37) (ls2 := [(4, .int (0)), (3, .int (-1)), (2, .int (-1)), (0, .ref (464)), (1, .int (what))]) (st2 := []) (M2 := s1.2) hC hqX12_slowest rfl ?_
    refine gw_pick [3, 4, 2, 1, 0] (ls2 := [(0, .ref (464)), (1, .int (what)), (2, .int (-1)), (3, .int (-1)), (4, .int (0))]) rfl ?_
    exact c_FM_slowest_L37 hC what sz d (by omega) R 1000 (-1 : Int32) (-1 : Int32) (0 : Int32) (s1.2) hr
  ·
    have hr := g_if0 h3 hr
    refine gb_run 1 (pc2 := 29) (ls2 := [(0, .ref (464)), (1, .int (what))]) (st2 := [.int (0)]) (M2 := s1.2) hC hqX12_slowest rfl ?_
    refine gb_iret hqX12_slowest rfl rfl (Nat.le_of_ble_eq_true rfl) (Nat.le_of_ble_eq_true rfl) ?_
    exact gl_I hr
def FM_slowest (what : Int32) (M : gM) : Option (Int32 × gM) :=
  if (FM_in what (0 : Int32) (1 : Int32)) = (0 : Int32) then (FM_slowest_J20 what (1 : Int32) (g_set M 464 0 (0 : Int32))) else (FM_slowest_J20 what (0 : Int32) (g_set M 464 0 (0 : Int32)))
set_option maxRecDepth 20000 in
theorem c_FM_slowest {l : Launch} {C : gC} (hC : g_ctx l C) (what : Int32)  (M : gM) (sz d : Nat) (hd : 7 ≤ d) (R : Int32 × gM) (hr : FM_slowest what M = some R) : gPg l C qX12_slowest d [.ref (464), .int (what)] 956 g_S0 M sz (qI R) := by
  refine gPg.of (ls := [(0, .ref (464)), (1, .int (what))]) (by decide +kernel) (Nat.le_of_ble_eq_true rfl) rfl ?_
  unfold FM_slowest at hr
  refine gb_run 7 (pc2 := 9) (ls2 := [(0, .ref (464)), (1, .int (what))]) (st2 := [.int (1), .int (0), .int (what), .ref (464)]) (M2 := g_set M 464 0 (0 : Int32)) hC hqX12_slowest rfl ?_
  refine gz_cS (z := qX12_in) (av := [.int (what), .int (0), .int (1)]) (rest := [.ref (464)]) (pl := 1548) hC hqX12_slowest rfl kX12_in (by decide +kernel) (c_FM_in hC what (0 : Int32) (1 : Int32)  (g_set M 464 0 (0 : Int32)) sz (d - 1) (by omega)) (by omega) ⟨rfl, rfl⟩ rfl rfl (Nat.le_of_ble_eq_true rfl) ⟨Nat.le_of_ble_eq_true rfl, Nat.le_of_ble_eq_true rfl⟩ (gs_Zp fun z2 => ?_)
  refine gb_if_ne hqX12_slowest rfl (fun h3 => ?_) (fun h3 => ?_)
  ·
    have hr := g_if0 h3 hr
    refine gb_run 1 (pc2 := 20) (ls2 := [(0, .ref (464)), (1, .int (what))]) (st2 := [.int (0), .ref (464)]) (M2 := g_set M 464 0 (0 : Int32)) hC hqX12_slowest rfl ?_
    exact c_FM_slowest_J20 hC what sz d (by omega) R (0 : Int32) (g_set M 464 0 (0 : Int32)) hr
  ·
    have hr := g_if1 h3 hr
    refine gb_run 2 (pc2 := 20) (ls2 := [(0, .ref (464)), (1, .int (what))]) (st2 := [.int (1), .ref (464)]) (M2 := g_set M 464 0 (0 : Int32)) hC hqX12_slowest rfl ?_
    exact c_FM_slowest_J20 hC what sz d (by omega) R (1 : Int32) (g_set M 464 0 (0 : Int32)) hr
def FM_quickest_L60 (h : Int32) (what : Int32) : Nat → Int32 → Int32 → Int32 → gM → Option (Int32 × gM)
  | 0, _, _, _, _ => none
  | k + 1, x3, x4, x5, M =>
  if (M 468 1) ≤ x5 then (if what = (0 : Int32) then (some (x3, M)) else (some (x4, M))) else ((FM_longOf h x5 M).bind fun s3 => if x3 = (-1 : Int32) then (FM_quickest_L60 h what k x5 s3.1 (x5 + (1 : Int32)) (s3.2)) else (if s3.1 < x4 then (FM_quickest_L60 h what k x5 s3.1 (x5 + (1 : Int32)) (s3.2)) else (FM_quickest_L60 h what k x3 x4 (x5 + (1 : Int32)) (s3.2))))
set_option maxRecDepth 20000 in
theorem c_FM_quickest_L60 {l : Launch} {C : gC} (hC : g_ctx l C) (h : Int32) (what : Int32) (sz d : Nat) (hd : 7 ≤ d) (R : Int32 × gM) : ∀ (k : Nat) (x3 : Int32) (x4 : Int32) (x5 : Int32) (M : gM), FM_quickest_L60 h what k x3 x4 x5 M = some R → GW l C qX12_quickest d (gQg 956 g_S0 (qI R) sz) gN 0 0 60 [(0, .ref (464)), (1, .int (h)), (2, .int (what)), (3, .int (x3)), (4, .int (x4)), (5, .int (x5))] [] (956, g_S0, M, sz) := by
  intro k
  induction k with
  | zero => intro x3 x4 x5 M hr; exact nomatch (show (none : Option (Int32 × gM)) = some R from hr)
  | succ k ih =>
    intro x3 x4 x5 M hr
    unfold FM_quickest_L60 at hr
    refine gb_run 4 (pc2 := 67) (ls2 := [(0, .ref (464)), (1, .int (h)), (2, .int (what)), (3, .int (x3)), (4, .int (x4)), (5, .int (x5))]) (st2 := [.int (1), .ref (468), .int (x5)]) (M2 := M) hC hqX12_quickest rfl ?_
    refine gb_iaload hC hqX12_quickest rfl (Nat.le_of_ble_eq_true rfl) rfl (by unfold vp_in; decide) ?_
    rw [show (1 : Int32).toNatClampNeg = 1 from rfl]
    refine gb_icmp_ge hqX12_quickest rfl (fun h1 => ?_) (fun h1 => ?_)
    ·
      have hr := g_if1 h1 hr
      refine gb_run 1 (pc2 := 109) (ls2 := [(0, .ref (464)), (1, .int (h)), (2, .int (what)), (3, .int (x3)), (4, .int (x4)), (5, .int (x5))]) (st2 := [.int (what)]) (M2 := M) hC hqX12_quickest rfl ?_
      refine gb_if_ne hqX12_quickest rfl (fun h2 => ?_) (fun h2 => ?_)
      ·
        have hr := g_if0 h2 hr
        refine gb_run 1 (pc2 := 118) (ls2 := [(0, .ref (464)), (1, .int (h)), (2, .int (what)), (3, .int (x3)), (4, .int (x4)), (5, .int (x5))]) (st2 := [.int (x4)]) (M2 := M) hC hqX12_quickest rfl ?_
        refine gb_iret hqX12_quickest rfl rfl (Nat.le_of_ble_eq_true rfl) (Nat.le_of_ble_eq_true rfl) ?_
        exact gl_I hr
      ·
        have hr := g_if1 h2 hr
        refine gb_run 2 (pc2 := 118) (ls2 := [(0, .ref (464)), (1, .int (h)), (2, .int (what)), (3, .int (x3)), (4, .int (x4)), (5, .int (x5))]) (st2 := [.int (x3)]) (M2 := M) hC hqX12_quickest rfl ?_
        refine gb_iret hqX12_quickest rfl rfl (Nat.le_of_ble_eq_true rfl) (Nat.le_of_ble_eq_true rfl) ?_
        exact gl_I hr
    ·
      have hr := g_if0 h1 hr
      refine gb_run 3 (pc2 := 75) (ls2 := [(0, .ref (464)), (1, .int (h)), (2, .int (what)), (3, .int (x3)), (4, .int (x4)), (5, .int (x5))]) (st2 := [.int (x5), .int (h), .ref (464)]) (M2 := M) hC hqX12_quickest rfl ?_
      obtain ⟨s3, es3, hr⟩ := g_bd hr
      refine gz_cV (z := qX12_longOf) (a := 464) (av := [.int (h), .int (x5)]) (rest := []) (pl := 1764) hC hqX12_quickest rfl kX12_longOf sX12_longOf (by decide +kernel) (c_FM_longOf hC h x5  M sz (d - 1) (by omega) s3 es3) (by omega) ⟨rfl, rfl⟩ rfl (Nat.le_of_ble_eq_true rfl) (Nat.le_of_ble_eq_true rfl) rfl rfl rfl (Nat.le_of_ble_eq_true rfl) ⟨Nat.le_of_ble_eq_true rfl, Nat.le_of_ble_eq_true rfl⟩ (gs_I ?_)
      refine gb_run 3 (pc2 := 82) (ls2 := [(6, .int (s3.1)), (0, .ref (464)), (1, .int (h)), (2, .int (what)), (3, .int (x3)), (4, .int (x4)), (5, .int (x5))]) (st2 := [.int (-1), .int (x3)]) (M2 := s3.2) hC hqX12_quickest rfl ?_
      refine gb_icmp_eq hqX12_quickest rfl (fun h4 => ?_) (fun h4 => ?_)
      ·
        have hr := g_if1 h4 hr
        refine gb_run 6 (pc2 := 60) (ls2 := [(5, .int (x5 + (1 : Int32))), (4, .int (s3.1)), (3, .int (x5)), (6, .int (s3.1)), (0, .ref (464)), (1, .int (h)), (2, .int (what))]) (st2 := []) (M2 := s3.2) hC hqX12_quickest rfl ?_
        refine gw_pick [4, 5, 6, 2, 1, 0] (ls2 := [(0, .ref (464)), (1, .int (h)), (2, .int (what)), (3, .int (x5)), (4, .int (s3.1)), (5, .int (x5 + (1 : Int32)))]) rfl ?_
        exact ih x5 s3.1 (x5 + (1 : Int32)) (s3.2) hr
      ·
        have hr := g_if0 h4 hr
        refine gb_run 2 (pc2 := 89) (ls2 := [(6, .int (s3.1)), (0, .ref (464)), (1, .int (h)), (2, .int (what)), (3, .int (x3)), (4, .int (x4)), (5, .int (x5))]) (st2 := [.int (x4), .int (s3.1)]) (M2 := s3.2) hC hqX12_quickest rfl ?_
        refine gb_icmp_lt hqX12_quickest rfl (fun h5 => ?_) (fun h5 => ?_)
        ·
          have hr := g_if1 h5 hr
          refine gb_run 6 (pc2 := 60) (ls2 := [(5, .int (x5 + (1 : Int32))), (4, .int (s3.1)), (3, .int (x5)), (6, .int (s3.1)), (0, .ref (464)), (1, .int (h)), (2, .int (what))]) (st2 := []) (M2 := s3.2) hC hqX12_quickest rfl ?_
          refine gw_pick [4, 5, 6, 2, 1, 0] (ls2 := [(0, .ref (464)), (1, .int (h)), (2, .int (what)), (3, .int (x5)), (4, .int (s3.1)), (5, .int (x5 + (1 : Int32)))]) rfl ?_
          exact ih x5 s3.1 (x5 + (1 : Int32)) (s3.2) hr
        ·
          have hr := g_if0 h5 hr
          refine gb_run 3 (pc2 := 60) (ls2 := [(5, .int (x5 + (1 : Int32))), (6, .int (s3.1)), (0, .ref (464)), (1, .int (h)), (2, .int (what)), (3, .int (x3)), (4, .int (x4))]) (st2 := []) (M2 := s3.2) hC hqX12_quickest rfl ?_
          refine gw_pick [2, 3, 4, 5, 6, 0] (ls2 := [(0, .ref (464)), (1, .int (h)), (2, .int (what)), (3, .int (x3)), (4, .int (x4)), (5, .int (x5 + (1 : Int32)))]) rfl ?_
          exact ih x3 x4 (x5 + (1 : Int32)) (s3.2) hr
def FM_quickest_J42 (h : Int32) (what : Int32) (y0 : Int32) (M : gM) : Option (Int32 × gM) :=
  (FM_bad y0 (2 : Int32) (1 : Int32) M).bind fun s1 => if s1.1 = (0 : Int32) then (FM_quickest_L60 h what 1000 (-1 : Int32) (-1 : Int32) (0 : Int32) (s1.2)) else (some (0, s1.2))
set_option maxRecDepth 20000 in
theorem c_FM_quickest_J42 {l : Launch} {C : gC} (hC : g_ctx l C) (h : Int32) (what : Int32) (sz d : Nat) (hd : 7 ≤ d) (R : Int32 × gM) (y0 : Int32) (M : gM) (hr : FM_quickest_J42 h what y0 M = some R) : GW l C qX12_quickest d (gQg 956 g_S0 (qI R) sz) gN 0 0 42 [(0, .ref (464)), (1, .int (h)), (2, .int (what))] [.int (y0), .ref (464)] (956, g_S0, M, sz) := by
  unfold FM_quickest_J42 at hr
  refine gb_run 2 (pc2 := 44) (ls2 := [(0, .ref (464)), (1, .int (h)), (2, .int (what))]) (st2 := [.int (1), .int (2), .int (y0), .ref (464)]) (M2 := M) hC hqX12_quickest rfl ?_
  obtain ⟨s1, es1, hr⟩ := g_bd hr
  refine gz_cV (z := qX12_bad) (a := 464) (av := [.int (y0), .int (2), .int (1)]) (rest := []) (pl := 1551) hC hqX12_quickest rfl kX12_bad sX12_bad (by decide +kernel) (c_FM_bad hC y0 (2 : Int32) (1 : Int32)  M sz (d - 1) (by omega) s1 es1) (by omega) ⟨rfl, rfl⟩ rfl (Nat.le_of_ble_eq_true rfl) (Nat.le_of_ble_eq_true rfl) rfl rfl rfl (Nat.le_of_ble_eq_true rfl) ⟨Nat.le_of_ble_eq_true rfl, Nat.le_of_ble_eq_true rfl⟩ (gs_Z fun z2 => ?_)
  refine gb_if_eq hqX12_quickest rfl (fun h3 => ?_) (fun h3 => ?_)
  ·
    have hr := g_if1 h3 hr
    refine gb_run 6 (pc2 := 60) (ls2 := [(5, .int (0)), (4, .int (-1)), (3, .int (-1)), (0, .ref (464)), (1, .int (h)), (2, .int (what))]) (st2 := []) (M2 := s1.2) hC hqX12_quickest rfl ?_
    refine gw_pick [3, 4, 5, 2, 1, 0] (ls2 := [(0, .ref (464)), (1, .int (h)), (2, .int (what)), (3, .int (-1)), (4, .int (-1)), (5, .int (0))]) rfl ?_
    exact c_FM_quickest_L60 hC h what sz d (by omega) R 1000 (-1 : Int32) (-1 : Int32) (0 : Int32) (s1.2) hr
  ·
    have hr := g_if0 h3 hr
    refine gb_run 1 (pc2 := 51) (ls2 := [(0, .ref (464)), (1, .int (h)), (2, .int (what))]) (st2 := [.int (0)]) (M2 := s1.2) hC hqX12_quickest rfl ?_
    refine gb_iret hqX12_quickest rfl rfl (Nat.le_of_ble_eq_true rfl) (Nat.le_of_ble_eq_true rfl) ?_
    exact gl_I hr
def FM_quickest_J19 (h : Int32) (what : Int32) (y0 : Int32) (M : gM) : Option (Int32 × gM) :=
  (FM_bad y0 (1 : Int32) (0 : Int32) M).bind fun s1 => if s1.1 = (0 : Int32) then (if (FM_in what (0 : Int32) (1 : Int32)) = (0 : Int32) then (FM_quickest_J42 h what (1 : Int32) (s1.2)) else (FM_quickest_J42 h what (0 : Int32) (s1.2))) else (some (0, s1.2))
set_option maxRecDepth 20000 in
theorem c_FM_quickest_J19 {l : Launch} {C : gC} (hC : g_ctx l C) (h : Int32) (what : Int32) (sz d : Nat) (hd : 7 ≤ d) (R : Int32 × gM) (y0 : Int32) (M : gM) (hr : FM_quickest_J19 h what y0 M = some R) : GW l C qX12_quickest d (gQg 956 g_S0 (qI R) sz) gN 0 0 19 [(0, .ref (464)), (1, .int (h)), (2, .int (what))] [.int (y0), .ref (464)] (956, g_S0, M, sz) := by
  unfold FM_quickest_J19 at hr
  refine gb_run 2 (pc2 := 21) (ls2 := [(0, .ref (464)), (1, .int (h)), (2, .int (what))]) (st2 := [.int (0), .int (1), .int (y0), .ref (464)]) (M2 := M) hC hqX12_quickest rfl ?_
  obtain ⟨s1, es1, hr⟩ := g_bd hr
  refine gz_cV (z := qX12_bad) (a := 464) (av := [.int (y0), .int (1), .int (0)]) (rest := []) (pl := 1551) hC hqX12_quickest rfl kX12_bad sX12_bad (by decide +kernel) (c_FM_bad hC y0 (1 : Int32) (0 : Int32)  M sz (d - 1) (by omega) s1 es1) (by omega) ⟨rfl, rfl⟩ rfl (Nat.le_of_ble_eq_true rfl) (Nat.le_of_ble_eq_true rfl) rfl rfl rfl (Nat.le_of_ble_eq_true rfl) ⟨Nat.le_of_ble_eq_true rfl, Nat.le_of_ble_eq_true rfl⟩ (gs_Z fun z2 => ?_)
  refine gb_if_ne hqX12_quickest rfl (fun h3 => ?_) (fun h3 => ?_)
  ·
    have hr := g_if0 h3 hr
    refine gb_run 1 (pc2 := 51) (ls2 := [(0, .ref (464)), (1, .int (h)), (2, .int (what))]) (st2 := [.int (0)]) (M2 := s1.2) hC hqX12_quickest rfl ?_
    refine gb_iret hqX12_quickest rfl rfl (Nat.le_of_ble_eq_true rfl) (Nat.le_of_ble_eq_true rfl) ?_
    exact gl_I hr
  ·
    have hr := g_if1 h3 hr
    refine gb_run 4 (pc2 := 31) (ls2 := [(0, .ref (464)), (1, .int (h)), (2, .int (what))]) (st2 := [.int (1), .int (0), .int (what), .ref (464)]) (M2 := s1.2) hC hqX12_quickest rfl ?_
    refine gz_cS (z := qX12_in) (av := [.int (what), .int (0), .int (1)]) (rest := [.ref (464)]) (pl := 1548) hC hqX12_quickest rfl kX12_in (by decide +kernel) (c_FM_in hC what (0 : Int32) (1 : Int32)  (s1.2) sz (d - 1) (by omega)) (by omega) ⟨rfl, rfl⟩ rfl rfl (Nat.le_of_ble_eq_true rfl) ⟨Nat.le_of_ble_eq_true rfl, Nat.le_of_ble_eq_true rfl⟩ (gs_Zp fun z5 => ?_)
    refine gb_if_ne hqX12_quickest rfl (fun h6 => ?_) (fun h6 => ?_)
    ·
      have hr := g_if0 h6 hr
      refine gb_run 1 (pc2 := 42) (ls2 := [(0, .ref (464)), (1, .int (h)), (2, .int (what))]) (st2 := [.int (0), .ref (464)]) (M2 := s1.2) hC hqX12_quickest rfl ?_
      exact c_FM_quickest_J42 hC h what sz d (by omega) R (0 : Int32) (s1.2) hr
    ·
      have hr := g_if1 h6 hr
      refine gb_run 2 (pc2 := 42) (ls2 := [(0, .ref (464)), (1, .int (h)), (2, .int (what))]) (st2 := [.int (1), .ref (464)]) (M2 := s1.2) hC hqX12_quickest rfl ?_
      exact c_FM_quickest_J42 hC h what sz d (by omega) R (1 : Int32) (s1.2) hr
def FM_quickest (h : Int32) (what : Int32) (M : gM) : Option (Int32 × gM) :=
  if (FM_isHoop h (g_set M 464 0 (0 : Int32))) = (0 : Int32) then (FM_quickest_J19 h what (1 : Int32) (g_set M 464 0 (0 : Int32))) else (FM_quickest_J19 h what (0 : Int32) (g_set M 464 0 (0 : Int32)))
set_option maxRecDepth 20000 in
theorem c_FM_quickest {l : Launch} {C : gC} (hC : g_ctx l C) (h : Int32) (what : Int32)  (M : gM) (sz d : Nat) (hd : 7 ≤ d) (R : Int32 × gM) (hr : FM_quickest h what M = some R) : gPg l C qX12_quickest d [.ref (464), .int (h), .int (what)] 956 g_S0 M sz (qI R) := by
  refine gPg.of (ls := [(0, .ref (464)), (1, .int (h)), (2, .int (what))]) (by decide +kernel) (Nat.le_of_ble_eq_true rfl) rfl ?_
  unfold FM_quickest at hr
  refine gb_run 6 (pc2 := 8) (ls2 := [(0, .ref (464)), (1, .int (h)), (2, .int (what))]) (st2 := [.int (h), .ref (464), .ref (464)]) (M2 := g_set M 464 0 (0 : Int32)) hC hqX12_quickest rfl ?_
  refine gz_cV (z := qX12_isHoop) (a := 464) (av := [.int (h)]) (rest := [.ref (464)]) (pl := 1748) hC hqX12_quickest rfl kX12_isHoop sX12_isHoop (by decide +kernel) (c_FM_isHoop hC h  (g_set M 464 0 (0 : Int32)) sz (d - 1) (by omega)) (by omega) ⟨rfl, rfl⟩ rfl (Nat.le_of_ble_eq_true rfl) (Nat.le_of_ble_eq_true rfl) rfl rfl rfl (Nat.le_of_ble_eq_true rfl) ⟨Nat.le_of_ble_eq_true rfl, Nat.le_of_ble_eq_true rfl⟩ (gs_Zp fun z2 => ?_)
  refine gb_if_ne hqX12_quickest rfl (fun h3 => ?_) (fun h3 => ?_)
  ·
    have hr := g_if0 h3 hr
    refine gb_run 1 (pc2 := 19) (ls2 := [(0, .ref (464)), (1, .int (h)), (2, .int (what))]) (st2 := [.int (0), .ref (464)]) (M2 := g_set M 464 0 (0 : Int32)) hC hqX12_quickest rfl ?_
    exact c_FM_quickest_J19 hC h what sz d (by omega) R (0 : Int32) (g_set M 464 0 (0 : Int32)) hr
  ·
    have hr := g_if1 h3 hr
    refine gb_run 2 (pc2 := 19) (ls2 := [(0, .ref (464)), (1, .int (h)), (2, .int (what))]) (st2 := [.int (1), .ref (464)]) (M2 := g_set M 464 0 (0 : Int32)) hC hqX12_quickest rfl ?_
    exact c_FM_quickest_J19 hC h what sz d (by omega) R (1 : Int32) (g_set M 464 0 (0 : Int32)) hr
def FM_debtor_L37 (what : Int32) : Nat → Int32 → Int32 → Int32 → gM → Option (Int32 × gM)
  | 0, _, _, _, _ => none
  | k + 1, x2, x3, x4, M =>
  if (M 468 1) ≤ x4 then (if what = (0 : Int32) then (some (x2, M)) else (if x2 = (-1 : Int32) then (some (x2, M)) else (some (x3, M)))) else (g_ix ((24 : Int32) + x4) 48 fun j4 => if x3 < (M 930 j4) then (g_ix ((24 : Int32) + x4) 48 fun j6 => FM_debtor_L37 what k x4 (M 930 j6) (x4 + (1 : Int32)) M) else (FM_debtor_L37 what k x2 x3 (x4 + (1 : Int32)) M))
set_option maxRecDepth 20000 in
theorem c_FM_debtor_L37 {l : Launch} {C : gC} (hC : g_ctx l C) (what : Int32) (sz d : Nat) (hd : 2 ≤ d) (R : Int32 × gM) : ∀ (k : Nat) (x2 : Int32) (x3 : Int32) (x4 : Int32) (M : gM), FM_debtor_L37 what k x2 x3 x4 M = some R → GW l C qX12_debtor d (gQg 956 g_S0 (qI R) sz) gN 0 0 37 [(0, .ref (464)), (1, .int (what)), (2, .int (x2)), (3, .int (x3)), (4, .int (x4))] [] (956, g_S0, M, sz) := by
  intro k
  induction k with
  | zero => intro x2 x3 x4 M hr; exact nomatch (show (none : Option (Int32 × gM)) = some R from hr)
  | succ k ih =>
    intro x2 x3 x4 M hr
    unfold FM_debtor_L37 at hr
    refine gb_run 4 (pc2 := 44) (ls2 := [(0, .ref (464)), (1, .int (what)), (2, .int (x2)), (3, .int (x3)), (4, .int (x4))]) (st2 := [.int (1), .ref (468), .int (x4)]) (M2 := M) hC hqX12_debtor rfl ?_
    refine gb_iaload hC hqX12_debtor rfl (Nat.le_of_ble_eq_true rfl) rfl (by unfold vp_in; decide) ?_
    rw [show (1 : Int32).toNatClampNeg = 1 from rfl]
    refine gb_icmp_ge hqX12_debtor rfl (fun h1 => ?_) (fun h1 => ?_)
    ·
      have hr := g_if1 h1 hr
      refine gb_run 1 (pc2 := 86) (ls2 := [(0, .ref (464)), (1, .int (what)), (2, .int (x2)), (3, .int (x3)), (4, .int (x4))]) (st2 := [.int (what)]) (M2 := M) hC hqX12_debtor rfl ?_
      refine gb_if_eq hqX12_debtor rfl (fun h2 => ?_) (fun h2 => ?_)
      ·
        have hr := g_if1 h2 hr
        refine gb_run 2 (pc2 := 99) (ls2 := [(0, .ref (464)), (1, .int (what)), (2, .int (x2)), (3, .int (x3)), (4, .int (x4))]) (st2 := [.int (x2)]) (M2 := M) hC hqX12_debtor rfl ?_
        refine gb_iret hqX12_debtor rfl rfl (Nat.le_of_ble_eq_true rfl) (Nat.le_of_ble_eq_true rfl) ?_
        exact gl_I hr
      ·
        have hr := g_if0 h2 hr
        refine gb_run 2 (pc2 := 91) (ls2 := [(0, .ref (464)), (1, .int (what)), (2, .int (x2)), (3, .int (x3)), (4, .int (x4))]) (st2 := [.int (-1), .int (x2)]) (M2 := M) hC hqX12_debtor rfl ?_
        refine gb_icmp_ne hqX12_debtor rfl (fun h3 => ?_) (fun h3 => ?_)
        ·
          have hr := g_if0 h3 hr
          refine gb_run 1 (pc2 := 99) (ls2 := [(0, .ref (464)), (1, .int (what)), (2, .int (x2)), (3, .int (x3)), (4, .int (x4))]) (st2 := [.int (x3)]) (M2 := M) hC hqX12_debtor rfl ?_
          refine gb_iret hqX12_debtor rfl rfl (Nat.le_of_ble_eq_true rfl) (Nat.le_of_ble_eq_true rfl) ?_
          exact gl_I hr
        ·
          have hr := g_if1 h3 hr
          refine gb_run 2 (pc2 := 99) (ls2 := [(0, .ref (464)), (1, .int (what)), (2, .int (x2)), (3, .int (x3)), (4, .int (x4))]) (st2 := [.int (x2)]) (M2 := M) hC hqX12_debtor rfl ?_
          refine gb_iret hqX12_debtor rfl rfl (Nat.le_of_ble_eq_true rfl) (Nat.le_of_ble_eq_true rfl) ?_
          exact gl_I hr
    ·
      have hr := g_if0 h1 hr
      refine gb_run 5 (pc2 := 57) (ls2 := [(0, .ref (464)), (1, .int (what)), (2, .int (x2)), (3, .int (x3)), (4, .int (x4))]) (st2 := [.int ((24 : Int32) + x4), .ref (930)]) (M2 := M) hC hqX12_debtor rfl ?_
      obtain ⟨j4, ej4, ij4, lj4, hr⟩ := g_ixo hr
      refine gz_iaload hC hqX12_debtor rfl (Nat.le_of_ble_eq_true rfl) rfl ij4 ej4 ?_
      refine gb_run 1 (pc2 := 59) (ls2 := [(0, .ref (464)), (1, .int (what)), (2, .int (x2)), (3, .int (x3)), (4, .int (x4))]) (st2 := [.int (x3), .int (M 930 j4)]) (M2 := M) hC hqX12_debtor rfl ?_
      refine gb_icmp_gt hqX12_debtor rfl (fun h5 => ?_) (fun h5 => ?_)
      ·
        have hr := g_if1 h5 hr
        refine gb_run 7 (pc2 := 77) (ls2 := [(2, .int (x4)), (0, .ref (464)), (1, .int (what)), (3, .int (x3)), (4, .int (x4))]) (st2 := [.int ((24 : Int32) + x4), .ref (930)]) (M2 := M) hC hqX12_debtor rfl ?_
        obtain ⟨j6, ej6, ij6, lj6, hr⟩ := g_ixo hr
        refine gz_iaload hC hqX12_debtor rfl (Nat.le_of_ble_eq_true rfl) rfl ij6 ej6 ?_
        refine gb_run 3 (pc2 := 37) (ls2 := [(4, .int (x4 + (1 : Int32))), (3, .int (M 930 j6)), (2, .int (x4)), (0, .ref (464)), (1, .int (what))]) (st2 := []) (M2 := M) hC hqX12_debtor rfl ?_
        refine gw_pick [3, 4, 2, 1, 0] (ls2 := [(0, .ref (464)), (1, .int (what)), (2, .int (x4)), (3, .int (M 930 j6)), (4, .int (x4 + (1 : Int32)))]) rfl ?_
        exact ih x4 (M 930 j6) (x4 + (1 : Int32)) M hr
      ·
        have hr := g_if0 h5 hr
        refine gb_run 3 (pc2 := 37) (ls2 := [(4, .int (x4 + (1 : Int32))), (0, .ref (464)), (1, .int (what)), (2, .int (x2)), (3, .int (x3))]) (st2 := []) (M2 := M) hC hqX12_debtor rfl ?_
        refine gw_pick [1, 2, 3, 4, 0] (ls2 := [(0, .ref (464)), (1, .int (what)), (2, .int (x2)), (3, .int (x3)), (4, .int (x4 + (1 : Int32)))]) rfl ?_
        exact ih x2 x3 (x4 + (1 : Int32)) M hr
def FM_debtor_J20 (what : Int32) (y0 : Int32) (M : gM) : Option (Int32 × gM) :=
  (FM_bad y0 (1 : Int32) (1 : Int32) M).bind fun s1 => if s1.1 = (0 : Int32) then (FM_debtor_L37 what 1000 (-1 : Int32) (0 : Int32) (0 : Int32) (s1.2)) else (some (0, s1.2))
set_option maxRecDepth 20000 in
theorem c_FM_debtor_J20 {l : Launch} {C : gC} (hC : g_ctx l C) (what : Int32) (sz d : Nat) (hd : 2 ≤ d) (R : Int32 × gM) (y0 : Int32) (M : gM) (hr : FM_debtor_J20 what y0 M = some R) : GW l C qX12_debtor d (gQg 956 g_S0 (qI R) sz) gN 0 0 20 [(0, .ref (464)), (1, .int (what))] [.int (y0), .ref (464)] (956, g_S0, M, sz) := by
  unfold FM_debtor_J20 at hr
  refine gb_run 2 (pc2 := 22) (ls2 := [(0, .ref (464)), (1, .int (what))]) (st2 := [.int (1), .int (1), .int (y0), .ref (464)]) (M2 := M) hC hqX12_debtor rfl ?_
  obtain ⟨s1, es1, hr⟩ := g_bd hr
  refine gz_cV (z := qX12_bad) (a := 464) (av := [.int (y0), .int (1), .int (1)]) (rest := []) (pl := 1551) hC hqX12_debtor rfl kX12_bad sX12_bad (by decide +kernel) (c_FM_bad hC y0 (1 : Int32) (1 : Int32)  M sz (d - 1) (by omega) s1 es1) (by omega) ⟨rfl, rfl⟩ rfl (Nat.le_of_ble_eq_true rfl) (Nat.le_of_ble_eq_true rfl) rfl rfl rfl (Nat.le_of_ble_eq_true rfl) ⟨Nat.le_of_ble_eq_true rfl, Nat.le_of_ble_eq_true rfl⟩ (gs_Z fun z2 => ?_)
  refine gb_if_eq hqX12_debtor rfl (fun h3 => ?_) (fun h3 => ?_)
  ·
    have hr := g_if1 h3 hr
    refine gb_run 6 (pc2 := 37) (ls2 := [(4, .int (0)), (3, .int (0)), (2, .int (-1)), (0, .ref (464)), (1, .int (what))]) (st2 := []) (M2 := s1.2) hC hqX12_debtor rfl ?_
    refine gw_pick [3, 4, 2, 1, 0] (ls2 := [(0, .ref (464)), (1, .int (what)), (2, .int (-1)), (3, .int (0)), (4, .int (0))]) rfl ?_
    exact c_FM_debtor_L37 hC what sz d (by omega) R 1000 (-1 : Int32) (0 : Int32) (0 : Int32) (s1.2) hr
  ·
    have hr := g_if0 h3 hr
    refine gb_run 1 (pc2 := 29) (ls2 := [(0, .ref (464)), (1, .int (what))]) (st2 := [.int (0)]) (M2 := s1.2) hC hqX12_debtor rfl ?_
    refine gb_iret hqX12_debtor rfl rfl (Nat.le_of_ble_eq_true rfl) (Nat.le_of_ble_eq_true rfl) ?_
    exact gl_I hr
def FM_debtor (what : Int32) (M : gM) : Option (Int32 × gM) :=
  if (FM_in what (0 : Int32) (1 : Int32)) = (0 : Int32) then (FM_debtor_J20 what (1 : Int32) (g_set M 464 0 (0 : Int32))) else (FM_debtor_J20 what (0 : Int32) (g_set M 464 0 (0 : Int32)))
set_option maxRecDepth 20000 in
theorem c_FM_debtor {l : Launch} {C : gC} (hC : g_ctx l C) (what : Int32)  (M : gM) (sz d : Nat) (hd : 2 ≤ d) (R : Int32 × gM) (hr : FM_debtor what M = some R) : gPg l C qX12_debtor d [.ref (464), .int (what)] 956 g_S0 M sz (qI R) := by
  refine gPg.of (ls := [(0, .ref (464)), (1, .int (what))]) (by decide +kernel) (Nat.le_of_ble_eq_true rfl) rfl ?_
  unfold FM_debtor at hr
  refine gb_run 7 (pc2 := 9) (ls2 := [(0, .ref (464)), (1, .int (what))]) (st2 := [.int (1), .int (0), .int (what), .ref (464)]) (M2 := g_set M 464 0 (0 : Int32)) hC hqX12_debtor rfl ?_
  refine gz_cS (z := qX12_in) (av := [.int (what), .int (0), .int (1)]) (rest := [.ref (464)]) (pl := 1548) hC hqX12_debtor rfl kX12_in (by decide +kernel) (c_FM_in hC what (0 : Int32) (1 : Int32)  (g_set M 464 0 (0 : Int32)) sz (d - 1) (by omega)) (by omega) ⟨rfl, rfl⟩ rfl rfl (Nat.le_of_ble_eq_true rfl) ⟨Nat.le_of_ble_eq_true rfl, Nat.le_of_ble_eq_true rfl⟩ (gs_Zp fun z2 => ?_)
  refine gb_if_ne hqX12_debtor rfl (fun h3 => ?_) (fun h3 => ?_)
  ·
    have hr := g_if0 h3 hr
    refine gb_run 1 (pc2 := 20) (ls2 := [(0, .ref (464)), (1, .int (what))]) (st2 := [.int (0), .ref (464)]) (M2 := g_set M 464 0 (0 : Int32)) hC hqX12_debtor rfl ?_
    exact c_FM_debtor_J20 hC what sz d (by omega) R (0 : Int32) (g_set M 464 0 (0 : Int32)) hr
  ·
    have hr := g_if1 h3 hr
    refine gb_run 2 (pc2 := 20) (ls2 := [(0, .ref (464)), (1, .int (what))]) (st2 := [.int (1), .ref (464)]) (M2 := g_set M 464 0 (0 : Int32)) hC hqX12_debtor rfl ?_
    exact c_FM_debtor_J20 hC what sz d (by omega) R (1 : Int32) (g_set M 464 0 (0 : Int32)) hr
def FM_idle_L18 : Nat → Int32 → Int32 → gM → Option (Int32 × gM)
  | 0, _, _, _ => none
  | k + 1, x1, x2, M =>
  if (M 468 2) ≤ x2 then (some (x1, M)) else (g_ix ((0 : Int32) + x2) 48 fun j2 => if (M 930 j2) = (-1 : Int32) then (FM_idle_L18 k (x1 &&& x1) (x2 + (1 : Int32)) M) else (g_ix ((0 : Int32) + x2) 48 fun j4 => FM_idle_L18 k (x1 &&& (((1 : Int32) <<< ((M 930 j4) &&& 31)) ^^^ (-1 : Int32))) (x2 + (1 : Int32)) M))
set_option maxRecDepth 20000 in
theorem c_FM_idle_L18 {l : Launch} {C : gC} (hC : g_ctx l C) (sz d : Nat) (hd : 1 ≤ d) (R : Int32 × gM) : ∀ (k : Nat) (x1 : Int32) (x2 : Int32) (M : gM), FM_idle_L18 k x1 x2 M = some R → GW l C qX12_idle d (gQg 956 g_S0 (qI R) sz) gN 0 0 18 [(0, .ref (464)), (1, .int (x1)), (2, .int (x2))] [] (956, g_S0, M, sz) := by
  intro k
  induction k with
  | zero => intro x1 x2 M hr; exact nomatch (show (none : Option (Int32 × gM)) = some R from hr)
  | succ k ih =>
    intro x1 x2 M hr
    unfold FM_idle_L18 at hr
    refine gb_run 4 (pc2 := 24) (ls2 := [(0, .ref (464)), (1, .int (x1)), (2, .int (x2))]) (st2 := [.int (2), .ref (468), .int (x2)]) (M2 := M) hC hqX12_idle rfl ?_
    refine gb_iaload hC hqX12_idle rfl (Nat.le_of_ble_eq_true rfl) rfl (by unfold vp_in; decide) ?_
    rw [show (2 : Int32).toNatClampNeg = 2 from rfl]
    refine gb_icmp_ge hqX12_idle rfl (fun h1 => ?_) (fun h1 => ?_)
    ·
      have hr := g_if1 h1 hr
      refine gb_run 1 (pc2 := 66) (ls2 := [(0, .ref (464)), (1, .int (x1)), (2, .int (x2))]) (st2 := [.int (x1)]) (M2 := M) hC hqX12_idle rfl ?_
      refine gb_iret hqX12_idle rfl rfl (Nat.le_of_ble_eq_true rfl) (Nat.le_of_ble_eq_true rfl) ?_
      exact gl_I hr
    ·
      have hr := g_if0 h1 hr
      refine gb_run 6 (pc2 := 36) (ls2 := [(0, .ref (464)), (1, .int (x1)), (2, .int (x2))]) (st2 := [.int ((0 : Int32) + x2), .ref (930), .int (x1)]) (M2 := M) hC hqX12_idle rfl ?_
      obtain ⟨j2, ej2, ij2, lj2, hr⟩ := g_ixo hr
      refine gz_iaload hC hqX12_idle rfl (Nat.le_of_ble_eq_true rfl) rfl ij2 ej2 ?_
      refine gb_run 1 (pc2 := 38) (ls2 := [(0, .ref (464)), (1, .int (x1)), (2, .int (x2))]) (st2 := [.int (-1), .int (M 930 j2), .int (x1)]) (M2 := M) hC hqX12_idle rfl ?_
      refine gb_icmp_ne hqX12_idle rfl (fun h3 => ?_) (fun h3 => ?_)
      ·
        have hr := g_if0 h3 hr
        refine gb_run 6 (pc2 := 53) (ls2 := [(0, .ref (464)), (1, .int (x1)), (2, .int (x2))]) (st2 := [.int ((0 : Int32) + x2), .ref (930), .int (1), .int (x1)]) (M2 := M) hC hqX12_idle rfl ?_
        obtain ⟨j4, ej4, ij4, lj4, hr⟩ := g_ixo hr
        refine gz_iaload hC hqX12_idle rfl (Nat.le_of_ble_eq_true rfl) rfl ij4 ej4 ?_
        refine gb_run 7 (pc2 := 18) (ls2 := [(2, .int (x2 + (1 : Int32))), (1, .int (x1 &&& (((1 : Int32) <<< ((M 930 j4) &&& 31)) ^^^ (-1 : Int32)))), (0, .ref (464))]) (st2 := []) (M2 := M) hC hqX12_idle rfl ?_
        refine gw_pick [2, 1, 0] (ls2 := [(0, .ref (464)), (1, .int (x1 &&& (((1 : Int32) <<< ((M 930 j4) &&& 31)) ^^^ (-1 : Int32)))), (2, .int (x2 + (1 : Int32)))]) rfl ?_
        exact ih (x1 &&& (((1 : Int32) <<< ((M 930 j4) &&& 31)) ^^^ (-1 : Int32))) (x2 + (1 : Int32)) M hr
      ·
        have hr := g_if1 h3 hr
        refine gb_run 6 (pc2 := 18) (ls2 := [(2, .int (x2 + (1 : Int32))), (1, .int (x1 &&& x1)), (0, .ref (464))]) (st2 := []) (M2 := M) hC hqX12_idle rfl ?_
        refine gw_pick [2, 1, 0] (ls2 := [(0, .ref (464)), (1, .int (x1 &&& x1)), (2, .int (x2 + (1 : Int32)))]) rfl ?_
        exact ih (x1 &&& x1) (x2 + (1 : Int32)) M hr
def FM_idle  (M : gM) : Option (Int32 × gM) :=
  FM_idle_L18 1000 (((1 : Int32) <<< ((M 468 1) &&& 31)) - (1 : Int32)) (0 : Int32) (g_set M 464 0 (0 : Int32))
set_option maxRecDepth 20000 in
theorem c_FM_idle {l : Launch} {C : gC} (hC : g_ctx l C)   (M : gM) (sz d : Nat) (hd : 1 ≤ d) (R : Int32 × gM) (hr : FM_idle M = some R) : gPg l C qX12_idle d [.ref (464)] 956 g_S0 M sz (qI R) := by
  refine gPg.of (ls := [(0, .ref (464))]) (by decide +kernel) (Nat.le_of_ble_eq_true rfl) rfl ?_
  unfold FM_idle at hr
  refine gb_run 7 (pc2 := 11) (ls2 := [(0, .ref (464))]) (st2 := [.int (1), .ref (468), .int (1)]) (M2 := g_set M 464 0 (0 : Int32)) hC hqX12_idle rfl ?_
  refine gb_iaload hC hqX12_idle rfl (Nat.le_of_ble_eq_true rfl) rfl (by unfold vp_in; decide) ?_
  rw [show (1 : Int32).toNatClampNeg = 1 from rfl]
  refine gb_run 6 (pc2 := 18) (ls2 := [(2, .int (0)), (1, .int (((1 : Int32) <<< ((M 468 1) &&& 31)) - (1 : Int32))), (0, .ref (464))]) (st2 := []) (M2 := g_set M 464 0 (0 : Int32)) hC hqX12_idle rfl ?_
  refine gw_pick [2, 1, 0] (ls2 := [(0, .ref (464)), (1, .int (((1 : Int32) <<< ((M 468 1) &&& 31)) - (1 : Int32))), (2, .int (0))]) rfl ?_
  exact c_FM_idle_L18 hC sz d (by omega) R 1000 (((1 : Int32) <<< ((M 468 1) &&& 31)) - (1 : Int32)) (0 : Int32) (g_set M 464 0 (0 : Int32)) hr
