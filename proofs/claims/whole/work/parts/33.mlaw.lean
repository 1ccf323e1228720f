/-! mlaw, decompiled. -/
def FM_notes (what : Int32) (v : Int32) (M : gM) : Option (gM) :=
  if (M 464 5) = (0 : Int32) then (g_ix (M 464 20) 160 fun j2 => g_let (g_set M (669 + j2) 0 what) fun M3 => g_ix (M3 464 20) 160 fun j4 => g_let (g_set M3 (669 + j4) 1 v) fun M5 => some (g_set M5 464 20 ((M5 464 20) + (1 : Int32)))) else (some M)
set_option maxRecDepth 20000 in
theorem c_FM_notes {l : Launch} {C : gC} (hC : g_ctx l C) (what : Int32) (v : Int32)  (M : gM) (sz d : Nat) (hd : 1 ≤ d) (R : gM) (hr : FM_notes what v M = some R) : gPg l C qX12_notes d [.ref (464), .int (what), .int (v)] 956 g_S0 M sz (qV R) := by
  refine gPg.of (ls := [(0, .ref (464)), (1, .int (what)), (2, .int (v))]) (by decide +kernel) (Nat.le_of_ble_eq_true rfl) rfl ?_
  unfold FM_notes at hr
  refine gb_run 2 (pc2 := 4) (ls2 := [(0, .ref (464)), (1, .int (what)), (2, .int (v))]) (st2 := [.int (M 464 5)]) (M2 := M) hC hqX12_notes rfl ?_
  refine gb_if_eq hqX12_notes rfl (fun h1 => ?_) (fun h1 => ?_)
  ·
    have hr := g_if1 h1 hr
    refine gb_run 4 (pc2 := 16) (ls2 := [(0, .ref (464)), (1, .int (what)), (2, .int (v))]) (st2 := [.int (M 464 20), .ref (668)]) (M2 := M) hC hqX12_notes rfl ?_
    obtain ⟨j2, ej2, ij2, lj2, hr⟩ := g_ixo hr
    have tj2 := g_t668 j2 lj2
    refine gz_aaload (k0 := 2) (q := 669 + j2) hC hqX12_notes rfl (Nat.le_of_ble_eq_true rfl) rfl (Nat.le_of_ble_eq_true rfl) ij2 ej2 tj2.1 ?_
    refine gb_run 2 (pc2 := 19) (ls2 := [(0, .ref (464)), (1, .int (what)), (2, .int (v))]) (st2 := [.int (what), .int (0), .ref (669 + j2)]) (M2 := M) hC hqX12_notes rfl ?_
    refine gb_iastore hC hqX12_notes rfl tj2.2.1 (g_S3 tj2.2.2.1 tj2.2.2.2) (by unfold vp_in; decide) ?_
    rw [show (0 : Int32).toNatClampNeg = 0 from rfl]
    refine g_letP (P := fun M3 => GW l C qX12_notes d (gQg 956 g_S0 (qV R) sz) gN 0 0 20 [(0, .ref (464)), (1, .int (what)), (2, .int (v))] [] (956, g_S0, M3, sz)) hr (fun M3 hr => ?_)
    refine gb_run 4 (pc2 := 28) (ls2 := [(0, .ref (464)), (1, .int (what)), (2, .int (v))]) (st2 := [.int (M3 464 20), .ref (668)]) (M2 := M3) hC hqX12_notes rfl ?_
    obtain ⟨j4, ej4, ij4, lj4, hr⟩ := g_ixo hr
    have tj4 := g_t668 j4 lj4
    refine gz_aaload (k0 := 2) (q := 669 + j4) hC hqX12_notes rfl (Nat.le_of_ble_eq_true rfl) rfl (Nat.le_of_ble_eq_true rfl) ij4 ej4 tj4.1 ?_
    refine gb_run 2 (pc2 := 31) (ls2 := [(0, .ref (464)), (1, .int (what)), (2, .int (v))]) (st2 := [.int (v), .int (1), .ref (669 + j4)]) (M2 := M3) hC hqX12_notes rfl ?_
    refine gb_iastore hC hqX12_notes rfl tj4.2.1 (g_S3 tj4.2.2.1 tj4.2.2.2) (by unfold vp_in; decide) ?_
    rw [show (1 : Int32).toNatClampNeg = 1 from rfl]
    refine g_letP (P := fun M5 => GW l C qX12_notes d (gQg 956 g_S0 (qV R) sz) gN 0 0 32 [(0, .ref (464)), (1, .int (what)), (2, .int (v))] [] (956, g_S0, M5, sz)) hr (fun M5 hr => ?_)
    refine gb_run 6 (pc2 := 42) (ls2 := [(0, .ref (464)), (1, .int (what)), (2, .int (v))]) (st2 := []) (M2 := g_set M5 464 20 ((M5 464 20) + (1 : Int32))) hC hqX12_notes rfl ?_
    refine gb_vret hqX12_notes rfl rfl (Nat.le_of_ble_eq_true rfl) (Nat.le_of_ble_eq_true rfl) ?_
    exact gl_V hr
  ·
    have hr := g_if0 h1 hr
    refine gb_vret hqX12_notes rfl rfl (Nat.le_of_ble_eq_true rfl) (Nat.le_of_ble_eq_true rfl) ?_
    exact gl_V hr
def FM_opensOne_J45 (M : gM) : Option (Int32 × gM) :=
  if (M 464 5) = (0 : Int32) then (some (1, M)) else (some (0, M))
set_option maxRecDepth 20000 in
theorem c_FM_opensOne_J45 {l : Launch} {C : gC} (hC : g_ctx l C) (sz d : Nat) (hd : 2 ≤ d) (R : Int32 × gM) (M : gM) (hr : FM_opensOne_J45 M = some R) : GW l C qX12_opensOne d (gQg 956 g_S0 (qZ R) sz) gN 0 0 45 [(0, .ref (464))] [] (956, g_S0, M, sz) := by
  unfold FM_opensOne_J45 at hr
  refine gb_run 2 (pc2 := 49) (ls2 := [(0, .ref (464))]) (st2 := [.int (M 464 5)]) (M2 := M) hC hqX12_opensOne rfl ?_
  refine gb_if_ne hqX12_opensOne rfl (fun h1 => ?_) (fun h1 => ?_)
  ·
    have hr := g_if0 h1 hr
    refine gb_run 1 (pc2 := 57) (ls2 := [(0, .ref (464))]) (st2 := [.int (0)]) (M2 := M) hC hqX12_opensOne rfl ?_
    refine gb_zret hqX12_opensOne rfl rfl (Nat.le_of_ble_eq_true rfl) (Nat.le_of_ble_eq_true rfl) (Or.inl rfl) ?_
    exact gl_Z (Or.inl rfl) hr
  ·
    have hr := g_if1 h1 hr
    refine gb_run 2 (pc2 := 57) (ls2 := [(0, .ref (464))]) (st2 := [.int (1)]) (M2 := M) hC hqX12_opensOne rfl ?_
    refine gb_zret hqX12_opensOne rfl rfl (Nat.le_of_ble_eq_true rfl) (Nat.le_of_ble_eq_true rfl) (Or.inr rfl) ?_
    exact gl_Z (Or.inr rfl) hr
def FM_opensOne_J28 (M : gM) : Option (Int32 × gM) :=
  if (M 464 5) = (0 : Int32) then (FM_opensOne_J45 (g_set M 464 8 ((M 464 8) + (1 : Int32)))) else (FM_opensOne_J45 M)
set_option maxRecDepth 20000 in
theorem c_FM_opensOne_J28 {l : Launch} {C : gC} (hC : g_ctx l C) (sz d : Nat) (hd : 2 ≤ d) (R : Int32 × gM) (M : gM) (hr : FM_opensOne_J28 M = some R) : GW l C qX12_opensOne d (gQg 956 g_S0 (qZ R) sz) gN 0 0 28 [(0, .ref (464))] [] (956, g_S0, M, sz) := by
  unfold FM_opensOne_J28 at hr
  refine gb_run 2 (pc2 := 32) (ls2 := [(0, .ref (464))]) (st2 := [.int (M 464 5)]) (M2 := M) hC hqX12_opensOne rfl ?_
  refine gb_if_ne hqX12_opensOne rfl (fun h1 => ?_) (fun h1 => ?_)
  ·
    have hr := g_if0 h1 hr
    exact c_FM_opensOne_J45 hC sz d (by omega) R M hr
  ·
    have hr := g_if1 h1 hr
    refine gb_run 6 (pc2 := 45) (ls2 := [(0, .ref (464))]) (st2 := []) (M2 := g_set M 464 8 ((M 464 8) + (1 : Int32))) hC hqX12_opensOne rfl ?_
    exact c_FM_opensOne_J45 hC sz d (by omega) R (g_set M 464 8 ((M 464 8) + (1 : Int32))) hr
def FM_opensOne  (M : gM) : Option (Int32 × gM) :=
  if (M 464 5) = (0 : Int32) then (if (M 464 8) = (6 : Int32) then ((FM_wrong (3 : Int32) (M 464 4) M).bind fun s3 => FM_opensOne_J45 s3) else (FM_opensOne_J28 M)) else (FM_opensOne_J28 M)
set_option maxRecDepth 20000 in
theorem c_FM_opensOne {l : Launch} {C : gC} (hC : g_ctx l C)   (M : gM) (sz d : Nat) (hd : 2 ≤ d) (R : Int32 × gM) (hr : FM_opensOne M = some R) : gPg l C qX12_opensOne d [.ref (464)] 956 g_S0 M sz (qZ R) := by
  refine gPg.of (ls := [(0, .ref (464))]) (by decide +kernel) (Nat.le_of_ble_eq_true rfl) rfl ?_
  unfold FM_opensOne at hr
  refine gb_run 2 (pc2 := 4) (ls2 := [(0, .ref (464))]) (st2 := [.int (M 464 5)]) (M2 := M) hC hqX12_opensOne rfl ?_
  refine gb_if_ne hqX12_opensOne rfl (fun h1 => ?_) (fun h1 => ?_)
  ·
    have hr := g_if0 h1 hr
    exact c_FM_opensOne_J28 hC sz d (by omega) R M hr
  ·
    have hr := g_if1 h1 hr
    refine gb_run 3 (pc2 := 13) (ls2 := [(0, .ref (464))]) (st2 := [.int (6), .int (M 464 8)]) (M2 := M) hC hqX12_opensOne rfl ?_
    refine gb_icmp_ne hqX12_opensOne rfl (fun h2 => ?_) (fun h2 => ?_)
    ·
      have hr := g_if0 h2 hr
      exact c_FM_opensOne_J28 hC sz d (by omega) R M hr
    ·
      have hr := g_if1 h2 hr
      refine gb_run 4 (pc2 := 22) (ls2 := [(0, .ref (464))]) (st2 := [.int (M 464 4), .int (3), .ref (464)]) (M2 := M) hC hqX12_opensOne rfl ?_
      obtain ⟨s3, es3, hr⟩ := g_bd hr
      refine gz_cV (z := qX12_wrong) (a := 464) (av := [.int (3), .int (M 464 4)]) (rest := []) (pl := 1589) hC hqX12_opensOne rfl kX12_wrong sX12_wrong (by decide +kernel) (c_FM_wrong hC (3 : Int32) (M 464 4)  M sz (d - 1) (by omega) s3 es3) (by omega) ⟨rfl, rfl⟩ rfl (Nat.le_of_ble_eq_true rfl) (Nat.le_of_ble_eq_true rfl) rfl rfl rfl (Nat.le_of_ble_eq_true rfl) ⟨Nat.le_of_ble_eq_true rfl, Nat.le_of_ble_eq_true rfl⟩ (gs_V ?_)
      refine gb_run 1 (pc2 := 45) (ls2 := [(0, .ref (464))]) (st2 := []) (M2 := s3) hC hqX12_opensOne rfl ?_
      exact c_FM_opensOne_J45 hC sz d (by omega) R s3 hr
def FM_knownHere  (M : gM) : Option (Int32 × gM) :=
  (FM_takes (12 : Int32) (5 : Int32) (14 : Int32) (7 : Int32) (20 : Int32) (8 : Int32) M).bind fun s1 => if s1.1 = (0 : Int32) then ((FM_takes (16 : Int32) (1 : Int32) (3 : Int32) (5 : Int32) (0 : Int32) (0 : Int32) (s1.2)).bind fun s4 => if s4.1 = (0 : Int32) then ((FM_takes (1 : Int32) (7 : Int32) (5 : Int32) (0 : Int32) (0 : Int32) (0 : Int32) (s4.2)).bind fun s7 => if s7.1 = (0 : Int32) then ((FM_takes (23 : Int32) (5 : Int32) (9 : Int32) (7 : Int32) (8 : Int32) (20 : Int32) (s7.2)).bind fun s10 => if s10.1 = (0 : Int32) then ((FM_takes (20 : Int32) (9 : Int32) (18 : Int32) (5 : Int32) (4 : Int32) (0 : Int32) (s10.2)).bind fun s13 => if s13.1 = (0 : Int32) then ((FM_takes (18 : Int32) (1 : Int32) (9 : Int32) (14 : Int32) (0 : Int32) (0 : Int32) (s13.2)).bind fun s16 => if s16.1 = (0 : Int32) then ((FM_takes (23 : Int32) (1 : Int32) (12 : Int32) (11 : Int32) (0 : Int32) (0 : Int32) (s16.2)).bind fun s19 => if s19.1 = (0 : Int32) then ((FM_takes (8 : Int32) (15 : Int32) (15 : Int32) (16 : Int32) (0 : Int32) (0 : Int32) (s19.2)).bind fun s22 => if s22.1 = (0 : Int32) then ((FM_takes (2 : Int32) (18 : Int32) (9 : Int32) (2 : Int32) (5 : Int32) (0 : Int32) (s22.2)).bind fun s25 => if s25.1 = (0 : Int32) then (some (-1, s25.2)) else (some (8, s25.2))) else (some (7, s22.2))) else (some (6, s19.2))) else (some (5, s16.2))) else (some (4, s13.2))) else (some (3, s10.2))) else (some (2, s7.2))) else (some (1, s4.2))) else (some (0, s1.2))
set_option maxRecDepth 20000 in
theorem c_FM_knownHere {l : Launch} {C : gC} (hC : g_ctx l C)   (M : gM) (sz d : Nat) (hd : 6 ≤ d) (R : Int32 × gM) (hr : FM_knownHere M = some R) : gPg l C qX12_knownHere d [.ref (464)] 956 g_S0 M sz (qI R) := by
  refine gPg.of (ls := [(0, .ref (464))]) (by decide +kernel) (Nat.le_of_ble_eq_true rfl) rfl ?_
  unfold FM_knownHere at hr
  refine gb_run 7 (pc2 := 12) (ls2 := [(0, .ref (464))]) (st2 := [.int (8), .int (20), .int (7), .int (14), .int (5), .int (12), .ref (464)]) (M2 := M) hC hqX12_knownHere rfl ?_
  obtain ⟨s1, es1, hr⟩ := g_bd hr
  refine gz_cV (z := qX12_takes) (a := 464) (av := [.int (12), .int (5), .int (14), .int (7), .int (20), .int (8)]) (rest := []) (pl := 1641) hC hqX12_knownHere rfl kX12_takes sX12_takes (by decide +kernel) (c_FM_takes hC (12 : Int32) (5 : Int32) (14 : Int32) (7 : Int32) (20 : Int32) (8 : Int32)  M sz (d - 1) (by omega) s1 es1) (by omega) ⟨rfl, rfl⟩ rfl (Nat.le_of_ble_eq_true rfl) (Nat.le_of_ble_eq_true rfl) rfl rfl rfl (Nat.le_of_ble_eq_true rfl) ⟨Nat.le_of_ble_eq_true rfl, Nat.le_of_ble_eq_true rfl⟩ (gs_Z fun z2 => ?_)
  refine gb_if_eq hqX12_knownHere rfl (fun h3 => ?_) (fun h3 => ?_)
  ·
    have hr := g_if1 h3 hr
    refine gb_run 7 (pc2 := 28) (ls2 := [(0, .ref (464))]) (st2 := [.int (0), .int (0), .int (5), .int (3), .int (1), .int (16), .ref (464)]) (M2 := s1.2) hC hqX12_knownHere rfl ?_
    obtain ⟨s4, es4, hr⟩ := g_bd hr
    refine gz_cV (z := qX12_takes) (a := 464) (av := [.int (16), .int (1), .int (3), .int (5), .int (0), .int (0)]) (rest := []) (pl := 1641) hC hqX12_knownHere rfl kX12_takes sX12_takes (by decide +kernel) (c_FM_takes hC (16 : Int32) (1 : Int32) (3 : Int32) (5 : Int32) (0 : Int32) (0 : Int32)  (s1.2) sz (d - 1) (by omega) s4 es4) (by omega) ⟨rfl, rfl⟩ rfl (Nat.le_of_ble_eq_true rfl) (Nat.le_of_ble_eq_true rfl) rfl rfl rfl (Nat.le_of_ble_eq_true rfl) ⟨Nat.le_of_ble_eq_true rfl, Nat.le_of_ble_eq_true rfl⟩ (gs_Z fun z5 => ?_)
    refine gb_if_eq hqX12_knownHere rfl (fun h6 => ?_) (fun h6 => ?_)
    ·
      have hr := g_if1 h6 hr
      refine gb_run 7 (pc2 := 44) (ls2 := [(0, .ref (464))]) (st2 := [.int (0), .int (0), .int (0), .int (5), .int (7), .int (1), .ref (464)]) (M2 := s4.2) hC hqX12_knownHere rfl ?_
      obtain ⟨s7, es7, hr⟩ := g_bd hr
      refine gz_cV (z := qX12_takes) (a := 464) (av := [.int (1), .int (7), .int (5), .int (0), .int (0), .int (0)]) (rest := []) (pl := 1641) hC hqX12_knownHere rfl kX12_takes sX12_takes (by decide +kernel) (c_FM_takes hC (1 : Int32) (7 : Int32) (5 : Int32) (0 : Int32) (0 : Int32) (0 : Int32)  (s4.2) sz (d - 1) (by omega) s7 es7) (by omega) ⟨rfl, rfl⟩ rfl (Nat.le_of_ble_eq_true rfl) (Nat.le_of_ble_eq_true rfl) rfl rfl rfl (Nat.le_of_ble_eq_true rfl) ⟨Nat.le_of_ble_eq_true rfl, Nat.le_of_ble_eq_true rfl⟩ (gs_Z fun z8 => ?_)
      refine gb_if_eq hqX12_knownHere rfl (fun h9 => ?_) (fun h9 => ?_)
      ·
        have hr := g_if1 h9 hr
        refine gb_run 7 (pc2 := 64) (ls2 := [(0, .ref (464))]) (st2 := [.int (20), .int (8), .int (7), .int (9), .int (5), .int (23), .ref (464)]) (M2 := s7.2) hC hqX12_knownHere rfl ?_
        obtain ⟨s10, es10, hr⟩ := g_bd hr
        refine gz_cV (z := qX12_takes) (a := 464) (av := [.int (23), .int (5), .int (9), .int (7), .int (8), .int (20)]) (rest := []) (pl := 1641) hC hqX12_knownHere rfl kX12_takes sX12_takes (by decide +kernel) (c_FM_takes hC (23 : Int32) (5 : Int32) (9 : Int32) (7 : Int32) (8 : Int32) (20 : Int32)  (s7.2) sz (d - 1) (by omega) s10 es10) (by omega) ⟨rfl, rfl⟩ rfl (Nat.le_of_ble_eq_true rfl) (Nat.le_of_ble_eq_true rfl) rfl rfl rfl (Nat.le_of_ble_eq_true rfl) ⟨Nat.le_of_ble_eq_true rfl, Nat.le_of_ble_eq_true rfl⟩ (gs_Z fun z11 => ?_)
        refine gb_if_eq hqX12_knownHere rfl (fun h12 => ?_) (fun h12 => ?_)
        ·
          have hr := g_if1 h12 hr
          refine gb_run 7 (pc2 := 82) (ls2 := [(0, .ref (464))]) (st2 := [.int (0), .int (4), .int (5), .int (18), .int (9), .int (20), .ref (464)]) (M2 := s10.2) hC hqX12_knownHere rfl ?_
          obtain ⟨s13, es13, hr⟩ := g_bd hr
          refine gz_cV (z := qX12_takes) (a := 464) (av := [.int (20), .int (9), .int (18), .int (5), .int (4), .int (0)]) (rest := []) (pl := 1641) hC hqX12_knownHere rfl kX12_takes sX12_takes (by decide +kernel) (c_FM_takes hC (20 : Int32) (9 : Int32) (18 : Int32) (5 : Int32) (4 : Int32) (0 : Int32)  (s10.2) sz (d - 1) (by omega) s13 es13) (by omega) ⟨rfl, rfl⟩ rfl (Nat.le_of_ble_eq_true rfl) (Nat.le_of_ble_eq_true rfl) rfl rfl rfl (Nat.le_of_ble_eq_true rfl) ⟨Nat.le_of_ble_eq_true rfl, Nat.le_of_ble_eq_true rfl⟩ (gs_Z fun z14 => ?_)
          refine gb_if_eq hqX12_knownHere rfl (fun h15 => ?_) (fun h15 => ?_)
          ·
            have hr := g_if1 h15 hr
            refine gb_run 7 (pc2 := 100) (ls2 := [(0, .ref (464))]) (st2 := [.int (0), .int (0), .int (14), .int (9), .int (1), .int (18), .ref (464)]) (M2 := s13.2) hC hqX12_knownHere rfl ?_
            obtain ⟨s16, es16, hr⟩ := g_bd hr
            refine gz_cV (z := qX12_takes) (a := 464) (av := [.int (18), .int (1), .int (9), .int (14), .int (0), .int (0)]) (rest := []) (pl := 1641) hC hqX12_knownHere rfl kX12_takes sX12_takes (by decide +kernel) (c_FM_takes hC (18 : Int32) (1 : Int32) (9 : Int32) (14 : Int32) (0 : Int32) (0 : Int32)  (s13.2) sz (d - 1) (by omega) s16 es16) (by omega) ⟨rfl, rfl⟩ rfl (Nat.le_of_ble_eq_true rfl) (Nat.le_of_ble_eq_true rfl) rfl rfl rfl (Nat.le_of_ble_eq_true rfl) ⟨Nat.le_of_ble_eq_true rfl, Nat.le_of_ble_eq_true rfl⟩ (gs_Z fun z17 => ?_)
            refine gb_if_eq hqX12_knownHere rfl (fun h18 => ?_) (fun h18 => ?_)
            ·
              have hr := g_if1 h18 hr
              refine gb_run 7 (pc2 := 118) (ls2 := [(0, .ref (464))]) (st2 := [.int (0), .int (0), .int (11), .int (12), .int (1), .int (23), .ref (464)]) (M2 := s16.2) hC hqX12_knownHere rfl ?_
              obtain ⟨s19, es19, hr⟩ := g_bd hr
              refine gz_cV (z := qX12_takes) (a := 464) (av := [.int (23), .int (1), .int (12), .int (11), .int (0), .int (0)]) (rest := []) (pl := 1641) hC hqX12_knownHere rfl kX12_takes sX12_takes (by decide +kernel) (c_FM_takes hC (23 : Int32) (1 : Int32) (12 : Int32) (11 : Int32) (0 : Int32) (0 : Int32)  (s16.2) sz (d - 1) (by omega) s19 es19) (by omega) ⟨rfl, rfl⟩ rfl (Nat.le_of_ble_eq_true rfl) (Nat.le_of_ble_eq_true rfl) rfl rfl rfl (Nat.le_of_ble_eq_true rfl) ⟨Nat.le_of_ble_eq_true rfl, Nat.le_of_ble_eq_true rfl⟩ (gs_Z fun z20 => ?_)
              refine gb_if_eq hqX12_knownHere rfl (fun h21 => ?_) (fun h21 => ?_)
              ·
                have hr := g_if1 h21 hr
                refine gb_run 7 (pc2 := 138) (ls2 := [(0, .ref (464))]) (st2 := [.int (0), .int (0), .int (16), .int (15), .int (15), .int (8), .ref (464)]) (M2 := s19.2) hC hqX12_knownHere rfl ?_
                obtain ⟨s22, es22, hr⟩ := g_bd hr
                refine gz_cV (z := qX12_takes) (a := 464) (av := [.int (8), .int (15), .int (15), .int (16), .int (0), .int (0)]) (rest := []) (pl := 1641) hC hqX12_knownHere rfl kX12_takes sX12_takes (by decide +kernel) (c_FM_takes hC (8 : Int32) (15 : Int32) (15 : Int32) (16 : Int32) (0 : Int32) (0 : Int32)  (s19.2) sz (d - 1) (by omega) s22 es22) (by omega) ⟨rfl, rfl⟩ rfl (Nat.le_of_ble_eq_true rfl) (Nat.le_of_ble_eq_true rfl) rfl rfl rfl (Nat.le_of_ble_eq_true rfl) ⟨Nat.le_of_ble_eq_true rfl, Nat.le_of_ble_eq_true rfl⟩ (gs_Z fun z23 => ?_)
                refine gb_if_eq hqX12_knownHere rfl (fun h24 => ?_) (fun h24 => ?_)
                ·
                  have hr := g_if1 h24 hr
                  refine gb_run 7 (pc2 := 156) (ls2 := [(0, .ref (464))]) (st2 := [.int (0), .int (5), .int (2), .int (9), .int (18), .int (2), .ref (464)]) (M2 := s22.2) hC hqX12_knownHere rfl ?_
                  obtain ⟨s25, es25, hr⟩ := g_bd hr
                  refine gz_cV (z := qX12_takes) (a := 464) (av := [.int (2), .int (18), .int (9), .int (2), .int (5), .int (0)]) (rest := []) (pl := 1641) hC hqX12_knownHere rfl kX12_takes sX12_takes (by decide +kernel) (c_FM_takes hC (2 : Int32) (18 : Int32) (9 : Int32) (2 : Int32) (5 : Int32) (0 : Int32)  (s22.2) sz (d - 1) (by omega) s25 es25) (by omega) ⟨rfl, rfl⟩ rfl (Nat.le_of_ble_eq_true rfl) (Nat.le_of_ble_eq_true rfl) rfl rfl rfl (Nat.le_of_ble_eq_true rfl) ⟨Nat.le_of_ble_eq_true rfl, Nat.le_of_ble_eq_true rfl⟩ (gs_Z fun z26 => ?_)
                  refine gb_if_eq hqX12_knownHere rfl (fun h27 => ?_) (fun h27 => ?_)
                  ·
                    have hr := g_if1 h27 hr
                    refine gb_run 1 (pc2 := 168) (ls2 := [(0, .ref (464))]) (st2 := [.int (-1)]) (M2 := s25.2) hC hqX12_knownHere rfl ?_
                    refine gb_iret hqX12_knownHere rfl rfl (Nat.le_of_ble_eq_true rfl) (Nat.le_of_ble_eq_true rfl) ?_
                    exact gl_I hr
                  ·
                    have hr := g_if0 h27 hr
                    refine gb_run 2 (pc2 := 168) (ls2 := [(0, .ref (464))]) (st2 := [.int (8)]) (M2 := s25.2) hC hqX12_knownHere rfl ?_
                    refine gb_iret hqX12_knownHere rfl rfl (Nat.le_of_ble_eq_true rfl) (Nat.le_of_ble_eq_true rfl) ?_
                    exact gl_I hr
                ·
                  have hr := g_if0 h24 hr
                  refine gb_run 1 (pc2 := 146) (ls2 := [(0, .ref (464))]) (st2 := [.int (7)]) (M2 := s22.2) hC hqX12_knownHere rfl ?_
                  refine gb_iret hqX12_knownHere rfl rfl (Nat.le_of_ble_eq_true rfl) (Nat.le_of_ble_eq_true rfl) ?_
                  exact gl_I hr
              ·
                have hr := g_if0 h21 hr
                refine gb_run 1 (pc2 := 126) (ls2 := [(0, .ref (464))]) (st2 := [.int (6)]) (M2 := s19.2) hC hqX12_knownHere rfl ?_
                refine gb_iret hqX12_knownHere rfl rfl (Nat.le_of_ble_eq_true rfl) (Nat.le_of_ble_eq_true rfl) ?_
                exact gl_I hr
            ·
              have hr := g_if0 h18 hr
              refine gb_run 1 (pc2 := 107) (ls2 := [(0, .ref (464))]) (st2 := [.int (5)]) (M2 := s16.2) hC hqX12_knownHere rfl ?_
              refine gb_iret hqX12_knownHere rfl rfl (Nat.le_of_ble_eq_true rfl) (Nat.le_of_ble_eq_true rfl) ?_
              exact gl_I hr
          ·
            have hr := g_if0 h15 hr
            refine gb_run 1 (pc2 := 89) (ls2 := [(0, .ref (464))]) (st2 := [.int (4)]) (M2 := s13.2) hC hqX12_knownHere rfl ?_
            refine gb_iret hqX12_knownHere rfl rfl (Nat.le_of_ble_eq_true rfl) (Nat.le_of_ble_eq_true rfl) ?_
            exact gl_I hr
        ·
          have hr := g_if0 h12 hr
          refine gb_run 1 (pc2 := 71) (ls2 := [(0, .ref (464))]) (st2 := [.int (3)]) (M2 := s10.2) hC hqX12_knownHere rfl ?_
          refine gb_iret hqX12_knownHere rfl rfl (Nat.le_of_ble_eq_true rfl) (Nat.le_of_ble_eq_true rfl) ?_
          exact gl_I hr
      ·
        have hr := g_if0 h9 hr
        refine gb_run 1 (pc2 := 51) (ls2 := [(0, .ref (464))]) (st2 := [.int (2)]) (M2 := s7.2) hC hqX12_knownHere rfl ?_
        refine gb_iret hqX12_knownHere rfl rfl (Nat.le_of_ble_eq_true rfl) (Nat.le_of_ble_eq_true rfl) ?_
        exact gl_I hr
    ·
      have hr := g_if0 h6 hr
      refine gb_run 1 (pc2 := 35) (ls2 := [(0, .ref (464))]) (st2 := [.int (1)]) (M2 := s4.2) hC hqX12_knownHere rfl ?_
      refine gb_iret hqX12_knownHere rfl rfl (Nat.le_of_ble_eq_true rfl) (Nat.le_of_ble_eq_true rfl) ?_
      exact gl_I hr
  ·
    have hr := g_if0 h3 hr
    refine gb_run 1 (pc2 := 19) (ls2 := [(0, .ref (464))]) (st2 := [.int (0)]) (M2 := s1.2) hC hqX12_knownHere rfl ?_
    refine gb_iret hqX12_knownHere rfl rfl (Nat.le_of_ble_eq_true rfl) (Nat.le_of_ble_eq_true rfl) ?_
    exact gl_I hr
def FM_sum_J38 (rproduct : gM → Option (gM)) (c4 : gM → Option (gM)) (y0 : Int32) (M : gM) : Option (gM) :=
  if y0 = (-1 : Int32) then (some M) else ((rproduct M).bind fun s2 => (FM_notes y0 (0 : Int32) s2).bind fun s3 => c4 s3)
set_option maxRecDepth 20000 in
theorem c_FM_sum_J38 {l : Launch} {C : gC} (hC : g_ctx l C) (sz d : Nat) (hd : 4 ≤ d) (rproduct : gM → Option (gM)) (hrproduct : ∀ (M : gM) (R : gM), rproduct M = some R → gPg l C qX12_product (d - 1) [.ref (464)] 956 g_S0 M sz (qV R)) (R : gM) (c4 : gM → Option (gM)) (hc4 : ∀ (M : gM), c4 M = some R → GW l C qX12_sum d (gQg 956 g_S0 (qV R) sz) gN 0 0 4 [(0, .ref (464))] [] (956, g_S0, M, sz)) (y0 : Int32) (M : gM) (hr : FM_sum_J38 rproduct c4 y0 M = some R) : GW l C qX12_sum d (gQg 956 g_S0 (qV R) sz) gN 0 0 38 [(0, .ref (464))] [.int (y0)] (956, g_S0, M, sz) := by
  unfold FM_sum_J38 at hr
  refine gb_run 3 (pc2 := 41) (ls2 := [(1, .int (y0)), (0, .ref (464))]) (st2 := [.int (-1), .int (y0)]) (M2 := M) hC hqX12_sum rfl ?_
  refine gb_icmp_ne hqX12_sum rfl (fun h1 => ?_) (fun h1 => ?_)
  ·
    have hr := g_if0 h1 hr
    refine gb_run 1 (pc2 := 46) (ls2 := [(1, .int (y0)), (0, .ref (464))]) (st2 := [.ref (464)]) (M2 := M) hC hqX12_sum rfl ?_
    obtain ⟨s2, es2, hr⟩ := g_bd hr
    refine gz_cV (z := qX12_product) (a := 464) (av := []) (rest := []) (pl := 1621) hC hqX12_sum rfl kX12_product sX12_product (by decide +kernel) (hrproduct M s2 es2) (by omega) ⟨rfl, rfl⟩ rfl (Nat.le_of_ble_eq_true rfl) (Nat.le_of_ble_eq_true rfl) rfl rfl rfl (Nat.le_of_ble_eq_true rfl) ⟨Nat.le_of_ble_eq_true rfl, Nat.le_of_ble_eq_true rfl⟩ (gs_V ?_)
    refine gb_run 3 (pc2 := 52) (ls2 := [(1, .int (y0)), (0, .ref (464))]) (st2 := [.int (0), .int (y0), .ref (464)]) (M2 := s2) hC hqX12_sum rfl ?_
    obtain ⟨s3, es3, hr⟩ := g_bd hr
    refine gz_cV (z := qX12_notes) (a := 464) (av := [.int (y0), .int (0)]) (rest := []) (pl := 1633) hC hqX12_sum rfl kX12_notes sX12_notes (by decide +kernel) (c_FM_notes hC y0 (0 : Int32)  s2 sz (d - 1) (by omega) s3 es3) (by omega) ⟨rfl, rfl⟩ rfl (Nat.le_of_ble_eq_true rfl) (Nat.le_of_ble_eq_true rfl) rfl rfl rfl (Nat.le_of_ble_eq_true rfl) ⟨Nat.le_of_ble_eq_true rfl, Nat.le_of_ble_eq_true rfl⟩ (gs_V ?_)
    refine gb_run 1 (pc2 := 4) (ls2 := [(1, .int (y0)), (0, .ref (464))]) (st2 := []) (M2 := s3) hC hqX12_sum rfl ?_
    refine gw_pick [1] (ls2 := [(0, .ref (464))]) rfl ?_
    exact hc4 s3 hr
  ·
    have hr := g_if1 h1 hr
    refine gb_vret hqX12_sum rfl rfl (Nat.le_of_ble_eq_true rfl) (Nat.le_of_ble_eq_true rfl) ?_
    exact gl_V hr
def FM_sum_L4 (rproduct : gM → Option (gM)) : Nat → gM → Option (gM)
  | 0, _ => none
  | k + 1, M =>
  if (M 464 5) = (0 : Int32) then ((FM_takesSign (43 : Int32) M).bind fun s2 => if s2.1 = (0 : Int32) then ((FM_takesSign (45 : Int32) (s2.2)).bind fun s5 => if s5.1 = (0 : Int32) then (FM_sum_J38 rproduct (FM_sum_L4 rproduct k) (-1 : Int32) (s5.2)) else (FM_sum_J38 rproduct (FM_sum_L4 rproduct k) (3 : Int32) (s5.2))) else (FM_sum_J38 rproduct (FM_sum_L4 rproduct k) (2 : Int32) (s2.2))) else (some M)
set_option maxRecDepth 20000 in
theorem c_FM_sum_L4 {l : Launch} {C : gC} (hC : g_ctx l C) (sz d : Nat) (hd : 4 ≤ d) (rproduct : gM → Option (gM)) (hrproduct : ∀ (M : gM) (R : gM), rproduct M = some R → gPg l C qX12_product (d - 1) [.ref (464)] 956 g_S0 M sz (qV R)) (R : gM) : ∀ (k : Nat) (M : gM), FM_sum_L4 rproduct k M = some R → GW l C qX12_sum d (gQg 956 g_S0 (qV R) sz) gN 0 0 4 [(0, .ref (464))] [] (956, g_S0, M, sz) := by
  intro k
  induction k with
  | zero => intro M hr; exact nomatch (show (none : Option (gM)) = some R from hr)
  | succ k ih =>
    intro M hr
    unfold FM_sum_L4 at hr
    refine gb_run 2 (pc2 := 8) (ls2 := [(0, .ref (464))]) (st2 := [.int (M 464 5)]) (M2 := M) hC hqX12_sum rfl ?_
    refine gb_if_ne hqX12_sum rfl (fun h1 => ?_) (fun h1 => ?_)
    ·
      have hr := g_if0 h1 hr
      refine gb_vret hqX12_sum rfl rfl (Nat.le_of_ble_eq_true rfl) (Nat.le_of_ble_eq_true rfl) ?_
      exact gl_V hr
    ·
      have hr := g_if1 h1 hr
      refine gb_run 2 (pc2 := 14) (ls2 := [(0, .ref (464))]) (st2 := [.int (43), .ref (464)]) (M2 := M) hC hqX12_sum rfl ?_
      obtain ⟨s2, es2, hr⟩ := g_bd hr
      refine gz_cV (z := qX12_takesSign) (a := 464) (av := [.int (43)]) (rest := []) (pl := 1645) hC hqX12_sum rfl kX12_takesSign sX12_takesSign (by decide +kernel) (c_FM_takesSign hC (43 : Int32)  M sz (d - 1) (by omega) s2 es2) (by omega) ⟨rfl, rfl⟩ rfl (Nat.le_of_ble_eq_true rfl) (Nat.le_of_ble_eq_true rfl) rfl rfl rfl (Nat.le_of_ble_eq_true rfl) ⟨Nat.le_of_ble_eq_true rfl, Nat.le_of_ble_eq_true rfl⟩ (gs_Z fun z3 => ?_)
      refine gb_if_eq hqX12_sum rfl (fun h4 => ?_) (fun h4 => ?_)
      ·
        have hr := g_if1 h4 hr
        refine gb_run 2 (pc2 := 27) (ls2 := [(0, .ref (464))]) (st2 := [.int (45), .ref (464)]) (M2 := s2.2) hC hqX12_sum rfl ?_
        obtain ⟨s5, es5, hr⟩ := g_bd hr
        refine gz_cV (z := qX12_takesSign) (a := 464) (av := [.int (45)]) (rest := []) (pl := 1645) hC hqX12_sum rfl kX12_takesSign sX12_takesSign (by decide +kernel) (c_FM_takesSign hC (45 : Int32)  (s2.2) sz (d - 1) (by omega) s5 es5) (by omega) ⟨rfl, rfl⟩ rfl (Nat.le_of_ble_eq_true rfl) (Nat.le_of_ble_eq_true rfl) rfl rfl rfl (Nat.le_of_ble_eq_true rfl) ⟨Nat.le_of_ble_eq_true rfl, Nat.le_of_ble_eq_true rfl⟩ (gs_Z fun z6 => ?_)
        refine gb_if_eq hqX12_sum rfl (fun h7 => ?_) (fun h7 => ?_)
        ·
          have hr := g_if1 h7 hr
          refine gb_run 1 (pc2 := 38) (ls2 := [(0, .ref (464))]) (st2 := [.int (-1)]) (M2 := s5.2) hC hqX12_sum rfl ?_
          exact c_FM_sum_J38 hC sz d (by omega) rproduct hrproduct R (FM_sum_L4 rproduct k) ih (-1 : Int32) (s5.2) hr
        ·
          have hr := g_if0 h7 hr
          refine gb_run 2 (pc2 := 38) (ls2 := [(0, .ref (464))]) (st2 := [.int (3)]) (M2 := s5.2) hC hqX12_sum rfl ?_
          exact c_FM_sum_J38 hC sz d (by omega) rproduct hrproduct R (FM_sum_L4 rproduct k) ih (3 : Int32) (s5.2) hr
      ·
        have hr := g_if0 h4 hr
        refine gb_run 2 (pc2 := 38) (ls2 := [(0, .ref (464))]) (st2 := [.int (2)]) (M2 := s2.2) hC hqX12_sum rfl ?_
        exact c_FM_sum_J38 hC sz d (by omega) rproduct hrproduct R (FM_sum_L4 rproduct k) ih (2 : Int32) (s2.2) hr
def FM_sum_B (rproduct : gM → Option (gM))  (M : gM) : Option (gM) :=
  (rproduct M).bind fun s1 => FM_sum_L4 rproduct 1000 s1
set_option maxRecDepth 20000 in
theorem c_FM_sum_B {l : Launch} {C : gC} (hC : g_ctx l C)   (M : gM) (sz d : Nat) (hd : 4 ≤ d) (rproduct : gM → Option (gM)) (hrproduct : ∀ (M : gM) (R : gM), rproduct M = some R → gPg l C qX12_product (d - 1) [.ref (464)] 956 g_S0 M sz (qV R)) (R : gM) (hr : FM_sum_B rproduct M = some R) : gPg l C qX12_sum d [.ref (464)] 956 g_S0 M sz (qV R) := by
  refine gPg.of (ls := [(0, .ref (464))]) (by decide +kernel) (Nat.le_of_ble_eq_true rfl) rfl ?_
  unfold FM_sum_B at hr
  refine gb_run 1 (pc2 := 1) (ls2 := [(0, .ref (464))]) (st2 := [.ref (464)]) (M2 := M) hC hqX12_sum rfl ?_
  obtain ⟨s1, es1, hr⟩ := g_bd hr
  refine gz_cV (z := qX12_product) (a := 464) (av := []) (rest := []) (pl := 1621) hC hqX12_sum rfl kX12_product sX12_product (by decide +kernel) (hrproduct M s1 es1) (by omega) ⟨rfl, rfl⟩ rfl (Nat.le_of_ble_eq_true rfl) (Nat.le_of_ble_eq_true rfl) rfl rfl rfl (Nat.le_of_ble_eq_true rfl) ⟨Nat.le_of_ble_eq_true rfl, Nat.le_of_ble_eq_true rfl⟩ (gs_V ?_)
  exact c_FM_sum_L4 hC sz d (by omega) rproduct hrproduct R 1000 s1 hr
def FM_product_J52 (rone : gM → Option (gM)) (c4 : gM → Option (gM)) (y0 : Int32) (M : gM) : Option (gM) :=
  if y0 = (-1 : Int32) then (some M) else ((rone M).bind fun s2 => (FM_notes y0 (0 : Int32) s2).bind fun s3 => c4 s3)
set_option maxRecDepth 20000 in
theorem c_FM_product_J52 {l : Launch} {C : gC} (hC : g_ctx l C) (sz d : Nat) (hd : 4 ≤ d) (rone : gM → Option (gM)) (hrone : ∀ (M : gM) (R : gM), rone M = some R → gPg l C qX12_one (d - 1) [.ref (464)] 956 g_S0 M sz (qV R)) (R : gM) (c4 : gM → Option (gM)) (hc4 : ∀ (M : gM), c4 M = some R → GW l C qX12_product d (gQg 956 g_S0 (qV R) sz) gN 0 0 4 [(0, .ref (464))] [] (956, g_S0, M, sz)) (y0 : Int32) (M : gM) (hr : FM_product_J52 rone c4 y0 M = some R) : GW l C qX12_product d (gQg 956 g_S0 (qV R) sz) gN 0 0 52 [(0, .ref (464))] [.int (y0)] (956, g_S0, M, sz) := by
  unfold FM_product_J52 at hr
  refine gb_run 3 (pc2 := 55) (ls2 := [(1, .int (y0)), (0, .ref (464))]) (st2 := [.int (-1), .int (y0)]) (M2 := M) hC hqX12_product rfl ?_
  refine gb_icmp_ne hqX12_product rfl (fun h1 => ?_) (fun h1 => ?_)
  ·
    have hr := g_if0 h1 hr
    refine gb_run 1 (pc2 := 60) (ls2 := [(1, .int (y0)), (0, .ref (464))]) (st2 := [.ref (464)]) (M2 := M) hC hqX12_product rfl ?_
    obtain ⟨s2, es2, hr⟩ := g_bd hr
    refine gz_cV (z := qX12_one) (a := 464) (av := []) (rest := []) (pl := 1625) hC hqX12_product rfl kX12_one sX12_one (by decide +kernel) (hrone M s2 es2) (by omega) ⟨rfl, rfl⟩ rfl (Nat.le_of_ble_eq_true rfl) (Nat.le_of_ble_eq_true rfl) rfl rfl rfl (Nat.le_of_ble_eq_true rfl) ⟨Nat.le_of_ble_eq_true rfl, Nat.le_of_ble_eq_true rfl⟩ (gs_V ?_)
    refine gb_run 3 (pc2 := 66) (ls2 := [(1, .int (y0)), (0, .ref (464))]) (st2 := [.int (0), .int (y0), .ref (464)]) (M2 := s2) hC hqX12_product rfl ?_
    obtain ⟨s3, es3, hr⟩ := g_bd hr
    refine gz_cV (z := qX12_notes) (a := 464) (av := [.int (y0), .int (0)]) (rest := []) (pl := 1633) hC hqX12_product rfl kX12_notes sX12_notes (by decide +kernel) (c_FM_notes hC y0 (0 : Int32)  s2 sz (d - 1) (by omega) s3 es3) (by omega) ⟨rfl, rfl⟩ rfl (Nat.le_of_ble_eq_true rfl) (Nat.le_of_ble_eq_true rfl) rfl rfl rfl (Nat.le_of_ble_eq_true rfl) ⟨Nat.le_of_ble_eq_true rfl, Nat.le_of_ble_eq_true rfl⟩ (gs_V ?_)
    refine gb_run 1 (pc2 := 4) (ls2 := [(1, .int (y0)), (0, .ref (464))]) (st2 := []) (M2 := s3) hC hqX12_product rfl ?_
    refine gw_pick [1] (ls2 := [(0, .ref (464))]) rfl ?_
    exact hc4 s3 hr
  ·
    have hr := g_if1 h1 hr
    refine gb_vret hqX12_product rfl rfl (Nat.le_of_ble_eq_true rfl) (Nat.le_of_ble_eq_true rfl) ?_
    exact gl_V hr
def FM_product_L4 (rone : gM → Option (gM)) : Nat → gM → Option (gM)
  | 0, _ => none
  | k + 1, M =>
  if (M 464 5) = (0 : Int32) then ((FM_takesSign (42 : Int32) M).bind fun s2 => if s2.1 = (0 : Int32) then ((FM_takesSign (47 : Int32) (s2.2)).bind fun s5 => if s5.1 = (0 : Int32) then ((FM_takesSign (37 : Int32) (s5.2)).bind fun s8 => if s8.1 = (0 : Int32) then (FM_product_J52 rone (FM_product_L4 rone k) (-1 : Int32) (s8.2)) else (FM_product_J52 rone (FM_product_L4 rone k) (6 : Int32) (s8.2))) else (FM_product_J52 rone (FM_product_L4 rone k) (5 : Int32) (s5.2))) else (FM_product_J52 rone (FM_product_L4 rone k) (4 : Int32) (s2.2))) else (some M)
set_option maxRecDepth 20000 in
theorem c_FM_product_L4 {l : Launch} {C : gC} (hC : g_ctx l C) (sz d : Nat) (hd : 4 ≤ d) (rone : gM → Option (gM)) (hrone : ∀ (M : gM) (R : gM), rone M = some R → gPg l C qX12_one (d - 1) [.ref (464)] 956 g_S0 M sz (qV R)) (R : gM) : ∀ (k : Nat) (M : gM), FM_product_L4 rone k M = some R → GW l C qX12_product d (gQg 956 g_S0 (qV R) sz) gN 0 0 4 [(0, .ref (464))] [] (956, g_S0, M, sz) := by
  intro k
  induction k with
  | zero => intro M hr; exact nomatch (show (none : Option (gM)) = some R from hr)
  | succ k ih =>
    intro M hr
    unfold FM_product_L4 at hr
    refine gb_run 2 (pc2 := 8) (ls2 := [(0, .ref (464))]) (st2 := [.int (M 464 5)]) (M2 := M) hC hqX12_product rfl ?_
    refine gb_if_ne hqX12_product rfl (fun h1 => ?_) (fun h1 => ?_)
    ·
      have hr := g_if0 h1 hr
      refine gb_vret hqX12_product rfl rfl (Nat.le_of_ble_eq_true rfl) (Nat.le_of_ble_eq_true rfl) ?_
      exact gl_V hr
    ·
      have hr := g_if1 h1 hr
      refine gb_run 2 (pc2 := 14) (ls2 := [(0, .ref (464))]) (st2 := [.int (42), .ref (464)]) (M2 := M) hC hqX12_product rfl ?_
      obtain ⟨s2, es2, hr⟩ := g_bd hr
      refine gz_cV (z := qX12_takesSign) (a := 464) (av := [.int (42)]) (rest := []) (pl := 1645) hC hqX12_product rfl kX12_takesSign sX12_takesSign (by decide +kernel) (c_FM_takesSign hC (42 : Int32)  M sz (d - 1) (by omega) s2 es2) (by omega) ⟨rfl, rfl⟩ rfl (Nat.le_of_ble_eq_true rfl) (Nat.le_of_ble_eq_true rfl) rfl rfl rfl (Nat.le_of_ble_eq_true rfl) ⟨Nat.le_of_ble_eq_true rfl, Nat.le_of_ble_eq_true rfl⟩ (gs_Z fun z3 => ?_)
      refine gb_if_eq hqX12_product rfl (fun h4 => ?_) (fun h4 => ?_)
      ·
        have hr := g_if1 h4 hr
        refine gb_run 2 (pc2 := 27) (ls2 := [(0, .ref (464))]) (st2 := [.int (47), .ref (464)]) (M2 := s2.2) hC hqX12_product rfl ?_
        obtain ⟨s5, es5, hr⟩ := g_bd hr
        refine gz_cV (z := qX12_takesSign) (a := 464) (av := [.int (47)]) (rest := []) (pl := 1645) hC hqX12_product rfl kX12_takesSign sX12_takesSign (by decide +kernel) (c_FM_takesSign hC (47 : Int32)  (s2.2) sz (d - 1) (by omega) s5 es5) (by omega) ⟨rfl, rfl⟩ rfl (Nat.le_of_ble_eq_true rfl) (Nat.le_of_ble_eq_true rfl) rfl rfl rfl (Nat.le_of_ble_eq_true rfl) ⟨Nat.le_of_ble_eq_true rfl, Nat.le_of_ble_eq_true rfl⟩ (gs_Z fun z6 => ?_)
        refine gb_if_eq hqX12_product rfl (fun h7 => ?_) (fun h7 => ?_)
        ·
          have hr := g_if1 h7 hr
          refine gb_run 2 (pc2 := 40) (ls2 := [(0, .ref (464))]) (st2 := [.int (37), .ref (464)]) (M2 := s5.2) hC hqX12_product rfl ?_
          obtain ⟨s8, es8, hr⟩ := g_bd hr
          refine gz_cV (z := qX12_takesSign) (a := 464) (av := [.int (37)]) (rest := []) (pl := 1645) hC hqX12_product rfl kX12_takesSign sX12_takesSign (by decide +kernel) (c_FM_takesSign hC (37 : Int32)  (s5.2) sz (d - 1) (by omega) s8 es8) (by omega) ⟨rfl, rfl⟩ rfl (Nat.le_of_ble_eq_true rfl) (Nat.le_of_ble_eq_true rfl) rfl rfl rfl (Nat.le_of_ble_eq_true rfl) ⟨Nat.le_of_ble_eq_true rfl, Nat.le_of_ble_eq_true rfl⟩ (gs_Z fun z9 => ?_)
          refine gb_if_eq hqX12_product rfl (fun h10 => ?_) (fun h10 => ?_)
          ·
            have hr := g_if1 h10 hr
            refine gb_run 1 (pc2 := 52) (ls2 := [(0, .ref (464))]) (st2 := [.int (-1)]) (M2 := s8.2) hC hqX12_product rfl ?_
            exact c_FM_product_J52 hC sz d (by omega) rone hrone R (FM_product_L4 rone k) ih (-1 : Int32) (s8.2) hr
          ·
            have hr := g_if0 h10 hr
            refine gb_run 2 (pc2 := 52) (ls2 := [(0, .ref (464))]) (st2 := [.int (6)]) (M2 := s8.2) hC hqX12_product rfl ?_
            exact c_FM_product_J52 hC sz d (by omega) rone hrone R (FM_product_L4 rone k) ih (6 : Int32) (s8.2) hr
        ·
          have hr := g_if0 h7 hr
          refine gb_run 2 (pc2 := 52) (ls2 := [(0, .ref (464))]) (st2 := [.int (5)]) (M2 := s5.2) hC hqX12_product rfl ?_
          exact c_FM_product_J52 hC sz d (by omega) rone hrone R (FM_product_L4 rone k) ih (5 : Int32) (s5.2) hr
      ·
        have hr := g_if0 h4 hr
        refine gb_run 2 (pc2 := 52) (ls2 := [(0, .ref (464))]) (st2 := [.int (4)]) (M2 := s2.2) hC hqX12_product rfl ?_
        exact c_FM_product_J52 hC sz d (by omega) rone hrone R (FM_product_L4 rone k) ih (4 : Int32) (s2.2) hr
def FM_product_B (rone : gM → Option (gM))  (M : gM) : Option (gM) :=
  (rone M).bind fun s1 => FM_product_L4 rone 1000 s1
set_option maxRecDepth 20000 in
theorem c_FM_product_B {l : Launch} {C : gC} (hC : g_ctx l C)   (M : gM) (sz d : Nat) (hd : 4 ≤ d) (rone : gM → Option (gM)) (hrone : ∀ (M : gM) (R : gM), rone M = some R → gPg l C qX12_one (d - 1) [.ref (464)] 956 g_S0 M sz (qV R)) (R : gM) (hr : FM_product_B rone M = some R) : gPg l C qX12_product d [.ref (464)] 956 g_S0 M sz (qV R) := by
  refine gPg.of (ls := [(0, .ref (464))]) (by decide +kernel) (Nat.le_of_ble_eq_true rfl) rfl ?_
  unfold FM_product_B at hr
  refine gb_run 1 (pc2 := 1) (ls2 := [(0, .ref (464))]) (st2 := [.ref (464)]) (M2 := M) hC hqX12_product rfl ?_
  obtain ⟨s1, es1, hr⟩ := g_bd hr
  refine gz_cV (z := qX12_one) (a := 464) (av := []) (rest := []) (pl := 1625) hC hqX12_product rfl kX12_one sX12_one (by decide +kernel) (hrone M s1 es1) (by omega) ⟨rfl, rfl⟩ rfl (Nat.le_of_ble_eq_true rfl) (Nat.le_of_ble_eq_true rfl) rfl rfl rfl (Nat.le_of_ble_eq_true rfl) ⟨Nat.le_of_ble_eq_true rfl, Nat.le_of_ble_eq_true rfl⟩ (gs_V ?_)
  exact c_FM_product_L4 hC sz d (by omega) rone hrone R 1000 s1 hr
def FM_one_J56 (rsum : gM → Option (gM)) (y0 : Int32) (M : gM) : Option (gM) :=
  if y0 = (-1 : Int32) then ((FM_byteAt (M 464 4) M).bind fun s2 => if s2 = (40 : Int32) then ((FM_opensOne M).bind fun s9 => if s9.1 = (0 : Int32) then (some (s9.2)) else ((rsum (g_set (s9.2) 464 4 (((s9.2) 464 4) + (1 : Int32)))).bind fun s12 => (FM_sign (41 : Int32) s12).bind fun s13 => some (g_set s13 464 8 ((s13 464 8) - (1 : Int32))))) else ((FM_knownHere M).bind fun s4 => if s4.1 = (-1 : Int32) then ((FM_number (0 : Int32) (999 : Int32) (s4.2)).bind fun s6 => (FM_notes (0 : Int32) s6.1 (s6.2)).bind fun s7 => some s7) else ((FM_notes (1 : Int32) s4.1 (s4.2)).bind fun s8 => some s8))) else ((FM_opensOne M).bind fun s14 => if s14.1 = (0 : Int32) then (some (s14.2)) else ((FM_skipWord (s14.2)).bind fun s17 => (FM_sign (91 : Int32) s17).bind fun s18 => (rsum s18).bind fun s19 => (FM_sign (44 : Int32) s19).bind fun s20 => (rsum s20).bind fun s21 => (FM_sign (93 : Int32) s21).bind fun s22 => (FM_notes y0 (0 : Int32) s22).bind fun s23 => some (g_set s23 464 8 ((s23 464 8) - (1 : Int32)))))
set_option maxRecDepth 20000 in
theorem c_FM_one_J56 {l : Launch} {C : gC} (hC : g_ctx l C) (sz d : Nat) (hd : 7 ≤ d) (rsum : gM → Option (gM)) (hrsum : ∀ (M : gM) (R : gM), rsum M = some R → gPg l C qX12_sum (d - 1) [.ref (464)] 956 g_S0 M sz (qV R)) (R : gM) (y0 : Int32) (M : gM) (hr : FM_one_J56 rsum y0 M = some R) : GW l C qX12_one d (gQg 956 g_S0 (qV R) sz) gN 0 0 56 [(0, .ref (464))] [.int (y0)] (956, g_S0, M, sz) := by
  unfold FM_one_J56 at hr
  refine gb_run 3 (pc2 := 59) (ls2 := [(1, .int (y0)), (0, .ref (464))]) (st2 := [.int (-1), .int (y0)]) (M2 := M) hC hqX12_one rfl ?_
  refine gb_icmp_eq hqX12_one rfl (fun h1 => ?_) (fun h1 => ?_)
  ·
    have hr := g_if1 h1 hr
    refine gb_run 3 (pc2 := 122) (ls2 := [(1, .int (y0)), (0, .ref (464))]) (st2 := [.int (M 464 4), .ref (464)]) (M2 := M) hC hqX12_one rfl ?_
    obtain ⟨s2, es2, hr⟩ := g_bd hr
    refine gz_cV (z := qX12_byteAt) (a := 464) (av := [.int (M 464 4)]) (rest := []) (pl := 1563) hC hqX12_one rfl kX12_byteAt sX12_byteAt (by decide +kernel) (c_FM_byteAt hC (M 464 4)  M sz (d - 1) (by omega) s2 es2) (by omega) ⟨rfl, rfl⟩ rfl (Nat.le_of_ble_eq_true rfl) (Nat.le_of_ble_eq_true rfl) rfl rfl rfl (Nat.le_of_ble_eq_true rfl) ⟨Nat.le_of_ble_eq_true rfl, Nat.le_of_ble_eq_true rfl⟩ (gs_Ip ?_)
    refine gb_run 1 (pc2 := 127) (ls2 := [(1, .int (y0)), (0, .ref (464))]) (st2 := [.int (40), .int (s2)]) (M2 := M) hC hqX12_one rfl ?_
    refine gb_icmp_ne hqX12_one rfl (fun h3 => ?_) (fun h3 => ?_)
    ·
      have hr := g_if0 h3 hr
      refine gb_run 1 (pc2 := 170) (ls2 := [(1, .int (y0)), (0, .ref (464))]) (st2 := [.ref (464)]) (M2 := M) hC hqX12_one rfl ?_
      obtain ⟨s4, es4, hr⟩ := g_bd hr
      refine gz_cV (z := qX12_knownHere) (a := 464) (av := []) (rest := []) (pl := 1637) hC hqX12_one rfl kX12_knownHere sX12_knownHere (by decide +kernel) (c_FM_knownHere hC   M sz (d - 1) (by omega) s4 es4) (by omega) ⟨rfl, rfl⟩ rfl (Nat.le_of_ble_eq_true rfl) (Nat.le_of_ble_eq_true rfl) rfl rfl rfl (Nat.le_of_ble_eq_true rfl) ⟨Nat.le_of_ble_eq_true rfl, Nat.le_of_ble_eq_true rfl⟩ (gs_I ?_)
      refine gb_run 3 (pc2 := 176) (ls2 := [(2, .int (s4.1)), (1, .int (y0)), (0, .ref (464))]) (st2 := [.int (-1), .int (s4.1)]) (M2 := s4.2) hC hqX12_one rfl ?_
      refine gb_icmp_eq hqX12_one rfl (fun h5 => ?_) (fun h5 => ?_)
      ·
        have hr := g_if1 h5 hr
        refine gb_run 5 (pc2 := 195) (ls2 := [(2, .int (s4.1)), (1, .int (y0)), (0, .ref (464))]) (st2 := [.int (999), .int (0), .ref (464), .int (0), .ref (464)]) (M2 := s4.2) hC hqX12_one rfl ?_
        obtain ⟨s6, es6, hr⟩ := g_bd hr
        refine gz_cV (z := qX12_number) (a := 464) (av := [.int (0), .int (999)]) (rest := [.int (0), .ref (464)]) (pl := 1597) hC hqX12_one rfl kX12_number sX12_number (by decide +kernel) (c_FM_number hC (0 : Int32) (999 : Int32)  (s4.2) sz (d - 1) (by omega) s6 es6) (by omega) ⟨rfl, rfl⟩ rfl (Nat.le_of_ble_eq_true rfl) (Nat.le_of_ble_eq_true rfl) rfl rfl rfl (Nat.le_of_ble_eq_true rfl) ⟨Nat.le_of_ble_eq_true rfl, Nat.le_of_ble_eq_true rfl⟩ (gs_I ?_)
        obtain ⟨s7, es7, hr⟩ := g_bd hr
        refine gz_cV (z := qX12_notes) (a := 464) (av := [.int (0), .int (s6.1)]) (rest := []) (pl := 1633) hC hqX12_one rfl kX12_notes sX12_notes (by decide +kernel) (c_FM_notes hC (0 : Int32) s6.1  (s6.2) sz (d - 1) (by omega) s7 es7) (by omega) ⟨rfl, rfl⟩ rfl (Nat.le_of_ble_eq_true rfl) (Nat.le_of_ble_eq_true rfl) rfl rfl rfl (Nat.le_of_ble_eq_true rfl) ⟨Nat.le_of_ble_eq_true rfl, Nat.le_of_ble_eq_true rfl⟩ (gs_V ?_)
        refine gb_vret hqX12_one rfl rfl (Nat.le_of_ble_eq_true rfl) (Nat.le_of_ble_eq_true rfl) ?_
        exact gl_V hr
      ·
        have hr := g_if0 h5 hr
        refine gb_run 3 (pc2 := 182) (ls2 := [(2, .int (s4.1)), (1, .int (y0)), (0, .ref (464))]) (st2 := [.int (s4.1), .int (1), .ref (464)]) (M2 := s4.2) hC hqX12_one rfl ?_
        obtain ⟨s8, es8, hr⟩ := g_bd hr
        refine gz_cV (z := qX12_notes) (a := 464) (av := [.int (1), .int (s4.1)]) (rest := []) (pl := 1633) hC hqX12_one rfl kX12_notes sX12_notes (by decide +kernel) (c_FM_notes hC (1 : Int32) s4.1  (s4.2) sz (d - 1) (by omega) s8 es8) (by omega) ⟨rfl, rfl⟩ rfl (Nat.le_of_ble_eq_true rfl) (Nat.le_of_ble_eq_true rfl) rfl rfl rfl (Nat.le_of_ble_eq_true rfl) ⟨Nat.le_of_ble_eq_true rfl, Nat.le_of_ble_eq_true rfl⟩ (gs_V ?_)
        refine gb_run 1 (pc2 := 201) (ls2 := [(2, .int (s4.1)), (1, .int (y0)), (0, .ref (464))]) (st2 := []) (M2 := s8) hC hqX12_one rfl ?_
        refine gb_vret hqX12_one rfl rfl (Nat.le_of_ble_eq_true rfl) (Nat.le_of_ble_eq_true rfl) ?_
        exact gl_V hr
    ·
      have hr := g_if1 h3 hr
      refine gb_run 1 (pc2 := 131) (ls2 := [(1, .int (y0)), (0, .ref (464))]) (st2 := [.ref (464)]) (M2 := M) hC hqX12_one rfl ?_
      obtain ⟨s9, es9, hr⟩ := g_bd hr
      refine gz_cV (z := qX12_opensOne) (a := 464) (av := []) (rest := []) (pl := 1629) hC hqX12_one rfl kX12_opensOne sX12_opensOne (by decide +kernel) (c_FM_opensOne hC   M sz (d - 1) (by omega) s9 es9) (by omega) ⟨rfl, rfl⟩ rfl (Nat.le_of_ble_eq_true rfl) (Nat.le_of_ble_eq_true rfl) rfl rfl rfl (Nat.le_of_ble_eq_true rfl) ⟨Nat.le_of_ble_eq_true rfl, Nat.le_of_ble_eq_true rfl⟩ (gs_Z fun z10 => ?_)
      refine gb_if_ne hqX12_one rfl (fun h11 => ?_) (fun h11 => ?_)
      ·
        have hr := g_if0 h11 hr
        refine gb_run 7 (pc2 := 149) (ls2 := [(1, .int (y0)), (0, .ref (464))]) (st2 := [.ref (464)]) (M2 := g_set (s9.2) 464 4 (((s9.2) 464 4) + (1 : Int32))) hC hqX12_one rfl ?_
        obtain ⟨s12, es12, hr⟩ := g_bd hr
        refine gz_cV (z := qX12_sum) (a := 464) (av := []) (rest := []) (pl := 1617) hC hqX12_one rfl kX12_sum sX12_sum (by decide +kernel) (hrsum (g_set (s9.2) 464 4 (((s9.2) 464 4) + (1 : Int32))) s12 es12) (by omega) ⟨rfl, rfl⟩ rfl (Nat.le_of_ble_eq_true rfl) (Nat.le_of_ble_eq_true rfl) rfl rfl rfl (Nat.le_of_ble_eq_true rfl) ⟨Nat.le_of_ble_eq_true rfl, Nat.le_of_ble_eq_true rfl⟩ (gs_V ?_)
        refine gb_run 2 (pc2 := 155) (ls2 := [(1, .int (y0)), (0, .ref (464))]) (st2 := [.int (41), .ref (464)]) (M2 := s12) hC hqX12_one rfl ?_
        obtain ⟨s13, es13, hr⟩ := g_bd hr
        refine gz_cV (z := qX12_sign) (a := 464) (av := [.int (41)]) (rest := []) (pl := 1605) hC hqX12_one rfl kX12_sign sX12_sign (by decide +kernel) (c_FM_sign hC (41 : Int32)  s12 sz (d - 1) (by omega) s13 es13) (by omega) ⟨rfl, rfl⟩ rfl (Nat.le_of_ble_eq_true rfl) (Nat.le_of_ble_eq_true rfl) rfl rfl rfl (Nat.le_of_ble_eq_true rfl) ⟨Nat.le_of_ble_eq_true rfl, Nat.le_of_ble_eq_true rfl⟩ (gs_V ?_)
        refine gb_run 6 (pc2 := 168) (ls2 := [(1, .int (y0)), (0, .ref (464))]) (st2 := []) (M2 := g_set s13 464 8 ((s13 464 8) - (1 : Int32))) hC hqX12_one rfl ?_
        refine gb_vret hqX12_one rfl rfl (Nat.le_of_ble_eq_true rfl) (Nat.le_of_ble_eq_true rfl) ?_
        exact gl_V hr
      ·
        have hr := g_if1 h11 hr
        refine gb_vret hqX12_one rfl rfl (Nat.le_of_ble_eq_true rfl) (Nat.le_of_ble_eq_true rfl) ?_
        exact gl_V hr
  ·
    have hr := g_if0 h1 hr
    refine gb_run 1 (pc2 := 63) (ls2 := [(1, .int (y0)), (0, .ref (464))]) (st2 := [.ref (464)]) (M2 := M) hC hqX12_one rfl ?_
    obtain ⟨s14, es14, hr⟩ := g_bd hr
    refine gz_cV (z := qX12_opensOne) (a := 464) (av := []) (rest := []) (pl := 1629) hC hqX12_one rfl kX12_opensOne sX12_opensOne (by decide +kernel) (c_FM_opensOne hC   M sz (d - 1) (by omega) s14 es14) (by omega) ⟨rfl, rfl⟩ rfl (Nat.le_of_ble_eq_true rfl) (Nat.le_of_ble_eq_true rfl) rfl rfl rfl (Nat.le_of_ble_eq_true rfl) ⟨Nat.le_of_ble_eq_true rfl, Nat.le_of_ble_eq_true rfl⟩ (gs_Z fun z15 => ?_)
    refine gb_if_ne hqX12_one rfl (fun h16 => ?_) (fun h16 => ?_)
    ·
      have hr := g_if0 h16 hr
      refine gb_run 1 (pc2 := 71) (ls2 := [(1, .int (y0)), (0, .ref (464))]) (st2 := [.ref (464)]) (M2 := s14.2) hC hqX12_one rfl ?_
      obtain ⟨s17, es17, hr⟩ := g_bd hr
      refine gz_cV (z := qX12_skipWord) (a := 464) (av := []) (rest := []) (pl := 1593) hC hqX12_one rfl kX12_skipWord sX12_skipWord (by decide +kernel) (c_FM_skipWord hC   (s14.2) sz (d - 1) (by omega) s17 es17) (by omega) ⟨rfl, rfl⟩ rfl (Nat.le_of_ble_eq_true rfl) (Nat.le_of_ble_eq_true rfl) rfl rfl rfl (Nat.le_of_ble_eq_true rfl) ⟨Nat.le_of_ble_eq_true rfl, Nat.le_of_ble_eq_true rfl⟩ (gs_V ?_)
      refine gb_run 2 (pc2 := 77) (ls2 := [(1, .int (y0)), (0, .ref (464))]) (st2 := [.int (91), .ref (464)]) (M2 := s17) hC hqX12_one rfl ?_
      obtain ⟨s18, es18, hr⟩ := g_bd hr
      refine gz_cV (z := qX12_sign) (a := 464) (av := [.int (91)]) (rest := []) (pl := 1605) hC hqX12_one rfl kX12_sign sX12_sign (by decide +kernel) (c_FM_sign hC (91 : Int32)  s17 sz (d - 1) (by omega) s18 es18) (by omega) ⟨rfl, rfl⟩ rfl (Nat.le_of_ble_eq_true rfl) (Nat.le_of_ble_eq_true rfl) rfl rfl rfl (Nat.le_of_ble_eq_true rfl) ⟨Nat.le_of_ble_eq_true rfl, Nat.le_of_ble_eq_true rfl⟩ (gs_V ?_)
      refine gb_run 1 (pc2 := 81) (ls2 := [(1, .int (y0)), (0, .ref (464))]) (st2 := [.ref (464)]) (M2 := s18) hC hqX12_one rfl ?_
      obtain ⟨s19, es19, hr⟩ := g_bd hr
      refine gz_cV (z := qX12_sum) (a := 464) (av := []) (rest := []) (pl := 1617) hC hqX12_one rfl kX12_sum sX12_sum (by decide +kernel) (hrsum s18 s19 es19) (by omega) ⟨rfl, rfl⟩ rfl (Nat.le_of_ble_eq_true rfl) (Nat.le_of_ble_eq_true rfl) rfl rfl rfl (Nat.le_of_ble_eq_true rfl) ⟨Nat.le_of_ble_eq_true rfl, Nat.le_of_ble_eq_true rfl⟩ (gs_V ?_)
      refine gb_run 2 (pc2 := 87) (ls2 := [(1, .int (y0)), (0, .ref (464))]) (st2 := [.int (44), .ref (464)]) (M2 := s19) hC hqX12_one rfl ?_
      obtain ⟨s20, es20, hr⟩ := g_bd hr
      refine gz_cV (z := qX12_sign) (a := 464) (av := [.int (44)]) (rest := []) (pl := 1605) hC hqX12_one rfl kX12_sign sX12_sign (by decide +kernel) (c_FM_sign hC (44 : Int32)  s19 sz (d - 1) (by omega) s20 es20) (by omega) ⟨rfl, rfl⟩ rfl (Nat.le_of_ble_eq_true rfl) (Nat.le_of_ble_eq_true rfl) rfl rfl rfl (Nat.le_of_ble_eq_true rfl) ⟨Nat.le_of_ble_eq_true rfl, Nat.le_of_ble_eq_true rfl⟩ (gs_V ?_)
      refine gb_run 1 (pc2 := 91) (ls2 := [(1, .int (y0)), (0, .ref (464))]) (st2 := [.ref (464)]) (M2 := s20) hC hqX12_one rfl ?_
      obtain ⟨s21, es21, hr⟩ := g_bd hr
      refine gz_cV (z := qX12_sum) (a := 464) (av := []) (rest := []) (pl := 1617) hC hqX12_one rfl kX12_sum sX12_sum (by decide +kernel) (hrsum s20 s21 es21) (by omega) ⟨rfl, rfl⟩ rfl (Nat.le_of_ble_eq_true rfl) (Nat.le_of_ble_eq_true rfl) rfl rfl rfl (Nat.le_of_ble_eq_true rfl) ⟨Nat.le_of_ble_eq_true rfl, Nat.le_of_ble_eq_true rfl⟩ (gs_V ?_)
      refine gb_run 2 (pc2 := 97) (ls2 := [(1, .int (y0)), (0, .ref (464))]) (st2 := [.int (93), .ref (464)]) (M2 := s21) hC hqX12_one rfl ?_
      obtain ⟨s22, es22, hr⟩ := g_bd hr
      refine gz_cV (z := qX12_sign) (a := 464) (av := [.int (93)]) (rest := []) (pl := 1605) hC hqX12_one rfl kX12_sign sX12_sign (by decide +kernel) (c_FM_sign hC (93 : Int32)  s21 sz (d - 1) (by omega) s22 es22) (by omega) ⟨rfl, rfl⟩ rfl (Nat.le_of_ble_eq_true rfl) (Nat.le_of_ble_eq_true rfl) rfl rfl rfl (Nat.le_of_ble_eq_true rfl) ⟨Nat.le_of_ble_eq_true rfl, Nat.le_of_ble_eq_true rfl⟩ (gs_V ?_)
      refine gb_run 3 (pc2 := 103) (ls2 := [(1, .int (y0)), (0, .ref (464))]) (st2 := [.int (0), .int (y0), .ref (464)]) (M2 := s22) hC hqX12_one rfl ?_
      obtain ⟨s23, es23, hr⟩ := g_bd hr
      refine gz_cV (z := qX12_notes) (a := 464) (av := [.int (y0), .int (0)]) (rest := []) (pl := 1633) hC hqX12_one rfl kX12_notes sX12_notes (by decide +kernel) (c_FM_notes hC y0 (0 : Int32)  s22 sz (d - 1) (by omega) s23 es23) (by omega) ⟨rfl, rfl⟩ rfl (Nat.le_of_ble_eq_true rfl) (Nat.le_of_ble_eq_true rfl) rfl rfl rfl (Nat.le_of_ble_eq_true rfl) ⟨Nat.le_of_ble_eq_true rfl, Nat.le_of_ble_eq_true rfl⟩ (gs_V ?_)
      refine gb_run 6 (pc2 := 116) (ls2 := [(1, .int (y0)), (0, .ref (464))]) (st2 := []) (M2 := g_set s23 464 8 ((s23 464 8) - (1 : Int32))) hC hqX12_one rfl ?_
      refine gb_vret hqX12_one rfl rfl (Nat.le_of_ble_eq_true rfl) (Nat.le_of_ble_eq_true rfl) ?_
      exact gl_V hr
    ·
      have hr := g_if1 h16 hr
      refine gb_vret hqX12_one rfl rfl (Nat.le_of_ble_eq_true rfl) (Nat.le_of_ble_eq_true rfl) ?_
      exact gl_V hr
def FM_one_B (rsum : gM → Option (gM))  (M : gM) : Option (gM) :=
  if (M 464 5) = (0 : Int32) then ((FM_blanks M).bind fun s2 => (FM_isWord (12 : Int32) (5 : Int32) (1 : Int32) (19 : Int32) (20 : Int32) (0 : Int32) s2).bind fun s3 => if s3.1 = (0 : Int32) then ((FM_isWord (13 : Int32) (15 : Int32) (19 : Int32) (20 : Int32) (0 : Int32) (0 : Int32) (s3.2)).bind fun s6 => if s6.1 = (0 : Int32) then (FM_one_J56 rsum (-1 : Int32) (s6.2)) else (FM_one_J56 rsum (8 : Int32) (s6.2))) else (FM_one_J56 rsum (7 : Int32) (s3.2))) else (some M)
set_option maxRecDepth 20000 in
theorem c_FM_one_B {l : Launch} {C : gC} (hC : g_ctx l C)   (M : gM) (sz d : Nat) (hd : 7 ≤ d) (rsum : gM → Option (gM)) (hrsum : ∀ (M : gM) (R : gM), rsum M = some R → gPg l C qX12_sum (d - 1) [.ref (464)] 956 g_S0 M sz (qV R)) (R : gM) (hr : FM_one_B rsum M = some R) : gPg l C qX12_one d [.ref (464)] 956 g_S0 M sz (qV R) := by
  refine gPg.of (ls := [(0, .ref (464))]) (by decide +kernel) (Nat.le_of_ble_eq_true rfl) rfl ?_
  unfold FM_one_B at hr
  refine gb_run 2 (pc2 := 4) (ls2 := [(0, .ref (464))]) (st2 := [.int (M 464 5)]) (M2 := M) hC hqX12_one rfl ?_
  refine gb_if_eq hqX12_one rfl (fun h1 => ?_) (fun h1 => ?_)
  ·
    have hr := g_if1 h1 hr
    refine gb_run 1 (pc2 := 9) (ls2 := [(0, .ref (464))]) (st2 := [.ref (464)]) (M2 := M) hC hqX12_one rfl ?_
    obtain ⟨s2, es2, hr⟩ := g_bd hr
    refine gz_cV (z := qX12_blanks) (a := 464) (av := []) (rest := []) (pl := 1559) hC hqX12_one rfl kX12_blanks sX12_blanks (by decide +kernel) (c_FM_blanks hC   M sz (d - 1) (by omega) s2 es2) (by omega) ⟨rfl, rfl⟩ rfl (Nat.le_of_ble_eq_true rfl) (Nat.le_of_ble_eq_true rfl) rfl rfl rfl (Nat.le_of_ble_eq_true rfl) ⟨Nat.le_of_ble_eq_true rfl, Nat.le_of_ble_eq_true rfl⟩ (gs_V ?_)
    refine gb_run 7 (pc2 := 22) (ls2 := [(0, .ref (464))]) (st2 := [.int (0), .int (20), .int (19), .int (1), .int (5), .int (12), .ref (464)]) (M2 := s2) hC hqX12_one rfl ?_
    obtain ⟨s3, es3, hr⟩ := g_bd hr
    refine gz_cV (z := qX12_isWord) (a := 464) (av := [.int (12), .int (5), .int (1), .int (19), .int (20), .int (0)]) (rest := []) (pl := 1575) hC hqX12_one rfl kX12_isWord sX12_isWord (by decide +kernel) (c_FM_isWord hC (12 : Int32) (5 : Int32) (1 : Int32) (19 : Int32) (20 : Int32) (0 : Int32)  s2 sz (d - 1) (by omega) s3 es3) (by omega) ⟨rfl, rfl⟩ rfl (Nat.le_of_ble_eq_true rfl) (Nat.le_of_ble_eq_true rfl) rfl rfl rfl (Nat.le_of_ble_eq_true rfl) ⟨Nat.le_of_ble_eq_true rfl, Nat.le_of_ble_eq_true rfl⟩ (gs_Z fun z4 => ?_)
    refine gb_if_eq hqX12_one rfl (fun h5 => ?_) (fun h5 => ?_)
    ·
      have hr := g_if1 h5 hr
      refine gb_run 7 (pc2 := 44) (ls2 := [(0, .ref (464))]) (st2 := [.int (0), .int (0), .int (20), .int (19), .int (15), .int (13), .ref (464)]) (M2 := s3.2) hC hqX12_one rfl ?_
      obtain ⟨s6, es6, hr⟩ := g_bd hr
      refine gz_cV (z := qX12_isWord) (a := 464) (av := [.int (13), .int (15), .int (19), .int (20), .int (0), .int (0)]) (rest := []) (pl := 1575) hC hqX12_one rfl kX12_isWord sX12_isWord (by decide +kernel) (c_FM_isWord hC (13 : Int32) (15 : Int32) (19 : Int32) (20 : Int32) (0 : Int32) (0 : Int32)  (s3.2) sz (d - 1) (by omega) s6 es6) (by omega) ⟨rfl, rfl⟩ rfl (Nat.le_of_ble_eq_true rfl) (Nat.le_of_ble_eq_true rfl) rfl rfl rfl (Nat.le_of_ble_eq_true rfl) ⟨Nat.le_of_ble_eq_true rfl, Nat.le_of_ble_eq_true rfl⟩ (gs_Z fun z7 => ?_)
      refine gb_if_eq hqX12_one rfl (fun h8 => ?_) (fun h8 => ?_)
      ·
        have hr := g_if1 h8 hr
        refine gb_run 1 (pc2 := 56) (ls2 := [(0, .ref (464))]) (st2 := [.int (-1)]) (M2 := s6.2) hC hqX12_one rfl ?_
        exact c_FM_one_J56 hC sz d (by omega) rsum hrsum R (-1 : Int32) (s6.2) hr
      ·
        have hr := g_if0 h8 hr
        refine gb_run 2 (pc2 := 56) (ls2 := [(0, .ref (464))]) (st2 := [.int (8)]) (M2 := s6.2) hC hqX12_one rfl ?_
        exact c_FM_one_J56 hC sz d (by omega) rsum hrsum R (8 : Int32) (s6.2) hr
    ·
      have hr := g_if0 h5 hr
      refine gb_run 2 (pc2 := 56) (ls2 := [(0, .ref (464))]) (st2 := [.int (7)]) (M2 := s3.2) hC hqX12_one rfl ?_
      exact c_FM_one_J56 hC sz d (by omega) rsum hrsum R (7 : Int32) (s3.2) hr
  ·
    have hr := g_if0 h1 hr
    refine gb_vret hqX12_one rfl rfl (Nat.le_of_ble_eq_true rfl) (Nat.le_of_ble_eq_true rfl) ?_
    exact gl_V hr
def FM_reads_all : Nat → (gM → Option (gM)) × (gM → Option (gM)) × (gM → Option (gM))
  | 0 => (fun _ => none, fun _ => none, fun _ => none)
  | f + 1 => (fun  M => FM_sum_B (FM_reads_all f).2.1  M, fun  M => FM_product_B (FM_reads_all f).2.2  M, fun  M => FM_one_B (FM_reads_all f).1  M)
def FM_sum (f : Nat)  (M : gM) : Option (gM) := (FM_reads_all f).1  M
def FM_product (f : Nat)  (M : gM) : Option (gM) := (FM_reads_all f).2.1  M
def FM_one (f : Nat)  (M : gM) : Option (gM) := (FM_reads_all f).2.2  M
theorem FM_sum_s (f : Nat)  (M : gM) : FM_sum (f + 1)  M = FM_sum_B (FM_product f)  M := rfl
theorem FM_product_s (f : Nat)  (M : gM) : FM_product (f + 1)  M = FM_product_B (FM_one f)  M := rfl
theorem FM_one_s (f : Nat)  (M : gM) : FM_one (f + 1)  M = FM_one_B (FM_sum f)  M := rfl
theorem c_FM_reads {l : Launch} {C : gC} (hC : g_ctx l C) : ∀ f : Nat, (∀ (M : gM) (sz d : Nat) (R : gM), 7 + f ≤ d → FM_sum f  M = some R → gPg l C qX12_sum d [.ref (464)] 956 g_S0 M sz (qV R)) ∧ (∀ (M : gM) (sz d : Nat) (R : gM), 7 + f ≤ d → FM_product f  M = some R → gPg l C qX12_product d [.ref (464)] 956 g_S0 M sz (qV R)) ∧ (∀ (M : gM) (sz d : Nat) (R : gM), 7 + f ≤ d → FM_one f  M = some R → gPg l C qX12_one d [.ref (464)] 956 g_S0 M sz (qV R)) := by
  intro f
  induction f with
  | zero => exact ⟨fun  M sz d R _ hr => (nomatch (show (none : Option (gM)) = some R from hr)), fun  M sz d R _ hr => (nomatch (show (none : Option (gM)) = some R from hr)), fun  M sz d R _ hr => (nomatch (show (none : Option (gM)) = some R from hr))⟩
  | succ f ih =>
    have g0 : ∀ (M : gM) (sz d : Nat) (R : gM), 7 + (f + 1) ≤ d → FM_sum_B (FM_product f)  M = some R → gPg l C qX12_sum d [.ref (464)] 956 g_S0 M sz (qV R) :=
      fun  M sz d R hd hr => c_FM_sum_B hC   M sz d (by omega) (FM_product f) (fun M R hr => ih.2.1 M sz (d - 1) R (by omega) hr) R hr
    have g1 : ∀ (M : gM) (sz d : Nat) (R : gM), 7 + (f + 1) ≤ d → FM_product_B (FM_one f)  M = some R → gPg l C qX12_product d [.ref (464)] 956 g_S0 M sz (qV R) :=
      fun  M sz d R hd hr => c_FM_product_B hC   M sz d (by omega) (FM_one f) (fun M R hr => ih.2.2 M sz (d - 1) R (by omega) hr) R hr
    have g2 : ∀ (M : gM) (sz d : Nat) (R : gM), 7 + (f + 1) ≤ d → FM_one_B (FM_sum f)  M = some R → gPg l C qX12_one d [.ref (464)] 956 g_S0 M sz (qV R) :=
      fun  M sz d R hd hr => c_FM_one_B hC   M sz d (by omega) (FM_sum f) (fun M R hr => ih.1 M sz (d - 1) R (by omega) hr) R hr
    exact ⟨fun  M sz d R hd hr => g0  M sz d R hd hr, fun  M sz d R hd hr => g1  M sz d R hd hr, fun  M sz d R hd hr => g2  M sz d R hd hr⟩
theorem c_FM_sum {l : Launch} {C : gC} (hC : g_ctx l C) (f : Nat)  (M : gM) (sz d : Nat) (hd : 7 + f ≤ d) (R : gM) (hr : FM_sum f  M = some R) : gPg l C qX12_sum d [.ref (464)] 956 g_S0 M sz (qV R) := (c_FM_reads hC f).1  M sz d R hd hr
theorem c_FM_product {l : Launch} {C : gC} (hC : g_ctx l C) (f : Nat)  (M : gM) (sz d : Nat) (hd : 7 + f ≤ d) (R : gM) (hr : FM_product f  M = some R) : gPg l C qX12_product d [.ref (464)] 956 g_S0 M sz (qV R) := (c_FM_reads hC f).2.1  M sz d R hd hr
theorem c_FM_one {l : Launch} {C : gC} (hC : g_ctx l C) (f : Nat)  (M : gM) (sz d : Nat) (hd : 7 + f ≤ d) (R : gM) (hr : FM_one f  M = some R) : gPg l C qX12_one d [.ref (464)] 956 g_S0 M sz (qV R) := (c_FM_reads hC f).2.2  M sz d R hd hr
def FM_law_J85 (n : Int32) (M : gM) : Option (Int32 × gM) :=
  if (M 464 5) = (0 : Int32) then ((FM_laysL (M 464 20) (g_set (g_set M 464 3 (-1 : Int32)) 464 19 (M 464 20))).bind fun s2 => some (1, s2)) else ((FM_ends M).bind fun s3 => some (s3.1, s3.2))
set_option maxRecDepth 20000 in
theorem c_FM_law_J85 {l : Launch} {C : gC} (hC : g_ctx l C) (n : Int32) (sz d : Nat) (hd : 48 ≤ d) (R : Int32 × gM) (M : gM) (hr : FM_law_J85 n M = some R) : GW l C qX12_law d (gQg 956 g_S0 (qI R) sz) gN 0 0 85 [(0, .ref (464))] [] (956, g_S0, M, sz) := by
  unfold FM_law_J85 at hr
  refine gb_run 2 (pc2 := 89) (ls2 := [(0, .ref (464))]) (st2 := [.int (M 464 5)]) (M2 := M) hC hqX12_law rfl ?_
  refine gb_if_eq hqX12_law rfl (fun h1 => ?_) (fun h1 => ?_)
  ·
    have hr := g_if1 h1 hr
    refine gb_run 13 (pc2 := 122) (ls2 := [(0, .ref (464))]) (st2 := [.int (M 464 20), .ref (507), .ref (668)]) (M2 := g_set (g_set M 464 3 (-1 : Int32)) 464 19 (M 464 20)) hC hqX12_law rfl ?_
    obtain ⟨s2, es2, hr⟩ := g_bd hr
    refine gz_cS (z := qX12_lays) (av := [.ref (668), .ref (507), .int (M 464 20)]) (rest := []) (pl := 1391) hC hqX12_law rfl kX12_lays (by decide +kernel) (c_FM_laysL hC (M 464 20)  (g_set (g_set M 464 3 (-1 : Int32)) 464 19 (M 464 20)) sz (d - 1) (by omega) s2 es2) (by omega) ⟨rfl, rfl⟩ rfl rfl (Nat.le_of_ble_eq_true rfl) ⟨Nat.le_of_ble_eq_true rfl, Nat.le_of_ble_eq_true rfl⟩ (gs_V ?_)
    refine gb_run 1 (pc2 := 126) (ls2 := [(0, .ref (464))]) (st2 := [.int (1)]) (M2 := s2) hC hqX12_law rfl ?_
    refine gb_iret hqX12_law rfl rfl (Nat.le_of_ble_eq_true rfl) (Nat.le_of_ble_eq_true rfl) ?_
    exact gl_I hr
  ·
    have hr := g_if0 h1 hr
    refine gb_run 1 (pc2 := 93) (ls2 := [(0, .ref (464))]) (st2 := [.ref (464)]) (M2 := M) hC hqX12_law rfl ?_
    obtain ⟨s3, es3, hr⟩ := g_bd hr
    refine gz_cV (z := qX12_ends) (a := 464) (av := []) (rest := []) (pl := 1609) hC hqX12_law rfl kX12_ends sX12_ends (by decide +kernel) (c_FM_ends hC   M sz (d - 1) (by omega) s3 es3) (by omega) ⟨rfl, rfl⟩ rfl (Nat.le_of_ble_eq_true rfl) (Nat.le_of_ble_eq_true rfl) rfl rfl rfl (Nat.le_of_ble_eq_true rfl) ⟨Nat.le_of_ble_eq_true rfl, Nat.le_of_ble_eq_true rfl⟩ (gs_I ?_)
    refine gb_iret hqX12_law rfl rfl (Nat.le_of_ble_eq_true rfl) (Nat.le_of_ble_eq_true rfl) ?_
    exact gl_I hr
def FM_law_J30 (n : Int32) (y0 : Int32) (M : gM) : Option (Int32 × gM) :=
  (FM_bad y0 (1 : Int32) (1 : Int32) M).bind fun s1 => if s1.1 = (0 : Int32) then ((FM_starts n (s1.2)).bind fun s4 => (FM_sum 40 (g_set s4 464 20 (0 : Int32))).bind fun s5 => (FM_blanks s5).bind fun s6 => if (s6 464 5) = (0 : Int32) then (if (s6 464 2) ≤ (s6 464 4) then (FM_law_J85 n s6) else ((FM_wrong (1 : Int32) (s6 464 4) s6).bind fun s9 => FM_law_J85 n s9)) else (FM_law_J85 n s6)) else (some (0, s1.2))
set_option maxRecDepth 20000 in
theorem c_FM_law_J30 {l : Launch} {C : gC} (hC : g_ctx l C) (n : Int32) (sz d : Nat) (hd : 48 ≤ d) (R : Int32 × gM) (y0 : Int32) (M : gM) (hr : FM_law_J30 n y0 M = some R) : GW l C qX12_law d (gQg 956 g_S0 (qI R) sz) gN 0 0 30 [(0, .ref (464)), (1, .int (n))] [.int (y0), .ref (464)] (956, g_S0, M, sz) := by
  unfold FM_law_J30 at hr
  refine gb_run 2 (pc2 := 32) (ls2 := [(0, .ref (464)), (1, .int (n))]) (st2 := [.int (1), .int (1), .int (y0), .ref (464)]) (M2 := M) hC hqX12_law rfl ?_
  obtain ⟨s1, es1, hr⟩ := g_bd hr
  refine gz_cV (z := qX12_bad) (a := 464) (av := [.int (y0), .int (1), .int (1)]) (rest := []) (pl := 1551) hC hqX12_law rfl kX12_bad sX12_bad (by decide +kernel) (c_FM_bad hC y0 (1 : Int32) (1 : Int32)  M sz (d - 1) (by omega) s1 es1) (by omega) ⟨rfl, rfl⟩ rfl (Nat.le_of_ble_eq_true rfl) (Nat.le_of_ble_eq_true rfl) rfl rfl rfl (Nat.le_of_ble_eq_true rfl) ⟨Nat.le_of_ble_eq_true rfl, Nat.le_of_ble_eq_true rfl⟩ (gs_Z fun z2 => ?_)
  refine gb_if_eq hqX12_law rfl (fun h3 => ?_) (fun h3 => ?_)
  ·
    have hr := g_if1 h3 hr
    refine gb_run 2 (pc2 := 42) (ls2 := [(0, .ref (464)), (1, .int (n))]) (st2 := [.int (n), .ref (464)]) (M2 := s1.2) hC hqX12_law rfl ?_
    obtain ⟨s4, es4, hr⟩ := g_bd hr
    refine gz_cV (z := qX12_starts) (a := 464) (av := [.int (n)]) (rest := []) (pl := 1555) hC hqX12_law rfl kX12_starts sX12_starts (by decide +kernel) (c_FM_starts hC n  (s1.2) sz (d - 1) (by omega) s4 es4) (by omega) ⟨rfl, rfl⟩ rfl (Nat.le_of_ble_eq_true rfl) (Nat.le_of_ble_eq_true rfl) rfl rfl rfl (Nat.le_of_ble_eq_true rfl) ⟨Nat.le_of_ble_eq_true rfl, Nat.le_of_ble_eq_true rfl⟩ (gs_V ?_)
    refine gb_run 4 (pc2 := 51) (ls2 := [(0, .ref (464)), (1, .int (n))]) (st2 := [.ref (464)]) (M2 := g_set s4 464 20 (0 : Int32)) hC hqX12_law rfl ?_
    obtain ⟨s5, es5, hr⟩ := g_bd hr
    refine gz_cV (z := qX12_sum) (a := 464) (av := []) (rest := []) (pl := 1617) hC hqX12_law rfl kX12_sum sX12_sum (by decide +kernel) (c_FM_sum hC 40  (g_set s4 464 20 (0 : Int32)) sz (d - 1) (by omega) s5 es5) (by omega) ⟨rfl, rfl⟩ rfl (Nat.le_of_ble_eq_true rfl) (Nat.le_of_ble_eq_true rfl) rfl rfl rfl (Nat.le_of_ble_eq_true rfl) ⟨Nat.le_of_ble_eq_true rfl, Nat.le_of_ble_eq_true rfl⟩ (gs_V ?_)
    refine gb_run 1 (pc2 := 55) (ls2 := [(0, .ref (464)), (1, .int (n))]) (st2 := [.ref (464)]) (M2 := s5) hC hqX12_law rfl ?_
    obtain ⟨s6, es6, hr⟩ := g_bd hr
    refine gz_cV (z := qX12_blanks) (a := 464) (av := []) (rest := []) (pl := 1559) hC hqX12_law rfl kX12_blanks sX12_blanks (by decide +kernel) (c_FM_blanks hC   s5 sz (d - 1) (by omega) s6 es6) (by omega) ⟨rfl, rfl⟩ rfl (Nat.le_of_ble_eq_true rfl) (Nat.le_of_ble_eq_true rfl) rfl rfl rfl (Nat.le_of_ble_eq_true rfl) ⟨Nat.le_of_ble_eq_true rfl, Nat.le_of_ble_eq_true rfl⟩ (gs_V ?_)
    refine gb_run 2 (pc2 := 62) (ls2 := [(0, .ref (464)), (1, .int (n))]) (st2 := [.int (s6 464 5)]) (M2 := s6) hC hqX12_law rfl ?_
    refine gb_if_ne hqX12_law rfl (fun h7 => ?_) (fun h7 => ?_)
    ·
      have hr := g_if0 h7 hr
      refine gw_pick [0] (ls2 := [(0, .ref (464))]) rfl ?_
      exact c_FM_law_J85 hC n sz d (by omega) R s6 hr
    ·
      have hr := g_if1 h7 hr
      refine gb_run 4 (pc2 := 73) (ls2 := [(0, .ref (464)), (1, .int (n))]) (st2 := [.int (s6 464 2), .int (s6 464 4)]) (M2 := s6) hC hqX12_law rfl ?_
      refine gb_icmp_ge hqX12_law rfl (fun h8 => ?_) (fun h8 => ?_)
      ·
        have hr := g_if1 h8 hr
        refine gw_pick [0] (ls2 := [(0, .ref (464))]) rfl ?_
        exact c_FM_law_J85 hC n sz d (by omega) R s6 hr
      ·
        have hr := g_if0 h8 hr
        refine gb_run 4 (pc2 := 82) (ls2 := [(0, .ref (464)), (1, .int (n))]) (st2 := [.int (s6 464 4), .int (1), .ref (464)]) (M2 := s6) hC hqX12_law rfl ?_
        obtain ⟨s9, es9, hr⟩ := g_bd hr
        refine gz_cV (z := qX12_wrong) (a := 464) (av := [.int (1), .int (s6 464 4)]) (rest := []) (pl := 1589) hC hqX12_law rfl kX12_wrong sX12_wrong (by decide +kernel) (c_FM_wrong hC (1 : Int32) (s6 464 4)  s6 sz (d - 1) (by omega) s9 es9) (by omega) ⟨rfl, rfl⟩ rfl (Nat.le_of_ble_eq_true rfl) (Nat.le_of_ble_eq_true rfl) rfl rfl rfl (Nat.le_of_ble_eq_true rfl) ⟨Nat.le_of_ble_eq_true rfl, Nat.le_of_ble_eq_true rfl⟩ (gs_V ?_)
        refine gw_pick [0] (ls2 := [(0, .ref (464))]) rfl ?_
        exact c_FM_law_J85 hC n sz d (by omega) R s9 hr
  ·
    have hr := g_if0 h3 hr
    refine gb_run 1 (pc2 := 39) (ls2 := [(0, .ref (464)), (1, .int (n))]) (st2 := [.int (0)]) (M2 := s1.2) hC hqX12_law rfl ?_
    refine gb_iret hqX12_law rfl rfl (Nat.le_of_ble_eq_true rfl) (Nat.le_of_ble_eq_true rfl) ?_
    exact gl_I hr
def FM_law_J25 (n : Int32) (M : gM) : Option (Int32 × gM) :=
  FM_law_J30 n (1 : Int32) M
set_option maxRecDepth 20000 in
theorem c_FM_law_J25 {l : Launch} {C : gC} (hC : g_ctx l C) (n : Int32) (sz d : Nat) (hd : 48 ≤ d) (R : Int32 × gM) (M : gM) (hr : FM_law_J25 n M = some R) : GW l C qX12_law d (gQg 956 g_S0 (qI R) sz) gN 0 0 25 [(0, .ref (464)), (1, .int (n))] [.ref (464)] (956, g_S0, M, sz) := by
  unfold FM_law_J25 at hr
  refine gb_run 2 (pc2 := 30) (ls2 := [(0, .ref (464)), (1, .int (n))]) (st2 := [.int (1), .ref (464)]) (M2 := M) hC hqX12_law rfl ?_
  exact c_FM_law_J30 hC n sz d (by omega) R (1 : Int32) M hr
def FM_law (n : Int32) (M : gM) : Option (Int32 × gM) :=
  if (FM_in n (0 : Int32) (M 464 1)) = (0 : Int32) then (FM_law_J25 n (g_set M 464 0 (0 : Int32))) else (if n ≤ (150 : Int32) then (FM_law_J30 n (0 : Int32) (g_set M 464 0 (0 : Int32))) else (FM_law_J25 n (g_set M 464 0 (0 : Int32))))
set_option maxRecDepth 20000 in
theorem c_FM_law {l : Launch} {C : gC} (hC : g_ctx l C) (n : Int32)  (M : gM) (sz d : Nat) (hd : 48 ≤ d) (R : Int32 × gM) (hr : FM_law n M = some R) : gPg l C qX12_law d [.ref (464), .int (n)] 956 g_S0 M sz (qI R) := by
  refine gPg.of (ls := [(0, .ref (464)), (1, .int (n))]) (by decide +kernel) (Nat.le_of_ble_eq_true rfl) rfl ?_
  unfold FM_law at hr
  refine gb_run 8 (pc2 := 12) (ls2 := [(0, .ref (464)), (1, .int (n))]) (st2 := [.int (M 464 1), .int (0), .int (n), .ref (464)]) (M2 := g_set M 464 0 (0 : Int32)) hC hqX12_law rfl ?_
  refine gz_cS (z := qX12_in) (av := [.int (n), .int (0), .int (M 464 1)]) (rest := [.ref (464)]) (pl := 1548) hC hqX12_law rfl kX12_in (by decide +kernel) (c_FM_in hC n (0 : Int32) (M 464 1)  (g_set M 464 0 (0 : Int32)) sz (d - 1) (by omega)) (by omega) ⟨rfl, rfl⟩ rfl rfl (Nat.le_of_ble_eq_true rfl) ⟨Nat.le_of_ble_eq_true rfl, Nat.le_of_ble_eq_true rfl⟩ (gs_Zp fun z2 => ?_)
  refine gb_if_eq hqX12_law rfl (fun h3 => ?_) (fun h3 => ?_)
  ·
    have hr := g_if1 h3 hr
    exact c_FM_law_J25 hC n sz d (by omega) R (g_set M 464 0 (0 : Int32)) hr
  ·
    have hr := g_if0 h3 hr
    refine gb_run 2 (pc2 := 22) (ls2 := [(0, .ref (464)), (1, .int (n))]) (st2 := [.int (150), .int (n), .ref (464)]) (M2 := g_set M 464 0 (0 : Int32)) hC hqX12_law rfl ?_
    refine gb_icmp_le hqX12_law rfl (fun h4 => ?_) (fun h4 => ?_)
    ·
      have hr := g_if1 h4 hr
      refine gb_run 1 (pc2 := 30) (ls2 := [(0, .ref (464)), (1, .int (n))]) (st2 := [.int (0), .ref (464)]) (M2 := g_set M 464 0 (0 : Int32)) hC hqX12_law rfl ?_
      exact c_FM_law_J30 hC n sz d (by omega) R (0 : Int32) (g_set M 464 0 (0 : Int32)) hr
    ·
      have hr := g_if0 h4 hr
      exact c_FM_law_J25 hC n sz d (by omega) R (g_set M 464 0 (0 : Int32)) hr
def FM_by (how : Int32) (u : Int32) (v : Int32) : Option (Int32) :=
  if how = (2 : Int32) then (some (u + v)) else if how = (3 : Int32) then (some (u - v)) else if how = (4 : Int32) then (some (u * v)) else if how = (5 : Int32) then (if v = (0 : Int32) then (some (0 : Int32)) else (if v = (-1 : Int32) then (some (-u)) else (if v = 0 then none else (some (u / v))))) else if how = (6 : Int32) then (if v = (0 : Int32) then (some (0 : Int32)) else (if v = (-1 : Int32) then (some (0 : Int32)) else (if v = 0 then none else (some (u - u / v * v))))) else if how = (7 : Int32) then (some (FM_less u v)) else (some (FM_more u v))
set_option maxRecDepth 20000 in
theorem c_FM_by {l : Launch} {C : gC} (hC : g_ctx l C) (how : Int32) (u : Int32) (v : Int32)  (M : gM) (sz d : Nat) (hd : 2 ≤ d) (R : Int32) (hr : FM_by how u v = some R) : gPg l C qX12_by d [.int (how), .int (u), .int (v)] 956 g_S0 M sz (qIp M R) := by
  refine gPg.of (ls := [(0, .int (how)), (1, .int (u)), (2, .int (v))]) (by decide +kernel) (Nat.le_of_ble_eq_true rfl) rfl ?_
  unfold FM_by at hr
  refine gb_run 1 (pc2 := 1) (ls2 := [(0, .int (how)), (1, .int (u)), (2, .int (v))]) (st2 := [.int (how)]) (M2 := M) hC hqX12_by rfl ?_
  by_cases h1 : how = (2 : Int32)
  ·
    have hr := g_if1 h1 hr
    refine gb_tblIn (tgt := 40) hqX12_by rfl (by rw [h1]; first | done | decide) (by rw [h1]; first | done | decide) (by rw [h1]; first | done | rfl) (by decide) ?_
    refine gb_run 3 (pc2 := 43) (ls2 := [(0, .int (how)), (1, .int (u)), (2, .int (v))]) (st2 := [.int (u + v)]) (M2 := M) hC hqX12_by rfl ?_
    refine gb_iret hqX12_by rfl rfl (Nat.le_of_ble_eq_true rfl) (Nat.le_of_ble_eq_true rfl) ?_
    exact gl_Ip hr
  have hr := g_if0 h1 hr
  by_cases h2 : how = (3 : Int32)
  ·
    have hr := g_if1 h2 hr
    refine gb_tblIn (tgt := 44) hqX12_by rfl (by rw [h2]; first | done | decide) (by rw [h2]; first | done | decide) (by rw [h2]; first | done | rfl) (by decide) ?_
    refine gb_run 3 (pc2 := 47) (ls2 := [(0, .int (how)), (1, .int (u)), (2, .int (v))]) (st2 := [.int (u - v)]) (M2 := M) hC hqX12_by rfl ?_
    refine gb_iret hqX12_by rfl rfl (Nat.le_of_ble_eq_true rfl) (Nat.le_of_ble_eq_true rfl) ?_
    exact gl_Ip hr
  have hr := g_if0 h2 hr
  by_cases h3 : how = (4 : Int32)
  ·
    have hr := g_if1 h3 hr
    refine gb_tblIn (tgt := 48) hqX12_by rfl (by rw [h3]; first | done | decide) (by rw [h3]; first | done | decide) (by rw [h3]; first | done | rfl) (by decide) ?_
    refine gb_run 3 (pc2 := 51) (ls2 := [(0, .int (how)), (1, .int (u)), (2, .int (v))]) (st2 := [.int (u * v)]) (M2 := M) hC hqX12_by rfl ?_
    refine gb_iret hqX12_by rfl rfl (Nat.le_of_ble_eq_true rfl) (Nat.le_of_ble_eq_true rfl) ?_
    exact gl_Ip hr
  have hr := g_if0 h3 hr
  by_cases h4 : how = (5 : Int32)
  ·
    have hr := g_if1 h4 hr
    refine gb_tblIn (tgt := 52) hqX12_by rfl (by rw [h4]; first | done | decide) (by rw [h4]; first | done | decide) (by rw [h4]; first | done | rfl) (by decide) ?_
    refine gb_run 1 (pc2 := 53) (ls2 := [(0, .int (how)), (1, .int (u)), (2, .int (v))]) (st2 := [.int (v)]) (M2 := M) hC hqX12_by rfl ?_
    refine gb_if_ne hqX12_by rfl (fun h5 => ?_) (fun h5 => ?_)
    ·
      have hr := g_if0 h5 hr
      refine gb_run 2 (pc2 := 62) (ls2 := [(0, .int (how)), (1, .int (u)), (2, .int (v))]) (st2 := [.int (-1), .int (v)]) (M2 := M) hC hqX12_by rfl ?_
      refine gb_icmp_ne hqX12_by rfl (fun h6 => ?_) (fun h6 => ?_)
      ·
        have hr := g_if0 h6 hr
        refine gb_run 2 (pc2 := 72) (ls2 := [(0, .int (how)), (1, .int (u)), (2, .int (v))]) (st2 := [.int (v), .int (u)]) (M2 := M) hC hqX12_by rfl ?_
        obtain ⟨h7, hr⟩ := g_nz hr
        refine gb_idiv hqX12_by rfl h7 ?_
        refine gb_iret hqX12_by rfl rfl (Nat.le_of_ble_eq_true rfl) (Nat.le_of_ble_eq_true rfl) ?_
        exact gl_Ip hr
      ·
        have hr := g_if1 h6 hr
        refine gb_run 3 (pc2 := 73) (ls2 := [(0, .int (how)), (1, .int (u)), (2, .int (v))]) (st2 := [.int (-u)]) (M2 := M) hC hqX12_by rfl ?_
        refine gb_iret hqX12_by rfl rfl (Nat.le_of_ble_eq_true rfl) (Nat.le_of_ble_eq_true rfl) ?_
        exact gl_Ip hr
    ·
      have hr := g_if1 h5 hr
      refine gb_run 2 (pc2 := 73) (ls2 := [(0, .int (how)), (1, .int (u)), (2, .int (v))]) (st2 := [.int (0)]) (M2 := M) hC hqX12_by rfl ?_
      refine gb_iret hqX12_by rfl rfl (Nat.le_of_ble_eq_true rfl) (Nat.le_of_ble_eq_true rfl) ?_
      exact gl_Ip hr
  have hr := g_if0 h4 hr
  by_cases h8 : how = (6 : Int32)
  ·
    have hr := g_if1 h8 hr
    refine gb_tblIn (tgt := 74) hqX12_by rfl (by rw [h8]; first | done | decide) (by rw [h8]; first | done | decide) (by rw [h8]; first | done | rfl) (by decide) ?_
    refine gb_run 1 (pc2 := 75) (ls2 := [(0, .int (how)), (1, .int (u)), (2, .int (v))]) (st2 := [.int (v)]) (M2 := M) hC hqX12_by rfl ?_
    refine gb_if_eq hqX12_by rfl (fun h9 => ?_) (fun h9 => ?_)
    ·
      have hr := g_if1 h9 hr
      refine gb_run 2 (pc2 := 90) (ls2 := [(0, .int (how)), (1, .int (u)), (2, .int (v))]) (st2 := [.int (0)]) (M2 := M) hC hqX12_by rfl ?_
      refine gb_iret hqX12_by rfl rfl (Nat.le_of_ble_eq_true rfl) (Nat.le_of_ble_eq_true rfl) ?_
      exact gl_Ip hr
    ·
      have hr := g_if0 h9 hr
      refine gb_run 2 (pc2 := 80) (ls2 := [(0, .int (how)), (1, .int (u)), (2, .int (v))]) (st2 := [.int (-1), .int (v)]) (M2 := M) hC hqX12_by rfl ?_
      refine gb_icmp_ne hqX12_by rfl (fun h10 => ?_) (fun h10 => ?_)
      ·
        have hr := g_if0 h10 hr
        refine gb_run 2 (pc2 := 89) (ls2 := [(0, .int (how)), (1, .int (u)), (2, .int (v))]) (st2 := [.int (v), .int (u)]) (M2 := M) hC hqX12_by rfl ?_
        obtain ⟨h11, hr⟩ := g_nz hr
        refine gb_irem hqX12_by rfl h11 ?_
        refine gb_iret hqX12_by rfl rfl (Nat.le_of_ble_eq_true rfl) (Nat.le_of_ble_eq_true rfl) ?_
        exact gl_Ip hr
      ·
        have hr := g_if1 h10 hr
        refine gb_run 2 (pc2 := 90) (ls2 := [(0, .int (how)), (1, .int (u)), (2, .int (v))]) (st2 := [.int (0)]) (M2 := M) hC hqX12_by rfl ?_
        refine gb_iret hqX12_by rfl rfl (Nat.le_of_ble_eq_true rfl) (Nat.le_of_ble_eq_true rfl) ?_
        exact gl_Ip hr
  have hr := g_if0 h8 hr
  by_cases h12 : how = (7 : Int32)
  ·
    have hr := g_if1 h12 hr
    refine gb_tblIn (tgt := 91) hqX12_by rfl (by rw [h12]; first | done | decide) (by rw [h12]; first | done | decide) (by rw [h12]; first | done | rfl) (by decide) ?_
    refine gb_run 2 (pc2 := 93) (ls2 := [(0, .int (how)), (1, .int (u)), (2, .int (v))]) (st2 := [.int (v), .int (u)]) (M2 := M) hC hqX12_by rfl ?_
    refine gz_cS (z := qX12_less) (av := [.int (u), .int (v)]) (rest := []) (pl := 1709) hC hqX12_by rfl kX12_less (by decide +kernel) (c_FM_less hC u v  M sz (d - 1) (by omega)) (by omega) ⟨rfl, rfl⟩ rfl rfl (Nat.le_of_ble_eq_true rfl) ⟨Nat.le_of_ble_eq_true rfl, Nat.le_of_ble_eq_true rfl⟩ (gs_Ip ?_)
    refine gb_iret hqX12_by rfl rfl (Nat.le_of_ble_eq_true rfl) (Nat.le_of_ble_eq_true rfl) ?_
    exact gl_Ip hr
  have hr := g_if0 h12 hr
  refine gb_tblOut (tgt := 97) hqX12_by rfl (by have q0 := gd_ne (z := 2) rfl h1; have q1 := gd_ne (z := 3) rfl h2; have q2 := gd_ne (z := 4) rfl h3; have q3 := gd_ne (z := 5) rfl h4; have q4 := gd_ne (z := 6) rfl h8; have q5 := gd_ne (z := 7) rfl h12; omega) (by decide) ?_
  refine gb_run 2 (pc2 := 99) (ls2 := [(0, .int (how)), (1, .int (u)), (2, .int (v))]) (st2 := [.int (v), .int (u)]) (M2 := M) hC hqX12_by rfl ?_
  refine gz_cS (z := qX12_more) (av := [.int (u), .int (v)]) (rest := []) (pl := 1703) hC hqX12_by rfl kX12_more (by decide +kernel) (c_FM_more hC u v  M sz (d - 1) (by omega)) (by omega) ⟨rfl, rfl⟩ rfl rfl (Nat.le_of_ble_eq_true rfl) ⟨Nat.le_of_ble_eq_true rfl, Nat.le_of_ble_eq_true rfl⟩ (gs_Ip ?_)
  refine gb_iret hqX12_by rfl rfl (Nat.le_of_ble_eq_true rfl) (Nat.le_of_ble_eq_true rfl) ?_
  exact gl_Ip hr
def FM_byLaw_L44 : Nat → Int32 → Int32 → gM → Option (Int32 × gM)
  | 0, _, _, _ => none
  | k + 1, x1, x2, M =>
  if (M 464 19) ≤ x2 then (some (FM_less (99 : Int32) (FM_more (1 : Int32) (M 847 0)), M)) else (g_ix x2 160 fun j2 => if (2 : Int32) ≤ (M (508 + j2) 0) then (g_ix x2 160 fun j4 => g_ix ((x1 + (-1 : Int32)) - (1 : Int32)) 160 fun j5 => g_ix (x1 + (-1 : Int32)) 160 fun j6 => (FM_by (M (508 + j4) 0) (M 847 j5) (M 847 j6)).bind fun s7 => g_ix ((x1 + (-1 : Int32)) - (1 : Int32)) 160 fun j8 => g_let (g_set M 847 j8 s7) fun M9 => FM_byLaw_L44 k (x1 + (-1 : Int32)) (x2 + (1 : Int32)) M9) else (g_ix x2 160 fun j10 => if (M (508 + j10) 0) = (0 : Int32) then (g_ix x2 160 fun j16 => g_ix x1 160 fun j17 => g_let (g_set M 847 j17 (M (508 + j16) 1)) fun M18 => FM_byLaw_L44 k (x1 + (1 : Int32)) (x2 + (1 : Int32)) M18) else (g_ix x2 160 fun j12 => g_ix (M (508 + j12) 1) 9 fun j13 => g_ix x1 160 fun j14 => g_let (g_set M 847 j14 (M 848 j13)) fun M15 => FM_byLaw_L44 k (x1 + (1 : Int32)) (x2 + (1 : Int32)) M15)))
set_option maxRecDepth 20000 in
theorem c_FM_byLaw_L44 {l : Launch} {C : gC} (hC : g_ctx l C) (sz d : Nat) (hd : 3 ≤ d) (R : Int32 × gM) : ∀ (k : Nat) (x1 : Int32) (x2 : Int32) (M : gM), FM_byLaw_L44 k x1 x2 M = some R → GW l C qX12_byLaw d (gQg 956 g_S0 (qI R) sz) gN 0 0 44 [(0, .ref (464)), (1, .int (x1)), (2, .int (x2))] [] (956, g_S0, M, sz) := by
  intro k
  induction k with
  | zero => intro x1 x2 M hr; exact nomatch (show (none : Option (Int32 × gM)) = some R from hr)
  | succ k ih =>
    intro x1 x2 M hr
    unfold FM_byLaw_L44 at hr
    refine gb_run 3 (pc2 := 49) (ls2 := [(0, .ref (464)), (1, .int (x1)), (2, .int (x2))]) (st2 := [.int (M 464 19), .int (x2)]) (M2 := M) hC hqX12_byLaw rfl ?_
    refine gb_icmp_ge hqX12_byLaw rfl (fun h1 => ?_) (fun h1 => ?_)
    ·
      have hr := g_if1 h1 hr
      refine gb_run 5 (pc2 := 161) (ls2 := [(0, .ref (464)), (1, .int (x1)), (2, .int (x2))]) (st2 := [.int (0), .ref (847), .int (1), .int (99)]) (M2 := M) hC hqX12_byLaw rfl ?_
      refine gb_iaload hC hqX12_byLaw rfl (Nat.le_of_ble_eq_true rfl) rfl (by unfold vp_in; decide) ?_
      rw [show (0 : Int32).toNatClampNeg = 0 from rfl]
      refine gz_cS (z := qX12_more) (av := [.int (1), .int (M 847 0)]) (rest := [.int (99)]) (pl := 1703) hC hqX12_byLaw rfl kX12_more (by decide +kernel) (c_FM_more hC (1 : Int32) (M 847 0)  M sz (d - 1) (by omega)) (by omega) ⟨rfl, rfl⟩ rfl rfl (Nat.le_of_ble_eq_true rfl) ⟨Nat.le_of_ble_eq_true rfl, Nat.le_of_ble_eq_true rfl⟩ (gs_Ip ?_)
      refine gz_cS (z := qX12_less) (av := [.int (99), .int (FM_more (1 : Int32) (M 847 0))]) (rest := []) (pl := 1709) hC hqX12_byLaw rfl kX12_less (by decide +kernel) (c_FM_less hC (99 : Int32) (FM_more (1 : Int32) (M 847 0))  M sz (d - 1) (by omega)) (by omega) ⟨rfl, rfl⟩ rfl rfl (Nat.le_of_ble_eq_true rfl) ⟨Nat.le_of_ble_eq_true rfl, Nat.le_of_ble_eq_true rfl⟩ (gs_Ip ?_)
      refine gb_iret hqX12_byLaw rfl rfl (Nat.le_of_ble_eq_true rfl) (Nat.le_of_ble_eq_true rfl) ?_
      exact gl_I hr
    ·
      have hr := g_if0 h1 hr
      refine gb_run 3 (pc2 := 57) (ls2 := [(0, .ref (464)), (1, .int (x1)), (2, .int (x2))]) (st2 := [.int (x2), .ref (507)]) (M2 := M) hC hqX12_byLaw rfl ?_
      obtain ⟨j2, ej2, ij2, lj2, hr⟩ := g_ixo hr
      have tj2 := g_t507 j2 lj2
      refine gz_aaload (k0 := 2) (q := 508 + j2) hC hqX12_byLaw rfl (Nat.le_of_ble_eq_true rfl) rfl (Nat.le_of_ble_eq_true rfl) ij2 ej2 tj2.1 ?_
      refine gb_run 1 (pc2 := 59) (ls2 := [(0, .ref (464)), (1, .int (x1)), (2, .int (x2))]) (st2 := [.int (0), .ref (508 + j2)]) (M2 := M) hC hqX12_byLaw rfl ?_
      refine gb_iaload hC hqX12_byLaw rfl tj2.2.1 (g_S3 tj2.2.2.1 tj2.2.2.2) (by unfold vp_in; decide) ?_
      rw [show (0 : Int32).toNatClampNeg = 0 from rfl]
      refine gb_run 1 (pc2 := 61) (ls2 := [(0, .ref (464)), (1, .int (x1)), (2, .int (x2))]) (st2 := [.int (2), .int (M (508 + j2) 0)]) (M2 := M) hC hqX12_byLaw rfl ?_
      refine gb_icmp_ge hqX12_byLaw rfl (fun h3 => ?_) (fun h3 => ?_)
      ·
        have hr := g_if1 h3 hr
        refine gb_run 9 (pc2 := 126) (ls2 := [(1, .int (x1 + (-1 : Int32))), (0, .ref (464)), (2, .int (x2))]) (st2 := [.int (x2), .ref (507), .int ((x1 + (-1 : Int32)) - (1 : Int32)), .ref (847)]) (M2 := M) hC hqX12_byLaw rfl ?_
        obtain ⟨j4, ej4, ij4, lj4, hr⟩ := g_ixo hr
        have tj4 := g_t507 j4 lj4
        refine gz_aaload (k0 := 2) (q := 508 + j4) hC hqX12_byLaw rfl (Nat.le_of_ble_eq_true rfl) rfl (Nat.le_of_ble_eq_true rfl) ij4 ej4 tj4.1 ?_
        refine gb_run 1 (pc2 := 128) (ls2 := [(1, .int (x1 + (-1 : Int32))), (0, .ref (464)), (2, .int (x2))]) (st2 := [.int (0), .ref (508 + j4), .int ((x1 + (-1 : Int32)) - (1 : Int32)), .ref (847)]) (M2 := M) hC hqX12_byLaw rfl ?_
        refine gb_iaload hC hqX12_byLaw rfl tj4.2.1 (g_S3 tj4.2.2.1 tj4.2.2.2) (by unfold vp_in; decide) ?_
        rw [show (0 : Int32).toNatClampNeg = 0 from rfl]
        refine gb_run 5 (pc2 := 136) (ls2 := [(1, .int (x1 + (-1 : Int32))), (0, .ref (464)), (2, .int (x2))]) (st2 := [.int ((x1 + (-1 : Int32)) - (1 : Int32)), .ref (847), .int (M (508 + j4) 0), .int ((x1 + (-1 : Int32)) - (1 : Int32)), .ref (847)]) (M2 := M) hC hqX12_byLaw rfl ?_
        obtain ⟨j5, ej5, ij5, lj5, hr⟩ := g_ixo hr
        refine gz_iaload hC hqX12_byLaw rfl (Nat.le_of_ble_eq_true rfl) rfl ij5 ej5 ?_
        refine gb_run 3 (pc2 := 142) (ls2 := [(1, .int (x1 + (-1 : Int32))), (0, .ref (464)), (2, .int (x2))]) (st2 := [.int (x1 + (-1 : Int32)), .ref (847), .int (M 847 j5), .int (M (508 + j4) 0), .int ((x1 + (-1 : Int32)) - (1 : Int32)), .ref (847)]) (M2 := M) hC hqX12_byLaw rfl ?_
        obtain ⟨j6, ej6, ij6, lj6, hr⟩ := g_ixo hr
        refine gz_iaload hC hqX12_byLaw rfl (Nat.le_of_ble_eq_true rfl) rfl ij6 ej6 ?_
        obtain ⟨s7, es7, hr⟩ := g_bd hr
        refine gz_cS (z := qX12_by) (av := [.int (M (508 + j4) 0), .int (M 847 j5), .int (M 847 j6)]) (rest := [.int ((x1 + (-1 : Int32)) - (1 : Int32)), .ref (847)]) (pl := 1706) hC hqX12_byLaw rfl kX12_by (by decide +kernel) (c_FM_by hC (M (508 + j4) 0) (M 847 j5) (M 847 j6)  M sz (d - 1) (by omega) s7 es7) (by omega) ⟨rfl, rfl⟩ rfl rfl (Nat.le_of_ble_eq_true rfl) ⟨Nat.le_of_ble_eq_true rfl, Nat.le_of_ble_eq_true rfl⟩ (gs_Ip ?_)
        obtain ⟨j8, ej8, ij8, lj8, hr⟩ := g_ixo hr
        refine gz_iastore hC hqX12_byLaw rfl (Nat.le_of_ble_eq_true rfl) rfl ij8 ej8 ?_
        refine g_letP (P := fun M9 => GW l C qX12_byLaw d (gQg 956 g_S0 (qI R) sz) gN 0 0 147 [(1, .int (x1 + (-1 : Int32))), (0, .ref (464)), (2, .int (x2))] [] (956, g_S0, M9, sz)) hr (fun M9 hr => ?_)
        refine gb_run 2 (pc2 := 44) (ls2 := [(2, .int (x2 + (1 : Int32))), (1, .int (x1 + (-1 : Int32))), (0, .ref (464))]) (st2 := []) (M2 := M9) hC hqX12_byLaw rfl ?_
        refine gw_pick [2, 1, 0] (ls2 := [(0, .ref (464)), (1, .int (x1 + (-1 : Int32))), (2, .int (x2 + (1 : Int32)))]) rfl ?_
        exact ih (x1 + (-1 : Int32)) (x2 + (1 : Int32)) M9 hr
      ·
        have hr := g_if0 h3 hr
        refine gb_run 6 (pc2 := 74) (ls2 := [(0, .ref (464)), (1, .int (x1)), (2, .int (x2))]) (st2 := [.int (x2), .ref (507), .int (x1), .ref (847)]) (M2 := M) hC hqX12_byLaw rfl ?_
        obtain ⟨j10, ej10, ij10, lj10, hr⟩ := g_ixo hr
        have tj10 := g_t507 j10 lj10
        refine gz_aaload (k0 := 2) (q := 508 + j10) hC hqX12_byLaw rfl (Nat.le_of_ble_eq_true rfl) rfl (Nat.le_of_ble_eq_true rfl) ij10 ej10 tj10.1 ?_
        refine gb_run 1 (pc2 := 76) (ls2 := [(0, .ref (464)), (1, .int (x1)), (2, .int (x2))]) (st2 := [.int (0), .ref (508 + j10), .int (x1), .ref (847)]) (M2 := M) hC hqX12_byLaw rfl ?_
        refine gb_iaload hC hqX12_byLaw rfl tj10.2.1 (g_S3 tj10.2.2.1 tj10.2.2.2) (by unfold vp_in; decide) ?_
        rw [show (0 : Int32).toNatClampNeg = 0 from rfl]
        refine gb_if_ne hqX12_byLaw rfl (fun h11 => ?_) (fun h11 => ?_)
        ·
          have hr := g_if0 h11 hr
          refine gb_run 5 (pc2 := 100) (ls2 := [(0, .ref (464)), (1, .int (x1)), (2, .int (x2))]) (st2 := [.int (x2), .ref (507), .ref (848), .int (x1), .ref (847)]) (M2 := M) hC hqX12_byLaw rfl ?_
          obtain ⟨j12, ej12, ij12, lj12, hr⟩ := g_ixo hr
          have tj12 := g_t507 j12 lj12
          refine gz_aaload (k0 := 2) (q := 508 + j12) hC hqX12_byLaw rfl (Nat.le_of_ble_eq_true rfl) rfl (Nat.le_of_ble_eq_true rfl) ij12 ej12 tj12.1 ?_
          refine gb_run 1 (pc2 := 102) (ls2 := [(0, .ref (464)), (1, .int (x1)), (2, .int (x2))]) (st2 := [.int (1), .ref (508 + j12), .ref (848), .int (x1), .ref (847)]) (M2 := M) hC hqX12_byLaw rfl ?_
          refine gb_iaload hC hqX12_byLaw rfl tj12.2.1 (g_S3 tj12.2.2.1 tj12.2.2.2) (by unfold vp_in; decide) ?_
          rw [show (1 : Int32).toNatClampNeg = 1 from rfl]
          obtain ⟨j13, ej13, ij13, lj13, hr⟩ := g_ixo hr
          refine gz_iaload hC hqX12_byLaw rfl (Nat.le_of_ble_eq_true rfl) rfl ij13 ej13 ?_
          obtain ⟨j14, ej14, ij14, lj14, hr⟩ := g_ixo hr
          refine gz_iastore hC hqX12_byLaw rfl (Nat.le_of_ble_eq_true rfl) rfl ij14 ej14 ?_
          refine g_letP (P := fun M15 => GW l C qX12_byLaw d (gQg 956 g_S0 (qI R) sz) gN 0 0 105 [(0, .ref (464)), (1, .int (x1)), (2, .int (x2))] [] (956, g_S0, M15, sz)) hr (fun M15 hr => ?_)
          refine gb_run 4 (pc2 := 44) (ls2 := [(2, .int (x2 + (1 : Int32))), (1, .int (x1 + (1 : Int32))), (0, .ref (464))]) (st2 := []) (M2 := M15) hC hqX12_byLaw rfl ?_
          refine gw_pick [2, 1, 0] (ls2 := [(0, .ref (464)), (1, .int (x1 + (1 : Int32))), (2, .int (x2 + (1 : Int32)))]) rfl ?_
          exact ih (x1 + (1 : Int32)) (x2 + (1 : Int32)) M15 hr
        ·
          have hr := g_if1 h11 hr
          refine gb_run 3 (pc2 := 85) (ls2 := [(0, .ref (464)), (1, .int (x1)), (2, .int (x2))]) (st2 := [.int (x2), .ref (507), .int (x1), .ref (847)]) (M2 := M) hC hqX12_byLaw rfl ?_
          obtain ⟨j16, ej16, ij16, lj16, hr⟩ := g_ixo hr
          have tj16 := g_t507 j16 lj16
          refine gz_aaload (k0 := 2) (q := 508 + j16) hC hqX12_byLaw rfl (Nat.le_of_ble_eq_true rfl) rfl (Nat.le_of_ble_eq_true rfl) ij16 ej16 tj16.1 ?_
          refine gb_run 1 (pc2 := 87) (ls2 := [(0, .ref (464)), (1, .int (x1)), (2, .int (x2))]) (st2 := [.int (1), .ref (508 + j16), .int (x1), .ref (847)]) (M2 := M) hC hqX12_byLaw rfl ?_
          refine gb_iaload hC hqX12_byLaw rfl tj16.2.1 (g_S3 tj16.2.2.1 tj16.2.2.2) (by unfold vp_in; decide) ?_
          rw [show (1 : Int32).toNatClampNeg = 1 from rfl]
          refine gb_run 1 (pc2 := 104) (ls2 := [(0, .ref (464)), (1, .int (x1)), (2, .int (x2))]) (st2 := [.int (M (508 + j16) 1), .int (x1), .ref (847)]) (M2 := M) hC hqX12_byLaw rfl ?_
          obtain ⟨j17, ej17, ij17, lj17, hr⟩ := g_ixo hr
          refine gz_iastore hC hqX12_byLaw rfl (Nat.le_of_ble_eq_true rfl) rfl ij17 ej17 ?_
          refine g_letP (P := fun M18 => GW l C qX12_byLaw d (gQg 956 g_S0 (qI R) sz) gN 0 0 105 [(0, .ref (464)), (1, .int (x1)), (2, .int (x2))] [] (956, g_S0, M18, sz)) hr (fun M18 hr => ?_)
          refine gb_run 4 (pc2 := 44) (ls2 := [(2, .int (x2 + (1 : Int32))), (1, .int (x1 + (1 : Int32))), (0, .ref (464))]) (st2 := []) (M2 := M18) hC hqX12_byLaw rfl ?_
          refine gw_pick [2, 1, 0] (ls2 := [(0, .ref (464)), (1, .int (x1 + (1 : Int32))), (2, .int (x2 + (1 : Int32)))]) rfl ?_
          exact ih (x1 + (1 : Int32)) (x2 + (1 : Int32)) M18 hr
def FM_byLaw  (M : gM) : Option (Int32 × gM) :=
  if (FM_more (1 : Int32) (M 848 1)) = 0 then none else (g_let (g_set M 847 0 (((((M 848 0) * (6 : Int32)) / (FM_more (1 : Int32) (M 848 1))) + (M 848 3)) + (M 848 4))) fun M2 => FM_byLaw_L44 1000 (0 : Int32) (0 : Int32) M2)
set_option maxRecDepth 20000 in
theorem c_FM_byLaw {l : Launch} {C : gC} (hC : g_ctx l C)   (M : gM) (sz d : Nat) (hd : 3 ≤ d) (R : Int32 × gM) (hr : FM_byLaw M = some R) : gPg l C qX12_byLaw d [.ref (464)] 956 g_S0 M sz (qI R) := by
  refine gPg.of (ls := [(0, .ref (464))]) (by decide +kernel) (Nat.le_of_ble_eq_true rfl) rfl ?_
  unfold FM_byLaw at hr
  refine gb_run 8 (pc2 := 12) (ls2 := [(1, .int (0)), (0, .ref (464))]) (st2 := [.int (0), .ref (848), .int (0), .ref (847)]) (M2 := M) hC hqX12_byLaw rfl ?_
  refine gb_iaload hC hqX12_byLaw rfl (Nat.le_of_ble_eq_true rfl) rfl (by unfold vp_in; decide) ?_
  rw [show (0 : Int32).toNatClampNeg = 0 from rfl]
  refine gb_run 6 (pc2 := 22) (ls2 := [(1, .int (0)), (0, .ref (464))]) (st2 := [.int (1), .ref (848), .int (1), .int ((M 848 0) * (6 : Int32)), .int (0), .ref (847)]) (M2 := M) hC hqX12_byLaw rfl ?_
  refine gb_iaload hC hqX12_byLaw rfl (Nat.le_of_ble_eq_true rfl) rfl (by unfold vp_in; decide) ?_
  rw [show (1 : Int32).toNatClampNeg = 1 from rfl]
  refine gz_cS (z := qX12_more) (av := [.int (1), .int (M 848 1)]) (rest := [.int ((M 848 0) * (6 : Int32)), .int (0), .ref (847)]) (pl := 1703) hC hqX12_byLaw rfl kX12_more (by decide +kernel) (c_FM_more hC (1 : Int32) (M 848 1)  M sz (d - 1) (by omega)) (by omega) ⟨rfl, rfl⟩ rfl rfl (Nat.le_of_ble_eq_true rfl) ⟨Nat.le_of_ble_eq_true rfl, Nat.le_of_ble_eq_true rfl⟩ (gs_Ip ?_)
  obtain ⟨h1, hr⟩ := g_nz hr
  refine gb_idiv hqX12_byLaw rfl h1 ?_
  refine gb_run 3 (pc2 := 32) (ls2 := [(1, .int (0)), (0, .ref (464))]) (st2 := [.int (3), .ref (848), .int (((M 848 0) * (6 : Int32)) / (FM_more (1 : Int32) (M 848 1))), .int (0), .ref (847)]) (M2 := M) hC hqX12_byLaw rfl ?_
  refine gb_iaload hC hqX12_byLaw rfl (Nat.le_of_ble_eq_true rfl) rfl (by unfold vp_in; decide) ?_
  rw [show (3 : Int32).toNatClampNeg = 3 from rfl]
  refine gb_run 4 (pc2 := 39) (ls2 := [(1, .int (0)), (0, .ref (464))]) (st2 := [.int (4), .ref (848), .int ((((M 848 0) * (6 : Int32)) / (FM_more (1 : Int32) (M 848 1))) + (M 848 3)), .int (0), .ref (847)]) (M2 := M) hC hqX12_byLaw rfl ?_
  refine gb_iaload hC hqX12_byLaw rfl (Nat.le_of_ble_eq_true rfl) rfl (by unfold vp_in; decide) ?_
  rw [show (4 : Int32).toNatClampNeg = 4 from rfl]
  refine gb_run 1 (pc2 := 41) (ls2 := [(1, .int (0)), (0, .ref (464))]) (st2 := [.int (((((M 848 0) * (6 : Int32)) / (FM_more (1 : Int32) (M 848 1))) + (M 848 3)) + (M 848 4)), .int (0), .ref (847)]) (M2 := M) hC hqX12_byLaw rfl ?_
  refine gb_iastore hC hqX12_byLaw rfl (Nat.le_of_ble_eq_true rfl) rfl (by unfold vp_in; decide) ?_
  rw [show (0 : Int32).toNatClampNeg = 0 from rfl]
  refine g_letP (P := fun M2 => GW l C qX12_byLaw d (gQg 956 g_S0 (qI R) sz) gN 0 0 42 [(1, .int (0)), (0, .ref (464))] [] (956, g_S0, M2, sz)) hr (fun M2 hr => ?_)
  refine gb_run 2 (pc2 := 44) (ls2 := [(2, .int (0)), (1, .int (0)), (0, .ref (464))]) (st2 := []) (M2 := M2) hC hqX12_byLaw rfl ?_
  refine gw_pick [2, 1, 0] (ls2 := [(0, .ref (464)), (1, .int (0)), (2, .int (0))]) rfl ?_
  exact c_FM_byLaw_L44 hC sz d (by omega) R 1000 (0 : Int32) (0 : Int32) M2 hr
