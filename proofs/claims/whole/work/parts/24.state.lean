/-! Songs, States, Histories, decompiled. -/
def FS_clear  (M : gM) : Option (gM) :=
  g_let (r_fill M 24 8 (-1 : Int32)) fun M1 => some (g_set M1 23 1 (0 : Int32))
set_option maxRecDepth 20000 in
theorem c_FS_clear {l : Launch} {C : gC} (hC : g_ctx l C)   (M : gM) (sz d : Nat) (hd : 2 ≤ d) (R : gM) (hr : FS_clear M = some R) : gPg l C qX7_clear d [.ref (23)] 956 g_S0 M sz (qV R) := by
  refine gPg.of (ls := [(0, .ref (23))]) (by decide +kernel) (Nat.le_of_ble_eq_true rfl) rfl ?_
  unfold FS_clear at hr
  refine gb_run 3 (pc2 := 5) (ls2 := [(0, .ref (23))]) (st2 := [.int (-1), .ref (24)]) (M2 := M) hC hqX7_clear rfl ?_
  refine gz_cSN (host := "HoopHours") (z := qX11_fill) (av := [.ref (24), .int (-1)]) (rest := []) (pl := 208) hC hqX7_clear rfl kX11_fill (by decide +kernel) (c_fill hC 956 g_S0 24 8 _ (-1 : Int32) M sz (d - 1) (by omega) (Nat.le_of_ble_eq_true rfl) rfl (Nat.le_of_ble_eq_true rfl)) (by omega) ⟨rfl, rfl⟩ rfl rfl (Nat.le_of_ble_eq_true rfl) ⟨Nat.le_of_ble_eq_true rfl, Nat.le_of_ble_eq_true rfl⟩ (gs_V ?_)
  refine g_letP (P := fun M1 => GW l C qX7_clear d (gQg 956 g_S0 (qV R) sz) gN 0 0 8 [(0, .ref (23))] [] (956, g_S0, M1, sz)) hr (fun M1 hr => ?_)
  refine gb_run 3 (pc2 := 13) (ls2 := [(0, .ref (23))]) (st2 := []) (M2 := g_set M1 23 1 (0 : Int32)) hC hqX7_clear rfl ?_
  refine gb_vret hqX7_clear rfl rfl (Nat.le_of_ble_eq_true rfl) (Nat.le_of_ble_eq_true rfl) ?_
  exact gl_V hr
def FS_clearR  (M : gM) : Option (gM) :=
  g_let (r_fill M 26 8 (-1 : Int32)) fun M1 => some (g_set M1 25 1 (0 : Int32))
set_option maxRecDepth 20000 in
theorem c_FS_clearR {l : Launch} {C : gC} (hC : g_ctx l C)   (M : gM) (sz d : Nat) (hd : 2 ≤ d) (R : gM) (hr : FS_clearR M = some R) : gPg l C qX7_clear d [.ref (25)] 956 g_S0 M sz (qV R) := by
  refine gPg.of (ls := [(0, .ref (25))]) (by decide +kernel) (Nat.le_of_ble_eq_true rfl) rfl ?_
  unfold FS_clearR at hr
  refine gb_run 3 (pc2 := 5) (ls2 := [(0, .ref (25))]) (st2 := [.int (-1), .ref (26)]) (M2 := M) hC hqX7_clear rfl ?_
  refine gz_cSN (host := "HoopHours") (z := qX11_fill) (av := [.ref (26), .int (-1)]) (rest := []) (pl := 208) hC hqX7_clear rfl kX11_fill (by decide +kernel) (c_fill hC 956 g_S0 26 8 _ (-1 : Int32) M sz (d - 1) (by omega) (Nat.le_of_ble_eq_true rfl) rfl (Nat.le_of_ble_eq_true rfl)) (by omega) ⟨rfl, rfl⟩ rfl rfl (Nat.le_of_ble_eq_true rfl) ⟨Nat.le_of_ble_eq_true rfl, Nat.le_of_ble_eq_true rfl⟩ (gs_V ?_)
  refine g_letP (P := fun M1 => GW l C qX7_clear d (gQg 956 g_S0 (qV R) sz) gN 0 0 8 [(0, .ref (25))] [] (956, g_S0, M1, sz)) hr (fun M1 hr => ?_)
  refine gb_run 3 (pc2 := 13) (ls2 := [(0, .ref (25))]) (st2 := []) (M2 := g_set M1 25 1 (0 : Int32)) hC hqX7_clear rfl ?_
  refine gb_vret hqX7_clear rfl rfl (Nat.le_of_ble_eq_true rfl) (Nat.le_of_ble_eq_true rfl) ?_
  exact gl_V hr
def FS_copy  (M : gM) : Option (gM) :=
  g_let (r_copy M 26 24 8) fun M1 => some (g_set M1 23 1 (M1 25 1))
set_option maxRecDepth 20000 in
theorem c_FS_copy {l : Launch} {C : gC} (hC : g_ctx l C)   (M : gM) (sz d : Nat) (hd : 2 ≤ d) (R : gM) (hr : FS_copy M = some R) : gPg l C qX7_copy d [.ref (23), .ref (25)] 956 g_S0 M sz (qV R) := by
  refine gPg.of (ls := [(0, .ref (23)), (1, .ref (25))]) (by decide +kernel) (Nat.le_of_ble_eq_true rfl) rfl ?_
  unfold FS_copy at hr
  refine gb_run 4 (pc2 := 8) (ls2 := [(0, .ref (23)), (1, .ref (25))]) (st2 := [.ref (24), .ref (26)]) (M2 := M) hC hqX7_copy rfl ?_
  refine gz_cSN (host := "HoopHours") (z := qX11_copyRow) (av := [.ref (26), .ref (24)]) (rest := []) (pl := 1022) hC hqX7_copy rfl kX11_copyRow (by decide +kernel) (c_copyRow hC 26 24 8 _ _ M sz (d - 1) (by omega) (Nat.le_of_ble_eq_true rfl) rfl (Nat.le_of_ble_eq_true rfl) rfl (Nat.le_of_ble_eq_true rfl) (by first | decide | omega)) (by omega) ⟨rfl, rfl⟩ rfl rfl (Nat.le_of_ble_eq_true rfl) ⟨Nat.le_of_ble_eq_true rfl, Nat.le_of_ble_eq_true rfl⟩ (gs_V ?_)
  refine g_letP (P := fun M1 => GW l C qX7_copy d (gQg 956 g_S0 (qV R) sz) gN 0 0 11 [(0, .ref (23)), (1, .ref (25))] [] (956, g_S0, M1, sz)) hr (fun M1 hr => ?_)
  refine gb_run 4 (pc2 := 19) (ls2 := [(0, .ref (23)), (1, .ref (25))]) (st2 := []) (M2 := g_set M1 23 1 (M1 25 1)) hC hqX7_copy rfl ?_
  refine gb_vret hqX7_copy rfl rfl (Nat.le_of_ble_eq_true rfl) (Nat.le_of_ble_eq_true rfl) ?_
  exact gl_V hr
def FS_hasGate (g : Int32) (M : gM) : Int32 :=
  if (r_at (M 24) 8 g) = (-1 : Int32) then 0 else 1
set_option maxRecDepth 20000 in
theorem c_FS_hasGate {l : Launch} {C : gC} (hC : g_ctx l C) (g : Int32)  (M : gM) (sz d : Nat) (hd : 2 ≤ d) : gPg l C qX7_hasGate d [.ref (23), .int (g)] 956 g_S0 M sz (qZp M (FS_hasGate g M)) := by
  refine gPg.of (ls := [(0, .ref (23)), (1, .int (g))]) (by decide +kernel) (Nat.le_of_ble_eq_true rfl) rfl ?_
  obtain ⟨R, hr⟩ : ∃ R, FS_hasGate g M = R := ⟨_, rfl⟩
  rw [hr]
  unfold FS_hasGate at hr
  refine gb_run 3 (pc2 := 5) (ls2 := [(0, .ref (23)), (1, .int (g))]) (st2 := [.int (g), .ref (24)]) (M2 := M) hC hqX7_hasGate rfl ?_
  refine gz_cSN (host := "HoopHours") (z := qX11_at) (av := [.ref (24), .int (g)]) (rest := []) (pl := 1014) hC hqX7_hasGate rfl kX11_at (by decide +kernel) (c_at hC 24 8 _ g M sz (d - 1) (by omega) (Nat.le_of_ble_eq_true rfl) rfl (Nat.le_of_ble_eq_true rfl)) (by omega) ⟨rfl, rfl⟩ rfl rfl (Nat.le_of_ble_eq_true rfl) ⟨Nat.le_of_ble_eq_true rfl, Nat.le_of_ble_eq_true rfl⟩ (gs_Ip ?_)
  refine gb_run 1 (pc2 := 9) (ls2 := [(0, .ref (23)), (1, .int (g))]) (st2 := [.int (-1), .int (r_at (M 24) 8 g)]) (M2 := M) hC hqX7_hasGate rfl ?_
  refine gb_icmp_eq hqX7_hasGate rfl (fun h1 => ?_) (fun h1 => ?_)
  ·
    have hr := g_if1 h1 hr
    refine gb_run 1 (pc2 := 17) (ls2 := [(0, .ref (23)), (1, .int (g))]) (st2 := [.int (0)]) (M2 := M) hC hqX7_hasGate rfl ?_
    refine gb_zret hqX7_hasGate rfl rfl (Nat.le_of_ble_eq_true rfl) (Nat.le_of_ble_eq_true rfl) (Or.inl rfl) ?_
    exact gl_Zt (Or.inl rfl) hr
  ·
    have hr := g_if0 h1 hr
    refine gb_run 2 (pc2 := 17) (ls2 := [(0, .ref (23)), (1, .int (g))]) (st2 := [.int (1)]) (M2 := M) hC hqX7_hasGate rfl ?_
    refine gb_zret hqX7_hasGate rfl rfl (Nat.le_of_ble_eq_true rfl) (Nat.le_of_ble_eq_true rfl) (Or.inr rfl) ?_
    exact gl_Zt (Or.inr rfl) hr
def FS_hasGateR (g : Int32) (M : gM) : Int32 :=
  if (r_at (M 26) 8 g) = (-1 : Int32) then 0 else 1
set_option maxRecDepth 20000 in
theorem c_FS_hasGateR {l : Launch} {C : gC} (hC : g_ctx l C) (g : Int32)  (M : gM) (sz d : Nat) (hd : 2 ≤ d) : gPg l C qX7_hasGate d [.ref (25), .int (g)] 956 g_S0 M sz (qZp M (FS_hasGateR g M)) := by
  refine gPg.of (ls := [(0, .ref (25)), (1, .int (g))]) (by decide +kernel) (Nat.le_of_ble_eq_true rfl) rfl ?_
  obtain ⟨R, hr⟩ : ∃ R, FS_hasGateR g M = R := ⟨_, rfl⟩
  rw [hr]
  unfold FS_hasGateR at hr
  refine gb_run 3 (pc2 := 5) (ls2 := [(0, .ref (25)), (1, .int (g))]) (st2 := [.int (g), .ref (26)]) (M2 := M) hC hqX7_hasGate rfl ?_
  refine gz_cSN (host := "HoopHours") (z := qX11_at) (av := [.ref (26), .int (g)]) (rest := []) (pl := 1014) hC hqX7_hasGate rfl kX11_at (by decide +kernel) (c_at hC 26 8 _ g M sz (d - 1) (by omega) (Nat.le_of_ble_eq_true rfl) rfl (Nat.le_of_ble_eq_true rfl)) (by omega) ⟨rfl, rfl⟩ rfl rfl (Nat.le_of_ble_eq_true rfl) ⟨Nat.le_of_ble_eq_true rfl, Nat.le_of_ble_eq_true rfl⟩ (gs_Ip ?_)
  refine gb_run 1 (pc2 := 9) (ls2 := [(0, .ref (25)), (1, .int (g))]) (st2 := [.int (-1), .int (r_at (M 26) 8 g)]) (M2 := M) hC hqX7_hasGate rfl ?_
  refine gb_icmp_eq hqX7_hasGate rfl (fun h1 => ?_) (fun h1 => ?_)
  ·
    have hr := g_if1 h1 hr
    refine gb_run 1 (pc2 := 17) (ls2 := [(0, .ref (25)), (1, .int (g))]) (st2 := [.int (0)]) (M2 := M) hC hqX7_hasGate rfl ?_
    refine gb_zret hqX7_hasGate rfl rfl (Nat.le_of_ble_eq_true rfl) (Nat.le_of_ble_eq_true rfl) (Or.inl rfl) ?_
    exact gl_Zt (Or.inl rfl) hr
  ·
    have hr := g_if0 h1 hr
    refine gb_run 2 (pc2 := 17) (ls2 := [(0, .ref (25)), (1, .int (g))]) (st2 := [.int (1)]) (M2 := M) hC hqX7_hasGate rfl ?_
    refine gb_zret hqX7_hasGate rfl rfl (Nat.le_of_ble_eq_true rfl) (Nat.le_of_ble_eq_true rfl) (Or.inr rfl) ?_
    exact gl_Zt (Or.inr rfl) hr
def FS_readLine_J33 (walks : Int32) (x3 : Int32) (M : gM) : Option (gM) :=
  (F_number (0 : Int32) (999 : Int32) M).bind fun s1 => (F_need (59 : Int32) (s1.2)).bind fun s2 => g_let (r_put s2 26 8 x3 s1.1) fun M3 => some (g_set M3 25 1 ((M3 25 1) + (1 : Int32)))
set_option maxRecDepth 20000 in
theorem c_FS_readLine_J33 {l : Launch} {C : gC} (hC : g_ctx l C) (walks : Int32) (sz d : Nat) (hd : 3 ≤ d) (R : gM) (x3 : Int32) (M : gM) (hr : FS_readLine_J33 walks x3 M = some R) : GW l C qX7_readLine d (gQg 956 g_S0 (qV R) sz) gN 0 0 33 [(0, .ref (25)), (1, .ref (1)), (3, .int (x3))] [] (956, g_S0, M, sz) := by
  unfold FS_readLine_J33 at hr
  refine gb_run 3 (pc2 := 38) (ls2 := [(0, .ref (25)), (1, .ref (1)), (3, .int (x3))]) (st2 := [.int (999), .int (0), .ref (1)]) (M2 := M) hC hqX7_readLine rfl ?_
  obtain ⟨s1, es1, hr⟩ := g_bd hr
  refine gz_cV (z := qX10_number) (a := 1) (av := [.int (0), .int (999)]) (rest := []) (pl := 1009) hC hqX7_readLine rfl kX10_number sX10_number (by decide +kernel) (c_F_number hC (0 : Int32) (999 : Int32)  M sz (d - 1) (by omega) s1 es1) (by omega) ⟨rfl, rfl⟩ rfl (Nat.le_of_ble_eq_true rfl) (Nat.le_of_ble_eq_true rfl) rfl rfl rfl (Nat.le_of_ble_eq_true rfl) ⟨Nat.le_of_ble_eq_true rfl, Nat.le_of_ble_eq_true rfl⟩ (gs_I ?_)
  refine gb_run 3 (pc2 := 46) (ls2 := [(4, .int (s1.1)), (0, .ref (25)), (1, .ref (1)), (3, .int (x3))]) (st2 := [.int (59), .ref (1)]) (M2 := s1.2) hC hqX7_readLine rfl ?_
  obtain ⟨s2, es2, hr⟩ := g_bd hr
  refine gz_cV (z := qX10_need) (a := 1) (av := [.int (59)]) (rest := []) (pl := 1016) hC hqX7_readLine rfl kX10_need sX10_need (by decide +kernel) (c_F_need hC (59 : Int32)  (s1.2) sz (d - 1) (by omega) s2 es2) (by omega) ⟨rfl, rfl⟩ rfl (Nat.le_of_ble_eq_true rfl) (Nat.le_of_ble_eq_true rfl) rfl rfl rfl (Nat.le_of_ble_eq_true rfl) ⟨Nat.le_of_ble_eq_true rfl, Nat.le_of_ble_eq_true rfl⟩ (gs_V ?_)
  refine gb_run 4 (pc2 := 56) (ls2 := [(4, .int (s1.1)), (0, .ref (25)), (1, .ref (1)), (3, .int (x3))]) (st2 := [.int (s1.1), .int (x3), .ref (26)]) (M2 := s2) hC hqX7_readLine rfl ?_
  refine gz_cSN (host := "HoopHours") (z := qX11_put) (av := [.ref (26), .int (x3), .int (s1.1)]) (rest := []) (pl := 1017) hC hqX7_readLine rfl kX11_put (by decide +kernel) (c_put hC 26 8 _ x3 s1.1 s2 sz (d - 1) (by omega) (Nat.le_of_ble_eq_true rfl) rfl (Nat.le_of_ble_eq_true rfl)) (by omega) ⟨rfl, rfl⟩ rfl rfl (Nat.le_of_ble_eq_true rfl) ⟨Nat.le_of_ble_eq_true rfl, Nat.le_of_ble_eq_true rfl⟩ (gs_V ?_)
  refine g_letP (P := fun M3 => GW l C qX7_readLine d (gQg 956 g_S0 (qV R) sz) gN 0 0 59 [(4, .int (s1.1)), (0, .ref (25)), (1, .ref (1)), (3, .int (x3))] [] (956, g_S0, M3, sz)) hr (fun M3 hr => ?_)
  refine gb_run 6 (pc2 := 69) (ls2 := [(4, .int (s1.1)), (0, .ref (25)), (1, .ref (1)), (3, .int (x3))]) (st2 := []) (M2 := g_set M3 25 1 ((M3 25 1) + (1 : Int32))) hC hqX7_readLine rfl ?_
  refine gb_vret hqX7_readLine rfl rfl (Nat.le_of_ble_eq_true rfl) (Nat.le_of_ble_eq_true rfl) ?_
  exact gl_V hr
def FS_readLine (walks : Int32) (M : gM) : Option (gM) :=
  (F_number (1 : Int32) (walks - (1 : Int32)) M).bind fun s1 => if (F_faulty (s1.2)) = (0 : Int32) then (if (FS_hasGateR s1.1 (s1.2)) = (0 : Int32) then (FS_readLine_J33 walks s1.1 (s1.2)) else ((F_fail (2 : Int32) ((s1.2) 1 4) (s1.2)).bind fun s8 => FS_readLine_J33 walks s1.1 s8)) else (FS_readLine_J33 walks s1.1 (s1.2))
set_option maxRecDepth 20000 in
theorem c_FS_readLine {l : Launch} {C : gC} (hC : g_ctx l C) (walks : Int32)  (M : gM) (sz d : Nat) (hd : 3 ≤ d) (R : gM) (hr : FS_readLine walks M = some R) : gPg l C qX7_readLine d [.ref (25), .ref (1), .int (walks)] 956 g_S0 M sz (qV R) := by
  refine gPg.of (ls := [(0, .ref (25)), (1, .ref (1)), (2, .int (walks))]) (by decide +kernel) (Nat.le_of_ble_eq_true rfl) rfl ?_
  unfold FS_readLine at hr
  refine gb_run 5 (pc2 := 5) (ls2 := [(0, .ref (25)), (1, .ref (1)), (2, .int (walks))]) (st2 := [.int (walks - (1 : Int32)), .int (1), .ref (1)]) (M2 := M) hC hqX7_readLine rfl ?_
  obtain ⟨s1, es1, hr⟩ := g_bd hr
  refine gz_cV (z := qX10_number) (a := 1) (av := [.int (1), .int (walks - (1 : Int32))]) (rest := []) (pl := 1009) hC hqX7_readLine rfl kX10_number sX10_number (by decide +kernel) (c_F_number hC (1 : Int32) (walks - (1 : Int32))  M sz (d - 1) (by omega) s1 es1) (by omega) ⟨rfl, rfl⟩ rfl (Nat.le_of_ble_eq_true rfl) (Nat.le_of_ble_eq_true rfl) rfl rfl rfl (Nat.le_of_ble_eq_true rfl) ⟨Nat.le_of_ble_eq_true rfl, Nat.le_of_ble_eq_true rfl⟩ (gs_I ?_)
  refine gb_run 2 (pc2 := 10) (ls2 := [(3, .int (s1.1)), (0, .ref (25)), (1, .ref (1)), (2, .int (walks))]) (st2 := [.ref (1)]) (M2 := s1.2) hC hqX7_readLine rfl ?_
  refine gz_cV (z := qX10_faulty) (a := 1) (av := []) (rest := []) (pl := 1003) hC hqX7_readLine rfl kX10_faulty sX10_faulty (by decide +kernel) (c_F_faulty hC   (s1.2) sz (d - 1) (by omega)) (by omega) ⟨rfl, rfl⟩ rfl (Nat.le_of_ble_eq_true rfl) (Nat.le_of_ble_eq_true rfl) rfl rfl rfl (Nat.le_of_ble_eq_true rfl) ⟨Nat.le_of_ble_eq_true rfl, Nat.le_of_ble_eq_true rfl⟩ (gs_Zp fun z3 => ?_)
  refine gb_if_ne hqX7_readLine rfl (fun h4 => ?_) (fun h4 => ?_)
  ·
    have hr := g_if0 h4 hr
    refine gw_pick [1, 2, 0] (ls2 := [(0, .ref (25)), (1, .ref (1)), (3, .int (s1.1))]) rfl ?_
    exact c_FS_readLine_J33 hC walks sz d (by omega) R s1.1 (s1.2) hr
  ·
    have hr := g_if1 h4 hr
    refine gb_run 2 (pc2 := 18) (ls2 := [(3, .int (s1.1)), (0, .ref (25)), (1, .ref (1)), (2, .int (walks))]) (st2 := [.int (s1.1), .ref (25)]) (M2 := s1.2) hC hqX7_readLine rfl ?_
    refine gz_cV (z := qX7_hasGate) (a := 25) (av := [.int (s1.1)]) (rest := []) (pl := 1010) hC hqX7_readLine rfl kX7_hasGate sX7_hasGate (by decide +kernel) (c_FS_hasGateR hC s1.1  (s1.2) sz (d - 1) (by omega)) (by omega) ⟨rfl, rfl⟩ rfl (Nat.le_of_ble_eq_true rfl) (Nat.le_of_ble_eq_true rfl) rfl rfl rfl (Nat.le_of_ble_eq_true rfl) ⟨Nat.le_of_ble_eq_true rfl, Nat.le_of_ble_eq_true rfl⟩ (gs_Zp fun z6 => ?_)
    refine gb_if_eq hqX7_readLine rfl (fun h7 => ?_) (fun h7 => ?_)
    ·
      have hr := g_if1 h7 hr
      refine gw_pick [1, 2, 0] (ls2 := [(0, .ref (25)), (1, .ref (1)), (3, .int (s1.1))]) rfl ?_
      exact c_FS_readLine_J33 hC walks sz d (by omega) R s1.1 (s1.2) hr
    ·
      have hr := g_if0 h7 hr
      refine gb_run 4 (pc2 := 30) (ls2 := [(3, .int (s1.1)), (0, .ref (25)), (1, .ref (1)), (2, .int (walks))]) (st2 := [.int ((s1.2) 1 4), .int (2), .ref (1)]) (M2 := s1.2) hC hqX7_readLine rfl ?_
      obtain ⟨s8, es8, hr⟩ := g_bd hr
      refine gz_cV (z := qX10_fail) (a := 1) (av := [.int (2), .int ((s1.2) 1 4)]) (rest := []) (pl := 1015) hC hqX7_readLine rfl kX10_fail sX10_fail (by decide +kernel) (c_F_fail hC (2 : Int32) ((s1.2) 1 4)  (s1.2) sz (d - 1) (by omega) s8 es8) (by omega) ⟨rfl, rfl⟩ rfl (Nat.le_of_ble_eq_true rfl) (Nat.le_of_ble_eq_true rfl) rfl rfl rfl (Nat.le_of_ble_eq_true rfl) ⟨Nat.le_of_ble_eq_true rfl, Nat.le_of_ble_eq_true rfl⟩ (gs_V ?_)
      refine gw_pick [1, 2, 0] (ls2 := [(0, .ref (25)), (1, .ref (1)), (3, .int (s1.1))]) rfl ?_
      exact c_FS_readLine_J33 hC walks sz d (by omega) R s1.1 s8 hr
def FS_read_L6 (walks : Int32) : Nat → Int32 → gM → Option (gM)
  | 0, _, _ => none
  | k + 1, x3, M =>
  if (60 : Int32) ≤ x3 then (some M) else (if (F_faulty M) = (0 : Int32) then ((F_next M).bind fun s5 => if s5.1 = (-1 : Int32) then (some (s5.2)) else ((FS_readLine walks (s5.2)).bind fun s7 => FS_read_L6 walks k (x3 + (1 : Int32)) s7)) else (some M))
set_option maxRecDepth 20000 in
theorem c_FS_read_L6 {l : Launch} {C : gC} (hC : g_ctx l C) (walks : Int32) (sz d : Nat) (hd : 4 ≤ d) (R : gM) : ∀ (k : Nat) (x3 : Int32) (M : gM), FS_read_L6 walks k x3 M = some R → GW l C qX7_read d (gQg 956 g_S0 (qV R) sz) gN 0 0 6 [(0, .ref (25)), (1, .ref (1)), (2, .int (walks)), (3, .int (x3))] [] (956, g_S0, M, sz) := by
  intro k
  induction k with
  | zero => intro x3 M hr; exact nomatch (show (none : Option (gM)) = some R from hr)
  | succ k ih =>
    intro x3 M hr
    unfold FS_read_L6 at hr
    refine gb_run 2 (pc2 := 9) (ls2 := [(0, .ref (25)), (1, .ref (1)), (2, .int (walks)), (3, .int (x3))]) (st2 := [.int (60), .int (x3)]) (M2 := M) hC hqX7_read rfl ?_
    refine gb_icmp_ge hqX7_read rfl (fun h1 => ?_) (fun h1 => ?_)
    ·
      have hr := g_if1 h1 hr
      refine gb_vret hqX7_read rfl rfl (Nat.le_of_ble_eq_true rfl) (Nat.le_of_ble_eq_true rfl) ?_
      exact gl_V hr
    ·
      have hr := g_if0 h1 hr
      refine gb_run 1 (pc2 := 13) (ls2 := [(0, .ref (25)), (1, .ref (1)), (2, .int (walks)), (3, .int (x3))]) (st2 := [.ref (1)]) (M2 := M) hC hqX7_read rfl ?_
      refine gz_cV (z := qX10_faulty) (a := 1) (av := []) (rest := []) (pl := 1003) hC hqX7_read rfl kX10_faulty sX10_faulty (by decide +kernel) (c_F_faulty hC   M sz (d - 1) (by omega)) (by omega) ⟨rfl, rfl⟩ rfl (Nat.le_of_ble_eq_true rfl) (Nat.le_of_ble_eq_true rfl) rfl rfl rfl (Nat.le_of_ble_eq_true rfl) ⟨Nat.le_of_ble_eq_true rfl, Nat.le_of_ble_eq_true rfl⟩ (gs_Zp fun z3 => ?_)
      refine gb_if_ne hqX7_read rfl (fun h4 => ?_) (fun h4 => ?_)
      ·
        have hr := g_if0 h4 hr
        refine gb_vret hqX7_read rfl rfl (Nat.le_of_ble_eq_true rfl) (Nat.le_of_ble_eq_true rfl) ?_
        exact gl_V hr
      ·
        have hr := g_if1 h4 hr
        refine gb_run 1 (pc2 := 20) (ls2 := [(0, .ref (25)), (1, .ref (1)), (2, .int (walks)), (3, .int (x3))]) (st2 := [.ref (1)]) (M2 := M) hC hqX7_read rfl ?_
        obtain ⟨s5, es5, hr⟩ := g_bd hr
        refine gz_cV (z := qX10_next) (a := 1) (av := []) (rest := []) (pl := 1004) hC hqX7_read rfl kX10_next sX10_next (by decide +kernel) (c_F_next hC   M sz (d - 1) (by omega) s5 es5) (by omega) ⟨rfl, rfl⟩ rfl (Nat.le_of_ble_eq_true rfl) (Nat.le_of_ble_eq_true rfl) rfl rfl rfl (Nat.le_of_ble_eq_true rfl) ⟨Nat.le_of_ble_eq_true rfl, Nat.le_of_ble_eq_true rfl⟩ (gs_I ?_)
        refine gb_run 1 (pc2 := 24) (ls2 := [(0, .ref (25)), (1, .ref (1)), (2, .int (walks)), (3, .int (x3))]) (st2 := [.int (-1), .int (s5.1)]) (M2 := s5.2) hC hqX7_read rfl ?_
        refine gb_icmp_ne hqX7_read rfl (fun h6 => ?_) (fun h6 => ?_)
        ·
          have hr := g_if0 h6 hr
          refine gb_run 3 (pc2 := 31) (ls2 := [(0, .ref (25)), (1, .ref (1)), (2, .int (walks)), (3, .int (x3))]) (st2 := [.int (walks), .ref (1), .ref (25)]) (M2 := s5.2) hC hqX7_read rfl ?_
          obtain ⟨s7, es7, hr⟩ := g_bd hr
          refine gz_cV (z := qX7_readLine) (a := 25) (av := [.ref (1), .int (walks)]) (rest := []) (pl := 1005) hC hqX7_read rfl kX7_readLine sX7_readLine (by decide +kernel) (c_FS_readLine hC walks  (s5.2) sz (d - 1) (by omega) s7 es7) (by omega) ⟨rfl, rfl⟩ rfl (Nat.le_of_ble_eq_true rfl) (Nat.le_of_ble_eq_true rfl) rfl rfl rfl (Nat.le_of_ble_eq_true rfl) ⟨Nat.le_of_ble_eq_true rfl, Nat.le_of_ble_eq_true rfl⟩ (gs_V ?_)
          refine gb_run 2 (pc2 := 6) (ls2 := [(3, .int (x3 + (1 : Int32))), (0, .ref (25)), (1, .ref (1)), (2, .int (walks))]) (st2 := []) (M2 := s7) hC hqX7_read rfl ?_
          refine gw_pick [1, 2, 3, 0] (ls2 := [(0, .ref (25)), (1, .ref (1)), (2, .int (walks)), (3, .int (x3 + (1 : Int32)))]) rfl ?_
          exact ih (x3 + (1 : Int32)) s7 hr
        ·
          have hr := g_if1 h6 hr
          refine gb_vret hqX7_read rfl rfl (Nat.le_of_ble_eq_true rfl) (Nat.le_of_ble_eq_true rfl) ?_
          exact gl_V hr
def FS_read (walks : Int32) (M : gM) : Option (gM) :=
  (FS_clearR M).bind fun s1 => FS_read_L6 walks 1000 (0 : Int32) s1
set_option maxRecDepth 20000 in
theorem c_FS_read {l : Launch} {C : gC} (hC : g_ctx l C) (walks : Int32)  (M : gM) (sz d : Nat) (hd : 4 ≤ d) (R : gM) (hr : FS_read walks M = some R) : gPg l C qX7_read d [.ref (25), .ref (1), .int (walks)] 956 g_S0 M sz (qV R) := by
  refine gPg.of (ls := [(0, .ref (25)), (1, .ref (1)), (2, .int (walks))]) (by decide +kernel) (Nat.le_of_ble_eq_true rfl) rfl ?_
  unfold FS_read at hr
  refine gb_run 1 (pc2 := 1) (ls2 := [(0, .ref (25)), (1, .ref (1)), (2, .int (walks))]) (st2 := [.ref (25)]) (M2 := M) hC hqX7_read rfl ?_
  obtain ⟨s1, es1, hr⟩ := g_bd hr
  refine gz_cV (z := qX7_clear) (a := 25) (av := []) (rest := []) (pl := 204) hC hqX7_read rfl kX7_clear sX7_clear (by decide +kernel) (c_FS_clearR hC   M sz (d - 1) (by omega) s1 es1) (by omega) ⟨rfl, rfl⟩ rfl (Nat.le_of_ble_eq_true rfl) (Nat.le_of_ble_eq_true rfl) rfl rfl rfl (Nat.le_of_ble_eq_true rfl) ⟨Nat.le_of_ble_eq_true rfl, Nat.le_of_ble_eq_true rfl⟩ (gs_V ?_)
  refine gb_run 2 (pc2 := 6) (ls2 := [(3, .int (0)), (0, .ref (25)), (1, .ref (1)), (2, .int (walks))]) (st2 := []) (M2 := s1) hC hqX7_read rfl ?_
  refine gw_pick [1, 2, 3, 0] (ls2 := [(0, .ref (25)), (1, .ref (1)), (2, .int (walks)), (3, .int (0))]) rfl ?_
  exact c_FS_read_L6 hC walks sz d (by omega) R 1000 (0 : Int32) s1 hr
def FZ_clear (a : Nat) (M : gM) : Option (gM) :=
  g_let (r_fill M (a + 1) 8 (0 : Int32)) fun M1 => g_let (r_fill M1 (a + 2) 8 (0 : Int32)) fun M2 => g_let (r_fill M2 (a + 3) 8 (0 : Int32)) fun M3 => g_let (r_fill M3 (a + 4) 8 (-1 : Int32)) fun M4 => g_let (r_fill M4 (a + 5) 8 (0 : Int32)) fun M5 => g_let (g_set M5 a 5 (0 : Int32)) fun M6 => g_let (g_set M6 a 6 (0 : Int32)) fun M7 => g_let (g_set M7 a 7 (0 : Int32)) fun M8 => g_let (g_set M8 a 8 (0 : Int32)) fun M9 => g_let (g_set M9 a 9 (0 : Int32)) fun M10 => g_let (g_set M10 a 10 (0 : Int32)) fun M11 => g_let (g_set M11 a 11 (0 : Int32)) fun M12 => some M12
set_option maxRecDepth 20000 in
theorem c_FZ_clear {l : Launch} {C : gC} (hC : g_ctx l C) (a : Nat) (ha : g_St 956 g_S0 a) (M : gM) (sz d : Nat) (hd : 2 ≤ d) (R : gM) (hr : FZ_clear a M = some R) : gPg l C qX8_clear d [.ref (a)] 956 g_S0 M sz (qV R) := by
  refine gPg.of (ls := [(0, .ref (a))]) (by decide +kernel) (Nat.le_of_ble_eq_true rfl) rfl ?_
  unfold FZ_clear at hr
  refine gb_run 1 (pc2 := 1) (ls2 := [(0, .ref (a))]) (st2 := [.ref (a)]) (M2 := M) hC hqX8_clear rfl ?_
  refine gz_getr (q := a + 1) hC hqX8_clear rfl ha.1.1 (g_S3 ha.1.2.1 ha.1.2.2) rfl ((ha.2.1 0 (by decide)).trans rfl) ?_
  refine gb_run 1 (pc2 := 5) (ls2 := [(0, .ref (a))]) (st2 := [.int (0), .ref (a + 1)]) (M2 := M) hC hqX8_clear rfl ?_
  refine gz_cSN (host := "HoopHours") (z := qX11_fill) (av := [.ref (a + 1), .int (0)]) (rest := []) (pl := 286) hC hqX8_clear rfl kX11_fill (by decide +kernel) (c_fill hC 956 g_S0 (a + 1) 8 _ (0 : Int32) M sz (d - 1) (by omega) (ha.2.2 0 (by decide)).1 (g_S3 (ha.2.2 0 (by decide)).2.1 (ha.2.2 0 (by decide)).2.2) (Nat.le_of_ble_eq_true rfl)) (by omega) ⟨rfl, rfl⟩ rfl rfl (Nat.le_of_ble_eq_true rfl) ⟨Nat.le_of_ble_eq_true rfl, Nat.le_of_ble_eq_true rfl⟩ (gs_V ?_)
  refine g_letP (P := fun M1 => GW l C qX8_clear d (gQg 956 g_S0 (qV R) sz) gN 0 0 8 [(0, .ref (a))] [] (956, g_S0, M1, sz)) hr (fun M1 hr => ?_)
  refine gb_run 1 (pc2 := 9) (ls2 := [(0, .ref (a))]) (st2 := [.ref (a)]) (M2 := M1) hC hqX8_clear rfl ?_
  refine gz_getr (q := a + 2) hC hqX8_clear rfl ha.1.1 (g_S3 ha.1.2.1 ha.1.2.2) rfl ((ha.2.1 1 (by decide)).trans rfl) ?_
  refine gb_run 1 (pc2 := 13) (ls2 := [(0, .ref (a))]) (st2 := [.int (0), .ref (a + 2)]) (M2 := M1) hC hqX8_clear rfl ?_
  refine gz_cSN (host := "HoopHours") (z := qX11_fill) (av := [.ref (a + 2), .int (0)]) (rest := []) (pl := 286) hC hqX8_clear rfl kX11_fill (by decide +kernel) (c_fill hC 956 g_S0 (a + 2) 8 _ (0 : Int32) M1 sz (d - 1) (by omega) (ha.2.2 1 (by decide)).1 (g_S3 (ha.2.2 1 (by decide)).2.1 (ha.2.2 1 (by decide)).2.2) (Nat.le_of_ble_eq_true rfl)) (by omega) ⟨rfl, rfl⟩ rfl rfl (Nat.le_of_ble_eq_true rfl) ⟨Nat.le_of_ble_eq_true rfl, Nat.le_of_ble_eq_true rfl⟩ (gs_V ?_)
  refine g_letP (P := fun M2 => GW l C qX8_clear d (gQg 956 g_S0 (qV R) sz) gN 0 0 16 [(0, .ref (a))] [] (956, g_S0, M2, sz)) hr (fun M2 hr => ?_)
  refine gb_run 1 (pc2 := 17) (ls2 := [(0, .ref (a))]) (st2 := [.ref (a)]) (M2 := M2) hC hqX8_clear rfl ?_
  refine gz_getr (q := a + 3) hC hqX8_clear rfl ha.1.1 (g_S3 ha.1.2.1 ha.1.2.2) rfl ((ha.2.1 2 (by decide)).trans rfl) ?_
  refine gb_run 1 (pc2 := 21) (ls2 := [(0, .ref (a))]) (st2 := [.int (0), .ref (a + 3)]) (M2 := M2) hC hqX8_clear rfl ?_
  refine gz_cSN (host := "HoopHours") (z := qX11_fill) (av := [.ref (a + 3), .int (0)]) (rest := []) (pl := 286) hC hqX8_clear rfl kX11_fill (by decide +kernel) (c_fill hC 956 g_S0 (a + 3) 8 _ (0 : Int32) M2 sz (d - 1) (by omega) (ha.2.2 2 (by decide)).1 (g_S3 (ha.2.2 2 (by decide)).2.1 (ha.2.2 2 (by decide)).2.2) (Nat.le_of_ble_eq_true rfl)) (by omega) ⟨rfl, rfl⟩ rfl rfl (Nat.le_of_ble_eq_true rfl) ⟨Nat.le_of_ble_eq_true rfl, Nat.le_of_ble_eq_true rfl⟩ (gs_V ?_)
  refine g_letP (P := fun M3 => GW l C qX8_clear d (gQg 956 g_S0 (qV R) sz) gN 0 0 24 [(0, .ref (a))] [] (956, g_S0, M3, sz)) hr (fun M3 hr => ?_)
  refine gb_run 1 (pc2 := 25) (ls2 := [(0, .ref (a))]) (st2 := [.ref (a)]) (M2 := M3) hC hqX8_clear rfl ?_
  refine gz_getr (q := a + 4) hC hqX8_clear rfl ha.1.1 (g_S3 ha.1.2.1 ha.1.2.2) rfl ((ha.2.1 3 (by decide)).trans rfl) ?_
  refine gb_run 1 (pc2 := 29) (ls2 := [(0, .ref (a))]) (st2 := [.int (-1), .ref (a + 4)]) (M2 := M3) hC hqX8_clear rfl ?_
  refine gz_cSN (host := "HoopHours") (z := qX11_fill) (av := [.ref (a + 4), .int (-1)]) (rest := []) (pl := 286) hC hqX8_clear rfl kX11_fill (by decide +kernel) (c_fill hC 956 g_S0 (a + 4) 8 _ (-1 : Int32) M3 sz (d - 1) (by omega) (ha.2.2 3 (by decide)).1 (g_S3 (ha.2.2 3 (by decide)).2.1 (ha.2.2 3 (by decide)).2.2) (Nat.le_of_ble_eq_true rfl)) (by omega) ⟨rfl, rfl⟩ rfl rfl (Nat.le_of_ble_eq_true rfl) ⟨Nat.le_of_ble_eq_true rfl, Nat.le_of_ble_eq_true rfl⟩ (gs_V ?_)
  refine g_letP (P := fun M4 => GW l C qX8_clear d (gQg 956 g_S0 (qV R) sz) gN 0 0 32 [(0, .ref (a))] [] (956, g_S0, M4, sz)) hr (fun M4 hr => ?_)
  refine gb_run 1 (pc2 := 33) (ls2 := [(0, .ref (a))]) (st2 := [.ref (a)]) (M2 := M4) hC hqX8_clear rfl ?_
  refine gz_getr (q := a + 5) hC hqX8_clear rfl ha.1.1 (g_S3 ha.1.2.1 ha.1.2.2) rfl ((ha.2.1 4 (by decide)).trans rfl) ?_
  refine gb_run 1 (pc2 := 37) (ls2 := [(0, .ref (a))]) (st2 := [.int (0), .ref (a + 5)]) (M2 := M4) hC hqX8_clear rfl ?_
  refine gz_cSN (host := "HoopHours") (z := qX11_fill) (av := [.ref (a + 5), .int (0)]) (rest := []) (pl := 286) hC hqX8_clear rfl kX11_fill (by decide +kernel) (c_fill hC 956 g_S0 (a + 5) 8 _ (0 : Int32) M4 sz (d - 1) (by omega) (ha.2.2 4 (by decide)).1 (g_S3 (ha.2.2 4 (by decide)).2.1 (ha.2.2 4 (by decide)).2.2) (Nat.le_of_ble_eq_true rfl)) (by omega) ⟨rfl, rfl⟩ rfl rfl (Nat.le_of_ble_eq_true rfl) ⟨Nat.le_of_ble_eq_true rfl, Nat.le_of_ble_eq_true rfl⟩ (gs_V ?_)
  refine g_letP (P := fun M5 => GW l C qX8_clear d (gQg 956 g_S0 (qV R) sz) gN 0 0 40 [(0, .ref (a))] [] (956, g_S0, M5, sz)) hr (fun M5 hr => ?_)
  refine gb_run 2 (pc2 := 42) (ls2 := [(0, .ref (a))]) (st2 := [.int (0), .ref (a)]) (M2 := M5) hC hqX8_clear rfl ?_
  refine gb_putf hC hqX8_clear rfl ha.1.1 (g_S3 ha.1.2.1 ha.1.2.2) rfl ((ha.2.1 5 (by decide)).trans rfl) rfl ?_
  refine g_letP (P := fun M6 => GW l C qX8_clear d (gQg 956 g_S0 (qV R) sz) gN 0 0 45 [(0, .ref (a))] [] (956, g_S0, M6, sz)) hr (fun M6 hr => ?_)
  refine gb_run 2 (pc2 := 47) (ls2 := [(0, .ref (a))]) (st2 := [.int (0), .ref (a)]) (M2 := M6) hC hqX8_clear rfl ?_
  refine gb_putf hC hqX8_clear rfl ha.1.1 (g_S3 ha.1.2.1 ha.1.2.2) rfl ((ha.2.1 6 (by decide)).trans rfl) rfl ?_
  refine g_letP (P := fun M7 => GW l C qX8_clear d (gQg 956 g_S0 (qV R) sz) gN 0 0 50 [(0, .ref (a))] [] (956, g_S0, M7, sz)) hr (fun M7 hr => ?_)
  refine gb_run 2 (pc2 := 52) (ls2 := [(0, .ref (a))]) (st2 := [.int (0), .ref (a)]) (M2 := M7) hC hqX8_clear rfl ?_
  refine gb_putf hC hqX8_clear rfl ha.1.1 (g_S3 ha.1.2.1 ha.1.2.2) rfl ((ha.2.1 7 (by decide)).trans rfl) rfl ?_
  refine g_letP (P := fun M8 => GW l C qX8_clear d (gQg 956 g_S0 (qV R) sz) gN 0 0 55 [(0, .ref (a))] [] (956, g_S0, M8, sz)) hr (fun M8 hr => ?_)
  refine gb_run 2 (pc2 := 57) (ls2 := [(0, .ref (a))]) (st2 := [.int (0), .ref (a)]) (M2 := M8) hC hqX8_clear rfl ?_
  refine gb_putf hC hqX8_clear rfl ha.1.1 (g_S3 ha.1.2.1 ha.1.2.2) rfl ((ha.2.1 8 (by decide)).trans rfl) rfl ?_
  refine g_letP (P := fun M9 => GW l C qX8_clear d (gQg 956 g_S0 (qV R) sz) gN 0 0 60 [(0, .ref (a))] [] (956, g_S0, M9, sz)) hr (fun M9 hr => ?_)
  refine gb_run 2 (pc2 := 62) (ls2 := [(0, .ref (a))]) (st2 := [.int (0), .ref (a)]) (M2 := M9) hC hqX8_clear rfl ?_
  refine gb_putf hC hqX8_clear rfl ha.1.1 (g_S3 ha.1.2.1 ha.1.2.2) rfl ((ha.2.1 9 (by decide)).trans rfl) rfl ?_
  refine g_letP (P := fun M10 => GW l C qX8_clear d (gQg 956 g_S0 (qV R) sz) gN 0 0 65 [(0, .ref (a))] [] (956, g_S0, M10, sz)) hr (fun M10 hr => ?_)
  refine gb_run 2 (pc2 := 67) (ls2 := [(0, .ref (a))]) (st2 := [.int (0), .ref (a)]) (M2 := M10) hC hqX8_clear rfl ?_
  refine gb_putf hC hqX8_clear rfl ha.1.1 (g_S3 ha.1.2.1 ha.1.2.2) rfl ((ha.2.1 10 (by decide)).trans rfl) rfl ?_
  refine g_letP (P := fun M11 => GW l C qX8_clear d (gQg 956 g_S0 (qV R) sz) gN 0 0 70 [(0, .ref (a))] [] (956, g_S0, M11, sz)) hr (fun M11 hr => ?_)
  refine gb_run 2 (pc2 := 72) (ls2 := [(0, .ref (a))]) (st2 := [.int (0), .ref (a)]) (M2 := M11) hC hqX8_clear rfl ?_
  refine gb_putf hC hqX8_clear rfl ha.1.1 (g_S3 ha.1.2.1 ha.1.2.2) rfl ((ha.2.1 11 (by decide)).trans rfl) rfl ?_
  refine g_letP (P := fun M12 => GW l C qX8_clear d (gQg 956 g_S0 (qV R) sz) gN 0 0 75 [(0, .ref (a))] [] (956, g_S0, M12, sz)) hr (fun M12 hr => ?_)
  refine gb_vret hqX8_clear rfl rfl (Nat.le_of_ble_eq_true rfl) (Nat.le_of_ble_eq_true rfl) ?_
  exact gl_V hr
def FZ_copy (a : Nat) (b : Nat) (M : gM) : Option (gM) :=
  g_let (r_copy M (b + 1) (a + 1) 8) fun M1 => g_let (r_copy M1 (b + 2) (a + 2) 8) fun M2 => g_let (r_copy M2 (b + 3) (a + 3) 8) fun M3 => g_let (r_copy M3 (b + 4) (a + 4) 8) fun M4 => g_let (r_copy M4 (b + 5) (a + 5) 8) fun M5 => g_let (g_set M5 a 5 (M5 b 5)) fun M6 => g_let (g_set M6 a 6 (M6 b 6)) fun M7 => g_let (g_set M7 a 7 (M7 b 7)) fun M8 => g_let (g_set M8 a 8 (M8 b 8)) fun M9 => g_let (g_set M9 a 9 (M9 b 9)) fun M10 => g_let (g_set M10 a 10 (M10 b 10)) fun M11 => g_let (g_set M11 a 11 (M11 b 11)) fun M12 => some M12
set_option maxRecDepth 20000 in
theorem c_FZ_copy {l : Launch} {C : gC} (hC : g_ctx l C) (a : Nat) (b : Nat) (ha : g_St 956 g_S0 a) (hb : g_St 956 g_S0 b) (hab : a + 5 < b ∨ b + 5 < a) (M : gM) (sz d : Nat) (hd : 2 ≤ d) (R : gM) (hr : FZ_copy a b M = some R) : gPg l C qX8_copy d [.ref (a), .ref (b)] 956 g_S0 M sz (qV R) := by
  refine gPg.of (ls := [(0, .ref (a)), (1, .ref (b))]) (by decide +kernel) (Nat.le_of_ble_eq_true rfl) rfl ?_
  unfold FZ_copy at hr
  refine gb_run 1 (pc2 := 1) (ls2 := [(0, .ref (a)), (1, .ref (b))]) (st2 := [.ref (b)]) (M2 := M) hC hqX8_copy rfl ?_
  refine gz_getr (q := b + 1) hC hqX8_copy rfl hb.1.1 (g_S3 hb.1.2.1 hb.1.2.2) rfl ((hb.2.1 0 (by decide)).trans rfl) ?_
  refine gb_run 1 (pc2 := 5) (ls2 := [(0, .ref (a)), (1, .ref (b))]) (st2 := [.ref (a), .ref (b + 1)]) (M2 := M) hC hqX8_copy rfl ?_
  refine gz_getr (q := a + 1) hC hqX8_copy rfl ha.1.1 (g_S3 ha.1.2.1 ha.1.2.2) rfl ((ha.2.1 0 (by decide)).trans rfl) ?_
  refine gz_cSN (host := "HoopHours") (z := qX11_copyRow) (av := [.ref (b + 1), .ref (a + 1)]) (rest := []) (pl := 561) hC hqX8_copy rfl kX11_copyRow (by decide +kernel) (c_copyRow hC (b + 1) (a + 1) 8 _ _ M sz (d - 1) (by omega) (hb.2.2 0 (by decide)).1 (g_S3 (hb.2.2 0 (by decide)).2.1 (hb.2.2 0 (by decide)).2.2) (ha.2.2 0 (by decide)).1 (g_S3 (ha.2.2 0 (by decide)).2.1 (ha.2.2 0 (by decide)).2.2) (Nat.le_of_ble_eq_true rfl) (by first | decide | omega)) (by omega) ⟨rfl, rfl⟩ rfl rfl (Nat.le_of_ble_eq_true rfl) ⟨Nat.le_of_ble_eq_true rfl, Nat.le_of_ble_eq_true rfl⟩ (gs_V ?_)
  refine g_letP (P := fun M1 => GW l C qX8_copy d (gQg 956 g_S0 (qV R) sz) gN 0 0 11 [(0, .ref (a)), (1, .ref (b))] [] (956, g_S0, M1, sz)) hr (fun M1 hr => ?_)
  refine gb_run 1 (pc2 := 12) (ls2 := [(0, .ref (a)), (1, .ref (b))]) (st2 := [.ref (b)]) (M2 := M1) hC hqX8_copy rfl ?_
  refine gz_getr (q := b + 2) hC hqX8_copy rfl hb.1.1 (g_S3 hb.1.2.1 hb.1.2.2) rfl ((hb.2.1 1 (by decide)).trans rfl) ?_
  refine gb_run 1 (pc2 := 16) (ls2 := [(0, .ref (a)), (1, .ref (b))]) (st2 := [.ref (a), .ref (b + 2)]) (M2 := M1) hC hqX8_copy rfl ?_
  refine gz_getr (q := a + 2) hC hqX8_copy rfl ha.1.1 (g_S3 ha.1.2.1 ha.1.2.2) rfl ((ha.2.1 1 (by decide)).trans rfl) ?_
  refine gz_cSN (host := "HoopHours") (z := qX11_copyRow) (av := [.ref (b + 2), .ref (a + 2)]) (rest := []) (pl := 561) hC hqX8_copy rfl kX11_copyRow (by decide +kernel) (c_copyRow hC (b + 2) (a + 2) 8 _ _ M1 sz (d - 1) (by omega) (hb.2.2 1 (by decide)).1 (g_S3 (hb.2.2 1 (by decide)).2.1 (hb.2.2 1 (by decide)).2.2) (ha.2.2 1 (by decide)).1 (g_S3 (ha.2.2 1 (by decide)).2.1 (ha.2.2 1 (by decide)).2.2) (Nat.le_of_ble_eq_true rfl) (by first | decide | omega)) (by omega) ⟨rfl, rfl⟩ rfl rfl (Nat.le_of_ble_eq_true rfl) ⟨Nat.le_of_ble_eq_true rfl, Nat.le_of_ble_eq_true rfl⟩ (gs_V ?_)
  refine g_letP (P := fun M2 => GW l C qX8_copy d (gQg 956 g_S0 (qV R) sz) gN 0 0 22 [(0, .ref (a)), (1, .ref (b))] [] (956, g_S0, M2, sz)) hr (fun M2 hr => ?_)
  refine gb_run 1 (pc2 := 23) (ls2 := [(0, .ref (a)), (1, .ref (b))]) (st2 := [.ref (b)]) (M2 := M2) hC hqX8_copy rfl ?_
  refine gz_getr (q := b + 3) hC hqX8_copy rfl hb.1.1 (g_S3 hb.1.2.1 hb.1.2.2) rfl ((hb.2.1 2 (by decide)).trans rfl) ?_
  refine gb_run 1 (pc2 := 27) (ls2 := [(0, .ref (a)), (1, .ref (b))]) (st2 := [.ref (a), .ref (b + 3)]) (M2 := M2) hC hqX8_copy rfl ?_
  refine gz_getr (q := a + 3) hC hqX8_copy rfl ha.1.1 (g_S3 ha.1.2.1 ha.1.2.2) rfl ((ha.2.1 2 (by decide)).trans rfl) ?_
  refine gz_cSN (host := "HoopHours") (z := qX11_copyRow) (av := [.ref (b + 3), .ref (a + 3)]) (rest := []) (pl := 561) hC hqX8_copy rfl kX11_copyRow (by decide +kernel) (c_copyRow hC (b + 3) (a + 3) 8 _ _ M2 sz (d - 1) (by omega) (hb.2.2 2 (by decide)).1 (g_S3 (hb.2.2 2 (by decide)).2.1 (hb.2.2 2 (by decide)).2.2) (ha.2.2 2 (by decide)).1 (g_S3 (ha.2.2 2 (by decide)).2.1 (ha.2.2 2 (by decide)).2.2) (Nat.le_of_ble_eq_true rfl) (by first | decide | omega)) (by omega) ⟨rfl, rfl⟩ rfl rfl (Nat.le_of_ble_eq_true rfl) ⟨Nat.le_of_ble_eq_true rfl, Nat.le_of_ble_eq_true rfl⟩ (gs_V ?_)
  refine g_letP (P := fun M3 => GW l C qX8_copy d (gQg 956 g_S0 (qV R) sz) gN 0 0 33 [(0, .ref (a)), (1, .ref (b))] [] (956, g_S0, M3, sz)) hr (fun M3 hr => ?_)
  refine gb_run 1 (pc2 := 34) (ls2 := [(0, .ref (a)), (1, .ref (b))]) (st2 := [.ref (b)]) (M2 := M3) hC hqX8_copy rfl ?_
  refine gz_getr (q := b + 4) hC hqX8_copy rfl hb.1.1 (g_S3 hb.1.2.1 hb.1.2.2) rfl ((hb.2.1 3 (by decide)).trans rfl) ?_
  refine gb_run 1 (pc2 := 38) (ls2 := [(0, .ref (a)), (1, .ref (b))]) (st2 := [.ref (a), .ref (b + 4)]) (M2 := M3) hC hqX8_copy rfl ?_
  refine gz_getr (q := a + 4) hC hqX8_copy rfl ha.1.1 (g_S3 ha.1.2.1 ha.1.2.2) rfl ((ha.2.1 3 (by decide)).trans rfl) ?_
  refine gz_cSN (host := "HoopHours") (z := qX11_copyRow) (av := [.ref (b + 4), .ref (a + 4)]) (rest := []) (pl := 561) hC hqX8_copy rfl kX11_copyRow (by decide +kernel) (c_copyRow hC (b + 4) (a + 4) 8 _ _ M3 sz (d - 1) (by omega) (hb.2.2 3 (by decide)).1 (g_S3 (hb.2.2 3 (by decide)).2.1 (hb.2.2 3 (by decide)).2.2) (ha.2.2 3 (by decide)).1 (g_S3 (ha.2.2 3 (by decide)).2.1 (ha.2.2 3 (by decide)).2.2) (Nat.le_of_ble_eq_true rfl) (by first | decide | omega)) (by omega) ⟨rfl, rfl⟩ rfl rfl (Nat.le_of_ble_eq_true rfl) ⟨Nat.le_of_ble_eq_true rfl, Nat.le_of_ble_eq_true rfl⟩ (gs_V ?_)
  refine g_letP (P := fun M4 => GW l C qX8_copy d (gQg 956 g_S0 (qV R) sz) gN 0 0 44 [(0, .ref (a)), (1, .ref (b))] [] (956, g_S0, M4, sz)) hr (fun M4 hr => ?_)
  refine gb_run 1 (pc2 := 45) (ls2 := [(0, .ref (a)), (1, .ref (b))]) (st2 := [.ref (b)]) (M2 := M4) hC hqX8_copy rfl ?_
  refine gz_getr (q := b + 5) hC hqX8_copy rfl hb.1.1 (g_S3 hb.1.2.1 hb.1.2.2) rfl ((hb.2.1 4 (by decide)).trans rfl) ?_
  refine gb_run 1 (pc2 := 49) (ls2 := [(0, .ref (a)), (1, .ref (b))]) (st2 := [.ref (a), .ref (b + 5)]) (M2 := M4) hC hqX8_copy rfl ?_
  refine gz_getr (q := a + 5) hC hqX8_copy rfl ha.1.1 (g_S3 ha.1.2.1 ha.1.2.2) rfl ((ha.2.1 4 (by decide)).trans rfl) ?_
  refine gz_cSN (host := "HoopHours") (z := qX11_copyRow) (av := [.ref (b + 5), .ref (a + 5)]) (rest := []) (pl := 561) hC hqX8_copy rfl kX11_copyRow (by decide +kernel) (c_copyRow hC (b + 5) (a + 5) 8 _ _ M4 sz (d - 1) (by omega) (hb.2.2 4 (by decide)).1 (g_S3 (hb.2.2 4 (by decide)).2.1 (hb.2.2 4 (by decide)).2.2) (ha.2.2 4 (by decide)).1 (g_S3 (ha.2.2 4 (by decide)).2.1 (ha.2.2 4 (by decide)).2.2) (Nat.le_of_ble_eq_true rfl) (by first | decide | omega)) (by omega) ⟨rfl, rfl⟩ rfl rfl (Nat.le_of_ble_eq_true rfl) ⟨Nat.le_of_ble_eq_true rfl, Nat.le_of_ble_eq_true rfl⟩ (gs_V ?_)
  refine g_letP (P := fun M5 => GW l C qX8_copy d (gQg 956 g_S0 (qV R) sz) gN 0 0 55 [(0, .ref (a)), (1, .ref (b))] [] (956, g_S0, M5, sz)) hr (fun M5 hr => ?_)
  refine gb_run 2 (pc2 := 57) (ls2 := [(0, .ref (a)), (1, .ref (b))]) (st2 := [.ref (b), .ref (a)]) (M2 := M5) hC hqX8_copy rfl ?_
  refine gz_geti hC hqX8_copy rfl hb.1.1 (g_S3 hb.1.2.1 hb.1.2.2) rfl ((hb.2.1 5 (by decide)).trans rfl) ?_
  refine gb_putf hC hqX8_copy rfl ha.1.1 (g_S3 ha.1.2.1 ha.1.2.2) rfl ((ha.2.1 5 (by decide)).trans rfl) rfl ?_
  refine g_letP (P := fun M6 => GW l C qX8_copy d (gQg 956 g_S0 (qV R) sz) gN 0 0 63 [(0, .ref (a)), (1, .ref (b))] [] (956, g_S0, M6, sz)) hr (fun M6 hr => ?_)
  refine gb_run 2 (pc2 := 65) (ls2 := [(0, .ref (a)), (1, .ref (b))]) (st2 := [.ref (b), .ref (a)]) (M2 := M6) hC hqX8_copy rfl ?_
  refine gz_geti hC hqX8_copy rfl hb.1.1 (g_S3 hb.1.2.1 hb.1.2.2) rfl ((hb.2.1 6 (by decide)).trans rfl) ?_
  refine gb_putf hC hqX8_copy rfl ha.1.1 (g_S3 ha.1.2.1 ha.1.2.2) rfl ((ha.2.1 6 (by decide)).trans rfl) rfl ?_
  refine g_letP (P := fun M7 => GW l C qX8_copy d (gQg 956 g_S0 (qV R) sz) gN 0 0 71 [(0, .ref (a)), (1, .ref (b))] [] (956, g_S0, M7, sz)) hr (fun M7 hr => ?_)
  refine gb_run 2 (pc2 := 73) (ls2 := [(0, .ref (a)), (1, .ref (b))]) (st2 := [.ref (b), .ref (a)]) (M2 := M7) hC hqX8_copy rfl ?_
  refine gz_geti hC hqX8_copy rfl hb.1.1 (g_S3 hb.1.2.1 hb.1.2.2) rfl ((hb.2.1 7 (by decide)).trans rfl) ?_
  refine gb_putf hC hqX8_copy rfl ha.1.1 (g_S3 ha.1.2.1 ha.1.2.2) rfl ((ha.2.1 7 (by decide)).trans rfl) rfl ?_
  refine g_letP (P := fun M8 => GW l C qX8_copy d (gQg 956 g_S0 (qV R) sz) gN 0 0 79 [(0, .ref (a)), (1, .ref (b))] [] (956, g_S0, M8, sz)) hr (fun M8 hr => ?_)
  refine gb_run 2 (pc2 := 81) (ls2 := [(0, .ref (a)), (1, .ref (b))]) (st2 := [.ref (b), .ref (a)]) (M2 := M8) hC hqX8_copy rfl ?_
  refine gz_geti hC hqX8_copy rfl hb.1.1 (g_S3 hb.1.2.1 hb.1.2.2) rfl ((hb.2.1 8 (by decide)).trans rfl) ?_
  refine gb_putf hC hqX8_copy rfl ha.1.1 (g_S3 ha.1.2.1 ha.1.2.2) rfl ((ha.2.1 8 (by decide)).trans rfl) rfl ?_
  refine g_letP (P := fun M9 => GW l C qX8_copy d (gQg 956 g_S0 (qV R) sz) gN 0 0 87 [(0, .ref (a)), (1, .ref (b))] [] (956, g_S0, M9, sz)) hr (fun M9 hr => ?_)
  refine gb_run 2 (pc2 := 89) (ls2 := [(0, .ref (a)), (1, .ref (b))]) (st2 := [.ref (b), .ref (a)]) (M2 := M9) hC hqX8_copy rfl ?_
  refine gz_geti hC hqX8_copy rfl hb.1.1 (g_S3 hb.1.2.1 hb.1.2.2) rfl ((hb.2.1 9 (by decide)).trans rfl) ?_
  refine gb_putf hC hqX8_copy rfl ha.1.1 (g_S3 ha.1.2.1 ha.1.2.2) rfl ((ha.2.1 9 (by decide)).trans rfl) rfl ?_
  refine g_letP (P := fun M10 => GW l C qX8_copy d (gQg 956 g_S0 (qV R) sz) gN 0 0 95 [(0, .ref (a)), (1, .ref (b))] [] (956, g_S0, M10, sz)) hr (fun M10 hr => ?_)
  refine gb_run 2 (pc2 := 97) (ls2 := [(0, .ref (a)), (1, .ref (b))]) (st2 := [.ref (b), .ref (a)]) (M2 := M10) hC hqX8_copy rfl ?_
  refine gz_geti hC hqX8_copy rfl hb.1.1 (g_S3 hb.1.2.1 hb.1.2.2) rfl ((hb.2.1 10 (by decide)).trans rfl) ?_
  refine gb_putf hC hqX8_copy rfl ha.1.1 (g_S3 ha.1.2.1 ha.1.2.2) rfl ((ha.2.1 10 (by decide)).trans rfl) rfl ?_
  refine g_letP (P := fun M11 => GW l C qX8_copy d (gQg 956 g_S0 (qV R) sz) gN 0 0 103 [(0, .ref (a)), (1, .ref (b))] [] (956, g_S0, M11, sz)) hr (fun M11 hr => ?_)
  refine gb_run 2 (pc2 := 105) (ls2 := [(0, .ref (a)), (1, .ref (b))]) (st2 := [.ref (b), .ref (a)]) (M2 := M11) hC hqX8_copy rfl ?_
  refine gz_geti hC hqX8_copy rfl hb.1.1 (g_S3 hb.1.2.1 hb.1.2.2) rfl ((hb.2.1 11 (by decide)).trans rfl) ?_
  refine gb_putf hC hqX8_copy rfl ha.1.1 (g_S3 ha.1.2.1 ha.1.2.2) rfl ((ha.2.1 11 (by decide)).trans rfl) rfl ?_
  refine g_letP (P := fun M12 => GW l C qX8_copy d (gQg 956 g_S0 (qV R) sz) gN 0 0 111 [(0, .ref (a)), (1, .ref (b))] [] (956, g_S0, M12, sz)) hr (fun M12 hr => ?_)
  refine gb_vret hqX8_copy rfl rfl (Nat.le_of_ble_eq_true rfl) (Nat.le_of_ble_eq_true rfl) ?_
  exact gl_V hr
def FZ_fines_L4 (a : Nat) (M : gM) : Nat → Int32 → Int32 → Option (Int32)
  | 0, _, _ => none
  | k + 1, x1, x2 =>
  if (nI 8) ≤ x2 then (some x1) else (g_ix x2 8 fun j2 => FZ_fines_L4 a M k (x1 + (M (a + 3) j2)) (x2 + (1 : Int32)))
set_option maxRecDepth 20000 in
theorem c_FZ_fines_L4 {l : Launch} {C : gC} (hC : g_ctx l C) (a : Nat) (M : gM) (ha : g_St 956 g_S0 a) (sz d : Nat) (hd : 1 ≤ d) (R : Int32) : ∀ (k : Nat) (x1 : Int32) (x2 : Int32), FZ_fines_L4 a M k x1 x2 = some R → GW l C qX8_fines d (gQg 956 g_S0 (qIp M R) sz) gN 0 0 4 [(0, .ref (a)), (1, .int (x1)), (2, .int (x2))] [] (956, g_S0, M, sz) := by
  intro k
  induction k with
  | zero => intro x1 x2 hr; exact nomatch (show (none : Option (Int32)) = some R from hr)
  | succ k ih =>
    intro x1 x2 hr
    unfold FZ_fines_L4 at hr
    refine gb_run 2 (pc2 := 6) (ls2 := [(0, .ref (a)), (1, .int (x1)), (2, .int (x2))]) (st2 := [.ref (a), .int (x2)]) (M2 := M) hC hqX8_fines rfl ?_
    refine gz_getr (q := a + 3) hC hqX8_fines rfl ha.1.1 (g_S3 ha.1.2.1 ha.1.2.2) rfl ((ha.2.1 2 (by decide)).trans rfl) ?_
    refine gb_alen hC hqX8_fines rfl (ha.2.2 2 (by decide)).1 (g_S3 (ha.2.2 2 (by decide)).2.1 (ha.2.2 2 (by decide)).2.2) ?_
    refine gb_icmp_ge hqX8_fines rfl (fun h1 => ?_) (fun h1 => ?_)
    ·
      have hr := g_if1 h1 hr
      refine gb_run 1 (pc2 := 29) (ls2 := [(0, .ref (a)), (1, .int (x1)), (2, .int (x2))]) (st2 := [.int (x1)]) (M2 := M) hC hqX8_fines rfl ?_
      refine gb_iret hqX8_fines rfl rfl (Nat.le_of_ble_eq_true rfl) (Nat.le_of_ble_eq_true rfl) ?_
      exact gl_Ip hr
    ·
      have hr := g_if0 h1 hr
      refine gb_run 2 (pc2 := 15) (ls2 := [(0, .ref (a)), (1, .int (x1)), (2, .int (x2))]) (st2 := [.ref (a), .int (x1)]) (M2 := M) hC hqX8_fines rfl ?_
      refine gz_getr (q := a + 3) hC hqX8_fines rfl ha.1.1 (g_S3 ha.1.2.1 ha.1.2.2) rfl ((ha.2.1 2 (by decide)).trans rfl) ?_
      refine gb_run 1 (pc2 := 19) (ls2 := [(0, .ref (a)), (1, .int (x1)), (2, .int (x2))]) (st2 := [.int (x2), .ref (a + 3), .int (x1)]) (M2 := M) hC hqX8_fines rfl ?_
      obtain ⟨j2, ej2, ij2, lj2, hr⟩ := g_ixo hr
      refine gz_iaload hC hqX8_fines rfl (ha.2.2 2 (by decide)).1 (g_S3 (ha.2.2 2 (by decide)).2.1 (ha.2.2 2 (by decide)).2.2) ij2 ej2 ?_
      refine gb_run 4 (pc2 := 4) (ls2 := [(2, .int (x2 + (1 : Int32))), (1, .int (x1 + (M (a + 3) j2))), (0, .ref (a))]) (st2 := []) (M2 := M) hC hqX8_fines rfl ?_
      refine gw_pick [2, 1, 0] (ls2 := [(0, .ref (a)), (1, .int (x1 + (M (a + 3) j2))), (2, .int (x2 + (1 : Int32)))]) rfl ?_
      exact ih (x1 + (M (a + 3) j2)) (x2 + (1 : Int32)) hr
def FZ_fines (a : Nat) (M : gM) : Option (Int32) :=
  FZ_fines_L4 a M 1000 (0 : Int32) (0 : Int32)
set_option maxRecDepth 20000 in
theorem c_FZ_fines {l : Launch} {C : gC} (hC : g_ctx l C) (a : Nat) (ha : g_St 956 g_S0 a) (M : gM) (sz d : Nat) (hd : 1 ≤ d) (R : Int32) (hr : FZ_fines a M = some R) : gPg l C qX8_fines d [.ref (a)] 956 g_S0 M sz (qIp M R) := by
  refine gPg.of (ls := [(0, .ref (a))]) (by decide +kernel) (Nat.le_of_ble_eq_true rfl) rfl ?_
  unfold FZ_fines at hr
  refine gb_run 4 (pc2 := 4) (ls2 := [(2, .int (0)), (1, .int (0)), (0, .ref (a))]) (st2 := []) (M2 := M) hC hqX8_fines rfl ?_
  refine gw_pick [2, 1, 0] (ls2 := [(0, .ref (a)), (1, .int (0)), (2, .int (0))]) rfl ?_
  exact c_FZ_fines_L4 hC a M ha sz d (by omega) R 1000 (0 : Int32) (0 : Int32) hr
def FZ_hoopsOf_L4 (a : Nat) (c : Int32) (M : gM) : Nat → Int32 → Int32 → Option (Int32)
  | 0, _, _ => none
  | k + 1, x2, x3 =>
  if (nI 8) ≤ x3 then (some x2) else (g_ix x3 8 fun j2 => if (M (a + 4) j2) = c then (FZ_hoopsOf_L4 a c M k (x2 ||| ((1 : Int32) <<< (x3 &&& 31))) (x3 + (1 : Int32))) else (FZ_hoopsOf_L4 a c M k x2 (x3 + (1 : Int32))))
set_option maxRecDepth 20000 in
theorem c_FZ_hoopsOf_L4 {l : Launch} {C : gC} (hC : g_ctx l C) (a : Nat) (c : Int32) (M : gM) (ha : g_St 956 g_S0 a) (sz d : Nat) (hd : 1 ≤ d) (R : Int32) : ∀ (k : Nat) (x2 : Int32) (x3 : Int32), FZ_hoopsOf_L4 a c M k x2 x3 = some R → GW l C qX8_hoopsOf d (gQg 956 g_S0 (qIp M R) sz) gN 0 0 4 [(0, .ref (a)), (1, .int (c)), (2, .int (x2)), (3, .int (x3))] [] (956, g_S0, M, sz) := by
  intro k
  induction k with
  | zero => intro x2 x3 hr; exact nomatch (show (none : Option (Int32)) = some R from hr)
  | succ k ih =>
    intro x2 x3 hr
    unfold FZ_hoopsOf_L4 at hr
    refine gb_run 2 (pc2 := 6) (ls2 := [(0, .ref (a)), (1, .int (c)), (2, .int (x2)), (3, .int (x3))]) (st2 := [.ref (a), .int (x3)]) (M2 := M) hC hqX8_hoopsOf rfl ?_
    refine gz_getr (q := a + 4) hC hqX8_hoopsOf rfl ha.1.1 (g_S3 ha.1.2.1 ha.1.2.2) rfl ((ha.2.1 3 (by decide)).trans rfl) ?_
    refine gb_alen hC hqX8_hoopsOf rfl (ha.2.2 3 (by decide)).1 (g_S3 (ha.2.2 3 (by decide)).2.1 (ha.2.2 3 (by decide)).2.2) ?_
    refine gb_icmp_ge hqX8_hoopsOf rfl (fun h1 => ?_) (fun h1 => ?_)
    ·
      have hr := g_if1 h1 hr
      refine gb_run 1 (pc2 := 36) (ls2 := [(0, .ref (a)), (1, .int (c)), (2, .int (x2)), (3, .int (x3))]) (st2 := [.int (x2)]) (M2 := M) hC hqX8_hoopsOf rfl ?_
      refine gb_iret hqX8_hoopsOf rfl rfl (Nat.le_of_ble_eq_true rfl) (Nat.le_of_ble_eq_true rfl) ?_
      exact gl_Ip hr
    ·
      have hr := g_if0 h1 hr
      refine gb_run 1 (pc2 := 14) (ls2 := [(0, .ref (a)), (1, .int (c)), (2, .int (x2)), (3, .int (x3))]) (st2 := [.ref (a)]) (M2 := M) hC hqX8_hoopsOf rfl ?_
      refine gz_getr (q := a + 4) hC hqX8_hoopsOf rfl ha.1.1 (g_S3 ha.1.2.1 ha.1.2.2) rfl ((ha.2.1 3 (by decide)).trans rfl) ?_
      refine gb_run 1 (pc2 := 18) (ls2 := [(0, .ref (a)), (1, .int (c)), (2, .int (x2)), (3, .int (x3))]) (st2 := [.int (x3), .ref (a + 4)]) (M2 := M) hC hqX8_hoopsOf rfl ?_
      obtain ⟨j2, ej2, ij2, lj2, hr⟩ := g_ixo hr
      refine gz_iaload hC hqX8_hoopsOf rfl (ha.2.2 3 (by decide)).1 (g_S3 (ha.2.2 3 (by decide)).2.1 (ha.2.2 3 (by decide)).2.2) ij2 ej2 ?_
      refine gb_run 1 (pc2 := 20) (ls2 := [(0, .ref (a)), (1, .int (c)), (2, .int (x2)), (3, .int (x3))]) (st2 := [.int (c), .int (M (a + 4) j2)]) (M2 := M) hC hqX8_hoopsOf rfl ?_
      refine gb_icmp_ne hqX8_hoopsOf rfl (fun h3 => ?_) (fun h3 => ?_)
      ·
        have hr := g_if0 h3 hr
        refine gb_run 2 (pc2 := 4) (ls2 := [(3, .int (x3 + (1 : Int32))), (0, .ref (a)), (1, .int (c)), (2, .int (x2))]) (st2 := []) (M2 := M) hC hqX8_hoopsOf rfl ?_
        refine gw_pick [1, 2, 3, 0] (ls2 := [(0, .ref (a)), (1, .int (c)), (2, .int (x2)), (3, .int (x3 + (1 : Int32)))]) rfl ?_
        exact ih x2 (x3 + (1 : Int32)) hr
      ·
        have hr := g_if1 h3 hr
        refine gb_run 8 (pc2 := 4) (ls2 := [(3, .int (x3 + (1 : Int32))), (2, .int (x2 ||| ((1 : Int32) <<< (x3 &&& 31)))), (0, .ref (a)), (1, .int (c))]) (st2 := []) (M2 := M) hC hqX8_hoopsOf rfl ?_
        refine gw_pick [2, 3, 1, 0] (ls2 := [(0, .ref (a)), (1, .int (c)), (2, .int (x2 ||| ((1 : Int32) <<< (x3 &&& 31)))), (3, .int (x3 + (1 : Int32)))]) rfl ?_
        exact ih (x2 ||| ((1 : Int32) <<< (x3 &&& 31))) (x3 + (1 : Int32)) hr
def FZ_hoopsOf (a : Nat) (c : Int32) (M : gM) : Option (Int32) :=
  FZ_hoopsOf_L4 a c M 1000 (0 : Int32) (0 : Int32)
set_option maxRecDepth 20000 in
theorem c_FZ_hoopsOf {l : Launch} {C : gC} (hC : g_ctx l C) (a : Nat) (c : Int32) (ha : g_St 956 g_S0 a) (M : gM) (sz d : Nat) (hd : 1 ≤ d) (R : Int32) (hr : FZ_hoopsOf a c M = some R) : gPg l C qX8_hoopsOf d [.ref (a), .int (c)] 956 g_S0 M sz (qIp M R) := by
  refine gPg.of (ls := [(0, .ref (a)), (1, .int (c))]) (by decide +kernel) (Nat.le_of_ble_eq_true rfl) rfl ?_
  unfold FZ_hoopsOf at hr
  refine gb_run 4 (pc2 := 4) (ls2 := [(3, .int (0)), (2, .int (0)), (0, .ref (a)), (1, .int (c))]) (st2 := []) (M2 := M) hC hqX8_hoopsOf rfl ?_
  refine gw_pick [2, 3, 1, 0] (ls2 := [(0, .ref (a)), (1, .int (c)), (2, .int (0)), (3, .int (0))]) rfl ?_
  exact c_FZ_hoopsOf_L4 hC a c M ha sz d (by omega) R 1000 (0 : Int32) (0 : Int32) hr
def FH_clear  (M : gM) : Option (gM) :=
  (FZ_clear 48 M).bind fun s1 => some (g_set s1 47 2 (0 : Int32))
set_option maxRecDepth 20000 in
theorem c_FH_clear {l : Launch} {C : gC} (hC : g_ctx l C)   (M : gM) (sz d : Nat) (hd : 3 ≤ d) (R : gM) (hr : FH_clear M = some R) : gPg l C qX3_clear d [.ref (47)] 956 g_S0 M sz (qV R) := by
  refine gPg.of (ls := [(0, .ref (47))]) (by decide +kernel) (Nat.le_of_ble_eq_true rfl) rfl ?_
  unfold FH_clear at hr
  refine gb_run 2 (pc2 := 4) (ls2 := [(0, .ref (47))]) (st2 := [.ref (48)]) (M2 := M) hC hqX3_clear rfl ?_
  obtain ⟨s1, es1, hr⟩ := g_bd hr
  refine gz_cV (z := qX8_clear) (a := 48) (av := []) (rest := []) (pl := 863) hC hqX3_clear rfl kX8_clear sX8_clear (by decide +kernel) (c_FZ_clear hC 48 (by decide +kernel) M sz (d - 1) (by omega) s1 es1) (by omega) ⟨rfl, rfl⟩ rfl (Nat.le_of_ble_eq_true rfl) (Nat.le_of_ble_eq_true rfl) rfl rfl rfl (Nat.le_of_ble_eq_true rfl) ⟨Nat.le_of_ble_eq_true rfl, Nat.le_of_ble_eq_true rfl⟩ (gs_V ?_)
  refine gb_run 3 (pc2 := 12) (ls2 := [(0, .ref (47))]) (st2 := []) (M2 := g_set s1 47 2 (0 : Int32)) hC hqX3_clear rfl ?_
  refine gb_vret hqX3_clear rfl rfl (Nat.le_of_ble_eq_true rfl) (Nat.le_of_ble_eq_true rfl) ?_
  exact gl_V hr
def FH_keep (a : Nat) (M : gM) : Option (gM) :=
  if (M a 2) < (0 : Int32) then (some M) else (if (M a 2) < (nI 16) then (g_ix (M a 2) 16 fun j3 => (FZ_copy (a + 8 + 6 * j3) (a + 1) M).bind fun s4 => g_let (g_set s4 a 2 ((s4 a 2) + (1 : Int32))) fun M5 => some M5) else (some M))
set_option maxRecDepth 20000 in
theorem c_FH_keep {l : Launch} {C : gC} (hC : g_ctx l C) (a : Nat) (ha : g_Hi 956 g_S0 a) (M : gM) (sz d : Nat) (hd : 3 ≤ d) (R : gM) (hr : FH_keep a M = some R) : gPg l C qX3_keep d [.ref (a)] 956 g_S0 M sz (qV R) := by
  refine gPg.of (ls := [(0, .ref (a))]) (by decide +kernel) (Nat.le_of_ble_eq_true rfl) rfl ?_
  unfold FH_keep at hr
  refine gb_run 1 (pc2 := 1) (ls2 := [(0, .ref (a))]) (st2 := [.ref (a)]) (M2 := M) hC hqX3_keep rfl ?_
  refine gz_geti hC hqX3_keep rfl ha.1.1 (g_S3 ha.1.2.1 ha.1.2.2) rfl ha.2.1.2.2 ?_
  refine gb_if_lt hqX3_keep rfl (fun h1 => ?_) (fun h1 => ?_)
  ·
    have hr := g_if1 h1 hr
    refine gb_vret hqX3_keep rfl rfl (Nat.le_of_ble_eq_true rfl) (Nat.le_of_ble_eq_true rfl) ?_
    exact gl_V hr
  ·
    have hr := g_if0 h1 hr
    refine gb_run 1 (pc2 := 8) (ls2 := [(0, .ref (a))]) (st2 := [.ref (a)]) (M2 := M) hC hqX3_keep rfl ?_
    refine gz_geti hC hqX3_keep rfl ha.1.1 (g_S3 ha.1.2.1 ha.1.2.2) rfl ha.2.1.2.2 ?_
    refine gb_run 1 (pc2 := 12) (ls2 := [(0, .ref (a))]) (st2 := [.ref (a), .int (M a 2)]) (M2 := M) hC hqX3_keep rfl ?_
    refine gz_getr (q := a + 7) hC hqX3_keep rfl ha.1.1 (g_S3 ha.1.2.1 ha.1.2.2) rfl ha.2.1.2.1 ?_
    refine gb_alenq (k0 := 1) hC hqX3_keep rfl ha.2.2.2.1.1 (g_S3 ha.2.2.2.1.2.1 ha.2.2.2.1.2.2) (Nat.le_of_ble_eq_true rfl) ?_
    refine gb_icmp_lt hqX3_keep rfl (fun h2 => ?_) (fun h2 => ?_)
    ·
      have hr := g_if1 h2 hr
      refine gb_run 1 (pc2 := 21) (ls2 := [(0, .ref (a))]) (st2 := [.ref (a)]) (M2 := M) hC hqX3_keep rfl ?_
      refine gz_getr (q := a + 7) hC hqX3_keep rfl ha.1.1 (g_S3 ha.1.2.1 ha.1.2.2) rfl ha.2.1.2.1 ?_
      refine gb_run 1 (pc2 := 25) (ls2 := [(0, .ref (a))]) (st2 := [.ref (a), .ref (a + 7)]) (M2 := M) hC hqX3_keep rfl ?_
      refine gz_geti hC hqX3_keep rfl ha.1.1 (g_S3 ha.1.2.1 ha.1.2.2) rfl ha.2.1.2.2 ?_
      obtain ⟨j3, ej3, ij3, lj3, hr⟩ := g_ixo hr
      have tj3 := ha.2.2.2.2 j3 lj3
      refine gz_aaload (k0 := 1) (q := a + 8 + 6 * j3) hC hqX3_keep rfl ha.2.2.2.1.1 (g_S3 ha.2.2.2.1.2.1 ha.2.2.2.1.2.2) (Nat.le_of_ble_eq_true rfl) ij3 ej3 tj3.1 ?_
      refine gb_run 5 (pc2 := 36) (ls2 := [(1, .ref (a + 8 + 6 * j3)), (0, .ref (a))]) (st2 := [.ref (a), .ref (a + 8 + 6 * j3)]) (M2 := M) hC hqX3_keep rfl ?_
      refine gz_getr (q := a + 1) hC hqX3_keep rfl ha.1.1 (g_S3 ha.1.2.1 ha.1.2.2) rfl ha.2.1.1 ?_
      obtain ⟨s4, es4, hr⟩ := g_bd hr
      refine gz_cV (z := qX8_copy) (a := a + 8 + 6 * j3) (av := [.ref (a + 1)]) (rest := []) (pl := 557) hC hqX3_keep rfl kX8_copy sX8_copy (by decide +kernel) (c_FZ_copy hC (a + 8 + 6 * j3) (a + 1) tj3.2 ha.2.2.1 (by first | decide | omega) M sz (d - 1) (by omega) s4 es4) (by omega) ⟨rfl, rfl⟩ rfl (Nat.le_of_ble_eq_true rfl) tj3.2.1.1 (g_S3 tj3.2.1.2.1 tj3.2.1.2.2) rfl rfl (Nat.le_of_ble_eq_true rfl) ⟨Nat.le_of_ble_eq_true rfl, Nat.le_of_ble_eq_true rfl⟩ (gs_V ?_)
      refine gb_run 2 (pc2 := 44) (ls2 := [(1, .ref (a + 8 + 6 * j3)), (0, .ref (a))]) (st2 := [.ref (a), .ref (a)]) (M2 := s4) hC hqX3_keep rfl ?_
      refine gz_geti hC hqX3_keep rfl ha.1.1 (g_S3 ha.1.2.1 ha.1.2.2) rfl ha.2.1.2.2 ?_
      refine gb_run 2 (pc2 := 49) (ls2 := [(1, .ref (a + 8 + 6 * j3)), (0, .ref (a))]) (st2 := [.int ((s4 a 2) + (1 : Int32)), .ref (a)]) (M2 := s4) hC hqX3_keep rfl ?_
      refine gb_putf hC hqX3_keep rfl ha.1.1 (g_S3 ha.1.2.1 ha.1.2.2) rfl ha.2.1.2.2 rfl ?_
      refine g_letP (P := fun M5 => GW l C qX3_keep d (gQg 956 g_S0 (qV R) sz) gN 0 0 52 [(1, .ref (a + 8 + 6 * j3)), (0, .ref (a))] [] (956, g_S0, M5, sz)) hr (fun M5 hr => ?_)
      refine gb_vret hqX3_keep rfl rfl (Nat.le_of_ble_eq_true rfl) (Nat.le_of_ble_eq_true rfl) ?_
      exact gl_V hr
    ·
      have hr := g_if0 h2 hr
      refine gb_vret hqX3_keep rfl rfl (Nat.le_of_ble_eq_true rfl) (Nat.le_of_ble_eq_true rfl) ?_
      exact gl_V hr
def FH_takeBack (a : Nat) (M : gM) : Option (gM) :=
  if (M a 2) ≤ (0 : Int32) then (some M) else (if (M a 2) ≤ (nI 16) then (g_let (g_set M a 2 ((M a 2) - (1 : Int32))) fun M3 => g_ix (M3 a 2) 16 fun j4 => (FZ_copy (a + 1) (a + 8 + 6 * j4) M3).bind fun s5 => some s5) else (some M))
set_option maxRecDepth 20000 in
theorem c_FH_takeBack {l : Launch} {C : gC} (hC : g_ctx l C) (a : Nat) (ha : g_Hi 956 g_S0 a) (M : gM) (sz d : Nat) (hd : 3 ≤ d) (R : gM) (hr : FH_takeBack a M = some R) : gPg l C qX3_takeBack d [.ref (a)] 956 g_S0 M sz (qV R) := by
  refine gPg.of (ls := [(0, .ref (a))]) (by decide +kernel) (Nat.le_of_ble_eq_true rfl) rfl ?_
  unfold FH_takeBack at hr
  refine gb_run 1 (pc2 := 1) (ls2 := [(0, .ref (a))]) (st2 := [.ref (a)]) (M2 := M) hC hqX3_takeBack rfl ?_
  refine gz_geti hC hqX3_takeBack rfl ha.1.1 (g_S3 ha.1.2.1 ha.1.2.2) rfl ha.2.1.2.2 ?_
  refine gb_if_le hqX3_takeBack rfl (fun h1 => ?_) (fun h1 => ?_)
  ·
    have hr := g_if1 h1 hr
    refine gb_vret hqX3_takeBack rfl rfl (Nat.le_of_ble_eq_true rfl) (Nat.le_of_ble_eq_true rfl) ?_
    exact gl_V hr
  ·
    have hr := g_if0 h1 hr
    refine gb_run 1 (pc2 := 8) (ls2 := [(0, .ref (a))]) (st2 := [.ref (a)]) (M2 := M) hC hqX3_takeBack rfl ?_
    refine gz_geti hC hqX3_takeBack rfl ha.1.1 (g_S3 ha.1.2.1 ha.1.2.2) rfl ha.2.1.2.2 ?_
    refine gb_run 1 (pc2 := 12) (ls2 := [(0, .ref (a))]) (st2 := [.ref (a), .int (M a 2)]) (M2 := M) hC hqX3_takeBack rfl ?_
    refine gz_getr (q := a + 7) hC hqX3_takeBack rfl ha.1.1 (g_S3 ha.1.2.1 ha.1.2.2) rfl ha.2.1.2.1 ?_
    refine gb_alenq (k0 := 1) hC hqX3_takeBack rfl ha.2.2.2.1.1 (g_S3 ha.2.2.2.1.2.1 ha.2.2.2.1.2.2) (Nat.le_of_ble_eq_true rfl) ?_
    refine gb_icmp_le hqX3_takeBack rfl (fun h2 => ?_) (fun h2 => ?_)
    ·
      have hr := g_if1 h2 hr
      refine gb_run 2 (pc2 := 22) (ls2 := [(0, .ref (a))]) (st2 := [.ref (a), .ref (a)]) (M2 := M) hC hqX3_takeBack rfl ?_
      refine gz_geti hC hqX3_takeBack rfl ha.1.1 (g_S3 ha.1.2.1 ha.1.2.2) rfl ha.2.1.2.2 ?_
      refine gb_run 2 (pc2 := 27) (ls2 := [(0, .ref (a))]) (st2 := [.int ((M a 2) - (1 : Int32)), .ref (a)]) (M2 := M) hC hqX3_takeBack rfl ?_
      refine gb_putf hC hqX3_takeBack rfl ha.1.1 (g_S3 ha.1.2.1 ha.1.2.2) rfl ha.2.1.2.2 rfl ?_
      refine g_letP (P := fun M3 => GW l C qX3_takeBack d (gQg 956 g_S0 (qV R) sz) gN 0 0 30 [(0, .ref (a))] [] (956, g_S0, M3, sz)) hr (fun M3 hr => ?_)
      refine gb_run 1 (pc2 := 31) (ls2 := [(0, .ref (a))]) (st2 := [.ref (a)]) (M2 := M3) hC hqX3_takeBack rfl ?_
      refine gz_getr (q := a + 7) hC hqX3_takeBack rfl ha.1.1 (g_S3 ha.1.2.1 ha.1.2.2) rfl ha.2.1.2.1 ?_
      refine gb_run 1 (pc2 := 35) (ls2 := [(0, .ref (a))]) (st2 := [.ref (a), .ref (a + 7)]) (M2 := M3) hC hqX3_takeBack rfl ?_
      refine gz_geti hC hqX3_takeBack rfl ha.1.1 (g_S3 ha.1.2.1 ha.1.2.2) rfl ha.2.1.2.2 ?_
      obtain ⟨j4, ej4, ij4, lj4, hr⟩ := g_ixo hr
      have tj4 := ha.2.2.2.2 j4 lj4
      refine gz_aaload (k0 := 1) (q := a + 8 + 6 * j4) hC hqX3_takeBack rfl ha.2.2.2.1.1 (g_S3 ha.2.2.2.1.2.1 ha.2.2.2.1.2.2) (Nat.le_of_ble_eq_true rfl) ij4 ej4 tj4.1 ?_
      refine gb_run 4 (pc2 := 45) (ls2 := [(1, .ref (a + 8 + 6 * j4)), (0, .ref (a))]) (st2 := [.ref (a)]) (M2 := M3) hC hqX3_takeBack rfl ?_
      refine gz_getr (q := a + 1) hC hqX3_takeBack rfl ha.1.1 (g_S3 ha.1.2.1 ha.1.2.2) rfl ha.2.1.1 ?_
      refine gb_run 1 (pc2 := 49) (ls2 := [(1, .ref (a + 8 + 6 * j4)), (0, .ref (a))]) (st2 := [.ref (a + 8 + 6 * j4), .ref (a + 1)]) (M2 := M3) hC hqX3_takeBack rfl ?_
      obtain ⟨s5, es5, hr⟩ := g_bd hr
      refine gz_cV (z := qX8_copy) (a := a + 1) (av := [.ref (a + 8 + 6 * j4)]) (rest := []) (pl := 557) hC hqX3_takeBack rfl kX8_copy sX8_copy (by decide +kernel) (c_FZ_copy hC (a + 1) (a + 8 + 6 * j4) ha.2.2.1 tj4.2 (by first | decide | omega) M3 sz (d - 1) (by omega) s5 es5) (by omega) ⟨rfl, rfl⟩ rfl (Nat.le_of_ble_eq_true rfl) ha.2.2.1.1.1 (g_S3 ha.2.2.1.1.2.1 ha.2.2.1.1.2.2) rfl rfl (Nat.le_of_ble_eq_true rfl) ⟨Nat.le_of_ble_eq_true rfl, Nat.le_of_ble_eq_true rfl⟩ (gs_V ?_)
      refine gb_vret hqX3_takeBack rfl rfl (Nat.le_of_ble_eq_true rfl) (Nat.le_of_ble_eq_true rfl) ?_
      exact gl_V hr
    ·
      have hr := g_if0 h2 hr
      refine gb_vret hqX3_takeBack rfl rfl (Nat.le_of_ble_eq_true rfl) (Nat.le_of_ble_eq_true rfl) ?_
      exact gl_V hr
def FH_copy_L21 (a : Nat) (b : Nat) : Nat → Int32 → gM → Option (gM)
  | 0, _, _ => none
  | k + 1, x2, M =>
  if (M a 2) ≤ x2 then (some M) else (if (nI 16) ≤ x2 then (some M) else (if (nI 16) ≤ x2 then (some M) else (g_ix x2 16 fun j4 => g_ix x2 16 fun j5 => (FZ_copy (a + 8 + 6 * j5) (b + 8 + 6 * j4) M).bind fun s6 => FH_copy_L21 a b k (x2 + (1 : Int32)) s6)))
set_option maxRecDepth 20000 in
theorem c_FH_copy_L21 {l : Launch} {C : gC} (hC : g_ctx l C) (a : Nat) (b : Nat) (ha : g_Hi 956 g_S0 a) (hb : g_Hi 956 g_S0 b) (hab : a + 103 < b ∨ b + 103 < a) (sz d : Nat) (hd : 3 ≤ d) (R : gM) : ∀ (k : Nat) (x2 : Int32) (M : gM), FH_copy_L21 a b k x2 M = some R → GW l C qX3_copy d (gQg 956 g_S0 (qV R) sz) gN 0 0 21 [(0, .ref (a)), (1, .ref (b)), (2, .int (x2))] [] (956, g_S0, M, sz) := by
  intro k
  induction k with
  | zero => intro x2 M hr; exact nomatch (show (none : Option (gM)) = some R from hr)
  | succ k ih =>
    intro x2 M hr
    unfold FH_copy_L21 at hr
    refine gb_run 2 (pc2 := 23) (ls2 := [(0, .ref (a)), (1, .ref (b)), (2, .int (x2))]) (st2 := [.ref (a), .int (x2)]) (M2 := M) hC hqX3_copy rfl ?_
    refine gz_geti hC hqX3_copy rfl ha.1.1 (g_S3 ha.1.2.1 ha.1.2.2) rfl ha.2.1.2.2 ?_
    refine gb_icmp_ge hqX3_copy rfl (fun h1 => ?_) (fun h1 => ?_)
    ·
      have hr := g_if1 h1 hr
      refine gb_vret hqX3_copy rfl rfl (Nat.le_of_ble_eq_true rfl) (Nat.le_of_ble_eq_true rfl) ?_
      exact gl_V hr
    ·
      have hr := g_if0 h1 hr
      refine gb_run 2 (pc2 := 31) (ls2 := [(0, .ref (a)), (1, .ref (b)), (2, .int (x2))]) (st2 := [.ref (a), .int (x2)]) (M2 := M) hC hqX3_copy rfl ?_
      refine gz_getr (q := a + 7) hC hqX3_copy rfl ha.1.1 (g_S3 ha.1.2.1 ha.1.2.2) rfl ha.2.1.2.1 ?_
      refine gb_alenq (k0 := 1) hC hqX3_copy rfl ha.2.2.2.1.1 (g_S3 ha.2.2.2.1.2.1 ha.2.2.2.1.2.2) (Nat.le_of_ble_eq_true rfl) ?_
      refine gb_icmp_ge hqX3_copy rfl (fun h2 => ?_) (fun h2 => ?_)
      ·
        have hr := g_if1 h2 hr
        refine gb_vret hqX3_copy rfl rfl (Nat.le_of_ble_eq_true rfl) (Nat.le_of_ble_eq_true rfl) ?_
        exact gl_V hr
      ·
        have hr := g_if0 h2 hr
        refine gb_run 2 (pc2 := 40) (ls2 := [(0, .ref (a)), (1, .ref (b)), (2, .int (x2))]) (st2 := [.ref (b), .int (x2)]) (M2 := M) hC hqX3_copy rfl ?_
        refine gz_getr (q := b + 7) hC hqX3_copy rfl hb.1.1 (g_S3 hb.1.2.1 hb.1.2.2) rfl hb.2.1.2.1 ?_
        refine gb_alenq (k0 := 1) hC hqX3_copy rfl hb.2.2.2.1.1 (g_S3 hb.2.2.2.1.2.1 hb.2.2.2.1.2.2) (Nat.le_of_ble_eq_true rfl) ?_
        refine gb_icmp_ge hqX3_copy rfl (fun h3 => ?_) (fun h3 => ?_)
        ·
          have hr := g_if1 h3 hr
          refine gb_vret hqX3_copy rfl rfl (Nat.le_of_ble_eq_true rfl) (Nat.le_of_ble_eq_true rfl) ?_
          exact gl_V hr
        ·
          have hr := g_if0 h3 hr
          refine gb_run 1 (pc2 := 48) (ls2 := [(0, .ref (a)), (1, .ref (b)), (2, .int (x2))]) (st2 := [.ref (b)]) (M2 := M) hC hqX3_copy rfl ?_
          refine gz_getr (q := b + 7) hC hqX3_copy rfl hb.1.1 (g_S3 hb.1.2.1 hb.1.2.2) rfl hb.2.1.2.1 ?_
          refine gb_run 1 (pc2 := 52) (ls2 := [(0, .ref (a)), (1, .ref (b)), (2, .int (x2))]) (st2 := [.int (x2), .ref (b + 7)]) (M2 := M) hC hqX3_copy rfl ?_
          obtain ⟨j4, ej4, ij4, lj4, hr⟩ := g_ixo hr
          have tj4 := hb.2.2.2.2 j4 lj4
          refine gz_aaload (k0 := 1) (q := b + 8 + 6 * j4) hC hqX3_copy rfl hb.2.2.2.1.1 (g_S3 hb.2.2.2.1.2.1 hb.2.2.2.1.2.2) (Nat.le_of_ble_eq_true rfl) ij4 ej4 tj4.1 ?_
          refine gb_run 2 (pc2 := 55) (ls2 := [(3, .ref (b + 8 + 6 * j4)), (0, .ref (a)), (1, .ref (b)), (2, .int (x2))]) (st2 := [.ref (a)]) (M2 := M) hC hqX3_copy rfl ?_
          refine gz_getr (q := a + 7) hC hqX3_copy rfl ha.1.1 (g_S3 ha.1.2.1 ha.1.2.2) rfl ha.2.1.2.1 ?_
          refine gb_run 1 (pc2 := 59) (ls2 := [(3, .ref (b + 8 + 6 * j4)), (0, .ref (a)), (1, .ref (b)), (2, .int (x2))]) (st2 := [.int (x2), .ref (a + 7)]) (M2 := M) hC hqX3_copy rfl ?_
          obtain ⟨j5, ej5, ij5, lj5, hr⟩ := g_ixo hr
          have tj5 := ha.2.2.2.2 j5 lj5
          refine gz_aaload (k0 := 1) (q := a + 8 + 6 * j5) hC hqX3_copy rfl ha.2.2.2.1.1 (g_S3 ha.2.2.2.1.2.1 ha.2.2.2.1.2.2) (Nat.le_of_ble_eq_true rfl) ij5 ej5 tj5.1 ?_
          refine gb_run 7 (pc2 := 74) (ls2 := [(4, .ref (a + 8 + 6 * j5)), (3, .ref (b + 8 + 6 * j4)), (0, .ref (a)), (1, .ref (b)), (2, .int (x2))]) (st2 := [.ref (b + 8 + 6 * j4), .ref (a + 8 + 6 * j5)]) (M2 := M) hC hqX3_copy rfl ?_
          obtain ⟨s6, es6, hr⟩ := g_bd hr
          refine gz_cV (z := qX8_copy) (a := a + 8 + 6 * j5) (av := [.ref (b + 8 + 6 * j4)]) (rest := []) (pl := 557) hC hqX3_copy rfl kX8_copy sX8_copy (by decide +kernel) (c_FZ_copy hC (a + 8 + 6 * j5) (b + 8 + 6 * j4) tj5.2 tj4.2 (by first | decide | omega) M sz (d - 1) (by omega) s6 es6) (by omega) ⟨rfl, rfl⟩ rfl (Nat.le_of_ble_eq_true rfl) tj5.2.1.1 (g_S3 tj5.2.1.2.1 tj5.2.1.2.2) rfl rfl (Nat.le_of_ble_eq_true rfl) ⟨Nat.le_of_ble_eq_true rfl, Nat.le_of_ble_eq_true rfl⟩ (gs_V ?_)
          refine gb_run 2 (pc2 := 21) (ls2 := [(2, .int (x2 + (1 : Int32))), (4, .ref (a + 8 + 6 * j5)), (3, .ref (b + 8 + 6 * j4)), (0, .ref (a)), (1, .ref (b))]) (st2 := []) (M2 := s6) hC hqX3_copy rfl ?_
          refine gw_pick [3, 4, 0] (ls2 := [(0, .ref (a)), (1, .ref (b)), (2, .int (x2 + (1 : Int32)))]) rfl ?_
          exact ih (x2 + (1 : Int32)) s6 hr
def FH_copy (a : Nat) (b : Nat) (M : gM) : Option (gM) :=
  (FZ_copy (a + 1) (b + 1) M).bind fun s1 => g_let (g_set s1 a 2 (s1 b 2)) fun M2 => FH_copy_L21 a b 1000 (0 : Int32) M2
set_option maxRecDepth 20000 in
theorem c_FH_copy {l : Launch} {C : gC} (hC : g_ctx l C) (a : Nat) (b : Nat) (ha : g_Hi 956 g_S0 a) (hb : g_Hi 956 g_S0 b) (hab : a + 103 < b ∨ b + 103 < a) (M : gM) (sz d : Nat) (hd : 3 ≤ d) (R : gM) (hr : FH_copy a b M = some R) : gPg l C qX3_copy d [.ref (a), .ref (b)] 956 g_S0 M sz (qV R) := by
  refine gPg.of (ls := [(0, .ref (a)), (1, .ref (b))]) (by decide +kernel) (Nat.le_of_ble_eq_true rfl) rfl ?_
  unfold FH_copy at hr
  refine gb_run 1 (pc2 := 1) (ls2 := [(0, .ref (a)), (1, .ref (b))]) (st2 := [.ref (a)]) (M2 := M) hC hqX3_copy rfl ?_
  refine gz_getr (q := a + 1) hC hqX3_copy rfl ha.1.1 (g_S3 ha.1.2.1 ha.1.2.2) rfl ha.2.1.1 ?_
  refine gb_run 1 (pc2 := 5) (ls2 := [(0, .ref (a)), (1, .ref (b))]) (st2 := [.ref (b), .ref (a + 1)]) (M2 := M) hC hqX3_copy rfl ?_
  refine gz_getr (q := b + 1) hC hqX3_copy rfl hb.1.1 (g_S3 hb.1.2.1 hb.1.2.2) rfl hb.2.1.1 ?_
  obtain ⟨s1, es1, hr⟩ := g_bd hr
  refine gz_cV (z := qX8_copy) (a := a + 1) (av := [.ref (b + 1)]) (rest := []) (pl := 557) hC hqX3_copy rfl kX8_copy sX8_copy (by decide +kernel) (c_FZ_copy hC (a + 1) (b + 1) ha.2.2.1 hb.2.2.1 (by first | decide | omega) M sz (d - 1) (by omega) s1 es1) (by omega) ⟨rfl, rfl⟩ rfl (Nat.le_of_ble_eq_true rfl) ha.2.2.1.1.1 (g_S3 ha.2.2.1.1.2.1 ha.2.2.1.1.2.2) rfl rfl (Nat.le_of_ble_eq_true rfl) ⟨Nat.le_of_ble_eq_true rfl, Nat.le_of_ble_eq_true rfl⟩ (gs_V ?_)
  refine gb_run 2 (pc2 := 13) (ls2 := [(0, .ref (a)), (1, .ref (b))]) (st2 := [.ref (b), .ref (a)]) (M2 := s1) hC hqX3_copy rfl ?_
  refine gz_geti hC hqX3_copy rfl hb.1.1 (g_S3 hb.1.2.1 hb.1.2.2) rfl hb.2.1.2.2 ?_
  refine gb_putf hC hqX3_copy rfl ha.1.1 (g_S3 ha.1.2.1 ha.1.2.2) rfl ha.2.1.2.2 rfl ?_
  refine g_letP (P := fun M2 => GW l C qX3_copy d (gQg 956 g_S0 (qV R) sz) gN 0 0 19 [(0, .ref (a)), (1, .ref (b))] [] (956, g_S0, M2, sz)) hr (fun M2 hr => ?_)
  refine gb_run 2 (pc2 := 21) (ls2 := [(2, .int (0)), (0, .ref (a)), (1, .ref (b))]) (st2 := []) (M2 := M2) hC hqX3_copy rfl ?_
  refine gw_pick [1, 2, 0] (ls2 := [(0, .ref (a)), (1, .ref (b)), (2, .int (0))]) rfl ?_
  exact c_FH_copy_L21 hC a b ha hb hab sz d (by omega) R 1000 (0 : Int32) M2 hr
