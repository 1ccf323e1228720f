/-! msteps, decompiled. -/
def FM_stepHere  (M : gM) : Option (Int32 × gM) :=
  (FM_isWord (7 : Int32) (9 : Int32) (22 : Int32) (5 : Int32) (0 : Int32) (0 : Int32) M).bind fun s1 => if s1.1 = (0 : Int32) then ((FM_isWord (18 : Int32) (15 : Int32) (12 : Int32) (12 : Int32) (0 : Int32) (0 : Int32) (s1.2)).bind fun s4 => if s4.1 = (0 : Int32) then ((FM_isWord (18 : Int32) (1 : Int32) (9 : Int32) (14 : Int32) (0 : Int32) (0 : Int32) (s4.2)).bind fun s7 => if s7.1 = (0 : Int32) then ((FM_isWord (18 : Int32) (5 : Int32) (19 : Int32) (20 : Int32) (0 : Int32) (0 : Int32) (s7.2)).bind fun s10 => if s10.1 = (0 : Int32) then ((FM_isWord (2 : Int32) (18 : Int32) (9 : Int32) (2 : Int32) (5 : Int32) (0 : Int32) (s10.2)).bind fun s13 => if s13.1 = (0 : Int32) then ((FM_isWord (1 : Int32) (7 : Int32) (1 : Int32) (9 : Int32) (14 : Int32) (0 : Int32) (s13.2)).bind fun s16 => if s16.1 = (0 : Int32) then (some (-1, s16.2)) else (some (5, s16.2))) else (some (4, s13.2))) else (some (3, s10.2))) else (some (2, s7.2))) else (some (1, s4.2))) else (some (0, s1.2))
set_option maxRecDepth 20000 in
theorem c_FM_stepHere {l : Launch} {C : gC} (hC : g_ctx l C)   (M : gM) (sz d : Nat) (hd : 5 ≤ d) (R : Int32 × gM) (hr : FM_stepHere M = some R) : gPg l C qX12_stepHere d [.ref (464)] 956 g_S0 M sz (qI R) := by
  refine gPg.of (ls := [(0, .ref (464))]) (by decide +kernel) (Nat.le_of_ble_eq_true rfl) rfl ?_
  unfold FM_stepHere at hr
  refine gb_run 7 (pc2 := 10) (ls2 := [(0, .ref (464))]) (st2 := [.int (0), .int (0), .int (5), .int (22), .int (9), .int (7), .ref (464)]) (M2 := M) hC hqX12_stepHere rfl ?_
  obtain ⟨s1, es1, hr⟩ := g_bd hr
  refine gz_cV (z := qX12_isWord) (a := 464) (av := [.int (7), .int (9), .int (22), .int (5), .int (0), .int (0)]) (rest := []) (pl := 1575) hC hqX12_stepHere rfl kX12_isWord sX12_isWord (by decide +kernel) (c_FM_isWord hC (7 : Int32) (9 : Int32) (22 : Int32) (5 : Int32) (0 : Int32) (0 : Int32)  M sz (d - 1) (by omega) s1 es1) (by omega) ⟨rfl, rfl⟩ rfl (Nat.le_of_ble_eq_true rfl) (Nat.le_of_ble_eq_true rfl) rfl rfl rfl (Nat.le_of_ble_eq_true rfl) ⟨Nat.le_of_ble_eq_true rfl, Nat.le_of_ble_eq_true rfl⟩ (gs_Z fun z2 => ?_)
  refine gb_if_eq hqX12_stepHere rfl (fun h3 => ?_) (fun h3 => ?_)
  ·
    have hr := g_if1 h3 hr
    refine gb_run 7 (pc2 := 29) (ls2 := [(0, .ref (464))]) (st2 := [.int (0), .int (0), .int (12), .int (12), .int (15), .int (18), .ref (464)]) (M2 := s1.2) hC hqX12_stepHere rfl ?_
    obtain ⟨s4, es4, hr⟩ := g_bd hr
    refine gz_cV (z := qX12_isWord) (a := 464) (av := [.int (18), .int (15), .int (12), .int (12), .int (0), .int (0)]) (rest := []) (pl := 1575) hC hqX12_stepHere rfl kX12_isWord sX12_isWord (by decide +kernel) (c_FM_isWord hC (18 : Int32) (15 : Int32) (12 : Int32) (12 : Int32) (0 : Int32) (0 : Int32)  (s1.2) sz (d - 1) (by omega) s4 es4) (by omega) ⟨rfl, rfl⟩ rfl (Nat.le_of_ble_eq_true rfl) (Nat.le_of_ble_eq_true rfl) rfl rfl rfl (Nat.le_of_ble_eq_true rfl) ⟨Nat.le_of_ble_eq_true rfl, Nat.le_of_ble_eq_true rfl⟩ (gs_Z fun z5 => ?_)
    refine gb_if_eq hqX12_stepHere rfl (fun h6 => ?_) (fun h6 => ?_)
    ·
      have hr := g_if1 h6 hr
      refine gb_run 7 (pc2 := 47) (ls2 := [(0, .ref (464))]) (st2 := [.int (0), .int (0), .int (14), .int (9), .int (1), .int (18), .ref (464)]) (M2 := s4.2) hC hqX12_stepHere rfl ?_
      obtain ⟨s7, es7, hr⟩ := g_bd hr
      refine gz_cV (z := qX12_isWord) (a := 464) (av := [.int (18), .int (1), .int (9), .int (14), .int (0), .int (0)]) (rest := []) (pl := 1575) hC hqX12_stepHere rfl kX12_isWord sX12_isWord (by decide +kernel) (c_FM_isWord hC (18 : Int32) (1 : Int32) (9 : Int32) (14 : Int32) (0 : Int32) (0 : Int32)  (s4.2) sz (d - 1) (by omega) s7 es7) (by omega) ⟨rfl, rfl⟩ rfl (Nat.le_of_ble_eq_true rfl) (Nat.le_of_ble_eq_true rfl) rfl rfl rfl (Nat.le_of_ble_eq_true rfl) ⟨Nat.le_of_ble_eq_true rfl, Nat.le_of_ble_eq_true rfl⟩ (gs_Z fun z8 => ?_)
      refine gb_if_eq hqX12_stepHere rfl (fun h9 => ?_) (fun h9 => ?_)
      ·
        have hr := g_if1 h9 hr
        refine gb_run 7 (pc2 := 65) (ls2 := [(0, .ref (464))]) (st2 := [.int (0), .int (0), .int (20), .int (19), .int (5), .int (18), .ref (464)]) (M2 := s7.2) hC hqX12_stepHere rfl ?_
        obtain ⟨s10, es10, hr⟩ := g_bd hr
        refine gz_cV (z := qX12_isWord) (a := 464) (av := [.int (18), .int (5), .int (19), .int (20), .int (0), .int (0)]) (rest := []) (pl := 1575) hC hqX12_stepHere rfl kX12_isWord sX12_isWord (by decide +kernel) (c_FM_isWord hC (18 : Int32) (5 : Int32) (19 : Int32) (20 : Int32) (0 : Int32) (0 : Int32)  (s7.2) sz (d - 1) (by omega) s10 es10) (by omega) ⟨rfl, rfl⟩ rfl (Nat.le_of_ble_eq_true rfl) (Nat.le_of_ble_eq_true rfl) rfl rfl rfl (Nat.le_of_ble_eq_true rfl) ⟨Nat.le_of_ble_eq_true rfl, Nat.le_of_ble_eq_true rfl⟩ (gs_Z fun z11 => ?_)
        refine gb_if_eq hqX12_stepHere rfl (fun h12 => ?_) (fun h12 => ?_)
        ·
          have hr := g_if1 h12 hr
          refine gb_run 7 (pc2 := 82) (ls2 := [(0, .ref (464))]) (st2 := [.int (0), .int (5), .int (2), .int (9), .int (18), .int (2), .ref (464)]) (M2 := s10.2) hC hqX12_stepHere rfl ?_
          obtain ⟨s13, es13, hr⟩ := g_bd hr
          refine gz_cV (z := qX12_isWord) (a := 464) (av := [.int (2), .int (18), .int (9), .int (2), .int (5), .int (0)]) (rest := []) (pl := 1575) hC hqX12_stepHere rfl kX12_isWord sX12_isWord (by decide +kernel) (c_FM_isWord hC (2 : Int32) (18 : Int32) (9 : Int32) (2 : Int32) (5 : Int32) (0 : Int32)  (s10.2) sz (d - 1) (by omega) s13 es13) (by omega) ⟨rfl, rfl⟩ rfl (Nat.le_of_ble_eq_true rfl) (Nat.le_of_ble_eq_true rfl) rfl rfl rfl (Nat.le_of_ble_eq_true rfl) ⟨Nat.le_of_ble_eq_true rfl, Nat.le_of_ble_eq_true rfl⟩ (gs_Z fun z14 => ?_)
          refine gb_if_eq hqX12_stepHere rfl (fun h15 => ?_) (fun h15 => ?_)
          ·
            have hr := g_if1 h15 hr
            refine gb_run 7 (pc2 := 100) (ls2 := [(0, .ref (464))]) (st2 := [.int (0), .int (14), .int (9), .int (1), .int (7), .int (1), .ref (464)]) (M2 := s13.2) hC hqX12_stepHere rfl ?_
            obtain ⟨s16, es16, hr⟩ := g_bd hr
            refine gz_cV (z := qX12_isWord) (a := 464) (av := [.int (1), .int (7), .int (1), .int (9), .int (14), .int (0)]) (rest := []) (pl := 1575) hC hqX12_stepHere rfl kX12_isWord sX12_isWord (by decide +kernel) (c_FM_isWord hC (1 : Int32) (7 : Int32) (1 : Int32) (9 : Int32) (14 : Int32) (0 : Int32)  (s13.2) sz (d - 1) (by omega) s16 es16) (by omega) ⟨rfl, rfl⟩ rfl (Nat.le_of_ble_eq_true rfl) (Nat.le_of_ble_eq_true rfl) rfl rfl rfl (Nat.le_of_ble_eq_true rfl) ⟨Nat.le_of_ble_eq_true rfl, Nat.le_of_ble_eq_true rfl⟩ (gs_Z fun z17 => ?_)
            refine gb_if_eq hqX12_stepHere rfl (fun h18 => ?_) (fun h18 => ?_)
            ·
              have hr := g_if1 h18 hr
              refine gb_run 1 (pc2 := 111) (ls2 := [(0, .ref (464))]) (st2 := [.int (-1)]) (M2 := s16.2) hC hqX12_stepHere rfl ?_
              refine gb_iret hqX12_stepHere rfl rfl (Nat.le_of_ble_eq_true rfl) (Nat.le_of_ble_eq_true rfl) ?_
              exact gl_I hr
            ·
              have hr := g_if0 h18 hr
              refine gb_run 2 (pc2 := 111) (ls2 := [(0, .ref (464))]) (st2 := [.int (5)]) (M2 := s16.2) hC hqX12_stepHere rfl ?_
              refine gb_iret hqX12_stepHere rfl rfl (Nat.le_of_ble_eq_true rfl) (Nat.le_of_ble_eq_true rfl) ?_
              exact gl_I hr
          ·
            have hr := g_if0 h15 hr
            refine gb_run 1 (pc2 := 89) (ls2 := [(0, .ref (464))]) (st2 := [.int (4)]) (M2 := s13.2) hC hqX12_stepHere rfl ?_
            refine gb_iret hqX12_stepHere rfl rfl (Nat.le_of_ble_eq_true rfl) (Nat.le_of_ble_eq_true rfl) ?_
            exact gl_I hr
        ·
          have hr := g_if0 h12 hr
          refine gb_run 1 (pc2 := 72) (ls2 := [(0, .ref (464))]) (st2 := [.int (3)]) (M2 := s10.2) hC hqX12_stepHere rfl ?_
          refine gb_iret hqX12_stepHere rfl rfl (Nat.le_of_ble_eq_true rfl) (Nat.le_of_ble_eq_true rfl) ?_
          exact gl_I hr
      ·
        have hr := g_if0 h9 hr
        refine gb_run 1 (pc2 := 54) (ls2 := [(0, .ref (464))]) (st2 := [.int (2)]) (M2 := s7.2) hC hqX12_stepHere rfl ?_
        refine gb_iret hqX12_stepHere rfl rfl (Nat.le_of_ble_eq_true rfl) (Nat.le_of_ble_eq_true rfl) ?_
        exact gl_I hr
    ·
      have hr := g_if0 h6 hr
      refine gb_run 1 (pc2 := 36) (ls2 := [(0, .ref (464))]) (st2 := [.int (1)]) (M2 := s4.2) hC hqX12_stepHere rfl ?_
      refine gb_iret hqX12_stepHere rfl rfl (Nat.le_of_ble_eq_true rfl) (Nat.le_of_ble_eq_true rfl) ?_
      exact gl_I hr
  ·
    have hr := g_if0 h3 hr
    refine gb_run 1 (pc2 := 17) (ls2 := [(0, .ref (464))]) (st2 := [.int (0)]) (M2 := s1.2) hC hqX12_stepHere rfl ?_
    refine gb_iret hqX12_stepHere rfl rfl (Nat.le_of_ble_eq_true rfl) (Nat.le_of_ble_eq_true rfl) ?_
    exact gl_I hr
def FM_readsStep_J205 (rreadsStep : gM → Option (gM)) (x2 : Nat) (M : gM) : Option (gM) :=
  g_let (g_set M x2 3 (M 464 28)) fun M1 => (FM_sign (59 : Int32) M1).bind fun s2 => some s2
set_option maxRecDepth 20000 in
theorem c_FM_readsStep_J205 {l : Launch} {C : gC} (hC : g_ctx l C) (sz d : Nat) (hd : 6 ≤ d) (rreadsStep : gM → Option (gM)) (hrreadsStep : ∀ (M : gM) (R : gM), rreadsStep M = some R → gPg l C qX12_readsStep (d - 1) [.ref (464)] 956 g_S0 M sz (qV R)) (R : gM) (x2 : Nat) (hx2 : g_ia 956 g_S0 x2 4) (M : gM) (hr : FM_readsStep_J205 rreadsStep x2 M = some R) : GW l C qX12_readsStep d (gQg 956 g_S0 (qV R) sz) gN 0 0 205 [(0, .ref (464)), (2, .ref (x2))] [] (956, g_S0, M, sz) := by
  unfold FM_readsStep_J205 at hr
  refine gb_run 4 (pc2 := 211) (ls2 := [(0, .ref (464)), (2, .ref (x2))]) (st2 := [.int (M 464 28), .int (3), .ref (x2)]) (M2 := M) hC hqX12_readsStep rfl ?_
  refine gb_iastore hC hqX12_readsStep rfl hx2.1 (g_S3 hx2.2.1 hx2.2.2) (by unfold vp_in; decide) ?_
  rw [show (3 : Int32).toNatClampNeg = 3 from rfl]
  refine g_letP (P := fun M1 => GW l C qX12_readsStep d (gQg 956 g_S0 (qV R) sz) gN 0 0 212 [(0, .ref (464)), (2, .ref (x2))] [] (956, g_S0, M1, sz)) hr (fun M1 hr => ?_)
  refine gb_run 2 (pc2 := 215) (ls2 := [(0, .ref (464)), (2, .ref (x2))]) (st2 := [.int (59), .ref (464)]) (M2 := M1) hC hqX12_readsStep rfl ?_
  obtain ⟨s2, es2, hr⟩ := g_bd hr
  refine gz_cV (z := qX12_sign) (a := 464) (av := [.int (59)]) (rest := []) (pl := 1605) hC hqX12_readsStep rfl kX12_sign sX12_sign (by decide +kernel) (c_FM_sign hC (59 : Int32)  M1 sz (d - 1) (by omega) s2 es2) (by omega) ⟨rfl, rfl⟩ rfl (Nat.le_of_ble_eq_true rfl) (Nat.le_of_ble_eq_true rfl) rfl rfl rfl (Nat.le_of_ble_eq_true rfl) ⟨Nat.le_of_ble_eq_true rfl, Nat.le_of_ble_eq_true rfl⟩ (gs_V ?_)
  refine gb_vret hqX12_readsStep rfl rfl (Nat.le_of_ble_eq_true rfl) (Nat.le_of_ble_eq_true rfl) ?_
  exact gl_V hr
def FM_readsStep_J189 (rreadsStep : gM → Option (gM)) (x2 : Nat) (M : gM) : Option (gM) :=
  (FM_sign (93 : Int32) M).bind fun s1 => FM_readsStep_J205 rreadsStep x2 (g_set s1 464 8 ((s1 464 8) - (1 : Int32)))
set_option maxRecDepth 20000 in
theorem c_FM_readsStep_J189 {l : Launch} {C : gC} (hC : g_ctx l C) (sz d : Nat) (hd : 6 ≤ d) (rreadsStep : gM → Option (gM)) (hrreadsStep : ∀ (M : gM) (R : gM), rreadsStep M = some R → gPg l C qX12_readsStep (d - 1) [.ref (464)] 956 g_S0 M sz (qV R)) (R : gM) (x2 : Nat) (hx2 : g_ia 956 g_S0 x2 4) (M : gM) (hr : FM_readsStep_J189 rreadsStep x2 M = some R) : GW l C qX12_readsStep d (gQg 956 g_S0 (qV R) sz) gN 0 0 189 [(0, .ref (464)), (2, .ref (x2))] [] (956, g_S0, M, sz) := by
  unfold FM_readsStep_J189 at hr
  refine gb_run 2 (pc2 := 192) (ls2 := [(0, .ref (464)), (2, .ref (x2))]) (st2 := [.int (93), .ref (464)]) (M2 := M) hC hqX12_readsStep rfl ?_
  obtain ⟨s1, es1, hr⟩ := g_bd hr
  refine gz_cV (z := qX12_sign) (a := 464) (av := [.int (93)]) (rest := []) (pl := 1605) hC hqX12_readsStep rfl kX12_sign sX12_sign (by decide +kernel) (c_FM_sign hC (93 : Int32)  M sz (d - 1) (by omega) s1 es1) (by omega) ⟨rfl, rfl⟩ rfl (Nat.le_of_ble_eq_true rfl) (Nat.le_of_ble_eq_true rfl) rfl rfl rfl (Nat.le_of_ble_eq_true rfl) ⟨Nat.le_of_ble_eq_true rfl, Nat.le_of_ble_eq_true rfl⟩ (gs_V ?_)
  refine gb_run 6 (pc2 := 205) (ls2 := [(0, .ref (464)), (2, .ref (x2))]) (st2 := []) (M2 := g_set s1 464 8 ((s1 464 8) - (1 : Int32))) hC hqX12_readsStep rfl ?_
  exact c_FM_readsStep_J205 hC sz d (by omega) rreadsStep hrreadsStep R x2 hx2 (g_set s1 464 8 ((s1 464 8) - (1 : Int32))) hr
def FM_readsStep_L158 (rreadsStep : gM → Option (gM)) : Nat → Nat → gM → Option (gM)
  | 0, _, _ => none
  | k + 1, x2, M =>
  if (M 464 5) = (0 : Int32) then ((FM_byteAt (M 464 4) M).bind fun s2 => if s2 = (93 : Int32) then (FM_readsStep_J189 rreadsStep x2 M) else ((rreadsStep M).bind fun s4 => (FM_blanks s4).bind fun s5 => FM_readsStep_L158 rreadsStep k x2 s5)) else (FM_readsStep_J189 rreadsStep x2 M)
set_option maxRecDepth 20000 in
theorem c_FM_readsStep_L158 {l : Launch} {C : gC} (hC : g_ctx l C) (sz d : Nat) (hd : 6 ≤ d) (rreadsStep : gM → Option (gM)) (hrreadsStep : ∀ (M : gM) (R : gM), rreadsStep M = some R → gPg l C qX12_readsStep (d - 1) [.ref (464)] 956 g_S0 M sz (qV R)) (R : gM) : ∀ (k : Nat) (x2 : Nat) (hx2 : g_ia 956 g_S0 x2 4) (M : gM), FM_readsStep_L158 rreadsStep k x2 M = some R → GW l C qX12_readsStep d (gQg 956 g_S0 (qV R) sz) gN 0 0 158 [(0, .ref (464)), (2, .ref (x2))] [] (956, g_S0, M, sz) := by
  intro k
  induction k with
  | zero => intro x2 hx2 M hr; exact nomatch (show (none : Option (gM)) = some R from hr)
  | succ k ih =>
    intro x2 hx2 M hr
    unfold FM_readsStep_L158 at hr
    refine gb_run 2 (pc2 := 162) (ls2 := [(0, .ref (464)), (2, .ref (x2))]) (st2 := [.int (M 464 5)]) (M2 := M) hC hqX12_readsStep rfl ?_
    refine gb_if_ne hqX12_readsStep rfl (fun h1 => ?_) (fun h1 => ?_)
    ·
      have hr := g_if0 h1 hr
      exact c_FM_readsStep_J189 hC sz d (by omega) rreadsStep hrreadsStep R x2 hx2 M hr
    ·
      have hr := g_if1 h1 hr
      refine gb_run 3 (pc2 := 170) (ls2 := [(0, .ref (464)), (2, .ref (x2))]) (st2 := [.int (M 464 4), .ref (464)]) (M2 := M) hC hqX12_readsStep rfl ?_
      obtain ⟨s2, es2, hr⟩ := g_bd hr
      refine gz_cV (z := qX12_byteAt) (a := 464) (av := [.int (M 464 4)]) (rest := []) (pl := 1563) hC hqX12_readsStep rfl kX12_byteAt sX12_byteAt (by decide +kernel) (c_FM_byteAt hC (M 464 4)  M sz (d - 1) (by omega) s2 es2) (by omega) ⟨rfl, rfl⟩ rfl (Nat.le_of_ble_eq_true rfl) (Nat.le_of_ble_eq_true rfl) rfl rfl rfl (Nat.le_of_ble_eq_true rfl) ⟨Nat.le_of_ble_eq_true rfl, Nat.le_of_ble_eq_true rfl⟩ (gs_Ip ?_)
      refine gb_run 1 (pc2 := 175) (ls2 := [(0, .ref (464)), (2, .ref (x2))]) (st2 := [.int (93), .int (s2)]) (M2 := M) hC hqX12_readsStep rfl ?_
      refine gb_icmp_eq hqX12_readsStep rfl (fun h3 => ?_) (fun h3 => ?_)
      ·
        have hr := g_if1 h3 hr
        exact c_FM_readsStep_J189 hC sz d (by omega) rreadsStep hrreadsStep R x2 hx2 M hr
      ·
        have hr := g_if0 h3 hr
        refine gb_run 1 (pc2 := 179) (ls2 := [(0, .ref (464)), (2, .ref (x2))]) (st2 := [.ref (464)]) (M2 := M) hC hqX12_readsStep rfl ?_
        obtain ⟨s4, es4, hr⟩ := g_bd hr
        refine gz_cV (z := qX12_readsStep) (a := 464) (av := []) (rest := []) (pl := 1664) hC hqX12_readsStep rfl kX12_readsStep sX12_readsStep (by decide +kernel) (hrreadsStep M s4 es4) (by omega) ⟨rfl, rfl⟩ rfl (Nat.le_of_ble_eq_true rfl) (Nat.le_of_ble_eq_true rfl) rfl rfl rfl (Nat.le_of_ble_eq_true rfl) ⟨Nat.le_of_ble_eq_true rfl, Nat.le_of_ble_eq_true rfl⟩ (gs_V ?_)
        refine gb_run 1 (pc2 := 183) (ls2 := [(0, .ref (464)), (2, .ref (x2))]) (st2 := [.ref (464)]) (M2 := s4) hC hqX12_readsStep rfl ?_
        obtain ⟨s5, es5, hr⟩ := g_bd hr
        refine gz_cV (z := qX12_blanks) (a := 464) (av := []) (rest := []) (pl := 1559) hC hqX12_readsStep rfl kX12_blanks sX12_blanks (by decide +kernel) (c_FM_blanks hC   s4 sz (d - 1) (by omega) s5 es5) (by omega) ⟨rfl, rfl⟩ rfl (Nat.le_of_ble_eq_true rfl) (Nat.le_of_ble_eq_true rfl) rfl rfl rfl (Nat.le_of_ble_eq_true rfl) ⟨Nat.le_of_ble_eq_true rfl, Nat.le_of_ble_eq_true rfl⟩ (gs_V ?_)
        refine gb_run 1 (pc2 := 158) (ls2 := [(0, .ref (464)), (2, .ref (x2))]) (st2 := []) (M2 := s5) hC hqX12_readsStep rfl ?_
        exact ih x2 hx2 s5 hr
def FM_readsStep_J133 (rreadsStep : gM → Option (gM)) (x1 : Int32) (x2 : Nat) (M : gM) : Option (gM) :=
  if x1 = (5 : Int32) then ((FM_number (0 : Int32) (60 : Int32) M).bind fun s2 => g_let (g_set (s2.2) x2 1 s2.1) fun M3 => (FM_sign (91 : Int32) M3).bind fun s4 => (FM_blanks s4).bind fun s5 => FM_readsStep_L158 rreadsStep 1000 x2 s5) else (FM_readsStep_J205 rreadsStep x2 M)
set_option maxRecDepth 20000 in
theorem c_FM_readsStep_J133 {l : Launch} {C : gC} (hC : g_ctx l C) (sz d : Nat) (hd : 6 ≤ d) (rreadsStep : gM → Option (gM)) (hrreadsStep : ∀ (M : gM) (R : gM), rreadsStep M = some R → gPg l C qX12_readsStep (d - 1) [.ref (464)] 956 g_S0 M sz (qV R)) (R : gM) (x1 : Int32) (x2 : Nat) (hx2 : g_ia 956 g_S0 x2 4) (M : gM) (hr : FM_readsStep_J133 rreadsStep x1 x2 M = some R) : GW l C qX12_readsStep d (gQg 956 g_S0 (qV R) sz) gN 0 0 133 [(0, .ref (464)), (1, .int (x1)), (2, .ref (x2))] [] (956, g_S0, M, sz) := by
  unfold FM_readsStep_J133 at hr
  refine gb_run 2 (pc2 := 135) (ls2 := [(0, .ref (464)), (1, .int (x1)), (2, .ref (x2))]) (st2 := [.int (5), .int (x1)]) (M2 := M) hC hqX12_readsStep rfl ?_
  refine gb_icmp_ne hqX12_readsStep rfl (fun h1 => ?_) (fun h1 => ?_)
  ·
    have hr := g_if0 h1 hr
    refine gw_pick [0, 2] (ls2 := [(0, .ref (464)), (2, .ref (x2))]) rfl ?_
    exact c_FM_readsStep_J205 hC sz d (by omega) rreadsStep hrreadsStep R x2 hx2 M hr
  ·
    have hr := g_if1 h1 hr
    refine gb_run 5 (pc2 := 144) (ls2 := [(0, .ref (464)), (1, .int (x1)), (2, .ref (x2))]) (st2 := [.int (60), .int (0), .ref (464), .int (1), .ref (x2)]) (M2 := M) hC hqX12_readsStep rfl ?_
    obtain ⟨s2, es2, hr⟩ := g_bd hr
    refine gz_cV (z := qX12_number) (a := 464) (av := [.int (0), .int (60)]) (rest := [.int (1), .ref (x2)]) (pl := 1597) hC hqX12_readsStep rfl kX12_number sX12_number (by decide +kernel) (c_FM_number hC (0 : Int32) (60 : Int32)  M sz (d - 1) (by omega) s2 es2) (by omega) ⟨rfl, rfl⟩ rfl (Nat.le_of_ble_eq_true rfl) (Nat.le_of_ble_eq_true rfl) rfl rfl rfl (Nat.le_of_ble_eq_true rfl) ⟨Nat.le_of_ble_eq_true rfl, Nat.le_of_ble_eq_true rfl⟩ (gs_I ?_)
    refine gb_iastore hC hqX12_readsStep rfl hx2.1 (g_S3 hx2.2.1 hx2.2.2) (by unfold vp_in; decide) ?_
    rw [show (1 : Int32).toNatClampNeg = 1 from rfl]
    refine g_letP (P := fun M3 => GW l C qX12_readsStep d (gQg 956 g_S0 (qV R) sz) gN 0 0 148 [(0, .ref (464)), (1, .int (x1)), (2, .ref (x2))] [] (956, g_S0, M3, sz)) hr (fun M3 hr => ?_)
    refine gb_run 2 (pc2 := 151) (ls2 := [(0, .ref (464)), (1, .int (x1)), (2, .ref (x2))]) (st2 := [.int (91), .ref (464)]) (M2 := M3) hC hqX12_readsStep rfl ?_
    obtain ⟨s4, es4, hr⟩ := g_bd hr
    refine gz_cV (z := qX12_sign) (a := 464) (av := [.int (91)]) (rest := []) (pl := 1605) hC hqX12_readsStep rfl kX12_sign sX12_sign (by decide +kernel) (c_FM_sign hC (91 : Int32)  M3 sz (d - 1) (by omega) s4 es4) (by omega) ⟨rfl, rfl⟩ rfl (Nat.le_of_ble_eq_true rfl) (Nat.le_of_ble_eq_true rfl) rfl rfl rfl (Nat.le_of_ble_eq_true rfl) ⟨Nat.le_of_ble_eq_true rfl, Nat.le_of_ble_eq_true rfl⟩ (gs_V ?_)
    refine gb_run 1 (pc2 := 155) (ls2 := [(0, .ref (464)), (1, .int (x1)), (2, .ref (x2))]) (st2 := [.ref (464)]) (M2 := s4) hC hqX12_readsStep rfl ?_
    obtain ⟨s5, es5, hr⟩ := g_bd hr
    refine gz_cV (z := qX12_blanks) (a := 464) (av := []) (rest := []) (pl := 1559) hC hqX12_readsStep rfl kX12_blanks sX12_blanks (by decide +kernel) (c_FM_blanks hC   s4 sz (d - 1) (by omega) s5 es5) (by omega) ⟨rfl, rfl⟩ rfl (Nat.le_of_ble_eq_true rfl) (Nat.le_of_ble_eq_true rfl) rfl rfl rfl (Nat.le_of_ble_eq_true rfl) ⟨Nat.le_of_ble_eq_true rfl, Nat.le_of_ble_eq_true rfl⟩ (gs_V ?_)
    refine gw_pick [0, 2] (ls2 := [(0, .ref (464)), (2, .ref (x2))]) rfl ?_
    exact c_FM_readsStep_L158 hC sz d (by omega) rreadsStep hrreadsStep R 1000 x2 hx2 s5 hr
def FM_readsStep_J118 (rreadsStep : gM → Option (gM)) (x1 : Int32) (x2 : Nat) (M : gM) : Option (gM) :=
  if x1 = (4 : Int32) then ((FM_number (1 : Int32) (9 : Int32) M).bind fun s2 => g_let (g_set (s2.2) x2 1 s2.1) fun M3 => FM_readsStep_J133 rreadsStep x1 x2 M3) else (FM_readsStep_J133 rreadsStep x1 x2 M)
set_option maxRecDepth 20000 in
theorem c_FM_readsStep_J118 {l : Launch} {C : gC} (hC : g_ctx l C) (sz d : Nat) (hd : 6 ≤ d) (rreadsStep : gM → Option (gM)) (hrreadsStep : ∀ (M : gM) (R : gM), rreadsStep M = some R → gPg l C qX12_readsStep (d - 1) [.ref (464)] 956 g_S0 M sz (qV R)) (R : gM) (x1 : Int32) (x2 : Nat) (hx2 : g_ia 956 g_S0 x2 4) (M : gM) (hr : FM_readsStep_J118 rreadsStep x1 x2 M = some R) : GW l C qX12_readsStep d (gQg 956 g_S0 (qV R) sz) gN 0 0 118 [(0, .ref (464)), (1, .int (x1)), (2, .ref (x2))] [] (956, g_S0, M, sz) := by
  unfold FM_readsStep_J118 at hr
  refine gb_run 2 (pc2 := 120) (ls2 := [(0, .ref (464)), (1, .int (x1)), (2, .ref (x2))]) (st2 := [.int (4), .int (x1)]) (M2 := M) hC hqX12_readsStep rfl ?_
  refine gb_icmp_ne hqX12_readsStep rfl (fun h1 => ?_) (fun h1 => ?_)
  ·
    have hr := g_if0 h1 hr
    exact c_FM_readsStep_J133 hC sz d (by omega) rreadsStep hrreadsStep R x1 x2 hx2 M hr
  ·
    have hr := g_if1 h1 hr
    refine gb_run 5 (pc2 := 129) (ls2 := [(0, .ref (464)), (1, .int (x1)), (2, .ref (x2))]) (st2 := [.int (9), .int (1), .ref (464), .int (1), .ref (x2)]) (M2 := M) hC hqX12_readsStep rfl ?_
    obtain ⟨s2, es2, hr⟩ := g_bd hr
    refine gz_cV (z := qX12_number) (a := 464) (av := [.int (1), .int (9)]) (rest := [.int (1), .ref (x2)]) (pl := 1597) hC hqX12_readsStep rfl kX12_number sX12_number (by decide +kernel) (c_FM_number hC (1 : Int32) (9 : Int32)  M sz (d - 1) (by omega) s2 es2) (by omega) ⟨rfl, rfl⟩ rfl (Nat.le_of_ble_eq_true rfl) (Nat.le_of_ble_eq_true rfl) rfl rfl rfl (Nat.le_of_ble_eq_true rfl) ⟨Nat.le_of_ble_eq_true rfl, Nat.le_of_ble_eq_true rfl⟩ (gs_I ?_)
    refine gb_iastore hC hqX12_readsStep rfl hx2.1 (g_S3 hx2.2.1 hx2.2.2) (by unfold vp_in; decide) ?_
    rw [show (1 : Int32).toNatClampNeg = 1 from rfl]
    refine g_letP (P := fun M3 => GW l C qX12_readsStep d (gQg 956 g_S0 (qV R) sz) gN 0 0 133 [(0, .ref (464)), (1, .int (x1)), (2, .ref (x2))] [] (956, g_S0, M3, sz)) hr (fun M3 hr => ?_)
    exact c_FM_readsStep_J133 hC sz d (by omega) rreadsStep hrreadsStep R x1 x2 hx2 M3 hr
def FM_readsStep_J102 (rreadsStep : gM → Option (gM)) (x1 : Int32) (x2 : Nat) (M : gM) : Option (gM) :=
  (FM_number (0 : Int32) ((M 468 1) - (1 : Int32)) M).bind fun s1 => g_let (g_set (s1.2) x2 2 s1.1) fun M2 => FM_readsStep_J118 rreadsStep x1 x2 M2
set_option maxRecDepth 20000 in
theorem c_FM_readsStep_J102 {l : Launch} {C : gC} (hC : g_ctx l C) (sz d : Nat) (hd : 6 ≤ d) (rreadsStep : gM → Option (gM)) (hrreadsStep : ∀ (M : gM) (R : gM), rreadsStep M = some R → gPg l C qX12_readsStep (d - 1) [.ref (464)] 956 g_S0 M sz (qV R)) (R : gM) (x1 : Int32) (x2 : Nat) (hx2 : g_ia 956 g_S0 x2 4) (M : gM) (hr : FM_readsStep_J102 rreadsStep x1 x2 M = some R) : GW l C qX12_readsStep d (gQg 956 g_S0 (qV R) sz) gN 0 0 102 [(0, .ref (464)), (1, .int (x1)), (2, .ref (x2))] [] (956, g_S0, M, sz) := by
  unfold FM_readsStep_J102 at hr
  refine gb_run 7 (pc2 := 111) (ls2 := [(0, .ref (464)), (1, .int (x1)), (2, .ref (x2))]) (st2 := [.int (1), .ref (468), .int (0), .ref (464), .int (2), .ref (x2)]) (M2 := M) hC hqX12_readsStep rfl ?_
  refine gb_iaload hC hqX12_readsStep rfl (Nat.le_of_ble_eq_true rfl) rfl (by unfold vp_in; decide) ?_
  rw [show (1 : Int32).toNatClampNeg = 1 from rfl]
  refine gb_run 2 (pc2 := 114) (ls2 := [(0, .ref (464)), (1, .int (x1)), (2, .ref (x2))]) (st2 := [.int ((M 468 1) - (1 : Int32)), .int (0), .ref (464), .int (2), .ref (x2)]) (M2 := M) hC hqX12_readsStep rfl ?_
  obtain ⟨s1, es1, hr⟩ := g_bd hr
  refine gz_cV (z := qX12_number) (a := 464) (av := [.int (0), .int ((M 468 1) - (1 : Int32))]) (rest := [.int (2), .ref (x2)]) (pl := 1597) hC hqX12_readsStep rfl kX12_number sX12_number (by decide +kernel) (c_FM_number hC (0 : Int32) ((M 468 1) - (1 : Int32))  M sz (d - 1) (by omega) s1 es1) (by omega) ⟨rfl, rfl⟩ rfl (Nat.le_of_ble_eq_true rfl) (Nat.le_of_ble_eq_true rfl) rfl rfl rfl (Nat.le_of_ble_eq_true rfl) ⟨Nat.le_of_ble_eq_true rfl, Nat.le_of_ble_eq_true rfl⟩ (gs_I ?_)
  refine gb_iastore hC hqX12_readsStep rfl hx2.1 (g_S3 hx2.2.1 hx2.2.2) (by unfold vp_in; decide) ?_
  rw [show (2 : Int32).toNatClampNeg = 2 from rfl]
  refine g_letP (P := fun M2 => GW l C qX12_readsStep d (gQg 956 g_S0 (qV R) sz) gN 0 0 118 [(0, .ref (464)), (1, .int (x1)), (2, .ref (x2))] [] (956, g_S0, M2, sz)) hr (fun M2 hr => ?_)
  exact c_FM_readsStep_J118 hC sz d (by omega) rreadsStep hrreadsStep R x1 x2 hx2 M2 hr
def FM_readsStep_J88 (rreadsStep : gM → Option (gM)) (x1 : Int32) (x2 : Nat) (M : gM) : Option (gM) :=
  if x1 = (0 : Int32) then (FM_readsStep_J102 rreadsStep x1 x2 M) else (if x1 = (3 : Int32) then (FM_readsStep_J102 rreadsStep x1 x2 M) else (if x1 = (4 : Int32) then (FM_readsStep_J102 rreadsStep x1 x2 M) else (FM_readsStep_J118 rreadsStep x1 x2 M)))
set_option maxRecDepth 20000 in
theorem c_FM_readsStep_J88 {l : Launch} {C : gC} (hC : g_ctx l C) (sz d : Nat) (hd : 6 ≤ d) (rreadsStep : gM → Option (gM)) (hrreadsStep : ∀ (M : gM) (R : gM), rreadsStep M = some R → gPg l C qX12_readsStep (d - 1) [.ref (464)] 956 g_S0 M sz (qV R)) (R : gM) (x1 : Int32) (x2 : Nat) (hx2 : g_ia 956 g_S0 x2 4) (M : gM) (hr : FM_readsStep_J88 rreadsStep x1 x2 M = some R) : GW l C qX12_readsStep d (gQg 956 g_S0 (qV R) sz) gN 0 0 88 [(0, .ref (464)), (1, .int (x1)), (2, .ref (x2))] [] (956, g_S0, M, sz) := by
  unfold FM_readsStep_J88 at hr
  refine gb_run 1 (pc2 := 89) (ls2 := [(0, .ref (464)), (1, .int (x1)), (2, .ref (x2))]) (st2 := [.int (x1)]) (M2 := M) hC hqX12_readsStep rfl ?_
  refine gb_if_eq hqX12_readsStep rfl (fun h1 => ?_) (fun h1 => ?_)
  ·
    have hr := g_if1 h1 hr
    exact c_FM_readsStep_J102 hC sz d (by omega) rreadsStep hrreadsStep R x1 x2 hx2 M hr
  ·
    have hr := g_if0 h1 hr
    refine gb_run 2 (pc2 := 94) (ls2 := [(0, .ref (464)), (1, .int (x1)), (2, .ref (x2))]) (st2 := [.int (3), .int (x1)]) (M2 := M) hC hqX12_readsStep rfl ?_
    refine gb_icmp_eq hqX12_readsStep rfl (fun h2 => ?_) (fun h2 => ?_)
    ·
      have hr := g_if1 h2 hr
      exact c_FM_readsStep_J102 hC sz d (by omega) rreadsStep hrreadsStep R x1 x2 hx2 M hr
    ·
      have hr := g_if0 h2 hr
      refine gb_run 2 (pc2 := 99) (ls2 := [(0, .ref (464)), (1, .int (x1)), (2, .ref (x2))]) (st2 := [.int (4), .int (x1)]) (M2 := M) hC hqX12_readsStep rfl ?_
      refine gb_icmp_ne hqX12_readsStep rfl (fun h3 => ?_) (fun h3 => ?_)
      ·
        have hr := g_if0 h3 hr
        exact c_FM_readsStep_J118 hC sz d (by omega) rreadsStep hrreadsStep R x1 x2 hx2 M hr
      ·
        have hr := g_if1 h3 hr
        exact c_FM_readsStep_J102 hC sz d (by omega) rreadsStep hrreadsStep R x1 x2 hx2 M hr
def FM_readsStep_J32 (rreadsStep : gM → Option (gM)) (x1 : Int32) (M : gM) : Option (gM) :=
  if (M 464 5) = (0 : Int32) then ((FM_skipWord M).bind fun s2 => g_ix (s2 464 28) 80 fun j3 => g_let (g_set (g_set s2 464 28 ((s2 464 28) + (1 : Int32))) (850 + j3) 0 x1) fun M4 => if x1 = (0 : Int32) then ((FM_number (0 : Int32) ((M4 468 2) - (1 : Int32)) M4).bind fun s6 => g_let (g_set (s6.2) (850 + j3) 1 s6.1) fun M7 => FM_readsStep_J88 rreadsStep x1 (850 + j3) M7) else (FM_readsStep_J88 rreadsStep x1 (850 + j3) M4)) else (some M)
set_option maxRecDepth 20000 in
theorem c_FM_readsStep_J32 {l : Launch} {C : gC} (hC : g_ctx l C) (sz d : Nat) (hd : 6 ≤ d) (rreadsStep : gM → Option (gM)) (hrreadsStep : ∀ (M : gM) (R : gM), rreadsStep M = some R → gPg l C qX12_readsStep (d - 1) [.ref (464)] 956 g_S0 M sz (qV R)) (R : gM) (x1 : Int32) (M : gM) (hr : FM_readsStep_J32 rreadsStep x1 M = some R) : GW l C qX12_readsStep d (gQg 956 g_S0 (qV R) sz) gN 0 0 32 [(0, .ref (464)), (1, .int (x1))] [] (956, g_S0, M, sz) := by
  unfold FM_readsStep_J32 at hr
  refine gb_run 2 (pc2 := 36) (ls2 := [(0, .ref (464)), (1, .int (x1))]) (st2 := [.int (M 464 5)]) (M2 := M) hC hqX12_readsStep rfl ?_
  refine gb_if_eq hqX12_readsStep rfl (fun h1 => ?_) (fun h1 => ?_)
  ·
    have hr := g_if1 h1 hr
    refine gb_run 1 (pc2 := 41) (ls2 := [(0, .ref (464)), (1, .int (x1))]) (st2 := [.ref (464)]) (M2 := M) hC hqX12_readsStep rfl ?_
    obtain ⟨s2, es2, hr⟩ := g_bd hr
    refine gz_cV (z := qX12_skipWord) (a := 464) (av := []) (rest := []) (pl := 1593) hC hqX12_readsStep rfl kX12_skipWord sX12_skipWord (by decide +kernel) (c_FM_skipWord hC   M sz (d - 1) (by omega) s2 es2) (by omega) ⟨rfl, rfl⟩ rfl (Nat.le_of_ble_eq_true rfl) (Nat.le_of_ble_eq_true rfl) rfl rfl rfl (Nat.le_of_ble_eq_true rfl) ⟨Nat.le_of_ble_eq_true rfl, Nat.le_of_ble_eq_true rfl⟩ (gs_V ?_)
    refine gb_run 4 (pc2 := 52) (ls2 := [(0, .ref (464)), (1, .int (x1))]) (st2 := [.int (s2 464 28), .ref (849)]) (M2 := s2) hC hqX12_readsStep rfl ?_
    obtain ⟨j3, ej3, ij3, lj3, hr⟩ := g_ixo hr
    have tj3 := g_t849 j3 lj3
    refine gz_aaload (k0 := 2) (q := 850 + j3) hC hqX12_readsStep rfl (Nat.le_of_ble_eq_true rfl) rfl (Nat.le_of_ble_eq_true rfl) ij3 ej3 tj3.1 ?_
    refine gb_run 10 (pc2 := 67) (ls2 := [(2, .ref (850 + j3)), (0, .ref (464)), (1, .int (x1))]) (st2 := [.int (x1), .int (0), .ref (850 + j3)]) (M2 := g_set s2 464 28 ((s2 464 28) + (1 : Int32))) hC hqX12_readsStep rfl ?_
    refine gb_iastore hC hqX12_readsStep rfl tj3.2.1 (g_S3 tj3.2.2.1 tj3.2.2.2) (by unfold vp_in; decide) ?_
    rw [show (0 : Int32).toNatClampNeg = 0 from rfl]
    refine g_letP (P := fun M4 => GW l C qX12_readsStep d (gQg 956 g_S0 (qV R) sz) gN 0 0 68 [(2, .ref (850 + j3)), (0, .ref (464)), (1, .int (x1))] [] (956, g_S0, M4, sz)) hr (fun M4 hr => ?_)
    refine gb_run 1 (pc2 := 69) (ls2 := [(2, .ref (850 + j3)), (0, .ref (464)), (1, .int (x1))]) (st2 := [.int (x1)]) (M2 := M4) hC hqX12_readsStep rfl ?_
    refine gb_if_ne hqX12_readsStep rfl (fun h5 => ?_) (fun h5 => ?_)
    ·
      have hr := g_if0 h5 hr
      refine gw_pick [1, 2, 0] (ls2 := [(0, .ref (464)), (1, .int (x1)), (2, .ref (850 + j3))]) rfl ?_
      exact c_FM_readsStep_J88 hC sz d (by omega) rreadsStep hrreadsStep R x1 (850 + j3) tj3.2 M4 hr
    ·
      have hr := g_if1 h5 hr
      refine gb_run 7 (pc2 := 81) (ls2 := [(2, .ref (850 + j3)), (0, .ref (464)), (1, .int (x1))]) (st2 := [.int (2), .ref (468), .int (0), .ref (464), .int (1), .ref (850 + j3)]) (M2 := M4) hC hqX12_readsStep rfl ?_
      refine gb_iaload hC hqX12_readsStep rfl (Nat.le_of_ble_eq_true rfl) rfl (by unfold vp_in; decide) ?_
      rw [show (2 : Int32).toNatClampNeg = 2 from rfl]
      refine gb_run 2 (pc2 := 84) (ls2 := [(2, .ref (850 + j3)), (0, .ref (464)), (1, .int (x1))]) (st2 := [.int ((M4 468 2) - (1 : Int32)), .int (0), .ref (464), .int (1), .ref (850 + j3)]) (M2 := M4) hC hqX12_readsStep rfl ?_
      obtain ⟨s6, es6, hr⟩ := g_bd hr
      refine gz_cV (z := qX12_number) (a := 464) (av := [.int (0), .int ((M4 468 2) - (1 : Int32))]) (rest := [.int (1), .ref (850 + j3)]) (pl := 1597) hC hqX12_readsStep rfl kX12_number sX12_number (by decide +kernel) (c_FM_number hC (0 : Int32) ((M4 468 2) - (1 : Int32))  M4 sz (d - 1) (by omega) s6 es6) (by omega) ⟨rfl, rfl⟩ rfl (Nat.le_of_ble_eq_true rfl) (Nat.le_of_ble_eq_true rfl) rfl rfl rfl (Nat.le_of_ble_eq_true rfl) ⟨Nat.le_of_ble_eq_true rfl, Nat.le_of_ble_eq_true rfl⟩ (gs_I ?_)
      refine gb_iastore hC hqX12_readsStep rfl tj3.2.1 (g_S3 tj3.2.2.1 tj3.2.2.2) (by unfold vp_in; decide) ?_
      rw [show (1 : Int32).toNatClampNeg = 1 from rfl]
      refine g_letP (P := fun M7 => GW l C qX12_readsStep d (gQg 956 g_S0 (qV R) sz) gN 0 0 88 [(2, .ref (850 + j3)), (0, .ref (464)), (1, .int (x1))] [] (956, g_S0, M7, sz)) hr (fun M7 hr => ?_)
      refine gw_pick [1, 2, 0] (ls2 := [(0, .ref (464)), (1, .int (x1)), (2, .ref (850 + j3))]) rfl ?_
      exact c_FM_readsStep_J88 hC sz d (by omega) rreadsStep hrreadsStep R x1 (850 + j3) tj3.2 M7 hr
  ·
    have hr := g_if0 h1 hr
    refine gb_vret hqX12_readsStep rfl rfl (Nat.le_of_ble_eq_true rfl) (Nat.le_of_ble_eq_true rfl) ?_
    exact gl_V hr
def FM_readsStep_J19 (rreadsStep : gM → Option (gM)) (x1 : Int32) (M : gM) : Option (gM) :=
  if x1 = (5 : Int32) then ((FM_opensOne M).bind fun s2 => if s2.1 = (0 : Int32) then (some (s2.2)) else (FM_readsStep_J32 rreadsStep x1 (s2.2))) else (FM_readsStep_J32 rreadsStep x1 M)
set_option maxRecDepth 20000 in
theorem c_FM_readsStep_J19 {l : Launch} {C : gC} (hC : g_ctx l C) (sz d : Nat) (hd : 6 ≤ d) (rreadsStep : gM → Option (gM)) (hrreadsStep : ∀ (M : gM) (R : gM), rreadsStep M = some R → gPg l C qX12_readsStep (d - 1) [.ref (464)] 956 g_S0 M sz (qV R)) (R : gM) (x1 : Int32) (M : gM) (hr : FM_readsStep_J19 rreadsStep x1 M = some R) : GW l C qX12_readsStep d (gQg 956 g_S0 (qV R) sz) gN 0 0 19 [(0, .ref (464)), (1, .int (x1))] [] (956, g_S0, M, sz) := by
  unfold FM_readsStep_J19 at hr
  refine gb_run 2 (pc2 := 21) (ls2 := [(0, .ref (464)), (1, .int (x1))]) (st2 := [.int (5), .int (x1)]) (M2 := M) hC hqX12_readsStep rfl ?_
  refine gb_icmp_ne hqX12_readsStep rfl (fun h1 => ?_) (fun h1 => ?_)
  ·
    have hr := g_if0 h1 hr
    exact c_FM_readsStep_J32 hC sz d (by omega) rreadsStep hrreadsStep R x1 M hr
  ·
    have hr := g_if1 h1 hr
    refine gb_run 1 (pc2 := 25) (ls2 := [(0, .ref (464)), (1, .int (x1))]) (st2 := [.ref (464)]) (M2 := M) hC hqX12_readsStep rfl ?_
    obtain ⟨s2, es2, hr⟩ := g_bd hr
    refine gz_cV (z := qX12_opensOne) (a := 464) (av := []) (rest := []) (pl := 1629) hC hqX12_readsStep rfl kX12_opensOne sX12_opensOne (by decide +kernel) (c_FM_opensOne hC   M sz (d - 1) (by omega) s2 es2) (by omega) ⟨rfl, rfl⟩ rfl (Nat.le_of_ble_eq_true rfl) (Nat.le_of_ble_eq_true rfl) rfl rfl rfl (Nat.le_of_ble_eq_true rfl) ⟨Nat.le_of_ble_eq_true rfl, Nat.le_of_ble_eq_true rfl⟩ (gs_Z fun z3 => ?_)
    refine gb_if_ne hqX12_readsStep rfl (fun h4 => ?_) (fun h4 => ?_)
    ·
      have hr := g_if0 h4 hr
      exact c_FM_readsStep_J32 hC sz d (by omega) rreadsStep hrreadsStep R x1 (s2.2) hr
    ·
      have hr := g_if1 h4 hr
      refine gb_vret hqX12_readsStep rfl rfl (Nat.le_of_ble_eq_true rfl) (Nat.le_of_ble_eq_true rfl) ?_
      exact gl_V hr
def FM_readsStep_B (rreadsStep : gM → Option (gM))  (M : gM) : Option (gM) :=
  (FM_stepHere M).bind fun s1 => if s1.1 = (-1 : Int32) then ((FM_wrong (1 : Int32) ((s1.2) 464 4) (s1.2)).bind fun s3 => FM_readsStep_J19 rreadsStep s1.1 s3) else (FM_readsStep_J19 rreadsStep s1.1 (s1.2))
set_option maxRecDepth 20000 in
theorem c_FM_readsStep_B {l : Launch} {C : gC} (hC : g_ctx l C)   (M : gM) (sz d : Nat) (hd : 6 ≤ d) (rreadsStep : gM → Option (gM)) (hrreadsStep : ∀ (M : gM) (R : gM), rreadsStep M = some R → gPg l C qX12_readsStep (d - 1) [.ref (464)] 956 g_S0 M sz (qV R)) (R : gM) (hr : FM_readsStep_B rreadsStep M = some R) : gPg l C qX12_readsStep d [.ref (464)] 956 g_S0 M sz (qV R) := by
  refine gPg.of (ls := [(0, .ref (464))]) (by decide +kernel) (Nat.le_of_ble_eq_true rfl) rfl ?_
  unfold FM_readsStep_B at hr
  refine gb_run 1 (pc2 := 1) (ls2 := [(0, .ref (464))]) (st2 := [.ref (464)]) (M2 := M) hC hqX12_readsStep rfl ?_
  obtain ⟨s1, es1, hr⟩ := g_bd hr
  refine gz_cV (z := qX12_stepHere) (a := 464) (av := []) (rest := []) (pl := 1668) hC hqX12_readsStep rfl kX12_stepHere sX12_stepHere (by decide +kernel) (c_FM_stepHere hC   M sz (d - 1) (by omega) s1 es1) (by omega) ⟨rfl, rfl⟩ rfl (Nat.le_of_ble_eq_true rfl) (Nat.le_of_ble_eq_true rfl) rfl rfl rfl (Nat.le_of_ble_eq_true rfl) ⟨Nat.le_of_ble_eq_true rfl, Nat.le_of_ble_eq_true rfl⟩ (gs_I ?_)
  refine gb_run 3 (pc2 := 7) (ls2 := [(1, .int (s1.1)), (0, .ref (464))]) (st2 := [.int (-1), .int (s1.1)]) (M2 := s1.2) hC hqX12_readsStep rfl ?_
  refine gb_icmp_ne hqX12_readsStep rfl (fun h2 => ?_) (fun h2 => ?_)
  ·
    have hr := g_if0 h2 hr
    refine gw_pick [1, 0] (ls2 := [(0, .ref (464)), (1, .int (s1.1))]) rfl ?_
    exact c_FM_readsStep_J19 hC sz d (by omega) rreadsStep hrreadsStep R s1.1 (s1.2) hr
  ·
    have hr := g_if1 h2 hr
    refine gb_run 4 (pc2 := 16) (ls2 := [(1, .int (s1.1)), (0, .ref (464))]) (st2 := [.int ((s1.2) 464 4), .int (1), .ref (464)]) (M2 := s1.2) hC hqX12_readsStep rfl ?_
    obtain ⟨s3, es3, hr⟩ := g_bd hr
    refine gz_cV (z := qX12_wrong) (a := 464) (av := [.int (1), .int ((s1.2) 464 4)]) (rest := []) (pl := 1589) hC hqX12_readsStep rfl kX12_wrong sX12_wrong (by decide +kernel) (c_FM_wrong hC (1 : Int32) ((s1.2) 464 4)  (s1.2) sz (d - 1) (by omega) s3 es3) (by omega) ⟨rfl, rfl⟩ rfl (Nat.le_of_ble_eq_true rfl) (Nat.le_of_ble_eq_true rfl) rfl rfl rfl (Nat.le_of_ble_eq_true rfl) ⟨Nat.le_of_ble_eq_true rfl, Nat.le_of_ble_eq_true rfl⟩ (gs_V ?_)
    refine gw_pick [1, 0] (ls2 := [(0, .ref (464)), (1, .int (s1.1))]) rfl ?_
    exact c_FM_readsStep_J19 hC sz d (by omega) rreadsStep hrreadsStep R s1.1 s3 hr
def FM_readsStep : Nat → gM → Option (gM)
  | 0, _ => none
  | f + 1, M => FM_readsStep_B (FM_readsStep f)  M
theorem FM_readsStep_s (f : Nat)  (M : gM) : FM_readsStep (f + 1)  M = FM_readsStep_B (FM_readsStep f)  M := rfl
theorem c_FM_readSteps {l : Launch} {C : gC} (hC : g_ctx l C) : ∀ f : Nat, (∀ (M : gM) (sz d : Nat) (R : gM), 6 + f ≤ d → FM_readsStep f  M = some R → gPg l C qX12_readsStep d [.ref (464)] 956 g_S0 M sz (qV R)) := by
  intro f
  induction f with
  | zero => exact fun  M sz d R _ hr => (nomatch (show (none : Option (gM)) = some R from hr))
  | succ f ih =>
    have g0 : ∀ (M : gM) (sz d : Nat) (R : gM), 6 + (f + 1) ≤ d → FM_readsStep_B (FM_readsStep f)  M = some R → gPg l C qX12_readsStep d [.ref (464)] 956 g_S0 M sz (qV R) :=
      fun  M sz d R hd hr => c_FM_readsStep_B hC   M sz d (by omega) (FM_readsStep f) (fun M R hr => ih M sz (d - 1) R (by omega) hr) R hr
    exact fun  M sz d R hd hr => g0  M sz d R hd hr
theorem c_FM_readsStep {l : Launch} {C : gC} (hC : g_ctx l C) (f : Nat)  (M : gM) (sz d : Nat) (hd : 6 + f ≤ d) (R : gM) (hr : FM_readsStep f  M = some R) : gPg l C qX12_readsStep d [.ref (464)] 956 g_S0 M sz (qV R) := (c_FM_readSteps hC f)  M sz d R hd hr
def FM_songs_J170 (n : Int32) (x2 : Int32) (M : gM) : Option (Int32 × gM) :=
  if (M 464 5) = (0 : Int32) then ((FM_laysS x2 (g_set (g_set M 464 3 (-1 : Int32)) 464 33 x2)).bind fun s2 => some (x2, s2)) else ((FM_ends M).bind fun s3 => some (s3.1, s3.2))
set_option maxRecDepth 20000 in
theorem c_FM_songs_J170 {l : Launch} {C : gC} (hC : g_ctx l C) (n : Int32) (sz d : Nat) (hd : 4 ≤ d) (R : Int32 × gM) (x2 : Int32) (M : gM) (hr : FM_songs_J170 n x2 M = some R) : GW l C qX12_songs d (gQg 956 g_S0 (qI R) sz) gN 0 0 170 [(0, .ref (464)), (2, .int (x2))] [] (956, g_S0, M, sz) := by
  unfold FM_songs_J170 at hr
  refine gb_run 2 (pc2 := 174) (ls2 := [(0, .ref (464)), (2, .int (x2))]) (st2 := [.int (M 464 5)]) (M2 := M) hC hqX12_songs rfl ?_
  refine gb_if_eq hqX12_songs rfl (fun h1 => ?_) (fun h1 => ?_)
  ·
    have hr := g_if1 h1 hr
    refine gb_run 11 (pc2 := 201) (ls2 := [(0, .ref (464)), (2, .int (x2))]) (st2 := [.int (x2), .ref (829), .ref (838)]) (M2 := g_set (g_set M 464 3 (-1 : Int32)) 464 33 x2) hC hqX12_songs rfl ?_
    obtain ⟨s2, es2, hr⟩ := g_bd hr
    refine gz_cS (z := qX12_lays) (av := [.ref (838), .ref (829), .int (x2)]) (rest := []) (pl := 1391) hC hqX12_songs rfl kX12_lays (by decide +kernel) (c_FM_laysS hC x2  (g_set (g_set M 464 3 (-1 : Int32)) 464 33 x2) sz (d - 1) (by omega) s2 es2) (by omega) ⟨rfl, rfl⟩ rfl rfl (Nat.le_of_ble_eq_true rfl) ⟨Nat.le_of_ble_eq_true rfl, Nat.le_of_ble_eq_true rfl⟩ (gs_V ?_)
    refine gb_run 1 (pc2 := 205) (ls2 := [(0, .ref (464)), (2, .int (x2))]) (st2 := [.int (x2)]) (M2 := s2) hC hqX12_songs rfl ?_
    refine gb_iret hqX12_songs rfl rfl (Nat.le_of_ble_eq_true rfl) (Nat.le_of_ble_eq_true rfl) ?_
    exact gl_I hr
  ·
    have hr := g_if0 h1 hr
    refine gb_run 1 (pc2 := 178) (ls2 := [(0, .ref (464)), (2, .int (x2))]) (st2 := [.ref (464)]) (M2 := M) hC hqX12_songs rfl ?_
    obtain ⟨s3, es3, hr⟩ := g_bd hr
    refine gz_cV (z := qX12_ends) (a := 464) (av := []) (rest := []) (pl := 1609) hC hqX12_songs rfl kX12_ends sX12_ends (by decide +kernel) (c_FM_ends hC   M sz (d - 1) (by omega) s3 es3) (by omega) ⟨rfl, rfl⟩ rfl (Nat.le_of_ble_eq_true rfl) (Nat.le_of_ble_eq_true rfl) rfl rfl rfl (Nat.le_of_ble_eq_true rfl) ⟨Nat.le_of_ble_eq_true rfl, Nat.le_of_ble_eq_true rfl⟩ (gs_I ?_)
    refine gb_iret hqX12_songs rfl rfl (Nat.le_of_ble_eq_true rfl) (Nat.le_of_ble_eq_true rfl) ?_
    exact gl_I hr
def FM_songs_J163 (n : Int32) (c48 : Int32 → Int32 → gM → Option (Int32 × gM)) (x2 : Int32) (x3 : Int32) (M : gM) : Option (Int32 × gM) :=
  (FM_blanks M).bind fun s1 => c48 x2 x3 s1
set_option maxRecDepth 20000 in
theorem c_FM_songs_J163 {l : Launch} {C : gC} (hC : g_ctx l C) (n : Int32) (sz d : Nat) (hd : 4 ≤ d) (R : Int32 × gM) (c48 : Int32 → Int32 → gM → Option (Int32 × gM)) (hc48 : ∀ (x2 : Int32) (x3 : Int32) (M : gM), c48 x2 x3 M = some R → GW l C qX12_songs d (gQg 956 g_S0 (qI R) sz) gN 0 0 48 [(0, .ref (464)), (2, .int (x2)), (3, .int (x3))] [] (956, g_S0, M, sz)) (x2 : Int32) (x3 : Int32) (M : gM) (hr : FM_songs_J163 n c48 x2 x3 M = some R) : GW l C qX12_songs d (gQg 956 g_S0 (qI R) sz) gN 0 0 163 [(0, .ref (464)), (2, .int (x2)), (3, .int (x3))] [] (956, g_S0, M, sz) := by
  unfold FM_songs_J163 at hr
  refine gb_run 1 (pc2 := 164) (ls2 := [(0, .ref (464)), (2, .int (x2)), (3, .int (x3))]) (st2 := [.ref (464)]) (M2 := M) hC hqX12_songs rfl ?_
  obtain ⟨s1, es1, hr⟩ := g_bd hr
  refine gz_cV (z := qX12_blanks) (a := 464) (av := []) (rest := []) (pl := 1559) hC hqX12_songs rfl kX12_blanks sX12_blanks (by decide +kernel) (c_FM_blanks hC   M sz (d - 1) (by omega) s1 es1) (by omega) ⟨rfl, rfl⟩ rfl (Nat.le_of_ble_eq_true rfl) (Nat.le_of_ble_eq_true rfl) rfl rfl rfl (Nat.le_of_ble_eq_true rfl) ⟨Nat.le_of_ble_eq_true rfl, Nat.le_of_ble_eq_true rfl⟩ (gs_V ?_)
  refine gb_run 1 (pc2 := 48) (ls2 := [(0, .ref (464)), (2, .int (x2)), (3, .int (x3))]) (st2 := []) (M2 := s1) hC hqX12_songs rfl ?_
  exact hc48 x2 x3 s1 hr
def FM_songs_J110 (n : Int32) (c48 : Int32 → Int32 → gM → Option (Int32 × gM)) (x2 : Int32) (x3 : Int32) (x5 : Int32) (M : gM) : Option (Int32 × gM) :=
  (FM_number (0 : Int32) (999 : Int32) M).bind fun s1 => (FM_sign (59 : Int32) (s1.2)).bind fun s2 => if (s2 464 5) = (0 : Int32) then (g_ix x2 8 fun j4 => g_let (g_set s2 (839 + j4) 0 x5) fun M5 => g_ix x2 8 fun j6 => g_let (g_set M5 (839 + j6) 1 s1.1) fun M7 => FM_songs_J163 n c48 (x2 + (1 : Int32)) (x3 ||| ((1 : Int32) <<< (x5 &&& 31))) M7) else (FM_songs_J163 n c48 x2 x3 s2)
set_option maxRecDepth 20000 in
theorem c_FM_songs_J110 {l : Launch} {C : gC} (hC : g_ctx l C) (n : Int32) (sz d : Nat) (hd : 4 ≤ d) (R : Int32 × gM) (c48 : Int32 → Int32 → gM → Option (Int32 × gM)) (hc48 : ∀ (x2 : Int32) (x3 : Int32) (M : gM), c48 x2 x3 M = some R → GW l C qX12_songs d (gQg 956 g_S0 (qI R) sz) gN 0 0 48 [(0, .ref (464)), (2, .int (x2)), (3, .int (x3))] [] (956, g_S0, M, sz)) (x2 : Int32) (x3 : Int32) (x5 : Int32) (M : gM) (hr : FM_songs_J110 n c48 x2 x3 x5 M = some R) : GW l C qX12_songs d (gQg 956 g_S0 (qI R) sz) gN 0 0 110 [(0, .ref (464)), (2, .int (x2)), (3, .int (x3)), (5, .int (x5))] [] (956, g_S0, M, sz) := by
  unfold FM_songs_J110 at hr
  refine gb_run 3 (pc2 := 115) (ls2 := [(0, .ref (464)), (2, .int (x2)), (3, .int (x3)), (5, .int (x5))]) (st2 := [.int (999), .int (0), .ref (464)]) (M2 := M) hC hqX12_songs rfl ?_
  obtain ⟨s1, es1, hr⟩ := g_bd hr
  refine gz_cV (z := qX12_number) (a := 464) (av := [.int (0), .int (999)]) (rest := []) (pl := 1597) hC hqX12_songs rfl kX12_number sX12_number (by decide +kernel) (c_FM_number hC (0 : Int32) (999 : Int32)  M sz (d - 1) (by omega) s1 es1) (by omega) ⟨rfl, rfl⟩ rfl (Nat.le_of_ble_eq_true rfl) (Nat.le_of_ble_eq_true rfl) rfl rfl rfl (Nat.le_of_ble_eq_true rfl) ⟨Nat.le_of_ble_eq_true rfl, Nat.le_of_ble_eq_true rfl⟩ (gs_I ?_)
  refine gb_run 3 (pc2 := 123) (ls2 := [(6, .int (s1.1)), (0, .ref (464)), (2, .int (x2)), (3, .int (x3)), (5, .int (x5))]) (st2 := [.int (59), .ref (464)]) (M2 := s1.2) hC hqX12_songs rfl ?_
  obtain ⟨s2, es2, hr⟩ := g_bd hr
  refine gz_cV (z := qX12_sign) (a := 464) (av := [.int (59)]) (rest := []) (pl := 1605) hC hqX12_songs rfl kX12_sign sX12_sign (by decide +kernel) (c_FM_sign hC (59 : Int32)  (s1.2) sz (d - 1) (by omega) s2 es2) (by omega) ⟨rfl, rfl⟩ rfl (Nat.le_of_ble_eq_true rfl) (Nat.le_of_ble_eq_true rfl) rfl rfl rfl (Nat.le_of_ble_eq_true rfl) ⟨Nat.le_of_ble_eq_true rfl, Nat.le_of_ble_eq_true rfl⟩ (gs_V ?_)
  refine gb_run 2 (pc2 := 130) (ls2 := [(6, .int (s1.1)), (0, .ref (464)), (2, .int (x2)), (3, .int (x3)), (5, .int (x5))]) (st2 := [.int (s2 464 5)]) (M2 := s2) hC hqX12_songs rfl ?_
  refine gb_if_ne hqX12_songs rfl (fun h3 => ?_) (fun h3 => ?_)
  ·
    have hr := g_if0 h3 hr
    refine gw_pick [1, 2, 3] (ls2 := [(0, .ref (464)), (2, .int (x2)), (3, .int (x3))]) rfl ?_
    exact c_FM_songs_J163 hC n sz d (by omega) R c48 hc48 x2 x3 s2 hr
  ·
    have hr := g_if1 h3 hr
    refine gb_run 9 (pc2 := 145) (ls2 := [(3, .int (x3 ||| ((1 : Int32) <<< (x5 &&& 31)))), (6, .int (s1.1)), (0, .ref (464)), (2, .int (x2)), (5, .int (x5))]) (st2 := [.int (x2), .ref (838)]) (M2 := s2) hC hqX12_songs rfl ?_
    obtain ⟨j4, ej4, ij4, lj4, hr⟩ := g_ixo hr
    have tj4 := g_t838 j4 lj4
    refine gz_aaload (k0 := 2) (q := 839 + j4) hC hqX12_songs rfl (Nat.le_of_ble_eq_true rfl) rfl (Nat.le_of_ble_eq_true rfl) ij4 ej4 tj4.1 ?_
    refine gb_run 2 (pc2 := 149) (ls2 := [(3, .int (x3 ||| ((1 : Int32) <<< (x5 &&& 31)))), (6, .int (s1.1)), (0, .ref (464)), (2, .int (x2)), (5, .int (x5))]) (st2 := [.int (x5), .int (0), .ref (839 + j4)]) (M2 := s2) hC hqX12_songs rfl ?_
    refine gb_iastore hC hqX12_songs rfl tj4.2.1 (g_S3 tj4.2.2.1 tj4.2.2.2) (by unfold vp_in; decide) ?_
    rw [show (0 : Int32).toNatClampNeg = 0 from rfl]
    refine g_letP (P := fun M5 => GW l C qX12_songs d (gQg 956 g_S0 (qI R) sz) gN 0 0 150 [(3, .int (x3 ||| ((1 : Int32) <<< (x5 &&& 31)))), (6, .int (s1.1)), (0, .ref (464)), (2, .int (x2)), (5, .int (x5))] [] (956, g_S0, M5, sz)) hr (fun M5 hr => ?_)
    refine gb_run 3 (pc2 := 155) (ls2 := [(3, .int (x3 ||| ((1 : Int32) <<< (x5 &&& 31)))), (6, .int (s1.1)), (0, .ref (464)), (2, .int (x2)), (5, .int (x5))]) (st2 := [.int (x2), .ref (838)]) (M2 := M5) hC hqX12_songs rfl ?_
    obtain ⟨j6, ej6, ij6, lj6, hr⟩ := g_ixo hr
    have tj6 := g_t838 j6 lj6
    refine gz_aaload (k0 := 2) (q := 839 + j6) hC hqX12_songs rfl (Nat.le_of_ble_eq_true rfl) rfl (Nat.le_of_ble_eq_true rfl) ij6 ej6 tj6.1 ?_
    refine gb_run 2 (pc2 := 159) (ls2 := [(3, .int (x3 ||| ((1 : Int32) <<< (x5 &&& 31)))), (6, .int (s1.1)), (0, .ref (464)), (2, .int (x2)), (5, .int (x5))]) (st2 := [.int (s1.1), .int (1), .ref (839 + j6)]) (M2 := M5) hC hqX12_songs rfl ?_
    refine gb_iastore hC hqX12_songs rfl tj6.2.1 (g_S3 tj6.2.2.1 tj6.2.2.2) (by unfold vp_in; decide) ?_
    rw [show (1 : Int32).toNatClampNeg = 1 from rfl]
    refine g_letP (P := fun M7 => GW l C qX12_songs d (gQg 956 g_S0 (qI R) sz) gN 0 0 160 [(3, .int (x3 ||| ((1 : Int32) <<< (x5 &&& 31)))), (6, .int (s1.1)), (0, .ref (464)), (2, .int (x2)), (5, .int (x5))] [] (956, g_S0, M7, sz)) hr (fun M7 hr => ?_)
    refine gb_run 1 (pc2 := 163) (ls2 := [(2, .int (x2 + (1 : Int32))), (3, .int (x3 ||| ((1 : Int32) <<< (x5 &&& 31)))), (6, .int (s1.1)), (0, .ref (464)), (5, .int (x5))]) (st2 := []) (M2 := M7) hC hqX12_songs rfl ?_
    refine gw_pick [3, 0, 1] (ls2 := [(0, .ref (464)), (2, .int (x2 + (1 : Int32))), (3, .int (x3 ||| ((1 : Int32) <<< (x5 &&& 31))))]) rfl ?_
    exact c_FM_songs_J163 hC n sz d (by omega) R c48 hc48 (x2 + (1 : Int32)) (x3 ||| ((1 : Int32) <<< (x5 &&& 31))) M7 hr
def FM_songs_L48 (n : Int32) : Nat → Int32 → Int32 → gM → Option (Int32 × gM)
  | 0, _, _, _ => none
  | k + 1, x2, x3, M =>
  if (M 464 5) = (0 : Int32) then (if (M 464 2) ≤ (M 464 4) then (FM_songs_J170 n x2 M) else ((FM_number (1 : Int32) ((M 468 0) - (1 : Int32)) M).bind fun s3 => if ((s3.2) 464 5) = (0 : Int32) then (if (FM_has x3 s3.1) = (0 : Int32) then (FM_songs_J110 n (FM_songs_L48 n k) x2 x3 s3.1 (s3.2)) else ((FM_wrong (2 : Int32) (M 464 4) (s3.2)).bind fun s8 => FM_songs_J110 n (FM_songs_L48 n k) x2 x3 s3.1 s8)) else (FM_songs_J110 n (FM_songs_L48 n k) x2 x3 s3.1 (s3.2)))) else (FM_songs_J170 n x2 M)
set_option maxRecDepth 20000 in
theorem c_FM_songs_L48 {l : Launch} {C : gC} (hC : g_ctx l C) (n : Int32) (sz d : Nat) (hd : 4 ≤ d) (R : Int32 × gM) : ∀ (k : Nat) (x2 : Int32) (x3 : Int32) (M : gM), FM_songs_L48 n k x2 x3 M = some R → GW l C qX12_songs d (gQg 956 g_S0 (qI R) sz) gN 0 0 48 [(0, .ref (464)), (2, .int (x2)), (3, .int (x3))] [] (956, g_S0, M, sz) := by
  intro k
  induction k with
  | zero => intro x2 x3 M hr; exact nomatch (show (none : Option (Int32 × gM)) = some R from hr)
  | succ k ih =>
    intro x2 x3 M hr
    unfold FM_songs_L48 at hr
    refine gb_run 2 (pc2 := 52) (ls2 := [(0, .ref (464)), (2, .int (x2)), (3, .int (x3))]) (st2 := [.int (M 464 5)]) (M2 := M) hC hqX12_songs rfl ?_
    refine gb_if_ne hqX12_songs rfl (fun h1 => ?_) (fun h1 => ?_)
    ·
      have hr := g_if0 h1 hr
      refine gw_pick [0, 1] (ls2 := [(0, .ref (464)), (2, .int (x2))]) rfl ?_
      exact c_FM_songs_J170 hC n sz d (by omega) R x2 M hr
    ·
      have hr := g_if1 h1 hr
      refine gb_run 4 (pc2 := 63) (ls2 := [(0, .ref (464)), (2, .int (x2)), (3, .int (x3))]) (st2 := [.int (M 464 2), .int (M 464 4)]) (M2 := M) hC hqX12_songs rfl ?_
      refine gb_icmp_ge hqX12_songs rfl (fun h2 => ?_) (fun h2 => ?_)
      ·
        have hr := g_if1 h2 hr
        refine gw_pick [0, 1] (ls2 := [(0, .ref (464)), (2, .int (x2))]) rfl ?_
        exact c_FM_songs_J170 hC n sz d (by omega) R x2 M hr
      ·
        have hr := g_if0 h2 hr
        refine gb_run 8 (pc2 := 79) (ls2 := [(4, .int (M 464 4)), (0, .ref (464)), (2, .int (x2)), (3, .int (x3))]) (st2 := [.int (0), .ref (468), .int (1), .ref (464)]) (M2 := M) hC hqX12_songs rfl ?_
        refine gb_iaload hC hqX12_songs rfl (Nat.le_of_ble_eq_true rfl) rfl (by unfold vp_in; decide) ?_
        rw [show (0 : Int32).toNatClampNeg = 0 from rfl]
        refine gb_run 2 (pc2 := 82) (ls2 := [(4, .int (M 464 4)), (0, .ref (464)), (2, .int (x2)), (3, .int (x3))]) (st2 := [.int ((M 468 0) - (1 : Int32)), .int (1), .ref (464)]) (M2 := M) hC hqX12_songs rfl ?_
        obtain ⟨s3, es3, hr⟩ := g_bd hr
        refine gz_cV (z := qX12_number) (a := 464) (av := [.int (1), .int ((M 468 0) - (1 : Int32))]) (rest := []) (pl := 1597) hC hqX12_songs rfl kX12_number sX12_number (by decide +kernel) (c_FM_number hC (1 : Int32) ((M 468 0) - (1 : Int32))  M sz (d - 1) (by omega) s3 es3) (by omega) ⟨rfl, rfl⟩ rfl (Nat.le_of_ble_eq_true rfl) (Nat.le_of_ble_eq_true rfl) rfl rfl rfl (Nat.le_of_ble_eq_true rfl) ⟨Nat.le_of_ble_eq_true rfl, Nat.le_of_ble_eq_true rfl⟩ (gs_I ?_)
        refine gb_run 3 (pc2 := 91) (ls2 := [(5, .int (s3.1)), (4, .int (M 464 4)), (0, .ref (464)), (2, .int (x2)), (3, .int (x3))]) (st2 := [.int ((s3.2) 464 5)]) (M2 := s3.2) hC hqX12_songs rfl ?_
        refine gb_if_ne hqX12_songs rfl (fun h4 => ?_) (fun h4 => ?_)
        ·
          have hr := g_if0 h4 hr
          refine gw_pick [2, 3, 4, 0] (ls2 := [(0, .ref (464)), (2, .int (x2)), (3, .int (x3)), (5, .int (s3.1))]) rfl ?_
          exact c_FM_songs_J110 hC n sz d (by omega) R (FM_songs_L48 n k) ih x2 x3 s3.1 (s3.2) hr
        ·
          have hr := g_if1 h4 hr
          refine gb_run 2 (pc2 := 97) (ls2 := [(5, .int (s3.1)), (4, .int (M 464 4)), (0, .ref (464)), (2, .int (x2)), (3, .int (x3))]) (st2 := [.int (s3.1), .int (x3)]) (M2 := s3.2) hC hqX12_songs rfl ?_
          refine gz_cS (z := qX12_has) (av := [.int (x3), .int (s3.1)]) (rest := []) (pl := 1653) hC hqX12_songs rfl kX12_has (by decide +kernel) (c_FM_has hC x3 s3.1  (s3.2) sz (d - 1) (by omega)) (by omega) ⟨rfl, rfl⟩ rfl rfl (Nat.le_of_ble_eq_true rfl) ⟨Nat.le_of_ble_eq_true rfl, Nat.le_of_ble_eq_true rfl⟩ (gs_Zp fun z6 => ?_)
          refine gb_if_eq hqX12_songs rfl (fun h7 => ?_) (fun h7 => ?_)
          ·
            have hr := g_if1 h7 hr
            refine gw_pick [2, 3, 4, 0] (ls2 := [(0, .ref (464)), (2, .int (x2)), (3, .int (x3)), (5, .int (s3.1))]) rfl ?_
            exact c_FM_songs_J110 hC n sz d (by omega) R (FM_songs_L48 n k) ih x2 x3 s3.1 (s3.2) hr
          ·
            have hr := g_if0 h7 hr
            refine gb_run 3 (pc2 := 107) (ls2 := [(5, .int (s3.1)), (4, .int (M 464 4)), (0, .ref (464)), (2, .int (x2)), (3, .int (x3))]) (st2 := [.int (M 464 4), .int (2), .ref (464)]) (M2 := s3.2) hC hqX12_songs rfl ?_
            obtain ⟨s8, es8, hr⟩ := g_bd hr
            refine gz_cV (z := qX12_wrong) (a := 464) (av := [.int (2), .int (M 464 4)]) (rest := []) (pl := 1589) hC hqX12_songs rfl kX12_wrong sX12_wrong (by decide +kernel) (c_FM_wrong hC (2 : Int32) (M 464 4)  (s3.2) sz (d - 1) (by omega) s8 es8) (by omega) ⟨rfl, rfl⟩ rfl (Nat.le_of_ble_eq_true rfl) (Nat.le_of_ble_eq_true rfl) rfl rfl rfl (Nat.le_of_ble_eq_true rfl) ⟨Nat.le_of_ble_eq_true rfl, Nat.le_of_ble_eq_true rfl⟩ (gs_V ?_)
            refine gw_pick [2, 3, 4, 0] (ls2 := [(0, .ref (464)), (2, .int (x2)), (3, .int (x3)), (5, .int (s3.1))]) rfl ?_
            exact c_FM_songs_J110 hC n sz d (by omega) R (FM_songs_L48 n k) ih x2 x3 s3.1 s8 hr
def FM_songs_J29 (n : Int32) (y0 : Int32) (M : gM) : Option (Int32 × gM) :=
  (FM_bad y0 (1 : Int32) (1 : Int32) M).bind fun s1 => if s1.1 = (0 : Int32) then ((FM_starts n (s1.2)).bind fun s4 => FM_songs_L48 n 1000 (0 : Int32) (0 : Int32) s4) else (some (0, s1.2))
set_option maxRecDepth 20000 in
theorem c_FM_songs_J29 {l : Launch} {C : gC} (hC : g_ctx l C) (n : Int32) (sz d : Nat) (hd : 4 ≤ d) (R : Int32 × gM) (y0 : Int32) (M : gM) (hr : FM_songs_J29 n y0 M = some R) : GW l C qX12_songs d (gQg 956 g_S0 (qI R) sz) gN 0 0 29 [(0, .ref (464)), (1, .int (n))] [.int (y0), .ref (464)] (956, g_S0, M, sz) := by
  unfold FM_songs_J29 at hr
  refine gb_run 2 (pc2 := 31) (ls2 := [(0, .ref (464)), (1, .int (n))]) (st2 := [.int (1), .int (1), .int (y0), .ref (464)]) (M2 := M) hC hqX12_songs rfl ?_
  obtain ⟨s1, es1, hr⟩ := g_bd hr
  refine gz_cV (z := qX12_bad) (a := 464) (av := [.int (y0), .int (1), .int (1)]) (rest := []) (pl := 1551) hC hqX12_songs rfl kX12_bad sX12_bad (by decide +kernel) (c_FM_bad hC y0 (1 : Int32) (1 : Int32)  M sz (d - 1) (by omega) s1 es1) (by omega) ⟨rfl, rfl⟩ rfl (Nat.le_of_ble_eq_true rfl) (Nat.le_of_ble_eq_true rfl) rfl rfl rfl (Nat.le_of_ble_eq_true rfl) ⟨Nat.le_of_ble_eq_true rfl, Nat.le_of_ble_eq_true rfl⟩ (gs_Z fun z2 => ?_)
  refine gb_if_eq hqX12_songs rfl (fun h3 => ?_) (fun h3 => ?_)
  ·
    have hr := g_if1 h3 hr
    refine gb_run 2 (pc2 := 41) (ls2 := [(0, .ref (464)), (1, .int (n))]) (st2 := [.int (n), .ref (464)]) (M2 := s1.2) hC hqX12_songs rfl ?_
    obtain ⟨s4, es4, hr⟩ := g_bd hr
    refine gz_cV (z := qX12_starts) (a := 464) (av := [.int (n)]) (rest := []) (pl := 1555) hC hqX12_songs rfl kX12_starts sX12_starts (by decide +kernel) (c_FM_starts hC n  (s1.2) sz (d - 1) (by omega) s4 es4) (by omega) ⟨rfl, rfl⟩ rfl (Nat.le_of_ble_eq_true rfl) (Nat.le_of_ble_eq_true rfl) rfl rfl rfl (Nat.le_of_ble_eq_true rfl) ⟨Nat.le_of_ble_eq_true rfl, Nat.le_of_ble_eq_true rfl⟩ (gs_V ?_)
    refine gb_run 4 (pc2 := 48) (ls2 := [(3, .int (0)), (2, .int (0)), (0, .ref (464)), (1, .int (n))]) (st2 := []) (M2 := s4) hC hqX12_songs rfl ?_
    refine gw_pick [2, 1, 0] (ls2 := [(0, .ref (464)), (2, .int (0)), (3, .int (0))]) rfl ?_
    exact c_FM_songs_L48 hC n sz d (by omega) R 1000 (0 : Int32) (0 : Int32) s4 hr
  ·
    have hr := g_if0 h3 hr
    refine gb_run 1 (pc2 := 38) (ls2 := [(0, .ref (464)), (1, .int (n))]) (st2 := [.int (0)]) (M2 := s1.2) hC hqX12_songs rfl ?_
    refine gb_iret hqX12_songs rfl rfl (Nat.le_of_ble_eq_true rfl) (Nat.le_of_ble_eq_true rfl) ?_
    exact gl_I hr
def FM_songs_J24 (n : Int32) (M : gM) : Option (Int32 × gM) :=
  FM_songs_J29 n (1 : Int32) M
set_option maxRecDepth 20000 in
theorem c_FM_songs_J24 {l : Launch} {C : gC} (hC : g_ctx l C) (n : Int32) (sz d : Nat) (hd : 4 ≤ d) (R : Int32 × gM) (M : gM) (hr : FM_songs_J24 n M = some R) : GW l C qX12_songs d (gQg 956 g_S0 (qI R) sz) gN 0 0 24 [(0, .ref (464)), (1, .int (n))] [.ref (464)] (956, g_S0, M, sz) := by
  unfold FM_songs_J24 at hr
  refine gb_run 2 (pc2 := 29) (ls2 := [(0, .ref (464)), (1, .int (n))]) (st2 := [.int (1), .ref (464)]) (M2 := M) hC hqX12_songs rfl ?_
  exact c_FM_songs_J29 hC n sz d (by omega) R (1 : Int32) M hr
def FM_songs (n : Int32) (M : gM) : Option (Int32 × gM) :=
  if (FM_in n (0 : Int32) (M 464 1)) = (0 : Int32) then (FM_songs_J24 n (g_set M 464 0 (0 : Int32))) else (if n ≤ (60 : Int32) then (FM_songs_J29 n (0 : Int32) (g_set M 464 0 (0 : Int32))) else (FM_songs_J24 n (g_set M 464 0 (0 : Int32))))
set_option maxRecDepth 20000 in
theorem c_FM_songs {l : Launch} {C : gC} (hC : g_ctx l C) (n : Int32)  (M : gM) (sz d : Nat) (hd : 4 ≤ d) (R : Int32 × gM) (hr : FM_songs n M = some R) : gPg l C qX12_songs d [.ref (464), .int (n)] 956 g_S0 M sz (qI R) := by
  refine gPg.of (ls := [(0, .ref (464)), (1, .int (n))]) (by decide +kernel) (Nat.le_of_ble_eq_true rfl) rfl ?_
  unfold FM_songs at hr
  refine gb_run 8 (pc2 := 12) (ls2 := [(0, .ref (464)), (1, .int (n))]) (st2 := [.int (M 464 1), .int (0), .int (n), .ref (464)]) (M2 := g_set M 464 0 (0 : Int32)) hC hqX12_songs rfl ?_
  refine gz_cS (z := qX12_in) (av := [.int (n), .int (0), .int (M 464 1)]) (rest := [.ref (464)]) (pl := 1548) hC hqX12_songs rfl kX12_in (by decide +kernel) (c_FM_in hC n (0 : Int32) (M 464 1)  (g_set M 464 0 (0 : Int32)) sz (d - 1) (by omega)) (by omega) ⟨rfl, rfl⟩ rfl rfl (Nat.le_of_ble_eq_true rfl) ⟨Nat.le_of_ble_eq_true rfl, Nat.le_of_ble_eq_true rfl⟩ (gs_Zp fun z2 => ?_)
  refine gb_if_eq hqX12_songs rfl (fun h3 => ?_) (fun h3 => ?_)
  ·
    have hr := g_if1 h3 hr
    exact c_FM_songs_J24 hC n sz d (by omega) R (g_set M 464 0 (0 : Int32)) hr
  ·
    have hr := g_if0 h3 hr
    refine gb_run 2 (pc2 := 21) (ls2 := [(0, .ref (464)), (1, .int (n))]) (st2 := [.int (60), .int (n), .ref (464)]) (M2 := g_set M 464 0 (0 : Int32)) hC hqX12_songs rfl ?_
    refine gb_icmp_le hqX12_songs rfl (fun h4 => ?_) (fun h4 => ?_)
    ·
      have hr := g_if1 h4 hr
      refine gb_run 1 (pc2 := 29) (ls2 := [(0, .ref (464)), (1, .int (n))]) (st2 := [.int (0), .ref (464)]) (M2 := g_set M 464 0 (0 : Int32)) hC hqX12_songs rfl ?_
      exact c_FM_songs_J29 hC n sz d (by omega) R (0 : Int32) (g_set M 464 0 (0 : Int32)) hr
    ·
      have hr := g_if0 h4 hr
      exact c_FM_songs_J24 hC n sz d (by omega) R (g_set M 464 0 (0 : Int32)) hr
def FM_fault  (M : gM) : Option (Int32 × gM) :=
  some (M 464 3, g_set M 464 0 (0 : Int32))
set_option maxRecDepth 20000 in
theorem c_FM_fault {l : Launch} {C : gC} (hC : g_ctx l C)   (M : gM) (sz d : Nat) (hd : 1 ≤ d) (R : Int32 × gM) (hr : FM_fault M = some R) : gPg l C qX12_fault d [.ref (464)] 956 g_S0 M sz (qI R) := by
  refine gPg.of (ls := [(0, .ref (464))]) (by decide +kernel) (Nat.le_of_ble_eq_true rfl) rfl ?_
  unfold FM_fault at hr
  refine gb_run 5 (pc2 := 9) (ls2 := [(0, .ref (464))]) (st2 := [.int (M 464 3)]) (M2 := g_set M 464 0 (0 : Int32)) hC hqX12_fault rfl ?_
  refine gb_iret hqX12_fault rfl rfl (Nat.le_of_ble_eq_true rfl) (Nat.le_of_ble_eq_true rfl) ?_
  exact gl_I hr
def FM_minutesBy (w : Int32) (c : Int32) (h : Int32) (t : Int32) (rain : Int32) (sweet : Int32) (M : gM) : Option (Int32 × gM) :=
  g_ix w 8 fun j1 => g_let (g_set M 848 0 (M (481 + j1) 0)) fun M2 => g_ix c 8 fun j3 => g_let (g_set M2 848 1 (M2 (499 + j3) 0)) fun M4 => g_ix c 8 fun j5 => g_let (g_set M4 848 2 (M4 (499 + j5) 1)) fun M6 => g_ix h 8 fun j7 => g_let (g_set M6 848 3 (M6 470 j7)) fun M8 => g_let (g_set M8 848 4 t) fun M9 => g_let (g_set M9 848 5 rain) fun M10 => g_let (g_set M10 848 6 w) fun M11 => g_let (g_set M11 848 7 h) fun M12 => g_let (g_set M12 848 8 sweet) fun M13 => (FM_byLaw M13).bind fun s14 => some (s14.1, s14.2)
set_option maxRecDepth 20000 in
theorem c_FM_minutesBy {l : Launch} {C : gC} (hC : g_ctx l C) (w : Int32) (c : Int32) (h : Int32) (t : Int32) (rain : Int32) (sweet : Int32)  (M : gM) (sz d : Nat) (hd : 4 ≤ d) (R : Int32 × gM) (hr : FM_minutesBy w c h t rain sweet M = some R) : gPg l C qX12_minutesBy d [.ref (464), .int (w), .int (c), .int (h), .int (t), .int (rain), .int (sweet)] 956 g_S0 M sz (qI R) := by
  refine gPg.of (ls := [(0, .ref (464)), (1, .int (w)), (2, .int (c)), (3, .int (h)), (4, .int (t)), (5, .int (rain)), (6, .int (sweet))]) (by decide +kernel) (Nat.le_of_ble_eq_true rfl) rfl ?_
  unfold FM_minutesBy at hr
  refine gb_run 6 (pc2 := 10) (ls2 := [(0, .ref (464)), (1, .int (w)), (2, .int (c)), (3, .int (h)), (4, .int (t)), (5, .int (rain)), (6, .int (sweet))]) (st2 := [.int (w), .ref (480), .int (0), .ref (848)]) (M2 := M) hC hqX12_minutesBy rfl ?_
  obtain ⟨j1, ej1, ij1, lj1, hr⟩ := g_ixo hr
  have tj1 := g_t480 j1 lj1
  refine gz_aaload (k0 := 2) (q := 481 + j1) hC hqX12_minutesBy rfl (Nat.le_of_ble_eq_true rfl) rfl (Nat.le_of_ble_eq_true rfl) ij1 ej1 tj1.1 ?_
  refine gb_run 1 (pc2 := 12) (ls2 := [(0, .ref (464)), (1, .int (w)), (2, .int (c)), (3, .int (h)), (4, .int (t)), (5, .int (rain)), (6, .int (sweet))]) (st2 := [.int (0), .ref (481 + j1), .int (0), .ref (848)]) (M2 := M) hC hqX12_minutesBy rfl ?_
  refine gb_iaload hC hqX12_minutesBy rfl tj1.2.1 (g_S3 tj1.2.2.1 tj1.2.2.2) (by unfold vp_in; decide) ?_
  rw [show (0 : Int32).toNatClampNeg = 0 from rfl]
  refine gb_iastore hC hqX12_minutesBy rfl (Nat.le_of_ble_eq_true rfl) rfl (by unfold vp_in; decide) ?_
  rw [show (0 : Int32).toNatClampNeg = 0 from rfl]
  refine g_letP (P := fun M2 => GW l C qX12_minutesBy d (gQg 956 g_S0 (qI R) sz) gN 0 0 14 [(0, .ref (464)), (1, .int (w)), (2, .int (c)), (3, .int (h)), (4, .int (t)), (5, .int (rain)), (6, .int (sweet))] [] (956, g_S0, M2, sz)) hr (fun M2 hr => ?_)
  refine gb_run 6 (pc2 := 24) (ls2 := [(0, .ref (464)), (1, .int (w)), (2, .int (c)), (3, .int (h)), (4, .int (t)), (5, .int (rain)), (6, .int (sweet))]) (st2 := [.int (c), .ref (498), .int (1), .ref (848)]) (M2 := M2) hC hqX12_minutesBy rfl ?_
  obtain ⟨j3, ej3, ij3, lj3, hr⟩ := g_ixo hr
  have tj3 := g_t498 j3 lj3
  refine gz_aaload (k0 := 2) (q := 499 + j3) hC hqX12_minutesBy rfl (Nat.le_of_ble_eq_true rfl) rfl (Nat.le_of_ble_eq_true rfl) ij3 ej3 tj3.1 ?_
  refine gb_run 1 (pc2 := 26) (ls2 := [(0, .ref (464)), (1, .int (w)), (2, .int (c)), (3, .int (h)), (4, .int (t)), (5, .int (rain)), (6, .int (sweet))]) (st2 := [.int (0), .ref (499 + j3), .int (1), .ref (848)]) (M2 := M2) hC hqX12_minutesBy rfl ?_
  refine gb_iaload hC hqX12_minutesBy rfl tj3.2.1 (g_S3 tj3.2.2.1 tj3.2.2.2) (by unfold vp_in; decide) ?_
  rw [show (0 : Int32).toNatClampNeg = 0 from rfl]
  refine gb_iastore hC hqX12_minutesBy rfl (Nat.le_of_ble_eq_true rfl) rfl (by unfold vp_in; decide) ?_
  rw [show (1 : Int32).toNatClampNeg = 1 from rfl]
  refine g_letP (P := fun M4 => GW l C qX12_minutesBy d (gQg 956 g_S0 (qI R) sz) gN 0 0 28 [(0, .ref (464)), (1, .int (w)), (2, .int (c)), (3, .int (h)), (4, .int (t)), (5, .int (rain)), (6, .int (sweet))] [] (956, g_S0, M4, sz)) hr (fun M4 hr => ?_)
  refine gb_run 6 (pc2 := 38) (ls2 := [(0, .ref (464)), (1, .int (w)), (2, .int (c)), (3, .int (h)), (4, .int (t)), (5, .int (rain)), (6, .int (sweet))]) (st2 := [.int (c), .ref (498), .int (2), .ref (848)]) (M2 := M4) hC hqX12_minutesBy rfl ?_
  obtain ⟨j5, ej5, ij5, lj5, hr⟩ := g_ixo hr
  have tj5 := g_t498 j5 lj5
  refine gz_aaload (k0 := 2) (q := 499 + j5) hC hqX12_minutesBy rfl (Nat.le_of_ble_eq_true rfl) rfl (Nat.le_of_ble_eq_true rfl) ij5 ej5 tj5.1 ?_
  refine gb_run 1 (pc2 := 40) (ls2 := [(0, .ref (464)), (1, .int (w)), (2, .int (c)), (3, .int (h)), (4, .int (t)), (5, .int (rain)), (6, .int (sweet))]) (st2 := [.int (1), .ref (499 + j5), .int (2), .ref (848)]) (M2 := M4) hC hqX12_minutesBy rfl ?_
  refine gb_iaload hC hqX12_minutesBy rfl tj5.2.1 (g_S3 tj5.2.2.1 tj5.2.2.2) (by unfold vp_in; decide) ?_
  rw [show (1 : Int32).toNatClampNeg = 1 from rfl]
  refine gb_iastore hC hqX12_minutesBy rfl (Nat.le_of_ble_eq_true rfl) rfl (by unfold vp_in; decide) ?_
  rw [show (2 : Int32).toNatClampNeg = 2 from rfl]
  refine g_letP (P := fun M6 => GW l C qX12_minutesBy d (gQg 956 g_S0 (qI R) sz) gN 0 0 42 [(0, .ref (464)), (1, .int (w)), (2, .int (c)), (3, .int (h)), (4, .int (t)), (5, .int (rain)), (6, .int (sweet))] [] (956, g_S0, M6, sz)) hr (fun M6 hr => ?_)
  refine gb_run 6 (pc2 := 52) (ls2 := [(0, .ref (464)), (1, .int (w)), (2, .int (c)), (3, .int (h)), (4, .int (t)), (5, .int (rain)), (6, .int (sweet))]) (st2 := [.int (h), .ref (470), .int (3), .ref (848)]) (M2 := M6) hC hqX12_minutesBy rfl ?_
  obtain ⟨j7, ej7, ij7, lj7, hr⟩ := g_ixo hr
  refine gz_iaload hC hqX12_minutesBy rfl (Nat.le_of_ble_eq_true rfl) rfl ij7 ej7 ?_
  refine gb_iastore hC hqX12_minutesBy rfl (Nat.le_of_ble_eq_true rfl) rfl (by unfold vp_in; decide) ?_
  rw [show (3 : Int32).toNatClampNeg = 3 from rfl]
  refine g_letP (P := fun M8 => GW l C qX12_minutesBy d (gQg 956 g_S0 (qI R) sz) gN 0 0 54 [(0, .ref (464)), (1, .int (w)), (2, .int (c)), (3, .int (h)), (4, .int (t)), (5, .int (rain)), (6, .int (sweet))] [] (956, g_S0, M8, sz)) hr (fun M8 hr => ?_)
  refine gb_run 4 (pc2 := 61) (ls2 := [(0, .ref (464)), (1, .int (w)), (2, .int (c)), (3, .int (h)), (4, .int (t)), (5, .int (rain)), (6, .int (sweet))]) (st2 := [.int (t), .int (4), .ref (848)]) (M2 := M8) hC hqX12_minutesBy rfl ?_
  refine gb_iastore hC hqX12_minutesBy rfl (Nat.le_of_ble_eq_true rfl) rfl (by unfold vp_in; decide) ?_
  rw [show (4 : Int32).toNatClampNeg = 4 from rfl]
  refine g_letP (P := fun M9 => GW l C qX12_minutesBy d (gQg 956 g_S0 (qI R) sz) gN 0 0 62 [(0, .ref (464)), (1, .int (w)), (2, .int (c)), (3, .int (h)), (4, .int (t)), (5, .int (rain)), (6, .int (sweet))] [] (956, g_S0, M9, sz)) hr (fun M9 hr => ?_)
  refine gb_run 4 (pc2 := 69) (ls2 := [(0, .ref (464)), (1, .int (w)), (2, .int (c)), (3, .int (h)), (4, .int (t)), (5, .int (rain)), (6, .int (sweet))]) (st2 := [.int (rain), .int (5), .ref (848)]) (M2 := M9) hC hqX12_minutesBy rfl ?_
  refine gb_iastore hC hqX12_minutesBy rfl (Nat.le_of_ble_eq_true rfl) rfl (by unfold vp_in; decide) ?_
  rw [show (5 : Int32).toNatClampNeg = 5 from rfl]
  refine g_letP (P := fun M10 => GW l C qX12_minutesBy d (gQg 956 g_S0 (qI R) sz) gN 0 0 70 [(0, .ref (464)), (1, .int (w)), (2, .int (c)), (3, .int (h)), (4, .int (t)), (5, .int (rain)), (6, .int (sweet))] [] (956, g_S0, M10, sz)) hr (fun M10 hr => ?_)
  refine gb_run 4 (pc2 := 77) (ls2 := [(0, .ref (464)), (1, .int (w)), (2, .int (c)), (3, .int (h)), (4, .int (t)), (5, .int (rain)), (6, .int (sweet))]) (st2 := [.int (w), .int (6), .ref (848)]) (M2 := M10) hC hqX12_minutesBy rfl ?_
  refine gb_iastore hC hqX12_minutesBy rfl (Nat.le_of_ble_eq_true rfl) rfl (by unfold vp_in; decide) ?_
  rw [show (6 : Int32).toNatClampNeg = 6 from rfl]
  refine g_letP (P := fun M11 => GW l C qX12_minutesBy d (gQg 956 g_S0 (qI R) sz) gN 0 0 78 [(0, .ref (464)), (1, .int (w)), (2, .int (c)), (3, .int (h)), (4, .int (t)), (5, .int (rain)), (6, .int (sweet))] [] (956, g_S0, M11, sz)) hr (fun M11 hr => ?_)
  refine gb_run 4 (pc2 := 85) (ls2 := [(0, .ref (464)), (1, .int (w)), (2, .int (c)), (3, .int (h)), (4, .int (t)), (5, .int (rain)), (6, .int (sweet))]) (st2 := [.int (h), .int (7), .ref (848)]) (M2 := M11) hC hqX12_minutesBy rfl ?_
  refine gb_iastore hC hqX12_minutesBy rfl (Nat.le_of_ble_eq_true rfl) rfl (by unfold vp_in; decide) ?_
  rw [show (7 : Int32).toNatClampNeg = 7 from rfl]
  refine g_letP (P := fun M12 => GW l C qX12_minutesBy d (gQg 956 g_S0 (qI R) sz) gN 0 0 86 [(0, .ref (464)), (1, .int (w)), (2, .int (c)), (3, .int (h)), (4, .int (t)), (5, .int (rain)), (6, .int (sweet))] [] (956, g_S0, M12, sz)) hr (fun M12 hr => ?_)
  refine gb_run 4 (pc2 := 94) (ls2 := [(0, .ref (464)), (1, .int (w)), (2, .int (c)), (3, .int (h)), (4, .int (t)), (5, .int (rain)), (6, .int (sweet))]) (st2 := [.int (sweet), .int (8), .ref (848)]) (M2 := M12) hC hqX12_minutesBy rfl ?_
  refine gb_iastore hC hqX12_minutesBy rfl (Nat.le_of_ble_eq_true rfl) rfl (by unfold vp_in; decide) ?_
  rw [show (8 : Int32).toNatClampNeg = 8 from rfl]
  refine g_letP (P := fun M13 => GW l C qX12_minutesBy d (gQg 956 g_S0 (qI R) sz) gN 0 0 95 [(0, .ref (464)), (1, .int (w)), (2, .int (c)), (3, .int (h)), (4, .int (t)), (5, .int (rain)), (6, .int (sweet))] [] (956, g_S0, M13, sz)) hr (fun M13 hr => ?_)
  refine gb_run 1 (pc2 := 96) (ls2 := [(0, .ref (464)), (1, .int (w)), (2, .int (c)), (3, .int (h)), (4, .int (t)), (5, .int (rain)), (6, .int (sweet))]) (st2 := [.ref (464)]) (M2 := M13) hC hqX12_minutesBy rfl ?_
  obtain ⟨s14, es14, hr⟩ := g_bd hr
  refine gz_cV (z := qX12_byLaw) (a := 464) (av := []) (rest := []) (pl := 1699) hC hqX12_minutesBy rfl kX12_byLaw sX12_byLaw (by decide +kernel) (c_FM_byLaw hC   M13 sz (d - 1) (by omega) s14 es14) (by omega) ⟨rfl, rfl⟩ rfl (Nat.le_of_ble_eq_true rfl) (Nat.le_of_ble_eq_true rfl) rfl rfl rfl (Nat.le_of_ble_eq_true rfl) ⟨Nat.le_of_ble_eq_true rfl, Nat.le_of_ble_eq_true rfl⟩ (gs_I ?_)
  refine gb_iret hqX12_minutesBy rfl rfl (Nat.le_of_ble_eq_true rfl) (Nat.le_of_ble_eq_true rfl) ?_
  exact gl_I hr
def FM_minutesOf (a : Nat) (w : Int32) (c : Int32) (h : Int32) (M : gM) : Option (Int32 × gM) :=
  g_ix ((8 : Int32) + c) 48 fun j1 => g_ix ((16 : Int32) + c) 48 fun j2 => (FM_minutesBy w c h (M a j1) (M a 45) (M a j2) M).bind fun s3 => some (s3.1, s3.2)
set_option maxRecDepth 20000 in
theorem c_FM_minutesOf {l : Launch} {C : gC} (hC : g_ctx l C) (a : Nat) (w : Int32) (c : Int32) (h : Int32) (ha : g_ia 956 g_S0 a 48) (M : gM) (sz d : Nat) (hd : 5 ≤ d) (R : Int32 × gM) (hr : FM_minutesOf a w c h M = some R) : gPg l C qX12_minutesOf d [.ref (464), .ref (a), .int (w), .int (c), .int (h)] 956 g_S0 M sz (qI R) := by
  refine gPg.of (ls := [(0, .ref (464)), (1, .ref (a)), (2, .int (w)), (3, .int (c)), (4, .int (h))]) (by decide +kernel) (Nat.le_of_ble_eq_true rfl) rfl ?_
  unfold FM_minutesOf at hr
  refine gb_run 8 (pc2 := 10) (ls2 := [(0, .ref (464)), (1, .ref (a)), (2, .int (w)), (3, .int (c)), (4, .int (h))]) (st2 := [.int ((8 : Int32) + c), .ref (a), .int (h), .int (c), .int (w), .ref (464)]) (M2 := M) hC hqX12_minutesOf rfl ?_
  obtain ⟨j1, ej1, ij1, lj1, hr⟩ := g_ixo hr
  refine gz_iaload hC hqX12_minutesOf rfl ha.1 (g_S3 ha.2.1 ha.2.2) ij1 ej1 ?_
  refine gb_run 2 (pc2 := 14) (ls2 := [(0, .ref (464)), (1, .ref (a)), (2, .int (w)), (3, .int (c)), (4, .int (h))]) (st2 := [.int (45), .ref (a), .int (M a j1), .int (h), .int (c), .int (w), .ref (464)]) (M2 := M) hC hqX12_minutesOf rfl ?_
  refine gb_iaload hC hqX12_minutesOf rfl ha.1 (g_S3 ha.2.1 ha.2.2) (by unfold vp_in; decide) ?_
  rw [show (45 : Int32).toNatClampNeg = 45 from rfl]
  refine gb_run 4 (pc2 := 20) (ls2 := [(0, .ref (464)), (1, .ref (a)), (2, .int (w)), (3, .int (c)), (4, .int (h))]) (st2 := [.int ((16 : Int32) + c), .ref (a), .int (M a 45), .int (M a j1), .int (h), .int (c), .int (w), .ref (464)]) (M2 := M) hC hqX12_minutesOf rfl ?_
  obtain ⟨j2, ej2, ij2, lj2, hr⟩ := g_ixo hr
  refine gz_iaload hC hqX12_minutesOf rfl ha.1 (g_S3 ha.2.1 ha.2.2) ij2 ej2 ?_
  obtain ⟨s3, es3, hr⟩ := g_bd hr
  refine gz_cV (z := qX12_minutesBy) (a := 464) (av := [.int (w), .int (c), .int (h), .int (M a j1), .int (M a 45), .int (M a j2)]) (rest := []) (pl := 1695) hC hqX12_minutesOf rfl kX12_minutesBy sX12_minutesBy (by decide +kernel) (c_FM_minutesBy hC w c h (M a j1) (M a 45) (M a j2)  M sz (d - 1) (by omega) s3 es3) (by omega) ⟨rfl, rfl⟩ rfl (Nat.le_of_ble_eq_true rfl) (Nat.le_of_ble_eq_true rfl) rfl rfl rfl (Nat.le_of_ble_eq_true rfl) ⟨Nat.le_of_ble_eq_true rfl, Nat.le_of_ble_eq_true rfl⟩ (gs_I ?_)
  refine gb_iret hqX12_minutesOf rfl rfl (Nat.le_of_ble_eq_true rfl) (Nat.le_of_ble_eq_true rfl) ?_
  exact gl_I hr
def FM_canRoll (a : Nat) (M : gM) : Option (Int32) :=
  if (M 468 0) ≤ (0 : Int32) then (some (0 : Int32)) else (if (M 468 2) ≤ (0 : Int32) then (some (0 : Int32)) else (g_ix ((0 : Int32) + (M a 40)) 48 fun j3 => if (M a j3) = (-1 : Int32) then (some (0 : Int32)) else (some (1 : Int32))))
set_option maxRecDepth 20000 in
theorem c_FM_canRoll {l : Launch} {C : gC} (hC : g_ctx l C) (a : Nat) (ha : g_ia 956 g_S0 a 48) (M : gM) (sz d : Nat) (hd : 1 ≤ d) (R : Int32) (hr : FM_canRoll a M = some R) : gPg l C qX12_canRoll d [.ref (464), .ref (a)] 956 g_S0 M sz (qZp M R) := by
  refine gPg.of (ls := [(0, .ref (464)), (1, .ref (a))]) (by decide +kernel) (Nat.le_of_ble_eq_true rfl) rfl ?_
  unfold FM_canRoll at hr
  refine gb_run 3 (pc2 := 5) (ls2 := [(0, .ref (464)), (1, .ref (a))]) (st2 := [.int (0), .ref (468)]) (M2 := M) hC hqX12_canRoll rfl ?_
  refine gb_iaload hC hqX12_canRoll rfl (Nat.le_of_ble_eq_true rfl) rfl (by unfold vp_in; decide) ?_
  rw [show (0 : Int32).toNatClampNeg = 0 from rfl]
  refine gb_if_le hqX12_canRoll rfl (fun h1 => ?_) (fun h1 => ?_)
  ·
    have hr := g_if1 h1 hr
    refine gb_run 1 (pc2 := 35) (ls2 := [(0, .ref (464)), (1, .ref (a))]) (st2 := [.int (0)]) (M2 := M) hC hqX12_canRoll rfl ?_
    refine gb_zret hqX12_canRoll rfl rfl (Nat.le_of_ble_eq_true rfl) (Nat.le_of_ble_eq_true rfl) (Or.inl rfl) ?_
    exact gl_Zp (Or.inl rfl) hr
  ·
    have hr := g_if0 h1 hr
    refine gb_run 3 (pc2 := 14) (ls2 := [(0, .ref (464)), (1, .ref (a))]) (st2 := [.int (2), .ref (468)]) (M2 := M) hC hqX12_canRoll rfl ?_
    refine gb_iaload hC hqX12_canRoll rfl (Nat.le_of_ble_eq_true rfl) rfl (by unfold vp_in; decide) ?_
    rw [show (2 : Int32).toNatClampNeg = 2 from rfl]
    refine gb_if_le hqX12_canRoll rfl (fun h2 => ?_) (fun h2 => ?_)
    ·
      have hr := g_if1 h2 hr
      refine gb_run 1 (pc2 := 35) (ls2 := [(0, .ref (464)), (1, .ref (a))]) (st2 := [.int (0)]) (M2 := M) hC hqX12_canRoll rfl ?_
      refine gb_zret hqX12_canRoll rfl rfl (Nat.le_of_ble_eq_true rfl) (Nat.le_of_ble_eq_true rfl) (Or.inl rfl) ?_
      exact gl_Zp (Or.inl rfl) hr
    ·
      have hr := g_if0 h2 hr
      refine gb_run 4 (pc2 := 23) (ls2 := [(0, .ref (464)), (1, .ref (a))]) (st2 := [.int (40), .ref (a), .int (0), .ref (a)]) (M2 := M) hC hqX12_canRoll rfl ?_
      refine gb_iaload hC hqX12_canRoll rfl ha.1 (g_S3 ha.2.1 ha.2.2) (by unfold vp_in; decide) ?_
      rw [show (40 : Int32).toNatClampNeg = 40 from rfl]
      refine gb_run 1 (pc2 := 25) (ls2 := [(0, .ref (464)), (1, .ref (a))]) (st2 := [.int ((0 : Int32) + (M a 40)), .ref (a)]) (M2 := M) hC hqX12_canRoll rfl ?_
      obtain ⟨j3, ej3, ij3, lj3, hr⟩ := g_ixo hr
      refine gz_iaload hC hqX12_canRoll rfl ha.1 (g_S3 ha.2.1 ha.2.2) ij3 ej3 ?_
      refine gb_run 1 (pc2 := 27) (ls2 := [(0, .ref (464)), (1, .ref (a))]) (st2 := [.int (-1), .int (M a j3)]) (M2 := M) hC hqX12_canRoll rfl ?_
      refine gb_icmp_eq hqX12_canRoll rfl (fun h4 => ?_) (fun h4 => ?_)
      ·
        have hr := g_if1 h4 hr
        refine gb_run 1 (pc2 := 35) (ls2 := [(0, .ref (464)), (1, .ref (a))]) (st2 := [.int (0)]) (M2 := M) hC hqX12_canRoll rfl ?_
        refine gb_zret hqX12_canRoll rfl rfl (Nat.le_of_ble_eq_true rfl) (Nat.le_of_ble_eq_true rfl) (Or.inl rfl) ?_
        exact gl_Zp (Or.inl rfl) hr
      ·
        have hr := g_if0 h4 hr
        refine gb_run 2 (pc2 := 35) (ls2 := [(0, .ref (464)), (1, .ref (a))]) (st2 := [.int (1)]) (M2 := M) hC hqX12_canRoll rfl ?_
        refine gb_zret hqX12_canRoll rfl rfl (Nat.le_of_ble_eq_true rfl) (Nat.le_of_ble_eq_true rfl) (Or.inr rfl) ?_
        exact gl_Zp (Or.inr rfl) hr
def FM_hourEnds_J85 (a : Nat) (h : Int32) (c : Int32) (y0 : Int32) (y1 : Int32) (M : gM) : Option (gM) :=
  g_ix y1 48 fun j1 => g_let (g_set M a j1 y0) fun M2 => if (M2 a 40) ≤ (0 : Int32) then (g_let (g_set M2 a 43 ((M2 a 43) + (1 : Int32))) fun M4 => g_let (g_set M4 a 44 (0 : Int32)) fun M5 => some M5) else (some M2)
set_option maxRecDepth 20000 in
theorem c_FM_hourEnds_J85 {l : Launch} {C : gC} (hC : g_ctx l C) (a : Nat) (h : Int32) (c : Int32) (ha : g_ia 956 g_S0 a 48) (sz d : Nat) (hd : 1 ≤ d) (R : gM) (y0 : Int32) (y1 : Int32) (M : gM) (hr : FM_hourEnds_J85 a h c y0 y1 M = some R) : GW l C qX12_hourEnds d (gQg 956 g_S0 (qV R) sz) gN 0 0 85 [(1, .ref (a))] [.int (y0), .int (y1), .ref (a)] (956, g_S0, M, sz) := by
  unfold FM_hourEnds_J85 at hr
  obtain ⟨j1, ej1, ij1, lj1, hr⟩ := g_ixo hr
  refine gz_iastore hC hqX12_hourEnds rfl ha.1 (g_S3 ha.2.1 ha.2.2) ij1 ej1 ?_
  refine g_letP (P := fun M2 => GW l C qX12_hourEnds d (gQg 956 g_S0 (qV R) sz) gN 0 0 86 [(1, .ref (a))] [] (956, g_S0, M2, sz)) hr (fun M2 hr => ?_)
  refine gb_run 2 (pc2 := 89) (ls2 := [(1, .ref (a))]) (st2 := [.int (40), .ref (a)]) (M2 := M2) hC hqX12_hourEnds rfl ?_
  refine gb_iaload hC hqX12_hourEnds rfl ha.1 (g_S3 ha.2.1 ha.2.2) (by unfold vp_in; decide) ?_
  rw [show (40 : Int32).toNatClampNeg = 40 from rfl]
  refine gb_if_le hqX12_hourEnds rfl (fun h3 => ?_) (fun h3 => ?_)
  ·
    have hr := g_if1 h3 hr
    refine gb_run 3 (pc2 := 98) (ls2 := [(1, .ref (a))]) (st2 := [.int (43), .ref (a), .int (43), .ref (a)]) (M2 := M2) hC hqX12_hourEnds rfl ?_
    refine gb_iaload hC hqX12_hourEnds rfl ha.1 (g_S3 ha.2.1 ha.2.2) (by unfold vp_in; decide) ?_
    rw [show (43 : Int32).toNatClampNeg = 43 from rfl]
    refine gb_run 2 (pc2 := 101) (ls2 := [(1, .ref (a))]) (st2 := [.int ((M2 a 43) + (1 : Int32)), .int (43), .ref (a)]) (M2 := M2) hC hqX12_hourEnds rfl ?_
    refine gb_iastore hC hqX12_hourEnds rfl ha.1 (g_S3 ha.2.1 ha.2.2) (by unfold vp_in; decide) ?_
    rw [show (43 : Int32).toNatClampNeg = 43 from rfl]
    refine g_letP (P := fun M4 => GW l C qX12_hourEnds d (gQg 956 g_S0 (qV R) sz) gN 0 0 102 [(1, .ref (a))] [] (956, g_S0, M4, sz)) hr (fun M4 hr => ?_)
    refine gb_run 3 (pc2 := 106) (ls2 := [(1, .ref (a))]) (st2 := [.int (0), .int (44), .ref (a)]) (M2 := M4) hC hqX12_hourEnds rfl ?_
    refine gb_iastore hC hqX12_hourEnds rfl ha.1 (g_S3 ha.2.1 ha.2.2) (by unfold vp_in; decide) ?_
    rw [show (44 : Int32).toNatClampNeg = 44 from rfl]
    refine g_letP (P := fun M5 => GW l C qX12_hourEnds d (gQg 956 g_S0 (qV R) sz) gN 0 0 107 [(1, .ref (a))] [] (956, g_S0, M5, sz)) hr (fun M5 hr => ?_)
    refine gb_vret hqX12_hourEnds rfl rfl (Nat.le_of_ble_eq_true rfl) (Nat.le_of_ble_eq_true rfl) ?_
    exact gl_V hr
  ·
    have hr := g_if0 h3 hr
    refine gb_vret hqX12_hourEnds rfl rfl (Nat.le_of_ble_eq_true rfl) (Nat.le_of_ble_eq_true rfl) ?_
    exact gl_V hr
def FM_hourEnds_J46 (a : Nat) (h : Int32) (c : Int32) (M : gM) : Option (gM) :=
  g_ix ((16 : Int32) + c) 48 fun j1 => g_let (g_set M a j1 (0 : Int32)) fun M2 => g_let (g_set M2 a 42 (0 : Int32)) fun M3 => g_let (g_set M3 a 41 (0 : Int32)) fun M4 => if (h + (1 : Int32)) = (M4 468 2) then (FM_hourEnds_J85 a h c (0 : Int32) (40 : Int32) M4) else (FM_hourEnds_J85 a h c (h + (1 : Int32)) (40 : Int32) M4)
set_option maxRecDepth 20000 in
theorem c_FM_hourEnds_J46 {l : Launch} {C : gC} (hC : g_ctx l C) (a : Nat) (h : Int32) (c : Int32) (ha : g_ia 956 g_S0 a 48) (sz d : Nat) (hd : 1 ≤ d) (R : gM) (M : gM) (hr : FM_hourEnds_J46 a h c M = some R) : GW l C qX12_hourEnds d (gQg 956 g_S0 (qV R) sz) gN 0 0 46 [(0, .ref (464)), (1, .ref (a)), (2, .int (h)), (3, .int (c))] [] (956, g_S0, M, sz) := by
  unfold FM_hourEnds_J46 at hr
  refine gb_run 5 (pc2 := 52) (ls2 := [(0, .ref (464)), (1, .ref (a)), (2, .int (h)), (3, .int (c))]) (st2 := [.int (0), .int ((16 : Int32) + c), .ref (a)]) (M2 := M) hC hqX12_hourEnds rfl ?_
  obtain ⟨j1, ej1, ij1, lj1, hr⟩ := g_ixo hr
  refine gz_iastore hC hqX12_hourEnds rfl ha.1 (g_S3 ha.2.1 ha.2.2) ij1 ej1 ?_
  refine g_letP (P := fun M2 => GW l C qX12_hourEnds d (gQg 956 g_S0 (qV R) sz) gN 0 0 53 [(0, .ref (464)), (1, .ref (a)), (2, .int (h)), (3, .int (c))] [] (956, g_S0, M2, sz)) hr (fun M2 hr => ?_)
  refine gb_run 3 (pc2 := 57) (ls2 := [(0, .ref (464)), (1, .ref (a)), (2, .int (h)), (3, .int (c))]) (st2 := [.int (0), .int (42), .ref (a)]) (M2 := M2) hC hqX12_hourEnds rfl ?_
  refine gb_iastore hC hqX12_hourEnds rfl ha.1 (g_S3 ha.2.1 ha.2.2) (by unfold vp_in; decide) ?_
  rw [show (42 : Int32).toNatClampNeg = 42 from rfl]
  refine g_letP (P := fun M3 => GW l C qX12_hourEnds d (gQg 956 g_S0 (qV R) sz) gN 0 0 58 [(0, .ref (464)), (1, .ref (a)), (2, .int (h)), (3, .int (c))] [] (956, g_S0, M3, sz)) hr (fun M3 hr => ?_)
  refine gb_run 3 (pc2 := 62) (ls2 := [(0, .ref (464)), (1, .ref (a)), (2, .int (h)), (3, .int (c))]) (st2 := [.int (0), .int (41), .ref (a)]) (M2 := M3) hC hqX12_hourEnds rfl ?_
  refine gb_iastore hC hqX12_hourEnds rfl ha.1 (g_S3 ha.2.1 ha.2.2) (by unfold vp_in; decide) ?_
  rw [show (41 : Int32).toNatClampNeg = 41 from rfl]
  refine g_letP (P := fun M4 => GW l C qX12_hourEnds d (gQg 956 g_S0 (qV R) sz) gN 0 0 63 [(0, .ref (464)), (1, .ref (a)), (2, .int (h)), (3, .int (c))] [] (956, g_S0, M4, sz)) hr (fun M4 hr => ?_)
  refine gb_run 8 (pc2 := 74) (ls2 := [(0, .ref (464)), (1, .ref (a)), (2, .int (h)), (3, .int (c))]) (st2 := [.int (2), .ref (468), .int (h + (1 : Int32)), .int (40), .ref (a)]) (M2 := M4) hC hqX12_hourEnds rfl ?_
  refine gb_iaload hC hqX12_hourEnds rfl (Nat.le_of_ble_eq_true rfl) rfl (by unfold vp_in; decide) ?_
  rw [show (2 : Int32).toNatClampNeg = 2 from rfl]
  refine gb_icmp_ne hqX12_hourEnds rfl (fun h5 => ?_) (fun h5 => ?_)
  ·
    have hr := g_if0 h5 hr
    refine gb_run 3 (pc2 := 85) (ls2 := [(0, .ref (464)), (1, .ref (a)), (2, .int (h)), (3, .int (c))]) (st2 := [.int (h + (1 : Int32)), .int (40), .ref (a)]) (M2 := M4) hC hqX12_hourEnds rfl ?_
    refine gw_pick [1] (ls2 := [(1, .ref (a))]) rfl ?_
    exact c_FM_hourEnds_J85 hC a h c ha sz d (by omega) R (h + (1 : Int32)) (40 : Int32) M4 hr
  ·
    have hr := g_if1 h5 hr
    refine gb_run 2 (pc2 := 85) (ls2 := [(0, .ref (464)), (1, .ref (a)), (2, .int (h)), (3, .int (c))]) (st2 := [.int (0), .int (40), .ref (a)]) (M2 := M4) hC hqX12_hourEnds rfl ?_
    refine gw_pick [1] (ls2 := [(1, .ref (a))]) rfl ?_
    exact c_FM_hourEnds_J85 hC a h c ha sz d (by omega) R (0 : Int32) (40 : Int32) M4 hr
def FM_hourEnds (a : Nat) (h : Int32) (c : Int32) (M : gM) : Option (gM) :=
  g_ix ((32 : Int32) + h) 48 fun j1 => g_let (g_set M a j1 (M a 42)) fun M2 => if (M2 a 42) ≤ (M2 468 3) then (FM_hourEnds_J46 a h c M2) else (g_ix ((24 : Int32) + c) 48 fun j4 => g_ix ((24 : Int32) + c) 48 fun j5 => g_let (g_set M2 a j5 ((M2 a j4) + (M2 468 4))) fun M6 => g_let (g_set M6 a 46 ((M6 a 46) + (1 : Int32))) fun M7 => FM_hourEnds_J46 a h c M7)
set_option maxRecDepth 20000 in
theorem c_FM_hourEnds {l : Launch} {C : gC} (hC : g_ctx l C) (a : Nat) (h : Int32) (c : Int32) (ha : g_ia 956 g_S0 a 48) (M : gM) (sz d : Nat) (hd : 1 ≤ d) (R : gM) (hr : FM_hourEnds a h c M = some R) : gPg l C qX12_hourEnds d [.ref (464), .ref (a), .int (h), .int (c)] 956 g_S0 M sz (qV R) := by
  refine gPg.of (ls := [(0, .ref (464)), (1, .ref (a)), (2, .int (h)), (3, .int (c))]) (by decide +kernel) (Nat.le_of_ble_eq_true rfl) rfl ?_
  unfold FM_hourEnds at hr
  refine gb_run 6 (pc2 := 8) (ls2 := [(0, .ref (464)), (1, .ref (a)), (2, .int (h)), (3, .int (c))]) (st2 := [.int (42), .ref (a), .int ((32 : Int32) + h), .ref (a)]) (M2 := M) hC hqX12_hourEnds rfl ?_
  refine gb_iaload hC hqX12_hourEnds rfl ha.1 (g_S3 ha.2.1 ha.2.2) (by unfold vp_in; decide) ?_
  rw [show (42 : Int32).toNatClampNeg = 42 from rfl]
  obtain ⟨j1, ej1, ij1, lj1, hr⟩ := g_ixo hr
  refine gz_iastore hC hqX12_hourEnds rfl ha.1 (g_S3 ha.2.1 ha.2.2) ij1 ej1 ?_
  refine g_letP (P := fun M2 => GW l C qX12_hourEnds d (gQg 956 g_S0 (qV R) sz) gN 0 0 10 [(0, .ref (464)), (1, .ref (a)), (2, .int (h)), (3, .int (c))] [] (956, g_S0, M2, sz)) hr (fun M2 hr => ?_)
  refine gb_run 2 (pc2 := 13) (ls2 := [(0, .ref (464)), (1, .ref (a)), (2, .int (h)), (3, .int (c))]) (st2 := [.int (42), .ref (a)]) (M2 := M2) hC hqX12_hourEnds rfl ?_
  refine gb_iaload hC hqX12_hourEnds rfl ha.1 (g_S3 ha.2.1 ha.2.2) (by unfold vp_in; decide) ?_
  rw [show (42 : Int32).toNatClampNeg = 42 from rfl]
  refine gb_run 3 (pc2 := 19) (ls2 := [(0, .ref (464)), (1, .ref (a)), (2, .int (h)), (3, .int (c))]) (st2 := [.int (3), .ref (468), .int (M2 a 42)]) (M2 := M2) hC hqX12_hourEnds rfl ?_
  refine gb_iaload hC hqX12_hourEnds rfl (Nat.le_of_ble_eq_true rfl) rfl (by unfold vp_in; decide) ?_
  rw [show (3 : Int32).toNatClampNeg = 3 from rfl]
  refine gb_icmp_le hqX12_hourEnds rfl (fun h3 => ?_) (fun h3 => ?_)
  ·
    have hr := g_if1 h3 hr
    exact c_FM_hourEnds_J46 hC a h c ha sz d (by omega) R M2 hr
  ·
    have hr := g_if0 h3 hr
    refine gb_run 5 (pc2 := 29) (ls2 := [(0, .ref (464)), (1, .ref (a)), (2, .int (h)), (3, .int (c))]) (st2 := [.int ((24 : Int32) + c), .ref (a), .int ((24 : Int32) + c), .ref (a)]) (M2 := M2) hC hqX12_hourEnds rfl ?_
    obtain ⟨j4, ej4, ij4, lj4, hr⟩ := g_ixo hr
    refine gz_iaload hC hqX12_hourEnds rfl ha.1 (g_S3 ha.2.1 ha.2.2) ij4 ej4 ?_
    refine gb_run 3 (pc2 := 35) (ls2 := [(0, .ref (464)), (1, .ref (a)), (2, .int (h)), (3, .int (c))]) (st2 := [.int (4), .ref (468), .int (M2 a j4), .int ((24 : Int32) + c), .ref (a)]) (M2 := M2) hC hqX12_hourEnds rfl ?_
    refine gb_iaload hC hqX12_hourEnds rfl (Nat.le_of_ble_eq_true rfl) rfl (by unfold vp_in; decide) ?_
    rw [show (4 : Int32).toNatClampNeg = 4 from rfl]
    refine gb_run 1 (pc2 := 37) (ls2 := [(0, .ref (464)), (1, .ref (a)), (2, .int (h)), (3, .int (c))]) (st2 := [.int ((M2 a j4) + (M2 468 4)), .int ((24 : Int32) + c), .ref (a)]) (M2 := M2) hC hqX12_hourEnds rfl ?_
    obtain ⟨j5, ej5, ij5, lj5, hr⟩ := g_ixo hr
    refine gz_iastore hC hqX12_hourEnds rfl ha.1 (g_S3 ha.2.1 ha.2.2) ij5 ej5 ?_
    refine g_letP (P := fun M6 => GW l C qX12_hourEnds d (gQg 956 g_S0 (qV R) sz) gN 0 0 38 [(0, .ref (464)), (1, .ref (a)), (2, .int (h)), (3, .int (c))] [] (956, g_S0, M6, sz)) hr (fun M6 hr => ?_)
    refine gb_run 3 (pc2 := 42) (ls2 := [(0, .ref (464)), (1, .ref (a)), (2, .int (h)), (3, .int (c))]) (st2 := [.int (46), .ref (a), .int (46), .ref (a)]) (M2 := M6) hC hqX12_hourEnds rfl ?_
    refine gb_iaload hC hqX12_hourEnds rfl ha.1 (g_S3 ha.2.1 ha.2.2) (by unfold vp_in; decide) ?_
    rw [show (46 : Int32).toNatClampNeg = 46 from rfl]
    refine gb_run 2 (pc2 := 45) (ls2 := [(0, .ref (464)), (1, .ref (a)), (2, .int (h)), (3, .int (c))]) (st2 := [.int ((M6 a 46) + (1 : Int32)), .int (46), .ref (a)]) (M2 := M6) hC hqX12_hourEnds rfl ?_
    refine gb_iastore hC hqX12_hourEnds rfl ha.1 (g_S3 ha.2.1 ha.2.2) (by unfold vp_in; decide) ?_
    rw [show (46 : Int32).toNatClampNeg = 46 from rfl]
    refine g_letP (P := fun M7 => GW l C qX12_hourEnds d (gQg 956 g_S0 (qV R) sz) gN 0 0 46 [(0, .ref (464)), (1, .ref (a)), (2, .int (h)), (3, .int (c))] [] (956, g_S0, M7, sz)) hr (fun M7 hr => ?_)
    exact c_FM_hourEnds_J46 hC a h c ha sz d (by omega) R M7 hr
def FM_rolls (a : Nat) (longer : Int32) (M : gM) : Option (Int32 × gM) :=
  g_ix ((0 : Int32) + (M a 40)) 48 fun j1 => (FM_minutesOf a (M a 41) (M a j1) (M a 40) M).bind fun s2 => g_ix ((8 : Int32) + (M a j1)) 48 fun j3 => g_ix ((8 : Int32) + (M a j1)) 48 fun j4 => g_let (g_set (s2.2) a j4 (FM_less (99 : Int32) (((s2.2) a j3) + (1 : Int32)))) fun M5 => g_let (g_set M5 a 42 ((M5 a 42) + (s2.1 + longer))) fun M6 => g_let (g_set M6 a 44 ((M6 a 44) + (s2.1 + longer))) fun M7 => g_let (g_set M7 a 47 ((M7 a 47) + (s2.1 + longer))) fun M8 => g_let (g_set M8 a 41 ((M8 a 41) + (1 : Int32))) fun M9 => if (M9 a 41) = (M9 468 0) then ((FM_hourEnds a (M a 40) (M a j1) M9).bind fun s11 => some (s2.1 + longer, s11)) else (some (s2.1 + longer, M9))
set_option maxRecDepth 20000 in
theorem c_FM_rolls {l : Launch} {C : gC} (hC : g_ctx l C) (a : Nat) (longer : Int32) (ha : g_ia 956 g_S0 a 48) (M : gM) (sz d : Nat) (hd : 6 ≤ d) (R : Int32 × gM) (hr : FM_rolls a longer M = some R) : gPg l C qX12_rolls d [.ref (464), .ref (a), .int (longer)] 956 g_S0 M sz (qI R) := by
  refine gPg.of (ls := [(0, .ref (464)), (1, .ref (a)), (2, .int (longer))]) (by decide +kernel) (Nat.le_of_ble_eq_true rfl) rfl ?_
  unfold FM_rolls at hr
  refine gb_run 2 (pc2 := 3) (ls2 := [(0, .ref (464)), (1, .ref (a)), (2, .int (longer))]) (st2 := [.int (40), .ref (a)]) (M2 := M) hC hqX12_rolls rfl ?_
  refine gb_iaload hC hqX12_rolls rfl ha.1 (g_S3 ha.2.1 ha.2.2) (by unfold vp_in; decide) ?_
  rw [show (40 : Int32).toNatClampNeg = 40 from rfl]
  refine gb_run 5 (pc2 := 9) (ls2 := [(3, .int (M a 40)), (0, .ref (464)), (1, .ref (a)), (2, .int (longer))]) (st2 := [.int ((0 : Int32) + (M a 40)), .ref (a)]) (M2 := M) hC hqX12_rolls rfl ?_
  obtain ⟨j1, ej1, ij1, lj1, hr⟩ := g_ixo hr
  refine gz_iaload hC hqX12_rolls rfl ha.1 (g_S3 ha.2.1 ha.2.2) ij1 ej1 ?_
  refine gb_run 5 (pc2 := 17) (ls2 := [(4, .int (M a j1)), (3, .int (M a 40)), (0, .ref (464)), (1, .ref (a)), (2, .int (longer))]) (st2 := [.int (41), .ref (a), .ref (a), .ref (464)]) (M2 := M) hC hqX12_rolls rfl ?_
  refine gb_iaload hC hqX12_rolls rfl ha.1 (g_S3 ha.2.1 ha.2.2) (by unfold vp_in; decide) ?_
  rw [show (41 : Int32).toNatClampNeg = 41 from rfl]
  refine gb_run 2 (pc2 := 21) (ls2 := [(4, .int (M a j1)), (3, .int (M a 40)), (0, .ref (464)), (1, .ref (a)), (2, .int (longer))]) (st2 := [.int (M a 40), .int (M a j1), .int (M a 41), .ref (a), .ref (464)]) (M2 := M) hC hqX12_rolls rfl ?_
  obtain ⟨s2, es2, hr⟩ := g_bd hr
  refine gz_cV (z := qX12_minutesOf) (a := 464) (av := [.ref (a), .int (M a 41), .int (M a j1), .int (M a 40)]) (rest := []) (pl := 1691) hC hqX12_rolls rfl kX12_minutesOf sX12_minutesOf (by decide +kernel) (c_FM_minutesOf hC a (M a 41) (M a j1) (M a 40) ha M sz (d - 1) (by omega) s2 es2) (by omega) ⟨rfl, rfl⟩ rfl (Nat.le_of_ble_eq_true rfl) (Nat.le_of_ble_eq_true rfl) rfl rfl rfl (Nat.le_of_ble_eq_true rfl) ⟨Nat.le_of_ble_eq_true rfl, Nat.le_of_ble_eq_true rfl⟩ (gs_I ?_)
  refine gb_run 12 (pc2 := 42) (ls2 := [(5, .int (s2.1 + longer)), (4, .int (M a j1)), (3, .int (M a 40)), (0, .ref (464)), (1, .ref (a)), (2, .int (longer))]) (st2 := [.int ((8 : Int32) + (M a j1)), .ref (a), .int (99), .int ((8 : Int32) + (M a j1)), .ref (a)]) (M2 := s2.2) hC hqX12_rolls rfl ?_
  obtain ⟨j3, ej3, ij3, lj3, hr⟩ := g_ixo hr
  refine gz_iaload hC hqX12_rolls rfl ha.1 (g_S3 ha.2.1 ha.2.2) ij3 ej3 ?_
  refine gb_run 2 (pc2 := 45) (ls2 := [(5, .int (s2.1 + longer)), (4, .int (M a j1)), (3, .int (M a 40)), (0, .ref (464)), (1, .ref (a)), (2, .int (longer))]) (st2 := [.int (((s2.2) a j3) + (1 : Int32)), .int (99), .int ((8 : Int32) + (M a j1)), .ref (a)]) (M2 := s2.2) hC hqX12_rolls rfl ?_
  refine gz_cS (z := qX12_less) (av := [.int (99), .int (((s2.2) a j3) + (1 : Int32))]) (rest := [.int ((8 : Int32) + (M a j1)), .ref (a)]) (pl := 1709) hC hqX12_rolls rfl kX12_less (by decide +kernel) (c_FM_less hC (99 : Int32) (((s2.2) a j3) + (1 : Int32))  (s2.2) sz (d - 1) (by omega)) (by omega) ⟨rfl, rfl⟩ rfl rfl (Nat.le_of_ble_eq_true rfl) ⟨Nat.le_of_ble_eq_true rfl, Nat.le_of_ble_eq_true rfl⟩ (gs_Ip ?_)
  obtain ⟨j4, ej4, ij4, lj4, hr⟩ := g_ixo hr
  refine gz_iastore hC hqX12_rolls rfl ha.1 (g_S3 ha.2.1 ha.2.2) ij4 ej4 ?_
  refine g_letP (P := fun M5 => GW l C qX12_rolls d (gQg 956 g_S0 (qI R) sz) gN 0 0 49 [(5, .int (s2.1 + longer)), (4, .int (M a j1)), (3, .int (M a 40)), (0, .ref (464)), (1, .ref (a)), (2, .int (longer))] [] (956, g_S0, M5, sz)) hr (fun M5 hr => ?_)
  refine gb_run 3 (pc2 := 53) (ls2 := [(5, .int (s2.1 + longer)), (4, .int (M a j1)), (3, .int (M a 40)), (0, .ref (464)), (1, .ref (a)), (2, .int (longer))]) (st2 := [.int (42), .ref (a), .int (42), .ref (a)]) (M2 := M5) hC hqX12_rolls rfl ?_
  refine gb_iaload hC hqX12_rolls rfl ha.1 (g_S3 ha.2.1 ha.2.2) (by unfold vp_in; decide) ?_
  rw [show (42 : Int32).toNatClampNeg = 42 from rfl]
  refine gb_run 2 (pc2 := 57) (ls2 := [(5, .int (s2.1 + longer)), (4, .int (M a j1)), (3, .int (M a 40)), (0, .ref (464)), (1, .ref (a)), (2, .int (longer))]) (st2 := [.int ((M5 a 42) + (s2.1 + longer)), .int (42), .ref (a)]) (M2 := M5) hC hqX12_rolls rfl ?_
  refine gb_iastore hC hqX12_rolls rfl ha.1 (g_S3 ha.2.1 ha.2.2) (by unfold vp_in; decide) ?_
  rw [show (42 : Int32).toNatClampNeg = 42 from rfl]
  refine g_letP (P := fun M6 => GW l C qX12_rolls d (gQg 956 g_S0 (qI R) sz) gN 0 0 58 [(5, .int (s2.1 + longer)), (4, .int (M a j1)), (3, .int (M a 40)), (0, .ref (464)), (1, .ref (a)), (2, .int (longer))] [] (956, g_S0, M6, sz)) hr (fun M6 hr => ?_)
  refine gb_run 3 (pc2 := 62) (ls2 := [(5, .int (s2.1 + longer)), (4, .int (M a j1)), (3, .int (M a 40)), (0, .ref (464)), (1, .ref (a)), (2, .int (longer))]) (st2 := [.int (44), .ref (a), .int (44), .ref (a)]) (M2 := M6) hC hqX12_rolls rfl ?_
  refine gb_iaload hC hqX12_rolls rfl ha.1 (g_S3 ha.2.1 ha.2.2) (by unfold vp_in; decide) ?_
  rw [show (44 : Int32).toNatClampNeg = 44 from rfl]
  refine gb_run 2 (pc2 := 66) (ls2 := [(5, .int (s2.1 + longer)), (4, .int (M a j1)), (3, .int (M a 40)), (0, .ref (464)), (1, .ref (a)), (2, .int (longer))]) (st2 := [.int ((M6 a 44) + (s2.1 + longer)), .int (44), .ref (a)]) (M2 := M6) hC hqX12_rolls rfl ?_
  refine gb_iastore hC hqX12_rolls rfl ha.1 (g_S3 ha.2.1 ha.2.2) (by unfold vp_in; decide) ?_
  rw [show (44 : Int32).toNatClampNeg = 44 from rfl]
  refine g_letP (P := fun M7 => GW l C qX12_rolls d (gQg 956 g_S0 (qI R) sz) gN 0 0 67 [(5, .int (s2.1 + longer)), (4, .int (M a j1)), (3, .int (M a 40)), (0, .ref (464)), (1, .ref (a)), (2, .int (longer))] [] (956, g_S0, M7, sz)) hr (fun M7 hr => ?_)
  refine gb_run 3 (pc2 := 71) (ls2 := [(5, .int (s2.1 + longer)), (4, .int (M a j1)), (3, .int (M a 40)), (0, .ref (464)), (1, .ref (a)), (2, .int (longer))]) (st2 := [.int (47), .ref (a), .int (47), .ref (a)]) (M2 := M7) hC hqX12_rolls rfl ?_
  refine gb_iaload hC hqX12_rolls rfl ha.1 (g_S3 ha.2.1 ha.2.2) (by unfold vp_in; decide) ?_
  rw [show (47 : Int32).toNatClampNeg = 47 from rfl]
  refine gb_run 2 (pc2 := 75) (ls2 := [(5, .int (s2.1 + longer)), (4, .int (M a j1)), (3, .int (M a 40)), (0, .ref (464)), (1, .ref (a)), (2, .int (longer))]) (st2 := [.int ((M7 a 47) + (s2.1 + longer)), .int (47), .ref (a)]) (M2 := M7) hC hqX12_rolls rfl ?_
  refine gb_iastore hC hqX12_rolls rfl ha.1 (g_S3 ha.2.1 ha.2.2) (by unfold vp_in; decide) ?_
  rw [show (47 : Int32).toNatClampNeg = 47 from rfl]
  refine g_letP (P := fun M8 => GW l C qX12_rolls d (gQg 956 g_S0 (qI R) sz) gN 0 0 76 [(5, .int (s2.1 + longer)), (4, .int (M a j1)), (3, .int (M a 40)), (0, .ref (464)), (1, .ref (a)), (2, .int (longer))] [] (956, g_S0, M8, sz)) hr (fun M8 hr => ?_)
  refine gb_run 3 (pc2 := 80) (ls2 := [(5, .int (s2.1 + longer)), (4, .int (M a j1)), (3, .int (M a 40)), (0, .ref (464)), (1, .ref (a)), (2, .int (longer))]) (st2 := [.int (41), .ref (a), .int (41), .ref (a)]) (M2 := M8) hC hqX12_rolls rfl ?_
  refine gb_iaload hC hqX12_rolls rfl ha.1 (g_S3 ha.2.1 ha.2.2) (by unfold vp_in; decide) ?_
  rw [show (41 : Int32).toNatClampNeg = 41 from rfl]
  refine gb_run 2 (pc2 := 83) (ls2 := [(5, .int (s2.1 + longer)), (4, .int (M a j1)), (3, .int (M a 40)), (0, .ref (464)), (1, .ref (a)), (2, .int (longer))]) (st2 := [.int ((M8 a 41) + (1 : Int32)), .int (41), .ref (a)]) (M2 := M8) hC hqX12_rolls rfl ?_
  refine gb_iastore hC hqX12_rolls rfl ha.1 (g_S3 ha.2.1 ha.2.2) (by unfold vp_in; decide) ?_
  rw [show (41 : Int32).toNatClampNeg = 41 from rfl]
  refine g_letP (P := fun M9 => GW l C qX12_rolls d (gQg 956 g_S0 (qI R) sz) gN 0 0 84 [(5, .int (s2.1 + longer)), (4, .int (M a j1)), (3, .int (M a 40)), (0, .ref (464)), (1, .ref (a)), (2, .int (longer))] [] (956, g_S0, M9, sz)) hr (fun M9 hr => ?_)
  refine gb_run 2 (pc2 := 87) (ls2 := [(5, .int (s2.1 + longer)), (4, .int (M a j1)), (3, .int (M a 40)), (0, .ref (464)), (1, .ref (a)), (2, .int (longer))]) (st2 := [.int (41), .ref (a)]) (M2 := M9) hC hqX12_rolls rfl ?_
  refine gb_iaload hC hqX12_rolls rfl ha.1 (g_S3 ha.2.1 ha.2.2) (by unfold vp_in; decide) ?_
  rw [show (41 : Int32).toNatClampNeg = 41 from rfl]
  refine gb_run 3 (pc2 := 93) (ls2 := [(5, .int (s2.1 + longer)), (4, .int (M a j1)), (3, .int (M a 40)), (0, .ref (464)), (1, .ref (a)), (2, .int (longer))]) (st2 := [.int (0), .ref (468), .int (M9 a 41)]) (M2 := M9) hC hqX12_rolls rfl ?_
  refine gb_iaload hC hqX12_rolls rfl (Nat.le_of_ble_eq_true rfl) rfl (by unfold vp_in; decide) ?_
  rw [show (0 : Int32).toNatClampNeg = 0 from rfl]
  refine gb_icmp_ne hqX12_rolls rfl (fun h10 => ?_) (fun h10 => ?_)
  ·
    have hr := g_if0 h10 hr
    refine gb_run 1 (pc2 := 107) (ls2 := [(5, .int (s2.1 + longer)), (4, .int (M a j1)), (3, .int (M a 40)), (0, .ref (464)), (1, .ref (a)), (2, .int (longer))]) (st2 := [.int (s2.1 + longer)]) (M2 := M9) hC hqX12_rolls rfl ?_
    refine gb_iret hqX12_rolls rfl rfl (Nat.le_of_ble_eq_true rfl) (Nat.le_of_ble_eq_true rfl) ?_
    exact gl_I hr
  ·
    have hr := g_if1 h10 hr
    refine gb_run 4 (pc2 := 102) (ls2 := [(5, .int (s2.1 + longer)), (4, .int (M a j1)), (3, .int (M a 40)), (0, .ref (464)), (1, .ref (a)), (2, .int (longer))]) (st2 := [.int (M a j1), .int (M a 40), .ref (a), .ref (464)]) (M2 := M9) hC hqX12_rolls rfl ?_
    obtain ⟨s11, es11, hr⟩ := g_bd hr
    refine gz_cV (z := qX12_hourEnds) (a := 464) (av := [.ref (a), .int (M a 40), .int (M a j1)]) (rest := []) (pl := 1712) hC hqX12_rolls rfl kX12_hourEnds sX12_hourEnds (by decide +kernel) (c_FM_hourEnds hC a (M a 40) (M a j1) ha M9 sz (d - 1) (by omega) s11 es11) (by omega) ⟨rfl, rfl⟩ rfl (Nat.le_of_ble_eq_true rfl) (Nat.le_of_ble_eq_true rfl) rfl rfl rfl (Nat.le_of_ble_eq_true rfl) ⟨Nat.le_of_ble_eq_true rfl, Nat.le_of_ble_eq_true rfl⟩ (gs_V ?_)
    refine gb_run 1 (pc2 := 107) (ls2 := [(5, .int (s2.1 + longer)), (4, .int (M a j1)), (3, .int (M a 40)), (0, .ref (464)), (1, .ref (a)), (2, .int (longer))]) (st2 := [.int (s2.1 + longer)]) (M2 := s11) hC hqX12_rolls rfl ?_
    refine gb_iret hqX12_rolls rfl rfl (Nat.le_of_ble_eq_true rfl) (Nat.le_of_ble_eq_true rfl) ?_
    exact gl_I hr
def FM_does (a : Nat) (b : Nat) (M : gM) : Option (Int32 × gM) :=
  if (M b 0) = (0 : Int32) then (g_ix ((0 : Int32) + (M b 1)) 48 fun j2 => if (M a j2) = (M b 2) then (some (0, M)) else (g_ix ((0 : Int32) + (M b 1)) 48 fun j4 => g_let (g_set M a j4 (M b 2)) fun M5 => some (1, M5))) else if (M b 0) = (1 : Int32) then (if (200 : Int32) ≤ (M a 43) then (some (0, M)) else ((FM_canRoll a M).bind fun s8 => if s8 = (0 : Int32) then (some (0, M)) else ((FM_rolls a (0 : Int32) M).bind fun s11 => some (1, s11.2)))) else if (M b 0) = (2 : Int32) then (g_let (g_set M a 45 ((1 : Int32) - (M a 45))) fun M13 => some (1, M13)) else if (M b 0) = (3 : Int32) then (g_ix ((8 : Int32) + (M b 2)) 48 fun j15 => if (M a j15) = (0 : Int32) then (some (0, M)) else (g_ix ((8 : Int32) + (M b 2)) 48 fun j17 => g_let (g_set M a j17 (0 : Int32)) fun M18 => some (1, M18))) else (g_ix ((16 : Int32) + (M b 2)) 48 fun j19 => if (M a j19) = (99 : Int32) then (some (0, M)) else (g_ix ((16 : Int32) + (M b 2)) 48 fun j21 => g_ix ((16 : Int32) + (M b 2)) 48 fun j22 => g_let (g_set M a j22 (FM_less (99 : Int32) ((M a j21) + (M b 1)))) fun M23 => some (1, M23)))
set_option maxRecDepth 20000 in
theorem c_FM_does {l : Launch} {C : gC} (hC : g_ctx l C) (a : Nat) (b : Nat) (ha : g_ia 956 g_S0 a 48) (hb : g_ia 956 g_S0 b 4) (M : gM) (sz d : Nat) (hd : 7 ≤ d) (R : Int32 × gM) (hr : FM_does a b M = some R) : gPg l C qX12_does d [.ref (464), .ref (a), .ref (b)] 956 g_S0 M sz (qZ R) := by
  refine gPg.of (ls := [(0, .ref (464)), (1, .ref (a)), (2, .ref (b))]) (by decide +kernel) (Nat.le_of_ble_eq_true rfl) rfl ?_
  unfold FM_does at hr
  refine gb_run 2 (pc2 := 2) (ls2 := [(0, .ref (464)), (1, .ref (a)), (2, .ref (b))]) (st2 := [.int (2), .ref (b)]) (M2 := M) hC hqX12_does rfl ?_
  refine gb_iaload hC hqX12_does rfl hb.1 (g_S3 hb.2.1 hb.2.2) (by unfold vp_in; decide) ?_
  rw [show (2 : Int32).toNatClampNeg = 2 from rfl]
  refine gb_run 3 (pc2 := 6) (ls2 := [(3, .int (M b 2)), (0, .ref (464)), (1, .ref (a)), (2, .ref (b))]) (st2 := [.int (0), .ref (b)]) (M2 := M) hC hqX12_does rfl ?_
  refine gb_iaload hC hqX12_does rfl hb.1 (g_S3 hb.2.1 hb.2.2) (by unfold vp_in; decide) ?_
  rw [show (0 : Int32).toNatClampNeg = 0 from rfl]
  by_cases h1 : (M b 0) = (0 : Int32)
  ·
    have hr := g_if1 h1 hr
    refine gb_tblIn (tgt := 36) hqX12_does rfl (by rw [h1]; first | done | decide) (by rw [h1]; first | done | decide) (by rw [h1]; first | done | rfl) (by decide) ?_
    refine gb_run 4 (pc2 := 40) (ls2 := [(3, .int (M b 2)), (0, .ref (464)), (1, .ref (a)), (2, .ref (b))]) (st2 := [.int (1), .ref (b), .int (0), .ref (a)]) (M2 := M) hC hqX12_does rfl ?_
    refine gb_iaload hC hqX12_does rfl hb.1 (g_S3 hb.2.1 hb.2.2) (by unfold vp_in; decide) ?_
    rw [show (1 : Int32).toNatClampNeg = 1 from rfl]
    refine gb_run 1 (pc2 := 42) (ls2 := [(3, .int (M b 2)), (0, .ref (464)), (1, .ref (a)), (2, .ref (b))]) (st2 := [.int ((0 : Int32) + (M b 1)), .ref (a)]) (M2 := M) hC hqX12_does rfl ?_
    obtain ⟨j2, ej2, ij2, lj2, hr⟩ := g_ixo hr
    refine gz_iaload hC hqX12_does rfl ha.1 (g_S3 ha.2.1 ha.2.2) ij2 ej2 ?_
    refine gb_run 1 (pc2 := 44) (ls2 := [(3, .int (M b 2)), (0, .ref (464)), (1, .ref (a)), (2, .ref (b))]) (st2 := [.int (M b 2), .int (M a j2)]) (M2 := M) hC hqX12_does rfl ?_
    refine gb_icmp_ne hqX12_does rfl (fun h3 => ?_) (fun h3 => ?_)
    ·
      have hr := g_if0 h3 hr
      refine gb_run 4 (pc2 := 53) (ls2 := [(3, .int (M b 2)), (0, .ref (464)), (1, .ref (a)), (2, .ref (b))]) (st2 := [.int (1), .ref (b), .int (0), .ref (a)]) (M2 := M) hC hqX12_does rfl ?_
      refine gb_iaload hC hqX12_does rfl hb.1 (g_S3 hb.2.1 hb.2.2) (by unfold vp_in; decide) ?_
      rw [show (1 : Int32).toNatClampNeg = 1 from rfl]
      refine gb_run 2 (pc2 := 56) (ls2 := [(3, .int (M b 2)), (0, .ref (464)), (1, .ref (a)), (2, .ref (b))]) (st2 := [.int (M b 2), .int ((0 : Int32) + (M b 1)), .ref (a)]) (M2 := M) hC hqX12_does rfl ?_
      obtain ⟨j4, ej4, ij4, lj4, hr⟩ := g_ixo hr
      refine gz_iastore hC hqX12_does rfl ha.1 (g_S3 ha.2.1 ha.2.2) ij4 ej4 ?_
      refine g_letP (P := fun M5 => GW l C qX12_does d (gQg 956 g_S0 (qZ R) sz) gN 0 0 57 [(3, .int (M b 2)), (0, .ref (464)), (1, .ref (a)), (2, .ref (b))] [] (956, g_S0, M5, sz)) hr (fun M5 hr => ?_)
      refine gb_run 1 (pc2 := 58) (ls2 := [(3, .int (M b 2)), (0, .ref (464)), (1, .ref (a)), (2, .ref (b))]) (st2 := [.int (1)]) (M2 := M5) hC hqX12_does rfl ?_
      refine gb_zret hqX12_does rfl rfl (Nat.le_of_ble_eq_true rfl) (Nat.le_of_ble_eq_true rfl) (Or.inr rfl) ?_
      exact gl_Z (Or.inr rfl) hr
    ·
      have hr := g_if1 h3 hr
      refine gb_run 1 (pc2 := 48) (ls2 := [(3, .int (M b 2)), (0, .ref (464)), (1, .ref (a)), (2, .ref (b))]) (st2 := [.int (0)]) (M2 := M) hC hqX12_does rfl ?_
      refine gb_zret hqX12_does rfl rfl (Nat.le_of_ble_eq_true rfl) (Nat.le_of_ble_eq_true rfl) (Or.inl rfl) ?_
      exact gl_Z (Or.inl rfl) hr
  have hr := g_if0 h1 hr
  by_cases h6 : (M b 0) = (1 : Int32)
  ·
    have hr := g_if1 h6 hr
    refine gb_tblIn (tgt := 59) hqX12_does rfl (by rw [h6]; first | done | decide) (by rw [h6]; first | done | decide) (by rw [h6]; first | done | rfl) (by decide) ?_
    refine gb_run 2 (pc2 := 62) (ls2 := [(3, .int (M b 2)), (0, .ref (464)), (1, .ref (a)), (2, .ref (b))]) (st2 := [.int (43), .ref (a)]) (M2 := M) hC hqX12_does rfl ?_
    refine gb_iaload hC hqX12_does rfl ha.1 (g_S3 ha.2.1 ha.2.2) (by unfold vp_in; decide) ?_
    rw [show (43 : Int32).toNatClampNeg = 43 from rfl]
    refine gb_run 1 (pc2 := 66) (ls2 := [(3, .int (M b 2)), (0, .ref (464)), (1, .ref (a)), (2, .ref (b))]) (st2 := [.int (200), .int (M a 43)]) (M2 := M) hC hqX12_does rfl ?_
    refine gb_icmp_ge hqX12_does rfl (fun h7 => ?_) (fun h7 => ?_)
    ·
      have hr := g_if1 h7 hr
      refine gb_run 1 (pc2 := 78) (ls2 := [(3, .int (M b 2)), (0, .ref (464)), (1, .ref (a)), (2, .ref (b))]) (st2 := [.int (0)]) (M2 := M) hC hqX12_does rfl ?_
      refine gb_zret hqX12_does rfl rfl (Nat.le_of_ble_eq_true rfl) (Nat.le_of_ble_eq_true rfl) (Or.inl rfl) ?_
      exact gl_Z (Or.inl rfl) hr
    ·
      have hr := g_if0 h7 hr
      refine gb_run 2 (pc2 := 71) (ls2 := [(3, .int (M b 2)), (0, .ref (464)), (1, .ref (a)), (2, .ref (b))]) (st2 := [.ref (a), .ref (464)]) (M2 := M) hC hqX12_does rfl ?_
      obtain ⟨s8, es8, hr⟩ := g_bd hr
      refine gz_cV (z := qX12_canRoll) (a := 464) (av := [.ref (a)]) (rest := []) (pl := 1683) hC hqX12_does rfl kX12_canRoll sX12_canRoll (by decide +kernel) (c_FM_canRoll hC a ha M sz (d - 1) (by omega) s8 es8) (by omega) ⟨rfl, rfl⟩ rfl (Nat.le_of_ble_eq_true rfl) (Nat.le_of_ble_eq_true rfl) rfl rfl rfl (Nat.le_of_ble_eq_true rfl) ⟨Nat.le_of_ble_eq_true rfl, Nat.le_of_ble_eq_true rfl⟩ (gs_Zp fun z9 => ?_)
      refine gb_if_ne hqX12_does rfl (fun h10 => ?_) (fun h10 => ?_)
      ·
        have hr := g_if0 h10 hr
        refine gb_run 3 (pc2 := 82) (ls2 := [(3, .int (M b 2)), (0, .ref (464)), (1, .ref (a)), (2, .ref (b))]) (st2 := [.int (0), .ref (a), .ref (464)]) (M2 := M) hC hqX12_does rfl ?_
        obtain ⟨s11, es11, hr⟩ := g_bd hr
        refine gz_cV (z := qX12_rolls) (a := 464) (av := [.ref (a), .int (0)]) (rest := []) (pl := 1687) hC hqX12_does rfl kX12_rolls sX12_rolls (by decide +kernel) (c_FM_rolls hC a (0 : Int32) ha M sz (d - 1) (by omega) s11 es11) (by omega) ⟨rfl, rfl⟩ rfl (Nat.le_of_ble_eq_true rfl) (Nat.le_of_ble_eq_true rfl) rfl rfl rfl (Nat.le_of_ble_eq_true rfl) ⟨Nat.le_of_ble_eq_true rfl, Nat.le_of_ble_eq_true rfl⟩ (gs_I ?_)
        refine gb_run 2 (pc2 := 87) (ls2 := [(3, .int (M b 2)), (0, .ref (464)), (1, .ref (a)), (2, .ref (b))]) (st2 := [.int (1)]) (M2 := s11.2) hC hqX12_does rfl ?_
        refine gb_zret hqX12_does rfl rfl (Nat.le_of_ble_eq_true rfl) (Nat.le_of_ble_eq_true rfl) (Or.inr rfl) ?_
        exact gl_Z (Or.inr rfl) hr
      ·
        have hr := g_if1 h10 hr
        refine gb_run 1 (pc2 := 78) (ls2 := [(3, .int (M b 2)), (0, .ref (464)), (1, .ref (a)), (2, .ref (b))]) (st2 := [.int (0)]) (M2 := M) hC hqX12_does rfl ?_
        refine gb_zret hqX12_does rfl rfl (Nat.le_of_ble_eq_true rfl) (Nat.le_of_ble_eq_true rfl) (Or.inl rfl) ?_
        exact gl_Z (Or.inl rfl) hr
  have hr := g_if0 h6 hr
  by_cases h12 : (M b 0) = (2 : Int32)
  ·
    have hr := g_if1 h12 hr
    refine gb_tblIn (tgt := 88) hqX12_does rfl (by rw [h12]; first | done | decide) (by rw [h12]; first | done | decide) (by rw [h12]; first | done | rfl) (by decide) ?_
    refine gb_run 5 (pc2 := 95) (ls2 := [(3, .int (M b 2)), (0, .ref (464)), (1, .ref (a)), (2, .ref (b))]) (st2 := [.int (45), .ref (a), .int (1), .int (45), .ref (a)]) (M2 := M) hC hqX12_does rfl ?_
    refine gb_iaload hC hqX12_does rfl ha.1 (g_S3 ha.2.1 ha.2.2) (by unfold vp_in; decide) ?_
    rw [show (45 : Int32).toNatClampNeg = 45 from rfl]
    refine gb_run 1 (pc2 := 97) (ls2 := [(3, .int (M b 2)), (0, .ref (464)), (1, .ref (a)), (2, .ref (b))]) (st2 := [.int ((1 : Int32) - (M a 45)), .int (45), .ref (a)]) (M2 := M) hC hqX12_does rfl ?_
    refine gb_iastore hC hqX12_does rfl ha.1 (g_S3 ha.2.1 ha.2.2) (by unfold vp_in; decide) ?_
    rw [show (45 : Int32).toNatClampNeg = 45 from rfl]
    refine g_letP (P := fun M13 => GW l C qX12_does d (gQg 956 g_S0 (qZ R) sz) gN 0 0 98 [(3, .int (M b 2)), (0, .ref (464)), (1, .ref (a)), (2, .ref (b))] [] (956, g_S0, M13, sz)) hr (fun M13 hr => ?_)
    refine gb_run 1 (pc2 := 99) (ls2 := [(3, .int (M b 2)), (0, .ref (464)), (1, .ref (a)), (2, .ref (b))]) (st2 := [.int (1)]) (M2 := M13) hC hqX12_does rfl ?_
    refine gb_zret hqX12_does rfl rfl (Nat.le_of_ble_eq_true rfl) (Nat.le_of_ble_eq_true rfl) (Or.inr rfl) ?_
    exact gl_Z (Or.inr rfl) hr
  have hr := g_if0 h12 hr
  by_cases h14 : (M b 0) = (3 : Int32)
  ·
    have hr := g_if1 h14 hr
    refine gb_tblIn (tgt := 100) hqX12_does rfl (by rw [h14]; first | done | decide) (by rw [h14]; first | done | decide) (by rw [h14]; first | done | rfl) (by decide) ?_
    refine gb_run 4 (pc2 := 105) (ls2 := [(3, .int (M b 2)), (0, .ref (464)), (1, .ref (a)), (2, .ref (b))]) (st2 := [.int ((8 : Int32) + (M b 2)), .ref (a)]) (M2 := M) hC hqX12_does rfl ?_
    obtain ⟨j15, ej15, ij15, lj15, hr⟩ := g_ixo hr
    refine gz_iaload hC hqX12_does rfl ha.1 (g_S3 ha.2.1 ha.2.2) ij15 ej15 ?_
    refine gb_if_ne hqX12_does rfl (fun h16 => ?_) (fun h16 => ?_)
    ·
      have hr := g_if0 h16 hr
      refine gb_run 5 (pc2 := 117) (ls2 := [(3, .int (M b 2)), (0, .ref (464)), (1, .ref (a)), (2, .ref (b))]) (st2 := [.int (0), .int ((8 : Int32) + (M b 2)), .ref (a)]) (M2 := M) hC hqX12_does rfl ?_
      obtain ⟨j17, ej17, ij17, lj17, hr⟩ := g_ixo hr
      refine gz_iastore hC hqX12_does rfl ha.1 (g_S3 ha.2.1 ha.2.2) ij17 ej17 ?_
      refine g_letP (P := fun M18 => GW l C qX12_does d (gQg 956 g_S0 (qZ R) sz) gN 0 0 118 [(3, .int (M b 2)), (0, .ref (464)), (1, .ref (a)), (2, .ref (b))] [] (956, g_S0, M18, sz)) hr (fun M18 hr => ?_)
      refine gb_run 1 (pc2 := 119) (ls2 := [(3, .int (M b 2)), (0, .ref (464)), (1, .ref (a)), (2, .ref (b))]) (st2 := [.int (1)]) (M2 := M18) hC hqX12_does rfl ?_
      refine gb_zret hqX12_does rfl rfl (Nat.le_of_ble_eq_true rfl) (Nat.le_of_ble_eq_true rfl) (Or.inr rfl) ?_
      exact gl_Z (Or.inr rfl) hr
    ·
      have hr := g_if1 h16 hr
      refine gb_run 1 (pc2 := 110) (ls2 := [(3, .int (M b 2)), (0, .ref (464)), (1, .ref (a)), (2, .ref (b))]) (st2 := [.int (0)]) (M2 := M) hC hqX12_does rfl ?_
      refine gb_zret hqX12_does rfl rfl (Nat.le_of_ble_eq_true rfl) (Nat.le_of_ble_eq_true rfl) (Or.inl rfl) ?_
      exact gl_Z (Or.inl rfl) hr
  have hr := g_if0 h14 hr
  refine gb_tblOut (tgt := 120) hqX12_does rfl (by have q0 := gd_ne (z := 0) rfl h1; have q1 := gd_ne (z := 1) rfl h6; have q2 := gd_ne (z := 2) rfl h12; have q3 := gd_ne (z := 3) rfl h14; omega) (by decide) ?_
  refine gb_run 4 (pc2 := 125) (ls2 := [(3, .int (M b 2)), (0, .ref (464)), (1, .ref (a)), (2, .ref (b))]) (st2 := [.int ((16 : Int32) + (M b 2)), .ref (a)]) (M2 := M) hC hqX12_does rfl ?_
  obtain ⟨j19, ej19, ij19, lj19, hr⟩ := g_ixo hr
  refine gz_iaload hC hqX12_does rfl ha.1 (g_S3 ha.2.1 ha.2.2) ij19 ej19 ?_
  refine gb_run 1 (pc2 := 128) (ls2 := [(3, .int (M b 2)), (0, .ref (464)), (1, .ref (a)), (2, .ref (b))]) (st2 := [.int (99), .int (M a j19)]) (M2 := M) hC hqX12_does rfl ?_
  refine gb_icmp_ne hqX12_does rfl (fun h20 => ?_) (fun h20 => ?_)
  ·
    have hr := g_if0 h20 hr
    refine gb_run 9 (pc2 := 145) (ls2 := [(3, .int (M b 2)), (0, .ref (464)), (1, .ref (a)), (2, .ref (b))]) (st2 := [.int ((16 : Int32) + (M b 2)), .ref (a), .int (99), .int ((16 : Int32) + (M b 2)), .ref (a)]) (M2 := M) hC hqX12_does rfl ?_
    obtain ⟨j21, ej21, ij21, lj21, hr⟩ := g_ixo hr
    refine gz_iaload hC hqX12_does rfl ha.1 (g_S3 ha.2.1 ha.2.2) ij21 ej21 ?_
    refine gb_run 2 (pc2 := 148) (ls2 := [(3, .int (M b 2)), (0, .ref (464)), (1, .ref (a)), (2, .ref (b))]) (st2 := [.int (1), .ref (b), .int (M a j21), .int (99), .int ((16 : Int32) + (M b 2)), .ref (a)]) (M2 := M) hC hqX12_does rfl ?_
    refine gb_iaload hC hqX12_does rfl hb.1 (g_S3 hb.2.1 hb.2.2) (by unfold vp_in; decide) ?_
    rw [show (1 : Int32).toNatClampNeg = 1 from rfl]
    refine gb_run 1 (pc2 := 150) (ls2 := [(3, .int (M b 2)), (0, .ref (464)), (1, .ref (a)), (2, .ref (b))]) (st2 := [.int ((M a j21) + (M b 1)), .int (99), .int ((16 : Int32) + (M b 2)), .ref (a)]) (M2 := M) hC hqX12_does rfl ?_
    refine gz_cS (z := qX12_less) (av := [.int (99), .int ((M a j21) + (M b 1))]) (rest := [.int ((16 : Int32) + (M b 2)), .ref (a)]) (pl := 1709) hC hqX12_does rfl kX12_less (by decide +kernel) (c_FM_less hC (99 : Int32) ((M a j21) + (M b 1))  M sz (d - 1) (by omega)) (by omega) ⟨rfl, rfl⟩ rfl rfl (Nat.le_of_ble_eq_true rfl) ⟨Nat.le_of_ble_eq_true rfl, Nat.le_of_ble_eq_true rfl⟩ (gs_Ip ?_)
    obtain ⟨j22, ej22, ij22, lj22, hr⟩ := g_ixo hr
    refine gz_iastore hC hqX12_does rfl ha.1 (g_S3 ha.2.1 ha.2.2) ij22 ej22 ?_
    refine g_letP (P := fun M23 => GW l C qX12_does d (gQg 956 g_S0 (qZ R) sz) gN 0 0 154 [(3, .int (M b 2)), (0, .ref (464)), (1, .ref (a)), (2, .ref (b))] [] (956, g_S0, M23, sz)) hr (fun M23 hr => ?_)
    refine gb_run 1 (pc2 := 155) (ls2 := [(3, .int (M b 2)), (0, .ref (464)), (1, .ref (a)), (2, .ref (b))]) (st2 := [.int (1)]) (M2 := M23) hC hqX12_does rfl ?_
    refine gb_zret hqX12_does rfl rfl (Nat.le_of_ble_eq_true rfl) (Nat.le_of_ble_eq_true rfl) (Or.inr rfl) ?_
    exact gl_Z (Or.inr rfl) hr
  ·
    have hr := g_if1 h20 hr
    refine gb_run 1 (pc2 := 132) (ls2 := [(3, .int (M b 2)), (0, .ref (464)), (1, .ref (a)), (2, .ref (b))]) (st2 := [.int (0)]) (M2 := M) hC hqX12_does rfl ?_
    refine gb_zret hqX12_does rfl rfl (Nat.le_of_ble_eq_true rfl) (Nat.le_of_ble_eq_true rfl) (Or.inl rfl) ?_
    exact gl_Z (Or.inl rfl) hr
def FM_goes_J120 (p : Int32) (q : Int32) (rgoes : Int32 → Int32 → gM → Option (gM)) (c2 : Int32 → gM → Option (gM)) (x3 : Int32) (x4 : Int32) (y0 : Int32) (y1 : Int32) (M : gM) : Option (gM) :=
  if x4 = (0 : Int32) then (g_ix x3 80 fun j2 => c2 ((g_set (g_set M 464 40 (y1 + y0)) 464 35 ((M 464 35) + (1 : Int32))) (850 + j2) 3) (g_set (g_set M 464 40 (y1 + y0)) 464 35 ((M 464 35) + (1 : Int32)))) else (g_ix x3 80 fun j3 => c2 ((g_set (g_set M 464 40 (y1 + y0)) 464 35 ((M 464 35) + (0 : Int32))) (850 + j3) 3) (g_set (g_set M 464 40 (y1 + y0)) 464 35 ((M 464 35) + (0 : Int32))))
set_option maxRecDepth 20000 in
theorem c_FM_goes_J120 {l : Launch} {C : gC} (hC : g_ctx l C) (p : Int32) (q : Int32) (sz d : Nat) (hd : 8 ≤ d) (rgoes : Int32 → Int32 → gM → Option (gM)) (hrgoes : ∀ (v1 : Int32) (v2 : Int32) (M : gM) (R : gM), rgoes v1 v2 M = some R → gPg l C qX12_goes (d - 1) [.ref (464), .int (v1), .int (v2)] 956 g_S0 M sz (qV R)) (R : gM) (c2 : Int32 → gM → Option (gM)) (hc2 : ∀ (x3 : Int32) (M : gM), c2 x3 M = some R → GW l C qX12_goes d (gQg 956 g_S0 (qV R) sz) gN 0 0 2 [(0, .ref (464)), (2, .int (q)), (3, .int (x3))] [] (956, g_S0, M, sz)) (x3 : Int32) (x4 : Int32) (y0 : Int32) (y1 : Int32) (M : gM) (hr : FM_goes_J120 p q rgoes c2 x3 x4 y0 y1 M = some R) : GW l C qX12_goes d (gQg 956 g_S0 (qV R) sz) gN 0 0 120 [(0, .ref (464)), (2, .int (q)), (3, .int (x3)), (4, .int (x4))] [.int (y0), .int (y1), .ref (464)] (956, g_S0, M, sz) := by
  unfold FM_goes_J120 at hr
  refine gb_run 6 (pc2 := 131) (ls2 := [(0, .ref (464)), (2, .int (q)), (3, .int (x3)), (4, .int (x4))]) (st2 := [.int (x4), .int (M 464 35), .ref (464)]) (M2 := g_set M 464 40 (y1 + y0)) hC hqX12_goes rfl ?_
  refine gb_if_eq hqX12_goes rfl (fun h1 => ?_) (fun h1 => ?_)
  ·
    have hr := g_if1 h1 hr
    refine gb_run 6 (pc2 := 148) (ls2 := [(0, .ref (464)), (2, .int (q)), (3, .int (x3)), (4, .int (x4))]) (st2 := [.int (x3), .ref (849)]) (M2 := g_set (g_set M 464 40 (y1 + y0)) 464 35 ((M 464 35) + (1 : Int32))) hC hqX12_goes rfl ?_
    obtain ⟨j2, ej2, ij2, lj2, hr⟩ := g_ixo hr
    have tj2 := g_t849 j2 lj2
    refine gz_aaload (k0 := 2) (q := 850 + j2) hC hqX12_goes rfl (Nat.le_of_ble_eq_true rfl) rfl (Nat.le_of_ble_eq_true rfl) ij2 ej2 tj2.1 ?_
    refine gb_run 1 (pc2 := 150) (ls2 := [(0, .ref (464)), (2, .int (q)), (3, .int (x3)), (4, .int (x4))]) (st2 := [.int (3), .ref (850 + j2)]) (M2 := g_set (g_set M 464 40 (y1 + y0)) 464 35 ((M 464 35) + (1 : Int32))) hC hqX12_goes rfl ?_
    refine gb_iaload hC hqX12_goes rfl tj2.2.1 (g_S3 tj2.2.2.1 tj2.2.2.2) (by unfold vp_in; decide) ?_
    rw [show (3 : Int32).toNatClampNeg = 3 from rfl]
    refine gb_run 2 (pc2 := 2) (ls2 := [(3, .int ((g_set (g_set M 464 40 (y1 + y0)) 464 35 ((M 464 35) + (1 : Int32))) (850 + j2) 3)), (0, .ref (464)), (2, .int (q)), (4, .int (x4))]) (st2 := []) (M2 := g_set (g_set M 464 40 (y1 + y0)) 464 35 ((M 464 35) + (1 : Int32))) hC hqX12_goes rfl ?_
    refine gw_pick [1, 2, 0] (ls2 := [(0, .ref (464)), (2, .int (q)), (3, .int ((g_set (g_set M 464 40 (y1 + y0)) 464 35 ((M 464 35) + (1 : Int32))) (850 + j2) 3))]) rfl ?_
    exact hc2 ((g_set (g_set M 464 40 (y1 + y0)) 464 35 ((M 464 35) + (1 : Int32))) (850 + j2) 3) (g_set (g_set M 464 40 (y1 + y0)) 464 35 ((M 464 35) + (1 : Int32))) hr
  ·
    have hr := g_if0 h1 hr
    refine gb_run 7 (pc2 := 148) (ls2 := [(0, .ref (464)), (2, .int (q)), (3, .int (x3)), (4, .int (x4))]) (st2 := [.int (x3), .ref (849)]) (M2 := g_set (g_set M 464 40 (y1 + y0)) 464 35 ((M 464 35) + (0 : Int32))) hC hqX12_goes rfl ?_
    obtain ⟨j3, ej3, ij3, lj3, hr⟩ := g_ixo hr
    have tj3 := g_t849 j3 lj3
    refine gz_aaload (k0 := 2) (q := 850 + j3) hC hqX12_goes rfl (Nat.le_of_ble_eq_true rfl) rfl (Nat.le_of_ble_eq_true rfl) ij3 ej3 tj3.1 ?_
    refine gb_run 1 (pc2 := 150) (ls2 := [(0, .ref (464)), (2, .int (q)), (3, .int (x3)), (4, .int (x4))]) (st2 := [.int (3), .ref (850 + j3)]) (M2 := g_set (g_set M 464 40 (y1 + y0)) 464 35 ((M 464 35) + (0 : Int32))) hC hqX12_goes rfl ?_
    refine gb_iaload hC hqX12_goes rfl tj3.2.1 (g_S3 tj3.2.2.1 tj3.2.2.2) (by unfold vp_in; decide) ?_
    rw [show (3 : Int32).toNatClampNeg = 3 from rfl]
    refine gb_run 2 (pc2 := 2) (ls2 := [(3, .int ((g_set (g_set M 464 40 (y1 + y0)) 464 35 ((M 464 35) + (0 : Int32))) (850 + j3) 3)), (0, .ref (464)), (2, .int (q)), (4, .int (x4))]) (st2 := []) (M2 := g_set (g_set M 464 40 (y1 + y0)) 464 35 ((M 464 35) + (0 : Int32))) hC hqX12_goes rfl ?_
    refine gw_pick [1, 2, 0] (ls2 := [(0, .ref (464)), (2, .int (q)), (3, .int ((g_set (g_set M 464 40 (y1 + y0)) 464 35 ((M 464 35) + (0 : Int32))) (850 + j3) 3))]) rfl ?_
    exact hc2 ((g_set (g_set M 464 40 (y1 + y0)) 464 35 ((M 464 35) + (0 : Int32))) (850 + j3) 3) (g_set (g_set M 464 40 (y1 + y0)) 464 35 ((M 464 35) + (0 : Int32))) hr
def FM_goes_L42 (p : Int32) (q : Int32) (rgoes : Int32 → Int32 → gM → Option (gM)) (c2 : Int32 → gM → Option (gM)) : Nat → Int32 → Int32 → gM → Option (gM)
  | 0, _, _, _ => none
  | k + 1, x3, x4, M =>
  g_ix x3 80 fun j1 => if (M (850 + j1) 1) ≤ x4 then (g_ix x3 80 fun j3 => c2 (M (850 + j3) 3) M) else (if (200 : Int32) ≤ (M 464 39) then (g_ix x3 80 fun j5 => c2 (M (850 + j5) 3) M) else (g_ix x3 80 fun j6 => (rgoes (x3 + (1 : Int32)) (M (850 + j6) 3) M).bind fun s7 => FM_goes_L42 p q rgoes c2 k x3 (x4 + (1 : Int32)) s7))
set_option maxRecDepth 20000 in
theorem c_FM_goes_L42 {l : Launch} {C : gC} (hC : g_ctx l C) (p : Int32) (q : Int32) (sz d : Nat) (hd : 8 ≤ d) (rgoes : Int32 → Int32 → gM → Option (gM)) (hrgoes : ∀ (v1 : Int32) (v2 : Int32) (M : gM) (R : gM), rgoes v1 v2 M = some R → gPg l C qX12_goes (d - 1) [.ref (464), .int (v1), .int (v2)] 956 g_S0 M sz (qV R)) (R : gM) (c2 : Int32 → gM → Option (gM)) (hc2 : ∀ (x3 : Int32) (M : gM), c2 x3 M = some R → GW l C qX12_goes d (gQg 956 g_S0 (qV R) sz) gN 0 0 2 [(0, .ref (464)), (2, .int (q)), (3, .int (x3))] [] (956, g_S0, M, sz)) : ∀ (k : Nat) (x3 : Int32) (x4 : Int32) (M : gM), FM_goes_L42 p q rgoes c2 k x3 x4 M = some R → GW l C qX12_goes d (gQg 956 g_S0 (qV R) sz) gN 0 0 42 [(0, .ref (464)), (2, .int (q)), (3, .int (x3)), (4, .int (x4))] [] (956, g_S0, M, sz) := by
  intro k
  induction k with
  | zero => intro x3 x4 M hr; exact nomatch (show (none : Option (gM)) = some R from hr)
  | succ k ih =>
    intro x3 x4 M hr
    unfold FM_goes_L42 at hr
    refine gb_run 4 (pc2 := 49) (ls2 := [(0, .ref (464)), (2, .int (q)), (3, .int (x3)), (4, .int (x4))]) (st2 := [.int (x3), .ref (849), .int (x4)]) (M2 := M) hC hqX12_goes rfl ?_
    obtain ⟨j1, ej1, ij1, lj1, hr⟩ := g_ixo hr
    have tj1 := g_t849 j1 lj1
    refine gz_aaload (k0 := 2) (q := 850 + j1) hC hqX12_goes rfl (Nat.le_of_ble_eq_true rfl) rfl (Nat.le_of_ble_eq_true rfl) ij1 ej1 tj1.1 ?_
    refine gb_run 1 (pc2 := 51) (ls2 := [(0, .ref (464)), (2, .int (q)), (3, .int (x3)), (4, .int (x4))]) (st2 := [.int (1), .ref (850 + j1), .int (x4)]) (M2 := M) hC hqX12_goes rfl ?_
    refine gb_iaload hC hqX12_goes rfl tj1.2.1 (g_S3 tj1.2.2.1 tj1.2.2.2) (by unfold vp_in; decide) ?_
    rw [show (1 : Int32).toNatClampNeg = 1 from rfl]
    refine gb_icmp_ge hqX12_goes rfl (fun h2 => ?_) (fun h2 => ?_)
    ·
      have hr := g_if1 h2 hr
      refine gb_run 4 (pc2 := 148) (ls2 := [(0, .ref (464)), (2, .int (q)), (3, .int (x3)), (4, .int (x4))]) (st2 := [.int (x3), .ref (849)]) (M2 := M) hC hqX12_goes rfl ?_
      obtain ⟨j3, ej3, ij3, lj3, hr⟩ := g_ixo hr
      have tj3 := g_t849 j3 lj3
      refine gz_aaload (k0 := 2) (q := 850 + j3) hC hqX12_goes rfl (Nat.le_of_ble_eq_true rfl) rfl (Nat.le_of_ble_eq_true rfl) ij3 ej3 tj3.1 ?_
      refine gb_run 1 (pc2 := 150) (ls2 := [(0, .ref (464)), (2, .int (q)), (3, .int (x3)), (4, .int (x4))]) (st2 := [.int (3), .ref (850 + j3)]) (M2 := M) hC hqX12_goes rfl ?_
      refine gb_iaload hC hqX12_goes rfl tj3.2.1 (g_S3 tj3.2.2.1 tj3.2.2.2) (by unfold vp_in; decide) ?_
      rw [show (3 : Int32).toNatClampNeg = 3 from rfl]
      refine gb_run 2 (pc2 := 2) (ls2 := [(3, .int (M (850 + j3) 3)), (0, .ref (464)), (2, .int (q)), (4, .int (x4))]) (st2 := []) (M2 := M) hC hqX12_goes rfl ?_
      refine gw_pick [1, 2, 0] (ls2 := [(0, .ref (464)), (2, .int (q)), (3, .int (M (850 + j3) 3))]) rfl ?_
      exact hc2 (M (850 + j3) 3) M hr
    ·
      have hr := g_if0 h2 hr
      refine gb_run 3 (pc2 := 62) (ls2 := [(0, .ref (464)), (2, .int (q)), (3, .int (x3)), (4, .int (x4))]) (st2 := [.int (200), .int (M 464 39)]) (M2 := M) hC hqX12_goes rfl ?_
      refine gb_icmp_ge hqX12_goes rfl (fun h4 => ?_) (fun h4 => ?_)
      ·
        have hr := g_if1 h4 hr
        refine gb_run 4 (pc2 := 148) (ls2 := [(0, .ref (464)), (2, .int (q)), (3, .int (x3)), (4, .int (x4))]) (st2 := [.int (x3), .ref (849)]) (M2 := M) hC hqX12_goes rfl ?_
        obtain ⟨j5, ej5, ij5, lj5, hr⟩ := g_ixo hr
        have tj5 := g_t849 j5 lj5
        refine gz_aaload (k0 := 2) (q := 850 + j5) hC hqX12_goes rfl (Nat.le_of_ble_eq_true rfl) rfl (Nat.le_of_ble_eq_true rfl) ij5 ej5 tj5.1 ?_
        refine gb_run 1 (pc2 := 150) (ls2 := [(0, .ref (464)), (2, .int (q)), (3, .int (x3)), (4, .int (x4))]) (st2 := [.int (3), .ref (850 + j5)]) (M2 := M) hC hqX12_goes rfl ?_
        refine gb_iaload hC hqX12_goes rfl tj5.2.1 (g_S3 tj5.2.2.1 tj5.2.2.2) (by unfold vp_in; decide) ?_
        rw [show (3 : Int32).toNatClampNeg = 3 from rfl]
        refine gb_run 2 (pc2 := 2) (ls2 := [(3, .int (M (850 + j5) 3)), (0, .ref (464)), (2, .int (q)), (4, .int (x4))]) (st2 := []) (M2 := M) hC hqX12_goes rfl ?_
        refine gw_pick [1, 2, 0] (ls2 := [(0, .ref (464)), (2, .int (q)), (3, .int (M (850 + j5) 3))]) rfl ?_
        exact hc2 (M (850 + j5) 3) M hr
      ·
        have hr := g_if0 h4 hr
        refine gb_run 7 (pc2 := 74) (ls2 := [(0, .ref (464)), (2, .int (q)), (3, .int (x3)), (4, .int (x4))]) (st2 := [.int (x3), .ref (849), .int (x3 + (1 : Int32)), .ref (464)]) (M2 := M) hC hqX12_goes rfl ?_
        obtain ⟨j6, ej6, ij6, lj6, hr⟩ := g_ixo hr
        have tj6 := g_t849 j6 lj6
        refine gz_aaload (k0 := 2) (q := 850 + j6) hC hqX12_goes rfl (Nat.le_of_ble_eq_true rfl) rfl (Nat.le_of_ble_eq_true rfl) ij6 ej6 tj6.1 ?_
        refine gb_run 1 (pc2 := 76) (ls2 := [(0, .ref (464)), (2, .int (q)), (3, .int (x3)), (4, .int (x4))]) (st2 := [.int (3), .ref (850 + j6), .int (x3 + (1 : Int32)), .ref (464)]) (M2 := M) hC hqX12_goes rfl ?_
        refine gb_iaload hC hqX12_goes rfl tj6.2.1 (g_S3 tj6.2.2.1 tj6.2.2.2) (by unfold vp_in; decide) ?_
        rw [show (3 : Int32).toNatClampNeg = 3 from rfl]
        obtain ⟨s7, es7, hr⟩ := g_bd hr
        refine gz_cV (z := qX12_goes) (a := 464) (av := [.int (x3 + (1 : Int32)), .int (M (850 + j6) 3)]) (rest := []) (pl := 1675) hC hqX12_goes rfl kX12_goes sX12_goes (by decide +kernel) (hrgoes (x3 + (1 : Int32)) (M (850 + j6) 3) M s7 es7) (by omega) ⟨rfl, rfl⟩ rfl (Nat.le_of_ble_eq_true rfl) (Nat.le_of_ble_eq_true rfl) rfl rfl rfl (Nat.le_of_ble_eq_true rfl) ⟨Nat.le_of_ble_eq_true rfl, Nat.le_of_ble_eq_true rfl⟩ (gs_V ?_)
        refine gb_run 2 (pc2 := 42) (ls2 := [(4, .int (x4 + (1 : Int32))), (0, .ref (464)), (2, .int (q)), (3, .int (x3))]) (st2 := []) (M2 := s7) hC hqX12_goes rfl ?_
        refine gw_pick [1, 2, 3, 0] (ls2 := [(0, .ref (464)), (2, .int (q)), (3, .int (x3)), (4, .int (x4 + (1 : Int32)))]) rfl ?_
        exact ih x3 (x4 + (1 : Int32)) s7 hr
def FM_goes_L2 (p : Int32) (q : Int32) (rgoes : Int32 → Int32 → gM → Option (gM)) : Nat → Int32 → gM → Option (gM)
  | 0, _, _ => none
  | k + 1, x3, M =>
  if q ≤ x3 then (some M) else (if (200 : Int32) ≤ (M 464 39) then (some M) else (g_ix x3 80 fun j3 => if ((g_set M 464 39 ((M 464 39) + (1 : Int32))) (850 + j3) 0) = (5 : Int32) then (FM_goes_L42 p q rgoes (FM_goes_L2 p q rgoes k) 1000 x3 (0 : Int32) (g_set M 464 39 ((M 464 39) + (1 : Int32)))) else (g_ix x3 80 fun j5 => (FM_does 930 (850 + j5) (g_set M 464 39 ((M 464 39) + (1 : Int32)))).bind fun s6 => if s6.1 = (0 : Int32) then (FM_goes_J120 p q rgoes (FM_goes_L2 p q rgoes k) x3 s6.1 (0 : Int32) ((s6.2) 464 40) (s6.2)) else (FM_goes_J120 p q rgoes (FM_goes_L2 p q rgoes k) x3 s6.1 (1 : Int32) ((s6.2) 464 40) (s6.2)))))
set_option maxRecDepth 20000 in
theorem c_FM_goes_L2 {l : Launch} {C : gC} (hC : g_ctx l C) (p : Int32) (q : Int32) (sz d : Nat) (hd : 8 ≤ d) (rgoes : Int32 → Int32 → gM → Option (gM)) (hrgoes : ∀ (v1 : Int32) (v2 : Int32) (M : gM) (R : gM), rgoes v1 v2 M = some R → gPg l C qX12_goes (d - 1) [.ref (464), .int (v1), .int (v2)] 956 g_S0 M sz (qV R)) (R : gM) : ∀ (k : Nat) (x3 : Int32) (M : gM), FM_goes_L2 p q rgoes k x3 M = some R → GW l C qX12_goes d (gQg 956 g_S0 (qV R) sz) gN 0 0 2 [(0, .ref (464)), (2, .int (q)), (3, .int (x3))] [] (956, g_S0, M, sz) := by
  intro k
  induction k with
  | zero => intro x3 M hr; exact nomatch (show (none : Option (gM)) = some R from hr)
  | succ k ih =>
    intro x3 M hr
    unfold FM_goes_L2 at hr
    refine gb_run 2 (pc2 := 4) (ls2 := [(0, .ref (464)), (2, .int (q)), (3, .int (x3))]) (st2 := [.int (q), .int (x3)]) (M2 := M) hC hqX12_goes rfl ?_
    refine gb_icmp_ge hqX12_goes rfl (fun h1 => ?_) (fun h1 => ?_)
    ·
      have hr := g_if1 h1 hr
      refine gb_vret hqX12_goes rfl rfl (Nat.le_of_ble_eq_true rfl) (Nat.le_of_ble_eq_true rfl) ?_
      exact gl_V hr
    ·
      have hr := g_if0 h1 hr
      refine gb_run 3 (pc2 := 14) (ls2 := [(0, .ref (464)), (2, .int (q)), (3, .int (x3))]) (st2 := [.int (200), .int (M 464 39)]) (M2 := M) hC hqX12_goes rfl ?_
      refine gb_icmp_ge hqX12_goes rfl (fun h2 => ?_) (fun h2 => ?_)
      ·
        have hr := g_if1 h2 hr
        refine gb_vret hqX12_goes rfl rfl (Nat.le_of_ble_eq_true rfl) (Nat.le_of_ble_eq_true rfl) ?_
        exact gl_V hr
      ·
        have hr := g_if0 h2 hr
        refine gb_run 9 (pc2 := 32) (ls2 := [(0, .ref (464)), (2, .int (q)), (3, .int (x3))]) (st2 := [.int (x3), .ref (849)]) (M2 := g_set M 464 39 ((M 464 39) + (1 : Int32))) hC hqX12_goes rfl ?_
        obtain ⟨j3, ej3, ij3, lj3, hr⟩ := g_ixo hr
        have tj3 := g_t849 j3 lj3
        refine gz_aaload (k0 := 2) (q := 850 + j3) hC hqX12_goes rfl (Nat.le_of_ble_eq_true rfl) rfl (Nat.le_of_ble_eq_true rfl) ij3 ej3 tj3.1 ?_
        refine gb_run 1 (pc2 := 34) (ls2 := [(0, .ref (464)), (2, .int (q)), (3, .int (x3))]) (st2 := [.int (0), .ref (850 + j3)]) (M2 := g_set M 464 39 ((M 464 39) + (1 : Int32))) hC hqX12_goes rfl ?_
        refine gb_iaload hC hqX12_goes rfl tj3.2.1 (g_S3 tj3.2.2.1 tj3.2.2.2) (by unfold vp_in; decide) ?_
        rw [show (0 : Int32).toNatClampNeg = 0 from rfl]
        refine gb_run 1 (pc2 := 36) (ls2 := [(0, .ref (464)), (2, .int (q)), (3, .int (x3))]) (st2 := [.int (5), .int ((g_set M 464 39 ((M 464 39) + (1 : Int32))) (850 + j3) 0)]) (M2 := g_set M 464 39 ((M 464 39) + (1 : Int32))) hC hqX12_goes rfl ?_
        refine gb_icmp_ne hqX12_goes rfl (fun h4 => ?_) (fun h4 => ?_)
        ·
          have hr := g_if0 h4 hr
          refine gb_run 6 (pc2 := 99) (ls2 := [(0, .ref (464)), (2, .int (q)), (3, .int (x3))]) (st2 := [.int (x3), .ref (849), .ref (930), .ref (464)]) (M2 := g_set M 464 39 ((M 464 39) + (1 : Int32))) hC hqX12_goes rfl ?_
          obtain ⟨j5, ej5, ij5, lj5, hr⟩ := g_ixo hr
          have tj5 := g_t849 j5 lj5
          refine gz_aaload (k0 := 2) (q := 850 + j5) hC hqX12_goes rfl (Nat.le_of_ble_eq_true rfl) rfl (Nat.le_of_ble_eq_true rfl) ij5 ej5 tj5.1 ?_
          obtain ⟨s6, es6, hr⟩ := g_bd hr
          refine gz_cV (z := qX12_does) (a := 464) (av := [.ref (930), .ref (850 + j5)]) (rest := []) (pl := 1679) hC hqX12_goes rfl kX12_does sX12_does (by decide +kernel) (c_FM_does hC 930 (850 + j5) (by decide +kernel) tj5.2 (g_set M 464 39 ((M 464 39) + (1 : Int32))) sz (d - 1) (by omega) s6 es6) (by omega) ⟨rfl, rfl⟩ rfl (Nat.le_of_ble_eq_true rfl) (Nat.le_of_ble_eq_true rfl) rfl rfl rfl (Nat.le_of_ble_eq_true rfl) ⟨Nat.le_of_ble_eq_true rfl, Nat.le_of_ble_eq_true rfl⟩ (gs_Z fun z7 => ?_)
          refine gb_run 5 (pc2 := 112) (ls2 := [(4, .int (s6.1)), (0, .ref (464)), (2, .int (q)), (3, .int (x3))]) (st2 := [.int (s6.1), .int ((s6.2) 464 40), .ref (464)]) (M2 := s6.2) hC hqX12_goes rfl ?_
          refine gb_if_eq hqX12_goes rfl (fun h8 => ?_) (fun h8 => ?_)
          ·
            have hr := g_if1 h8 hr
            refine gb_run 1 (pc2 := 120) (ls2 := [(4, .int (s6.1)), (0, .ref (464)), (2, .int (q)), (3, .int (x3))]) (st2 := [.int (0), .int ((s6.2) 464 40), .ref (464)]) (M2 := s6.2) hC hqX12_goes rfl ?_
            refine gw_pick [1, 2, 3, 0] (ls2 := [(0, .ref (464)), (2, .int (q)), (3, .int (x3)), (4, .int (s6.1))]) rfl ?_
            exact c_FM_goes_J120 hC p q sz d (by omega) rgoes hrgoes R (FM_goes_L2 p q rgoes k) ih x3 s6.1 (0 : Int32) ((s6.2) 464 40) (s6.2) hr
          ·
            have hr := g_if0 h8 hr
            refine gb_run 2 (pc2 := 120) (ls2 := [(4, .int (s6.1)), (0, .ref (464)), (2, .int (q)), (3, .int (x3))]) (st2 := [.int (1), .int ((s6.2) 464 40), .ref (464)]) (M2 := s6.2) hC hqX12_goes rfl ?_
            refine gw_pick [1, 2, 3, 0] (ls2 := [(0, .ref (464)), (2, .int (q)), (3, .int (x3)), (4, .int (s6.1))]) rfl ?_
            exact c_FM_goes_J120 hC p q sz d (by omega) rgoes hrgoes R (FM_goes_L2 p q rgoes k) ih x3 s6.1 (1 : Int32) ((s6.2) 464 40) (s6.2) hr
        ·
          have hr := g_if1 h4 hr
          refine gb_run 2 (pc2 := 42) (ls2 := [(4, .int (0)), (0, .ref (464)), (2, .int (q)), (3, .int (x3))]) (st2 := []) (M2 := g_set M 464 39 ((M 464 39) + (1 : Int32))) hC hqX12_goes rfl ?_
          refine gw_pick [1, 2, 3, 0] (ls2 := [(0, .ref (464)), (2, .int (q)), (3, .int (x3)), (4, .int (0))]) rfl ?_
          exact c_FM_goes_L42 hC p q sz d (by omega) rgoes hrgoes R (FM_goes_L2 p q rgoes k) ih 1000 x3 (0 : Int32) (g_set M 464 39 ((M 464 39) + (1 : Int32))) hr
def FM_goes_B (rgoes : Int32 → Int32 → gM → Option (gM)) (p : Int32) (q : Int32) (M : gM) : Option (gM) :=
  FM_goes_L2 p q rgoes 1000 p M
set_option maxRecDepth 20000 in
theorem c_FM_goes_B {l : Launch} {C : gC} (hC : g_ctx l C) (p : Int32) (q : Int32)  (M : gM) (sz d : Nat) (hd : 8 ≤ d) (rgoes : Int32 → Int32 → gM → Option (gM)) (hrgoes : ∀ (v1 : Int32) (v2 : Int32) (M : gM) (R : gM), rgoes v1 v2 M = some R → gPg l C qX12_goes (d - 1) [.ref (464), .int (v1), .int (v2)] 956 g_S0 M sz (qV R)) (R : gM) (hr : FM_goes_B rgoes p q M = some R) : gPg l C qX12_goes d [.ref (464), .int (p), .int (q)] 956 g_S0 M sz (qV R) := by
  refine gPg.of (ls := [(0, .ref (464)), (1, .int (p)), (2, .int (q))]) (by decide +kernel) (Nat.le_of_ble_eq_true rfl) rfl ?_
  unfold FM_goes_B at hr
  refine gb_run 2 (pc2 := 2) (ls2 := [(3, .int (p)), (0, .ref (464)), (1, .int (p)), (2, .int (q))]) (st2 := []) (M2 := M) hC hqX12_goes rfl ?_
  refine gw_pick [1, 3, 0] (ls2 := [(0, .ref (464)), (2, .int (q)), (3, .int (p))]) rfl ?_
  exact c_FM_goes_L2 hC p q sz d (by omega) rgoes hrgoes R 1000 p M hr
def FM_goes : Nat → Int32 → Int32 → gM → Option (gM)
  | 0, _, _, _ => none
  | f + 1, p, q, M => FM_goes_B (FM_goes f) p q M
theorem FM_goes_s (f : Nat) (p : Int32) (q : Int32) (M : gM) : FM_goes (f + 1) p q M = FM_goes_B (FM_goes f) p q M := rfl
theorem c_FM_going {l : Launch} {C : gC} (hC : g_ctx l C) : ∀ f : Nat, (∀ (p : Int32) (q : Int32) (M : gM) (sz d : Nat) (R : gM), 8 + f ≤ d → FM_goes f p q M = some R → gPg l C qX12_goes d [.ref (464), .int (p), .int (q)] 956 g_S0 M sz (qV R)) := by
  intro f
  induction f with
  | zero => exact fun _ _ M sz d R _ hr => (nomatch (show (none : Option (gM)) = some R from hr))
  | succ f ih =>
    have g0 : ∀ (p : Int32) (q : Int32) (M : gM) (sz d : Nat) (R : gM), 8 + (f + 1) ≤ d → FM_goes_B (FM_goes f) p q M = some R → gPg l C qX12_goes d [.ref (464), .int (p), .int (q)] 956 g_S0 M sz (qV R) :=
      fun p q M sz d R hd hr => c_FM_goes_B hC p q  M sz d (by omega) (FM_goes f) (fun v1 v2 M R hr => ih v1 v2 M sz (d - 1) R (by omega) hr) R hr
    exact fun p q M sz d R hd hr => g0 p q M sz d R hd hr
theorem c_FM_goes {l : Launch} {C : gC} (hC : g_ctx l C) (f : Nat) (p : Int32) (q : Int32) (M : gM) (sz d : Nat) (hd : 8 + f ≤ d) (R : gM) (hr : FM_goes f p q M = some R) : gPg l C qX12_goes d [.ref (464), .int (p), .int (q)] 956 g_S0 M sz (qV R) := (c_FM_going hC f) p q M sz d R hd hr
def FM_work_J101 (n : Int32) (M : gM) : Option (Int32 × gM) :=
  if (M 464 5) = (0 : Int32) then (g_ix (M 464 34) 16 fun j2 => (FM_copies 930 (933 + j2) (g_set M 464 3 (-1 : Int32))).bind fun s3 => (FM_goes 12 (0 : Int32) (s3 464 28) (g_set (g_set (g_set (g_set s3 464 34 ((s3 464 34) + (1 : Int32))) 464 39 (0 : Int32)) 464 40 (0 : Int32)) 464 35 (0 : Int32))).bind fun s4 => some (s4 464 40, s4)) else ((FM_ends M).bind fun s5 => some (s5.1, s5.2))
set_option maxRecDepth 20000 in
theorem c_FM_work_J101 {l : Launch} {C : gC} (hC : g_ctx l C) (n : Int32) (sz d : Nat) (hd : 21 ≤ d) (R : Int32 × gM) (M : gM) (hr : FM_work_J101 n M = some R) : GW l C qX12_work d (gQg 956 g_S0 (qI R) sz) gN 0 0 101 [(0, .ref (464))] [] (956, g_S0, M, sz) := by
  unfold FM_work_J101 at hr
  refine gb_run 2 (pc2 := 105) (ls2 := [(0, .ref (464))]) (st2 := [.int (M 464 5)]) (M2 := M) hC hqX12_work rfl ?_
  refine gb_if_eq hqX12_work rfl (fun h1 => ?_) (fun h1 => ?_)
  ·
    have hr := g_if1 h1 hr
    refine gb_run 9 (pc2 := 130) (ls2 := [(0, .ref (464))]) (st2 := [.int (M 464 34), .ref (932), .ref (930)]) (M2 := g_set M 464 3 (-1 : Int32)) hC hqX12_work rfl ?_
    obtain ⟨j2, ej2, ij2, lj2, hr⟩ := g_ixo hr
    have tj2 := g_t932 j2 lj2
    refine gz_aaload (k0 := 2) (q := 933 + j2) hC hqX12_work rfl (Nat.le_of_ble_eq_true rfl) rfl (Nat.le_of_ble_eq_true rfl) ij2 ej2 tj2.1 ?_
    obtain ⟨s3, es3, hr⟩ := g_bd hr
    refine gz_cS (z := qX12_copies) (av := [.ref (930), .ref (933 + j2)]) (rest := []) (pl := 1672) hC hqX12_work rfl kX12_copies (by decide +kernel) (c_FM_copies hC 930 (933 + j2) (by decide +kernel) tj2.2 (g_set M 464 3 (-1 : Int32)) sz (d - 1) (by omega) s3 es3) (by omega) ⟨rfl, rfl⟩ rfl rfl (Nat.le_of_ble_eq_true rfl) ⟨Nat.le_of_ble_eq_true rfl, Nat.le_of_ble_eq_true rfl⟩ (gs_V ?_)
    refine gb_run 19 (pc2 := 165) (ls2 := [(0, .ref (464))]) (st2 := [.int (s3 464 28), .int (0), .ref (464)]) (M2 := g_set (g_set (g_set (g_set s3 464 34 ((s3 464 34) + (1 : Int32))) 464 39 (0 : Int32)) 464 40 (0 : Int32)) 464 35 (0 : Int32)) hC hqX12_work rfl ?_
    obtain ⟨s4, es4, hr⟩ := g_bd hr
    refine gz_cV (z := qX12_goes) (a := 464) (av := [.int (0), .int (s3 464 28)]) (rest := []) (pl := 1675) hC hqX12_work rfl kX12_goes sX12_goes (by decide +kernel) (c_FM_goes hC 12 (0 : Int32) (s3 464 28)  (g_set (g_set (g_set (g_set s3 464 34 ((s3 464 34) + (1 : Int32))) 464 39 (0 : Int32)) 464 40 (0 : Int32)) 464 35 (0 : Int32)) sz (d - 1) (by omega) s4 es4) (by omega) ⟨rfl, rfl⟩ rfl (Nat.le_of_ble_eq_true rfl) (Nat.le_of_ble_eq_true rfl) rfl rfl rfl (Nat.le_of_ble_eq_true rfl) ⟨Nat.le_of_ble_eq_true rfl, Nat.le_of_ble_eq_true rfl⟩ (gs_V ?_)
    refine gb_run 2 (pc2 := 172) (ls2 := [(0, .ref (464))]) (st2 := [.int (s4 464 40)]) (M2 := s4) hC hqX12_work rfl ?_
    refine gb_iret hqX12_work rfl rfl (Nat.le_of_ble_eq_true rfl) (Nat.le_of_ble_eq_true rfl) ?_
    exact gl_I hr
  ·
    have hr := g_if0 h1 hr
    refine gb_run 1 (pc2 := 109) (ls2 := [(0, .ref (464))]) (st2 := [.ref (464)]) (M2 := M) hC hqX12_work rfl ?_
    obtain ⟨s5, es5, hr⟩ := g_bd hr
    refine gz_cV (z := qX12_ends) (a := 464) (av := []) (rest := []) (pl := 1609) hC hqX12_work rfl kX12_ends sX12_ends (by decide +kernel) (c_FM_ends hC   M sz (d - 1) (by omega) s5 es5) (by omega) ⟨rfl, rfl⟩ rfl (Nat.le_of_ble_eq_true rfl) (Nat.le_of_ble_eq_true rfl) rfl rfl rfl (Nat.le_of_ble_eq_true rfl) ⟨Nat.le_of_ble_eq_true rfl, Nat.le_of_ble_eq_true rfl⟩ (gs_I ?_)
    refine gb_iret hqX12_work rfl rfl (Nat.le_of_ble_eq_true rfl) (Nat.le_of_ble_eq_true rfl) ?_
    exact gl_I hr
def FM_work_L72 (n : Int32) : Nat → gM → Option (Int32 × gM)
  | 0, _ => none
  | k + 1, M =>
  if (M 464 5) = (0 : Int32) then (if (M 464 2) ≤ (M 464 4) then (FM_work_J101 n M) else ((FM_readsStep 10 M).bind fun s3 => (FM_blanks s3).bind fun s4 => FM_work_L72 n k s4)) else (FM_work_J101 n M)
set_option maxRecDepth 20000 in
theorem c_FM_work_L72 {l : Launch} {C : gC} (hC : g_ctx l C) (n : Int32) (sz d : Nat) (hd : 21 ≤ d) (R : Int32 × gM) : ∀ (k : Nat) (M : gM), FM_work_L72 n k M = some R → GW l C qX12_work d (gQg 956 g_S0 (qI R) sz) gN 0 0 72 [(0, .ref (464))] [] (956, g_S0, M, sz) := by
  intro k
  induction k with
  | zero => intro M hr; exact nomatch (show (none : Option (Int32 × gM)) = some R from hr)
  | succ k ih =>
    intro M hr
    unfold FM_work_L72 at hr
    refine gb_run 2 (pc2 := 76) (ls2 := [(0, .ref (464))]) (st2 := [.int (M 464 5)]) (M2 := M) hC hqX12_work rfl ?_
    refine gb_if_ne hqX12_work rfl (fun h1 => ?_) (fun h1 => ?_)
    ·
      have hr := g_if0 h1 hr
      exact c_FM_work_J101 hC n sz d (by omega) R M hr
    ·
      have hr := g_if1 h1 hr
      refine gb_run 4 (pc2 := 87) (ls2 := [(0, .ref (464))]) (st2 := [.int (M 464 2), .int (M 464 4)]) (M2 := M) hC hqX12_work rfl ?_
      refine gb_icmp_ge hqX12_work rfl (fun h2 => ?_) (fun h2 => ?_)
      ·
        have hr := g_if1 h2 hr
        exact c_FM_work_J101 hC n sz d (by omega) R M hr
      ·
        have hr := g_if0 h2 hr
        refine gb_run 1 (pc2 := 91) (ls2 := [(0, .ref (464))]) (st2 := [.ref (464)]) (M2 := M) hC hqX12_work rfl ?_
        obtain ⟨s3, es3, hr⟩ := g_bd hr
        refine gz_cV (z := qX12_readsStep) (a := 464) (av := []) (rest := []) (pl := 1664) hC hqX12_work rfl kX12_readsStep sX12_readsStep (by decide +kernel) (c_FM_readsStep hC 10  M sz (d - 1) (by omega) s3 es3) (by omega) ⟨rfl, rfl⟩ rfl (Nat.le_of_ble_eq_true rfl) (Nat.le_of_ble_eq_true rfl) rfl rfl rfl (Nat.le_of_ble_eq_true rfl) ⟨Nat.le_of_ble_eq_true rfl, Nat.le_of_ble_eq_true rfl⟩ (gs_V ?_)
        refine gb_run 1 (pc2 := 95) (ls2 := [(0, .ref (464))]) (st2 := [.ref (464)]) (M2 := s3) hC hqX12_work rfl ?_
        obtain ⟨s4, es4, hr⟩ := g_bd hr
        refine gz_cV (z := qX12_blanks) (a := 464) (av := []) (rest := []) (pl := 1559) hC hqX12_work rfl kX12_blanks sX12_blanks (by decide +kernel) (c_FM_blanks hC   s3 sz (d - 1) (by omega) s4 es4) (by omega) ⟨rfl, rfl⟩ rfl (Nat.le_of_ble_eq_true rfl) (Nat.le_of_ble_eq_true rfl) rfl rfl rfl (Nat.le_of_ble_eq_true rfl) ⟨Nat.le_of_ble_eq_true rfl, Nat.le_of_ble_eq_true rfl⟩ (gs_V ?_)
        refine gb_run 1 (pc2 := 72) (ls2 := [(0, .ref (464))]) (st2 := []) (M2 := s4) hC hqX12_work rfl ?_
        exact ih s4 hr
def FM_work_J30 (n : Int32) (y0 : Int32) (M : gM) : Option (Int32 × gM) :=
  (FM_bad y0 (1 : Int32) (1 : Int32) M).bind fun s1 => if s1.1 = (0 : Int32) then (if ((s1.2) 464 34) = (16 : Int32) then (some (-20, g_set (g_set (s1.2) 464 1 (0 : Int32)) 464 3 (-1 : Int32))) else ((FM_starts n (s1.2)).bind fun s5 => FM_work_L72 n 1000 (g_set s5 464 28 (0 : Int32)))) else (some (0, s1.2))
set_option maxRecDepth 20000 in
theorem c_FM_work_J30 {l : Launch} {C : gC} (hC : g_ctx l C) (n : Int32) (sz d : Nat) (hd : 21 ≤ d) (R : Int32 × gM) (y0 : Int32) (M : gM) (hr : FM_work_J30 n y0 M = some R) : GW l C qX12_work d (gQg 956 g_S0 (qI R) sz) gN 0 0 30 [(0, .ref (464)), (1, .int (n))] [.int (y0), .ref (464)] (956, g_S0, M, sz) := by
  unfold FM_work_J30 at hr
  refine gb_run 2 (pc2 := 32) (ls2 := [(0, .ref (464)), (1, .int (n))]) (st2 := [.int (1), .int (1), .int (y0), .ref (464)]) (M2 := M) hC hqX12_work rfl ?_
  obtain ⟨s1, es1, hr⟩ := g_bd hr
  refine gz_cV (z := qX12_bad) (a := 464) (av := [.int (y0), .int (1), .int (1)]) (rest := []) (pl := 1551) hC hqX12_work rfl kX12_bad sX12_bad (by decide +kernel) (c_FM_bad hC y0 (1 : Int32) (1 : Int32)  M sz (d - 1) (by omega) s1 es1) (by omega) ⟨rfl, rfl⟩ rfl (Nat.le_of_ble_eq_true rfl) (Nat.le_of_ble_eq_true rfl) rfl rfl rfl (Nat.le_of_ble_eq_true rfl) ⟨Nat.le_of_ble_eq_true rfl, Nat.le_of_ble_eq_true rfl⟩ (gs_Z fun z2 => ?_)
  refine gb_if_eq hqX12_work rfl (fun h3 => ?_) (fun h3 => ?_)
  ·
    have hr := g_if1 h3 hr
    refine gb_run 3 (pc2 := 46) (ls2 := [(0, .ref (464)), (1, .int (n))]) (st2 := [.int (16), .int ((s1.2) 464 34)]) (M2 := s1.2) hC hqX12_work rfl ?_
    refine gb_icmp_ne hqX12_work rfl (fun h4 => ?_) (fun h4 => ?_)
    ·
      have hr := g_if0 h4 hr
      refine gb_run 2 (pc2 := 64) (ls2 := [(0, .ref (464)), (1, .int (n))]) (st2 := [.int (n), .ref (464)]) (M2 := s1.2) hC hqX12_work rfl ?_
      obtain ⟨s5, es5, hr⟩ := g_bd hr
      refine gz_cV (z := qX12_starts) (a := 464) (av := [.int (n)]) (rest := []) (pl := 1555) hC hqX12_work rfl kX12_starts sX12_starts (by decide +kernel) (c_FM_starts hC n  (s1.2) sz (d - 1) (by omega) s5 es5) (by omega) ⟨rfl, rfl⟩ rfl (Nat.le_of_ble_eq_true rfl) (Nat.le_of_ble_eq_true rfl) rfl rfl rfl (Nat.le_of_ble_eq_true rfl) ⟨Nat.le_of_ble_eq_true rfl, Nat.le_of_ble_eq_true rfl⟩ (gs_V ?_)
      refine gb_run 3 (pc2 := 72) (ls2 := [(0, .ref (464)), (1, .int (n))]) (st2 := []) (M2 := g_set s5 464 28 (0 : Int32)) hC hqX12_work rfl ?_
      refine gw_pick [0] (ls2 := [(0, .ref (464))]) rfl ?_
      exact c_FM_work_L72 hC n sz d (by omega) R 1000 (g_set s5 464 28 (0 : Int32)) hr
    ·
      have hr := g_if1 h4 hr
      refine gb_run 7 (pc2 := 61) (ls2 := [(0, .ref (464)), (1, .int (n))]) (st2 := [.int (-20)]) (M2 := g_set (g_set (s1.2) 464 1 (0 : Int32)) 464 3 (-1 : Int32)) hC hqX12_work rfl ?_
      refine gb_iret hqX12_work rfl rfl (Nat.le_of_ble_eq_true rfl) (Nat.le_of_ble_eq_true rfl) ?_
      exact gl_I hr
  ·
    have hr := g_if0 h3 hr
    refine gb_run 1 (pc2 := 39) (ls2 := [(0, .ref (464)), (1, .int (n))]) (st2 := [.int (0)]) (M2 := s1.2) hC hqX12_work rfl ?_
    refine gb_iret hqX12_work rfl rfl (Nat.le_of_ble_eq_true rfl) (Nat.le_of_ble_eq_true rfl) ?_
    exact gl_I hr
def FM_work_J25 (n : Int32) (M : gM) : Option (Int32 × gM) :=
  FM_work_J30 n (1 : Int32) M
set_option maxRecDepth 20000 in
theorem c_FM_work_J25 {l : Launch} {C : gC} (hC : g_ctx l C) (n : Int32) (sz d : Nat) (hd : 21 ≤ d) (R : Int32 × gM) (M : gM) (hr : FM_work_J25 n M = some R) : GW l C qX12_work d (gQg 956 g_S0 (qI R) sz) gN 0 0 25 [(0, .ref (464)), (1, .int (n))] [.ref (464)] (956, g_S0, M, sz) := by
  unfold FM_work_J25 at hr
  refine gb_run 2 (pc2 := 30) (ls2 := [(0, .ref (464)), (1, .int (n))]) (st2 := [.int (1), .ref (464)]) (M2 := M) hC hqX12_work rfl ?_
  exact c_FM_work_J30 hC n sz d (by omega) R (1 : Int32) M hr
def FM_work (n : Int32) (M : gM) : Option (Int32 × gM) :=
  if (FM_in n (0 : Int32) (M 464 1)) = (0 : Int32) then (FM_work_J25 n (g_set M 464 0 (0 : Int32))) else (if n ≤ (150 : Int32) then (FM_work_J30 n (0 : Int32) (g_set M 464 0 (0 : Int32))) else (FM_work_J25 n (g_set M 464 0 (0 : Int32))))
set_option maxRecDepth 20000 in
theorem c_FM_work {l : Launch} {C : gC} (hC : g_ctx l C) (n : Int32)  (M : gM) (sz d : Nat) (hd : 21 ≤ d) (R : Int32 × gM) (hr : FM_work n M = some R) : gPg l C qX12_work d [.ref (464), .int (n)] 956 g_S0 M sz (qI R) := by
  refine gPg.of (ls := [(0, .ref (464)), (1, .int (n))]) (by decide +kernel) (Nat.le_of_ble_eq_true rfl) rfl ?_
  unfold FM_work at hr
  refine gb_run 8 (pc2 := 12) (ls2 := [(0, .ref (464)), (1, .int (n))]) (st2 := [.int (M 464 1), .int (0), .int (n), .ref (464)]) (M2 := g_set M 464 0 (0 : Int32)) hC hqX12_work rfl ?_
  refine gz_cS (z := qX12_in) (av := [.int (n), .int (0), .int (M 464 1)]) (rest := [.ref (464)]) (pl := 1548) hC hqX12_work rfl kX12_in (by decide +kernel) (c_FM_in hC n (0 : Int32) (M 464 1)  (g_set M 464 0 (0 : Int32)) sz (d - 1) (by omega)) (by omega) ⟨rfl, rfl⟩ rfl rfl (Nat.le_of_ble_eq_true rfl) ⟨Nat.le_of_ble_eq_true rfl, Nat.le_of_ble_eq_true rfl⟩ (gs_Zp fun z2 => ?_)
  refine gb_if_eq hqX12_work rfl (fun h3 => ?_) (fun h3 => ?_)
  ·
    have hr := g_if1 h3 hr
    exact c_FM_work_J25 hC n sz d (by omega) R (g_set M 464 0 (0 : Int32)) hr
  ·
    have hr := g_if0 h3 hr
    refine gb_run 2 (pc2 := 22) (ls2 := [(0, .ref (464)), (1, .int (n))]) (st2 := [.int (150), .int (n), .ref (464)]) (M2 := g_set M 464 0 (0 : Int32)) hC hqX12_work rfl ?_
    refine gb_icmp_le hqX12_work rfl (fun h4 => ?_) (fun h4 => ?_)
    ·
      have hr := g_if1 h4 hr
      refine gb_run 1 (pc2 := 30) (ls2 := [(0, .ref (464)), (1, .int (n))]) (st2 := [.int (0), .ref (464)]) (M2 := g_set M 464 0 (0 : Int32)) hC hqX12_work rfl ?_
      exact c_FM_work_J30 hC n sz d (by omega) R (0 : Int32) (g_set M 464 0 (0 : Int32)) hr
    ·
      have hr := g_if0 h4 hr
      exact c_FM_work_J25 hC n sz d (by omega) R (g_set M 464 0 (0 : Int32)) hr
def FM_undo  (M : gM) : Option (Int32 × gM) :=
  if (M 464 34) = (0 : Int32) then (some (-1, g_set M 464 0 (0 : Int32))) else (g_ix ((M 464 34) - (1 : Int32)) 16 fun j2 => (FM_copies (933 + j2) 930 (g_set (g_set M 464 0 (0 : Int32)) 464 34 ((M 464 34) - (1 : Int32)))).bind fun s3 => some (s3 464 34, g_set s3 464 35 (0 : Int32)))
set_option maxRecDepth 20000 in
theorem c_FM_undo {l : Launch} {C : gC} (hC : g_ctx l C)   (M : gM) (sz d : Nat) (hd : 2 ≤ d) (R : Int32 × gM) (hr : FM_undo M = some R) : gPg l C qX12_undo d [.ref (464)] 956 g_S0 M sz (qI R) := by
  refine gPg.of (ls := [(0, .ref (464))]) (by decide +kernel) (Nat.le_of_ble_eq_true rfl) rfl ?_
  unfold FM_undo at hr
  refine gb_run 5 (pc2 := 9) (ls2 := [(0, .ref (464))]) (st2 := [.int (M 464 34)]) (M2 := g_set M 464 0 (0 : Int32)) hC hqX12_undo rfl ?_
  refine gb_if_ne hqX12_undo rfl (fun h1 => ?_) (fun h1 => ?_)
  ·
    have hr := g_if0 h1 hr
    refine gb_run 10 (pc2 := 32) (ls2 := [(0, .ref (464))]) (st2 := [.int ((M 464 34) - (1 : Int32)), .ref (932)]) (M2 := g_set (g_set M 464 0 (0 : Int32)) 464 34 ((M 464 34) - (1 : Int32))) hC hqX12_undo rfl ?_
    obtain ⟨j2, ej2, ij2, lj2, hr⟩ := g_ixo hr
    have tj2 := g_t932 j2 lj2
    refine gz_aaload (k0 := 2) (q := 933 + j2) hC hqX12_undo rfl (Nat.le_of_ble_eq_true rfl) rfl (Nat.le_of_ble_eq_true rfl) ij2 ej2 tj2.1 ?_
    refine gb_run 2 (pc2 := 37) (ls2 := [(0, .ref (464))]) (st2 := [.ref (930), .ref (933 + j2)]) (M2 := g_set (g_set M 464 0 (0 : Int32)) 464 34 ((M 464 34) - (1 : Int32))) hC hqX12_undo rfl ?_
    obtain ⟨s3, es3, hr⟩ := g_bd hr
    refine gz_cS (z := qX12_copies) (av := [.ref (933 + j2), .ref (930)]) (rest := []) (pl := 1672) hC hqX12_undo rfl kX12_copies (by decide +kernel) (c_FM_copies hC (933 + j2) 930 tj2.2 (by decide +kernel) (g_set (g_set M 464 0 (0 : Int32)) 464 34 ((M 464 34) - (1 : Int32))) sz (d - 1) (by omega) s3 es3) (by omega) ⟨rfl, rfl⟩ rfl rfl (Nat.le_of_ble_eq_true rfl) ⟨Nat.le_of_ble_eq_true rfl, Nat.le_of_ble_eq_true rfl⟩ (gs_V ?_)
    refine gb_run 5 (pc2 := 49) (ls2 := [(0, .ref (464))]) (st2 := [.int (s3 464 34)]) (M2 := g_set s3 464 35 (0 : Int32)) hC hqX12_undo rfl ?_
    refine gb_iret hqX12_undo rfl rfl (Nat.le_of_ble_eq_true rfl) (Nat.le_of_ble_eq_true rfl) ?_
    exact gl_I hr
  ·
    have hr := g_if1 h1 hr
    refine gb_run 1 (pc2 := 13) (ls2 := [(0, .ref (464))]) (st2 := [.int (-1)]) (M2 := g_set M 464 0 (0 : Int32)) hC hqX12_undo rfl ?_
    refine gb_iret hqX12_undo rfl rfl (Nat.le_of_ble_eq_true rfl) (Nat.le_of_ble_eq_true rfl) ?_
    exact gl_I hr
def FM_finesIn_L4 (a : Nat) (M : gM) : Nat → Int32 → Int32 → Option (Int32)
  | 0, _, _ => none
  | k + 1, x2, x3 =>
  if (M 468 1) ≤ x3 then (some x2) else (g_ix ((24 : Int32) + x3) 48 fun j2 => FM_finesIn_L4 a M k (x2 + (M a j2)) (x3 + (1 : Int32)))
set_option maxRecDepth 20000 in
theorem c_FM_finesIn_L4 {l : Launch} {C : gC} (hC : g_ctx l C) (a : Nat) (M : gM) (ha : g_ia 956 g_S0 a 48) (sz d : Nat) (hd : 1 ≤ d) (R : Int32) : ∀ (k : Nat) (x2 : Int32) (x3 : Int32), FM_finesIn_L4 a M k x2 x3 = some R → GW l C qX12_finesIn d (gQg 956 g_S0 (qIp M R) sz) gN 0 0 4 [(0, .ref (464)), (1, .ref (a)), (2, .int (x2)), (3, .int (x3))] [] (956, g_S0, M, sz) := by
  intro k
  induction k with
  | zero => intro x2 x3 hr; exact nomatch (show (none : Option (Int32)) = some R from hr)
  | succ k ih =>
    intro x2 x3 hr
    unfold FM_finesIn_L4 at hr
    refine gb_run 4 (pc2 := 10) (ls2 := [(0, .ref (464)), (1, .ref (a)), (2, .int (x2)), (3, .int (x3))]) (st2 := [.int (1), .ref (468), .int (x3)]) (M2 := M) hC hqX12_finesIn rfl ?_
    refine gb_iaload hC hqX12_finesIn rfl (Nat.le_of_ble_eq_true rfl) rfl (by unfold vp_in; decide) ?_
    rw [show (1 : Int32).toNatClampNeg = 1 from rfl]
    refine gb_icmp_ge hqX12_finesIn rfl (fun h1 => ?_) (fun h1 => ?_)
    ·
      have hr := g_if1 h1 hr
      refine gb_run 1 (pc2 := 30) (ls2 := [(0, .ref (464)), (1, .ref (a)), (2, .int (x2)), (3, .int (x3))]) (st2 := [.int (x2)]) (M2 := M) hC hqX12_finesIn rfl ?_
      refine gb_iret hqX12_finesIn rfl rfl (Nat.le_of_ble_eq_true rfl) (Nat.le_of_ble_eq_true rfl) ?_
      exact gl_Ip hr
    ·
      have hr := g_if0 h1 hr
      refine gb_run 5 (pc2 := 20) (ls2 := [(0, .ref (464)), (1, .ref (a)), (2, .int (x2)), (3, .int (x3))]) (st2 := [.int ((24 : Int32) + x3), .ref (a), .int (x2)]) (M2 := M) hC hqX12_finesIn rfl ?_
      obtain ⟨j2, ej2, ij2, lj2, hr⟩ := g_ixo hr
      refine gz_iaload hC hqX12_finesIn rfl ha.1 (g_S3 ha.2.1 ha.2.2) ij2 ej2 ?_
      refine gb_run 4 (pc2 := 4) (ls2 := [(3, .int (x3 + (1 : Int32))), (2, .int (x2 + (M a j2))), (0, .ref (464)), (1, .ref (a))]) (st2 := []) (M2 := M) hC hqX12_finesIn rfl ?_
      refine gw_pick [2, 3, 1, 0] (ls2 := [(0, .ref (464)), (1, .ref (a)), (2, .int (x2 + (M a j2))), (3, .int (x3 + (1 : Int32)))]) rfl ?_
      exact ih (x2 + (M a j2)) (x3 + (1 : Int32)) hr
def FM_finesIn (a : Nat) (M : gM) : Option (Int32) :=
  FM_finesIn_L4 a M 1000 (0 : Int32) (0 : Int32)
set_option maxRecDepth 20000 in
theorem c_FM_finesIn {l : Launch} {C : gC} (hC : g_ctx l C) (a : Nat) (ha : g_ia 956 g_S0 a 48) (M : gM) (sz d : Nat) (hd : 1 ≤ d) (R : Int32) (hr : FM_finesIn a M = some R) : gPg l C qX12_finesIn d [.ref (464), .ref (a)] 956 g_S0 M sz (qIp M R) := by
  refine gPg.of (ls := [(0, .ref (464)), (1, .ref (a))]) (by decide +kernel) (Nat.le_of_ble_eq_true rfl) rfl ?_
  unfold FM_finesIn at hr
  refine gb_run 4 (pc2 := 4) (ls2 := [(3, .int (0)), (2, .int (0)), (0, .ref (464)), (1, .ref (a))]) (st2 := []) (M2 := M) hC hqX12_finesIn rfl ?_
  refine gw_pick [2, 3, 1, 0] (ls2 := [(0, .ref (464)), (1, .ref (a)), (2, .int (0)), (3, .int (0))]) rfl ?_
  exact c_FM_finesIn_L4 hC a M ha sz d (by omega) R 1000 (0 : Int32) (0 : Int32) hr
