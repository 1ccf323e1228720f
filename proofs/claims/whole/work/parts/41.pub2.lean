/-! pub2, decompiled. -/
def FX_ahead_L32 (n : Int32) (what : Int32) : Nat → Int32 → gM → Option (Nat × Int32 × gM)
  | 0, _, _ => none
  | k + 1, x3, M =>
  if n ≤ x3 then (if what = (0 : Int32) then (some (0, M 32 3, M)) else if what = (1 : Int32) then (some (0, M 33 5, M)) else if what = (2 : Int32) then (some (0, M 33 6, M)) else if what = (3 : Int32) then ((FZ_fines 33 M).bind fun s6 => (FZ_fines 48 M).bind fun s7 => some (0, s6 - s7, M)) else (some (0, M 32 4, M))) else ((FG_goOn (0 : Int32) M).bind fun s8 => FX_ahead_L32 n what k (x3 + (1 : Int32)) (s8.2))
set_option maxRecDepth 20000 in
theorem c_FX_ahead_L32 {l : Launch} {C : gC} (hC : g_ctx l C) (n : Int32) (what : Int32) (sz d : Nat) (hd : 8 ≤ d) (R : Nat × Int32 × gM) : ∀ (k : Nat) (x3 : Int32) (M : gM), FX_ahead_L32 n what k x3 M = some R → GW l C qX11_ahead d (gQt (qtI R)) (gNt (xtI R)) 2 12 32 [(0, .ref (0)), (1, .int (n)), (2, .int (what)), (3, .int (x3))] [] (956, g_S0, M, sz) := by
  intro k
  induction k with
  | zero => intro x3 M hr; exact nomatch (show (none : Option (Nat × Int32 × gM)) = some R from hr)
  | succ k ih =>
    intro x3 M hr
    unfold FX_ahead_L32 at hr
    refine gb_run 2 (pc2 := 34) (ls2 := [(0, .ref (0)), (1, .int (n)), (2, .int (what)), (3, .int (x3))]) (st2 := [.int (n), .int (x3)]) (M2 := M) hC hqX11_ahead rfl ?_
    refine gb_icmp_ge hqX11_ahead rfl (fun h1 => ?_) (fun h1 => ?_)
    ·
      have hr := g_if1 h1 hr
      refine gb_run 1 (pc2 := 53) (ls2 := [(0, .ref (0)), (1, .int (n)), (2, .int (what)), (3, .int (x3))]) (st2 := [.int (what)]) (M2 := M) hC hqX11_ahead rfl ?_
      by_cases h2 : what = (0 : Int32)
      ·
        have hr := g_if1 h2 hr
        refine gb_tblIn (tgt := 84) hqX11_ahead rfl (by rw [h2]; first | done | decide) (by rw [h2]; first | done | decide) (by rw [h2]; first | done | rfl) (by decide) ?_
        refine gb_run 3 (pc2 := 91) (ls2 := [(0, .ref (0)), (1, .int (n)), (2, .int (what)), (3, .int (x3))]) (st2 := [.int (M 32 3)]) (M2 := M) hC hqX11_ahead rfl ?_
        refine gb_iret hqX11_ahead rfl rfl (Nat.le_of_ble_eq_true rfl) (Nat.le_of_ble_eq_true rfl) ?_
        exact gl_tI hr
      have hr := g_if0 h2 hr
      by_cases h3 : what = (1 : Int32)
      ·
        have hr := g_if1 h3 hr
        refine gb_tblIn (tgt := 92) hqX11_ahead rfl (by rw [h3]; first | done | decide) (by rw [h3]; first | done | decide) (by rw [h3]; first | done | rfl) (by decide) ?_
        refine gb_run 4 (pc2 := 102) (ls2 := [(0, .ref (0)), (1, .int (n)), (2, .int (what)), (3, .int (x3))]) (st2 := [.int (M 33 5)]) (M2 := M) hC hqX11_ahead rfl ?_
        refine gb_iret hqX11_ahead rfl rfl (Nat.le_of_ble_eq_true rfl) (Nat.le_of_ble_eq_true rfl) ?_
        exact gl_tI hr
      have hr := g_if0 h3 hr
      by_cases h4 : what = (2 : Int32)
      ·
        have hr := g_if1 h4 hr
        refine gb_tblIn (tgt := 103) hqX11_ahead rfl (by rw [h4]; first | done | decide) (by rw [h4]; first | done | decide) (by rw [h4]; first | done | rfl) (by decide) ?_
        refine gb_run 4 (pc2 := 113) (ls2 := [(0, .ref (0)), (1, .int (n)), (2, .int (what)), (3, .int (x3))]) (st2 := [.int (M 33 6)]) (M2 := M) hC hqX11_ahead rfl ?_
        refine gb_iret hqX11_ahead rfl rfl (Nat.le_of_ble_eq_true rfl) (Nat.le_of_ble_eq_true rfl) ?_
        exact gl_tI hr
      have hr := g_if0 h4 hr
      by_cases h5 : what = (3 : Int32)
      ·
        have hr := g_if1 h5 hr
        refine gb_tblIn (tgt := 114) hqX11_ahead rfl (by rw [h5]; first | done | decide) (by rw [h5]; first | done | decide) (by rw [h5]; first | done | rfl) (by decide) ?_
        refine gb_run 3 (pc2 := 121) (ls2 := [(0, .ref (0)), (1, .int (n)), (2, .int (what)), (3, .int (x3))]) (st2 := [.ref (33)]) (M2 := M) hC hqX11_ahead rfl ?_
        obtain ⟨s6, es6, hr⟩ := g_bd hr
        refine gz_cV (z := qX8_fines) (a := 33) (av := []) (rest := []) (pl := 1030) hC hqX11_ahead rfl kX8_fines sX8_fines (by decide +kernel) (c_FZ_fines hC 33 (by decide +kernel) M sz (d - 1) (by omega) s6 es6) (by omega) ⟨rfl, rfl⟩ rfl (Nat.le_of_ble_eq_true rfl) (Nat.le_of_ble_eq_true rfl) rfl rfl rfl (Nat.le_of_ble_eq_true rfl) ⟨Nat.le_of_ble_eq_true rfl, Nat.le_of_ble_eq_true rfl⟩ (gs_Ip ?_)
        refine gb_run 3 (pc2 := 131) (ls2 := [(0, .ref (0)), (1, .int (n)), (2, .int (what)), (3, .int (x3))]) (st2 := [.ref (48), .int (s6)]) (M2 := M) hC hqX11_ahead rfl ?_
        obtain ⟨s7, es7, hr⟩ := g_bd hr
        refine gz_cV (z := qX8_fines) (a := 48) (av := []) (rest := [.int (s6)]) (pl := 1030) hC hqX11_ahead rfl kX8_fines sX8_fines (by decide +kernel) (c_FZ_fines hC 48 (by decide +kernel) M sz (d - 1) (by omega) s7 es7) (by omega) ⟨rfl, rfl⟩ rfl (Nat.le_of_ble_eq_true rfl) (Nat.le_of_ble_eq_true rfl) rfl rfl rfl (Nat.le_of_ble_eq_true rfl) ⟨Nat.le_of_ble_eq_true rfl, Nat.le_of_ble_eq_true rfl⟩ (gs_Ip ?_)
        refine gb_run 1 (pc2 := 135) (ls2 := [(0, .ref (0)), (1, .int (n)), (2, .int (what)), (3, .int (x3))]) (st2 := [.int (s6 - s7)]) (M2 := M) hC hqX11_ahead rfl ?_
        refine gb_iret hqX11_ahead rfl rfl (Nat.le_of_ble_eq_true rfl) (Nat.le_of_ble_eq_true rfl) ?_
        exact gl_tI hr
      have hr := g_if0 h5 hr
      refine gb_tblOut (tgt := 136) hqX11_ahead rfl (by have q0 := gd_ne (z := 0) rfl h2; have q1 := gd_ne (z := 1) rfl h3; have q2 := gd_ne (z := 2) rfl h4; have q3 := gd_ne (z := 3) rfl h5; omega) (by decide) ?_
      refine gb_run 3 (pc2 := 143) (ls2 := [(0, .ref (0)), (1, .int (n)), (2, .int (what)), (3, .int (x3))]) (st2 := [.int (M 32 4)]) (M2 := M) hC hqX11_ahead rfl ?_
      refine gb_iret hqX11_ahead rfl rfl (Nat.le_of_ble_eq_true rfl) (Nat.le_of_ble_eq_true rfl) ?_
      exact gl_tI hr
    ·
      have hr := g_if0 h1 hr
      refine gb_run 3 (pc2 := 42) (ls2 := [(0, .ref (0)), (1, .int (n)), (2, .int (what)), (3, .int (x3))]) (st2 := [.int (0), .ref (32)]) (M2 := M) hC hqX11_ahead rfl ?_
      obtain ⟨s8, es8, hr⟩ := g_bd hr
      refine gz_cV (z := qX1_goOn) (a := 32) (av := [.int (0)]) (rest := []) (pl := 573) hC hqX11_ahead rfl kX1_goOn sX1_goOn (by decide +kernel) (c_FG_goOn hC (0 : Int32)  M sz (d - 1) (by omega) s8 es8) (by omega) ⟨rfl, rfl⟩ rfl (Nat.le_of_ble_eq_true rfl) (Nat.le_of_ble_eq_true rfl) rfl rfl rfl (Nat.le_of_ble_eq_true rfl) ⟨Nat.le_of_ble_eq_true rfl, Nat.le_of_ble_eq_true rfl⟩ (gs_Z fun z9 => ?_)
      refine gb_run 3 (pc2 := 32) (ls2 := [(3, .int (x3 + (1 : Int32))), (0, .ref (0)), (1, .int (n)), (2, .int (what))]) (st2 := []) (M2 := s8.2) hC hqX11_ahead rfl ?_
      refine gw_pick [1, 2, 3, 0] (ls2 := [(0, .ref (0)), (1, .int (n)), (2, .int (what)), (3, .int (x3 + (1 : Int32)))]) rfl ?_
      exact ih (x3 + (1 : Int32)) (s8.2) hr
def FX_ahead (n : Int32) (what : Int32) (M : gM) : Option (Nat × Int32 × gM) :=
  (FX_needIn n (0 : Int32) (200 : Int32) M).bind fun s1 => if s1.1 = 0 then ((FX_needIn what (0 : Int32) (4 : Int32) (s1.2)).bind fun s2 => if s2.1 = 0 then ((FG_start (s2.2)).bind fun s3 => FX_ahead_L32 n what 1000 (0 : Int32) s3) else some (s2.1, 0, s2.2)) else some (s1.1, 0, s1.2)
set_option maxRecDepth 20000 in
theorem c_FX_ahead {l : Launch} {C : gC} (hC : g_ctx l C) (n : Int32) (what : Int32)  (M : gM) (sz d : Nat) (hd : 8 ≤ d) (R : Nat × Int32 × gM) (hr : FX_ahead n what M = some R) : gPt l C qX11_ahead d [.ref (0), .int (n), .int (what)] M sz (qtI R) (xtI R) := by
  refine gPt.of (ls := [(0, .ref (0)), (1, .int (n)), (2, .int (what))]) (by decide +kernel) (Nat.le_of_ble_eq_true rfl) rfl ?_
  unfold FX_ahead at hr
  refine gb_run 4 (pc2 := 6) (ls2 := [(0, .ref (0)), (1, .int (n)), (2, .int (what))]) (st2 := [.int (200), .int (0), .int (n), .ref (0)]) (M2 := M) hC hqX11_ahead rfl ?_
  obtain ⟨s1, es1, hr⟩ := g_bd hr
  refine gt_cV (z := qX11_needIn) (a := 0) (av := [.int (n), .int (0), .int (200)]) (rest := []) (pl := 658) (kc2 := 1) (ks2 := 6) hC hqX11_ahead rfl kX11_needIn sX11_needIn (by decide +kernel) (c_FX_needIn hC n (0 : Int32) (200 : Int32)  M sz (d - 1) (by omega) s1 es1) (by omega) rfl rfl rfl (Nat.le_of_ble_eq_true rfl) (Nat.le_of_ble_eq_true rfl) rfl rfl rfl (Nat.le_of_ble_eq_true rfl) ⟨Nat.le_of_ble_eq_true rfl, Nat.le_of_ble_eq_true rfl⟩ (gt_xI hr) (gs_t fun sz3 q0 => ?_)
  have hr := g_if1 q0 hr
  refine gb_run 4 (pc2 := 13) (ls2 := [(0, .ref (0)), (1, .int (n)), (2, .int (what))]) (st2 := [.int (4), .int (0), .int (what), .ref (0)]) (M2 := s1.2) hC hqX11_ahead rfl ?_
  obtain ⟨s2, es2, hr⟩ := g_bd hr
  refine gt_cV (z := qX11_needIn) (a := 0) (av := [.int (what), .int (0), .int (4)]) (rest := []) (pl := 658) (kc2 := 2) (ks2 := 12) hC hqX11_ahead rfl kX11_needIn sX11_needIn (by decide +kernel) (c_FX_needIn hC what (0 : Int32) (4 : Int32)  (s1.2) sz3 (d - 1) (by omega) s2 es2) (by omega) rfl rfl rfl (Nat.le_of_ble_eq_true rfl) (Nat.le_of_ble_eq_true rfl) rfl rfl rfl (Nat.le_of_ble_eq_true rfl) ⟨Nat.le_of_ble_eq_true rfl, Nat.le_of_ble_eq_true rfl⟩ (gt_xI hr) (gs_t fun sz5 q0 => ?_)
  have hr := g_if1 q0 hr
  refine gb_run 5 (pc2 := 27) (ls2 := [(0, .ref (0)), (1, .int (n)), (2, .int (what))]) (st2 := [.ref (48), .ref (32)]) (M2 := s2.2) hC hqX11_ahead rfl ?_
  obtain ⟨s3, es3, hr⟩ := g_bd hr
  refine gz_cV (z := qX1_start) (a := 32) (av := [.ref (48)]) (rest := []) (pl := 568) hC hqX11_ahead rfl kX1_start sX1_start (by decide +kernel) (c_FG_start hC   (s2.2) sz5 (d - 1) (by omega) s3 es3) (by omega) ⟨rfl, rfl⟩ rfl (Nat.le_of_ble_eq_true rfl) (Nat.le_of_ble_eq_true rfl) rfl rfl rfl (Nat.le_of_ble_eq_true rfl) ⟨Nat.le_of_ble_eq_true rfl, Nat.le_of_ble_eq_true rfl⟩ (gs_V ?_)
  refine gb_run 2 (pc2 := 32) (ls2 := [(3, .int (0)), (0, .ref (0)), (1, .int (n)), (2, .int (what))]) (st2 := []) (M2 := s3) hC hqX11_ahead rfl ?_
  refine gw_pick [1, 2, 3, 0] (ls2 := [(0, .ref (0)), (1, .int (n)), (2, .int (what)), (3, .int (0))]) rfl ?_
  exact c_FX_ahead_L32 hC n what sz5 d (by omega) R 1000 (0 : Int32) s3 hr
def FX_due_L28 (h : Int32) : Nat → Int32 → gM → Option (Nat × Int32 × gM)
  | 0, _, _ => none
  | k + 1, x2, M =>
  if (400 : Int32) ≤ x2 then (if (FG_begins h M) = (0 : Int32) then (some (0, -1, M)) else (some (0, M 32 3, M))) else (if (FG_begins h M) = (0 : Int32) then ((FG_goOn (0 : Int32) M).bind fun s8 => FX_due_L28 h k (x2 + (1 : Int32)) (s8.2)) else (some (0, M 32 3, M)))
set_option maxRecDepth 20000 in
theorem c_FX_due_L28 {l : Launch} {C : gC} (hC : g_ctx l C) (h : Int32) (sz d : Nat) (hd : 8 ≤ d) (R : Nat × Int32 × gM) : ∀ (k : Nat) (x2 : Int32) (M : gM), FX_due_L28 h k x2 M = some R → GW l C qX11_due d (gQt (qtI R)) (gNt (xtI R)) 1 6 28 [(0, .ref (0)), (1, .int (h)), (2, .int (x2))] [] (956, g_S0, M, sz) := by
  intro k
  induction k with
  | zero => intro x2 M hr; exact nomatch (show (none : Option (Nat × Int32 × gM)) = some R from hr)
  | succ k ih =>
    intro x2 M hr
    unfold FX_due_L28 at hr
    refine gb_run 2 (pc2 := 32) (ls2 := [(0, .ref (0)), (1, .int (h)), (2, .int (x2))]) (st2 := [.int (400), .int (x2)]) (M2 := M) hC hqX11_due rfl ?_
    refine gb_icmp_ge hqX11_due rfl (fun h1 => ?_) (fun h1 => ?_)
    ·
      have hr := g_if1 h1 hr
      refine gb_run 3 (pc2 := 74) (ls2 := [(0, .ref (0)), (1, .int (h)), (2, .int (x2))]) (st2 := [.int (h), .ref (32)]) (M2 := M) hC hqX11_due rfl ?_
      refine gz_cV (z := qX1_begins) (a := 32) (av := [.int (h)]) (rest := []) (pl := 1118) hC hqX11_due rfl kX1_begins sX1_begins (by decide +kernel) (c_FG_begins hC h  M sz (d - 1) (by omega)) (by omega) ⟨rfl, rfl⟩ rfl (Nat.le_of_ble_eq_true rfl) (Nat.le_of_ble_eq_true rfl) rfl rfl rfl (Nat.le_of_ble_eq_true rfl) ⟨Nat.le_of_ble_eq_true rfl, Nat.le_of_ble_eq_true rfl⟩ (gs_Zp fun z3 => ?_)
      refine gb_if_eq hqX11_due rfl (fun h4 => ?_) (fun h4 => ?_)
      ·
        have hr := g_if1 h4 hr
        refine gb_run 1 (pc2 := 91) (ls2 := [(0, .ref (0)), (1, .int (h)), (2, .int (x2))]) (st2 := [.int (-1)]) (M2 := M) hC hqX11_due rfl ?_
        refine gb_iret hqX11_due rfl rfl (Nat.le_of_ble_eq_true rfl) (Nat.le_of_ble_eq_true rfl) ?_
        exact gl_tI hr
      ·
        have hr := g_if0 h4 hr
        refine gb_run 4 (pc2 := 91) (ls2 := [(0, .ref (0)), (1, .int (h)), (2, .int (x2))]) (st2 := [.int (M 32 3)]) (M2 := M) hC hqX11_due rfl ?_
        refine gb_iret hqX11_due rfl rfl (Nat.le_of_ble_eq_true rfl) (Nat.le_of_ble_eq_true rfl) ?_
        exact gl_tI hr
    ·
      have hr := g_if0 h1 hr
      refine gb_run 3 (pc2 := 40) (ls2 := [(0, .ref (0)), (1, .int (h)), (2, .int (x2))]) (st2 := [.int (h), .ref (32)]) (M2 := M) hC hqX11_due rfl ?_
      refine gz_cV (z := qX1_begins) (a := 32) (av := [.int (h)]) (rest := []) (pl := 1118) hC hqX11_due rfl kX1_begins sX1_begins (by decide +kernel) (c_FG_begins hC h  M sz (d - 1) (by omega)) (by omega) ⟨rfl, rfl⟩ rfl (Nat.le_of_ble_eq_true rfl) (Nat.le_of_ble_eq_true rfl) rfl rfl rfl (Nat.le_of_ble_eq_true rfl) ⟨Nat.le_of_ble_eq_true rfl, Nat.le_of_ble_eq_true rfl⟩ (gs_Zp fun z6 => ?_)
      refine gb_if_eq hqX11_due rfl (fun h7 => ?_) (fun h7 => ?_)
      ·
        have hr := g_if1 h7 hr
        refine gb_run 3 (pc2 := 59) (ls2 := [(0, .ref (0)), (1, .int (h)), (2, .int (x2))]) (st2 := [.int (0), .ref (32)]) (M2 := M) hC hqX11_due rfl ?_
        obtain ⟨s8, es8, hr⟩ := g_bd hr
        refine gz_cV (z := qX1_goOn) (a := 32) (av := [.int (0)]) (rest := []) (pl := 573) hC hqX11_due rfl kX1_goOn sX1_goOn (by decide +kernel) (c_FG_goOn hC (0 : Int32)  M sz (d - 1) (by omega) s8 es8) (by omega) ⟨rfl, rfl⟩ rfl (Nat.le_of_ble_eq_true rfl) (Nat.le_of_ble_eq_true rfl) rfl rfl rfl (Nat.le_of_ble_eq_true rfl) ⟨Nat.le_of_ble_eq_true rfl, Nat.le_of_ble_eq_true rfl⟩ (gs_Z fun z9 => ?_)
        refine gb_run 3 (pc2 := 28) (ls2 := [(2, .int (x2 + (1 : Int32))), (0, .ref (0)), (1, .int (h))]) (st2 := []) (M2 := s8.2) hC hqX11_due rfl ?_
        refine gw_pick [1, 2, 0] (ls2 := [(0, .ref (0)), (1, .int (h)), (2, .int (x2 + (1 : Int32)))]) rfl ?_
        exact ih (x2 + (1 : Int32)) (s8.2) hr
      ·
        have hr := g_if0 h7 hr
        refine gb_run 3 (pc2 := 53) (ls2 := [(0, .ref (0)), (1, .int (h)), (2, .int (x2))]) (st2 := [.int (M 32 3)]) (M2 := M) hC hqX11_due rfl ?_
        refine gb_iret hqX11_due rfl rfl (Nat.le_of_ble_eq_true rfl) (Nat.le_of_ble_eq_true rfl) ?_
        exact gl_tI hr
def FX_due (h : Int32) (M : gM) : Option (Nat × Int32 × gM) :=
  (FX_needOne h (M 3 7) M).bind fun s1 => if s1.1 = 0 then ((FG_start (s1.2)).bind fun s2 => FX_due_L28 h 1000 (0 : Int32) s2) else some (s1.1, 0, s1.2)
set_option maxRecDepth 20000 in
theorem c_FX_due {l : Launch} {C : gC} (hC : g_ctx l C) (h : Int32)  (M : gM) (sz d : Nat) (hd : 8 ≤ d) (R : Nat × Int32 × gM) (hr : FX_due h M = some R) : gPt l C qX11_due d [.ref (0), .int (h)] M sz (qtI R) (xtI R) := by
  refine gPt.of (ls := [(0, .ref (0)), (1, .int (h))]) (by decide +kernel) (Nat.le_of_ble_eq_true rfl) rfl ?_
  unfold FX_due at hr
  refine gb_run 5 (pc2 := 9) (ls2 := [(0, .ref (0)), (1, .int (h))]) (st2 := [.int (M 3 7), .int (h), .ref (0)]) (M2 := M) hC hqX11_due rfl ?_
  obtain ⟨s1, es1, hr⟩ := g_bd hr
  refine gt_cV (z := qX11_needOne) (a := 0) (av := [.int (h), .int (M 3 7)]) (rest := []) (pl := 1042) (kc2 := 1) (ks2 := 6) hC hqX11_due rfl kX11_needOne sX11_needOne (by decide +kernel) (c_FX_needOne hC h (M 3 7)  M sz (d - 1) (by omega) s1 es1) (by omega) rfl rfl rfl (Nat.le_of_ble_eq_true rfl) (Nat.le_of_ble_eq_true rfl) rfl rfl rfl (Nat.le_of_ble_eq_true rfl) ⟨Nat.le_of_ble_eq_true rfl, Nat.le_of_ble_eq_true rfl⟩ (gt_xI hr) (gs_t fun sz3 q0 => ?_)
  have hr := g_if1 q0 hr
  refine gb_run 5 (pc2 := 23) (ls2 := [(0, .ref (0)), (1, .int (h))]) (st2 := [.ref (48), .ref (32)]) (M2 := s1.2) hC hqX11_due rfl ?_
  obtain ⟨s2, es2, hr⟩ := g_bd hr
  refine gz_cV (z := qX1_start) (a := 32) (av := [.ref (48)]) (rest := []) (pl := 568) hC hqX11_due rfl kX1_start sX1_start (by decide +kernel) (c_FG_start hC   (s1.2) sz3 (d - 1) (by omega) s2 es2) (by omega) ⟨rfl, rfl⟩ rfl (Nat.le_of_ble_eq_true rfl) (Nat.le_of_ble_eq_true rfl) rfl rfl rfl (Nat.le_of_ble_eq_true rfl) ⟨Nat.le_of_ble_eq_true rfl, Nat.le_of_ble_eq_true rfl⟩ (gs_V ?_)
  refine gb_run 2 (pc2 := 28) (ls2 := [(2, .int (0)), (0, .ref (0)), (1, .int (h))]) (st2 := []) (M2 := s2) hC hqX11_due rfl ?_
  refine gw_pick [1, 2, 0] (ls2 := [(0, .ref (0)), (1, .int (h)), (2, .int (0))]) rfl ?_
  exact c_FX_due_L28 hC h sz3 d (by omega) R 1000 (0 : Int32) s2 hr
def FX_hour_L25 (m : Int32) : Nat → Int32 → gM → Option (Nat × Int32 × gM)
  | 0, _, _ => none
  | k + 1, x2, M =>
  if (400 : Int32) ≤ x2 then (some (0, -1, M)) else ((FG_goOn (0 : Int32) M).bind fun s2 => if s2.1 = (0 : Int32) then (some (0, -1, s2.2)) else (if ((s2.2) 32 3) ≤ m then (FX_hour_L25 m k (x2 + (1 : Int32)) (s2.2)) else (some (0, M 33 5, s2.2))))
set_option maxRecDepth 20000 in
theorem c_FX_hour_L25 {l : Launch} {C : gC} (hC : g_ctx l C) (m : Int32) (sz d : Nat) (hd : 8 ≤ d) (R : Nat × Int32 × gM) : ∀ (k : Nat) (x2 : Int32) (M : gM), FX_hour_L25 m k x2 M = some R → GW l C qX11_hour d (gQt (qtI R)) (gNt (xtI R)) 1 6 25 [(0, .ref (0)), (1, .int (m)), (2, .int (x2))] [] (956, g_S0, M, sz) := by
  intro k
  induction k with
  | zero => intro x2 M hr; exact nomatch (show (none : Option (Nat × Int32 × gM)) = some R from hr)
  | succ k ih =>
    intro x2 M hr
    unfold FX_hour_L25 at hr
    refine gb_run 2 (pc2 := 29) (ls2 := [(0, .ref (0)), (1, .int (m)), (2, .int (x2))]) (st2 := [.int (400), .int (x2)]) (M2 := M) hC hqX11_hour rfl ?_
    refine gb_icmp_ge hqX11_hour rfl (fun h1 => ?_) (fun h1 => ?_)
    ·
      have hr := g_if1 h1 hr
      refine gb_run 1 (pc2 := 76) (ls2 := [(0, .ref (0)), (1, .int (m)), (2, .int (x2))]) (st2 := [.int (-1)]) (M2 := M) hC hqX11_hour rfl ?_
      refine gb_iret hqX11_hour rfl rfl (Nat.le_of_ble_eq_true rfl) (Nat.le_of_ble_eq_true rfl) ?_
      exact gl_tI hr
    ·
      have hr := g_if0 h1 hr
      refine gb_run 8 (pc2 := 48) (ls2 := [(3, .int (M 33 5)), (0, .ref (0)), (1, .int (m)), (2, .int (x2))]) (st2 := [.int (0), .ref (32)]) (M2 := M) hC hqX11_hour rfl ?_
      obtain ⟨s2, es2, hr⟩ := g_bd hr
      refine gz_cV (z := qX1_goOn) (a := 32) (av := [.int (0)]) (rest := []) (pl := 573) hC hqX11_hour rfl kX1_goOn sX1_goOn (by decide +kernel) (c_FG_goOn hC (0 : Int32)  M sz (d - 1) (by omega) s2 es2) (by omega) ⟨rfl, rfl⟩ rfl (Nat.le_of_ble_eq_true rfl) (Nat.le_of_ble_eq_true rfl) rfl rfl rfl (Nat.le_of_ble_eq_true rfl) ⟨Nat.le_of_ble_eq_true rfl, Nat.le_of_ble_eq_true rfl⟩ (gs_Z fun z3 => ?_)
      refine gb_if_ne hqX11_hour rfl (fun h4 => ?_) (fun h4 => ?_)
      ·
        have hr := g_if0 h4 hr
        refine gb_run 4 (pc2 := 64) (ls2 := [(3, .int (M 33 5)), (0, .ref (0)), (1, .int (m)), (2, .int (x2))]) (st2 := [.int ((s2.2) 32 3), .int (m)]) (M2 := s2.2) hC hqX11_hour rfl ?_
        refine gb_icmp_ge hqX11_hour rfl (fun h5 => ?_) (fun h5 => ?_)
        ·
          have hr := g_if1 h5 hr
          refine gb_run 2 (pc2 := 25) (ls2 := [(2, .int (x2 + (1 : Int32))), (3, .int (M 33 5)), (0, .ref (0)), (1, .int (m))]) (st2 := []) (M2 := s2.2) hC hqX11_hour rfl ?_
          refine gw_pick [2, 3, 0] (ls2 := [(0, .ref (0)), (1, .int (m)), (2, .int (x2 + (1 : Int32)))]) rfl ?_
          exact ih (x2 + (1 : Int32)) (s2.2) hr
        ·
          have hr := g_if0 h5 hr
          refine gb_run 1 (pc2 := 68) (ls2 := [(3, .int (M 33 5)), (0, .ref (0)), (1, .int (m)), (2, .int (x2))]) (st2 := [.int (M 33 5)]) (M2 := s2.2) hC hqX11_hour rfl ?_
          refine gb_iret hqX11_hour rfl rfl (Nat.le_of_ble_eq_true rfl) (Nat.le_of_ble_eq_true rfl) ?_
          exact gl_tI hr
      ·
        have hr := g_if1 h4 hr
        refine gb_run 1 (pc2 := 55) (ls2 := [(3, .int (M 33 5)), (0, .ref (0)), (1, .int (m)), (2, .int (x2))]) (st2 := [.int (-1)]) (M2 := s2.2) hC hqX11_hour rfl ?_
        refine gb_iret hqX11_hour rfl rfl (Nat.le_of_ble_eq_true rfl) (Nat.le_of_ble_eq_true rfl) ?_
        exact gl_tI hr
def FX_hour (m : Int32) (M : gM) : Option (Nat × Int32 × gM) :=
  (FX_needIn m (0 : Int32) (999 : Int32) M).bind fun s1 => if s1.1 = 0 then ((FG_start (s1.2)).bind fun s2 => FX_hour_L25 m 1000 (0 : Int32) s2) else some (s1.1, 0, s1.2)
set_option maxRecDepth 20000 in
theorem c_FX_hour {l : Launch} {C : gC} (hC : g_ctx l C) (m : Int32)  (M : gM) (sz d : Nat) (hd : 8 ≤ d) (R : Nat × Int32 × gM) (hr : FX_hour m M = some R) : gPt l C qX11_hour d [.ref (0), .int (m)] M sz (qtI R) (xtI R) := by
  refine gPt.of (ls := [(0, .ref (0)), (1, .int (m))]) (by decide +kernel) (Nat.le_of_ble_eq_true rfl) rfl ?_
  unfold FX_hour at hr
  refine gb_run 4 (pc2 := 6) (ls2 := [(0, .ref (0)), (1, .int (m))]) (st2 := [.int (999), .int (0), .int (m), .ref (0)]) (M2 := M) hC hqX11_hour rfl ?_
  obtain ⟨s1, es1, hr⟩ := g_bd hr
  refine gt_cV (z := qX11_needIn) (a := 0) (av := [.int (m), .int (0), .int (999)]) (rest := []) (pl := 658) (kc2 := 1) (ks2 := 6) hC hqX11_hour rfl kX11_needIn sX11_needIn (by decide +kernel) (c_FX_needIn hC m (0 : Int32) (999 : Int32)  M sz (d - 1) (by omega) s1 es1) (by omega) rfl rfl rfl (Nat.le_of_ble_eq_true rfl) (Nat.le_of_ble_eq_true rfl) rfl rfl rfl (Nat.le_of_ble_eq_true rfl) ⟨Nat.le_of_ble_eq_true rfl, Nat.le_of_ble_eq_true rfl⟩ (gt_xI hr) (gs_t fun sz3 q0 => ?_)
  have hr := g_if1 q0 hr
  refine gb_run 5 (pc2 := 20) (ls2 := [(0, .ref (0)), (1, .int (m))]) (st2 := [.ref (48), .ref (32)]) (M2 := s1.2) hC hqX11_hour rfl ?_
  obtain ⟨s2, es2, hr⟩ := g_bd hr
  refine gz_cV (z := qX1_start) (a := 32) (av := [.ref (48)]) (rest := []) (pl := 568) hC hqX11_hour rfl kX1_start sX1_start (by decide +kernel) (c_FG_start hC   (s1.2) sz3 (d - 1) (by omega) s2 es2) (by omega) ⟨rfl, rfl⟩ rfl (Nat.le_of_ble_eq_true rfl) (Nat.le_of_ble_eq_true rfl) rfl rfl rfl (Nat.le_of_ble_eq_true rfl) ⟨Nat.le_of_ble_eq_true rfl, Nat.le_of_ble_eq_true rfl⟩ (gs_V ?_)
  refine gb_run 2 (pc2 := 25) (ls2 := [(2, .int (0)), (0, .ref (0)), (1, .int (m))]) (st2 := []) (M2 := s2) hC hqX11_hour rfl ?_
  refine gw_pick [1, 2, 0] (ls2 := [(0, .ref (0)), (1, .int (m)), (2, .int (0))]) rfl ?_
  exact c_FX_hour_L25 hC m sz3 d (by omega) R 1000 (0 : Int32) s2 hr
def FX_late_L27 : Nat → Int32 → Int32 → gM → Option (Int32 × gM)
  | 0, _, _, _ => none
  | k + 1, x1, x2, M =>
  if (400 : Int32) ≤ x2 then (some (-1, M)) else ((FG_goOn (0 : Int32) M).bind fun s2 => if s2.1 = (0 : Int32) then (some (-1, s2.2)) else (if ((s2.2) 33 11) ≤ x1 then (FX_late_L27 k x1 (x2 + (1 : Int32)) (s2.2)) else (some (M 33 5, s2.2))))
set_option maxRecDepth 20000 in
theorem c_FX_late_L27 {l : Launch} {C : gC} (hC : g_ctx l C) (sz d : Nat) (hd : 6 ≤ d) (R : Int32 × gM) : ∀ (k : Nat) (x1 : Int32) (x2 : Int32) (M : gM), FX_late_L27 k x1 x2 M = some R → GW l C qX11_late d (gQg 956 g_S0 (qI R) sz) gN 0 0 27 [(0, .ref (0)), (1, .int (x1)), (2, .int (x2))] [] (956, g_S0, M, sz) := by
  intro k
  induction k with
  | zero => intro x1 x2 M hr; exact nomatch (show (none : Option (Int32 × gM)) = some R from hr)
  | succ k ih =>
    intro x1 x2 M hr
    unfold FX_late_L27 at hr
    refine gb_run 2 (pc2 := 31) (ls2 := [(0, .ref (0)), (1, .int (x1)), (2, .int (x2))]) (st2 := [.int (400), .int (x2)]) (M2 := M) hC hqX11_late rfl ?_
    refine gb_icmp_ge hqX11_late rfl (fun h1 => ?_) (fun h1 => ?_)
    ·
      have hr := g_if1 h1 hr
      refine gb_run 1 (pc2 := 81) (ls2 := [(0, .ref (0)), (1, .int (x1)), (2, .int (x2))]) (st2 := [.int (-1)]) (M2 := M) hC hqX11_late rfl ?_
      refine gb_iret hqX11_late rfl rfl (Nat.le_of_ble_eq_true rfl) (Nat.le_of_ble_eq_true rfl) ?_
      exact gl_I hr
    ·
      have hr := g_if0 h1 hr
      refine gb_run 8 (pc2 := 50) (ls2 := [(3, .int (M 33 5)), (0, .ref (0)), (1, .int (x1)), (2, .int (x2))]) (st2 := [.int (0), .ref (32)]) (M2 := M) hC hqX11_late rfl ?_
      obtain ⟨s2, es2, hr⟩ := g_bd hr
      refine gz_cV (z := qX1_goOn) (a := 32) (av := [.int (0)]) (rest := []) (pl := 573) hC hqX11_late rfl kX1_goOn sX1_goOn (by decide +kernel) (c_FG_goOn hC (0 : Int32)  M sz (d - 1) (by omega) s2 es2) (by omega) ⟨rfl, rfl⟩ rfl (Nat.le_of_ble_eq_true rfl) (Nat.le_of_ble_eq_true rfl) rfl rfl rfl (Nat.le_of_ble_eq_true rfl) ⟨Nat.le_of_ble_eq_true rfl, Nat.le_of_ble_eq_true rfl⟩ (gs_Z fun z3 => ?_)
      refine gb_if_ne hqX11_late rfl (fun h4 => ?_) (fun h4 => ?_)
      ·
        have hr := g_if0 h4 hr
        refine gb_run 5 (pc2 := 69) (ls2 := [(3, .int (M 33 5)), (0, .ref (0)), (1, .int (x1)), (2, .int (x2))]) (st2 := [.int (x1), .int ((s2.2) 33 11)]) (M2 := s2.2) hC hqX11_late rfl ?_
        refine gb_icmp_le hqX11_late rfl (fun h5 => ?_) (fun h5 => ?_)
        ·
          have hr := g_if1 h5 hr
          refine gb_run 2 (pc2 := 27) (ls2 := [(2, .int (x2 + (1 : Int32))), (3, .int (M 33 5)), (0, .ref (0)), (1, .int (x1))]) (st2 := []) (M2 := s2.2) hC hqX11_late rfl ?_
          refine gw_pick [2, 3, 0] (ls2 := [(0, .ref (0)), (1, .int (x1)), (2, .int (x2 + (1 : Int32)))]) rfl ?_
          exact ih x1 (x2 + (1 : Int32)) (s2.2) hr
        ·
          have hr := g_if0 h5 hr
          refine gb_run 1 (pc2 := 73) (ls2 := [(3, .int (M 33 5)), (0, .ref (0)), (1, .int (x1)), (2, .int (x2))]) (st2 := [.int (M 33 5)]) (M2 := s2.2) hC hqX11_late rfl ?_
          refine gb_iret hqX11_late rfl rfl (Nat.le_of_ble_eq_true rfl) (Nat.le_of_ble_eq_true rfl) ?_
          exact gl_I hr
      ·
        have hr := g_if1 h4 hr
        refine gb_run 1 (pc2 := 57) (ls2 := [(3, .int (M 33 5)), (0, .ref (0)), (1, .int (x1)), (2, .int (x2))]) (st2 := [.int (-1)]) (M2 := s2.2) hC hqX11_late rfl ?_
        refine gb_iret hqX11_late rfl rfl (Nat.le_of_ble_eq_true rfl) (Nat.le_of_ble_eq_true rfl) ?_
        exact gl_I hr
def FX_late  (M : gM) : Option (Int32 × gM) :=
  (FG_start M).bind fun s1 => FX_late_L27 1000 (s1 48 11) (0 : Int32) s1
set_option maxRecDepth 20000 in
theorem c_FX_late {l : Launch} {C : gC} (hC : g_ctx l C)   (M : gM) (sz d : Nat) (hd : 6 ≤ d) (R : Int32 × gM) (hr : FX_late M = some R) : gPg l C qX11_late d [.ref (0)] 956 g_S0 M sz (qI R) := by
  refine gPg.of (ls := [(0, .ref (0))]) (by decide +kernel) (Nat.le_of_ble_eq_true rfl) rfl ?_
  unfold FX_late at hr
  refine gb_run 5 (pc2 := 11) (ls2 := [(0, .ref (0))]) (st2 := [.ref (48), .ref (32)]) (M2 := M) hC hqX11_late rfl ?_
  obtain ⟨s1, es1, hr⟩ := g_bd hr
  refine gz_cV (z := qX1_start) (a := 32) (av := [.ref (48)]) (rest := []) (pl := 568) hC hqX11_late rfl kX1_start sX1_start (by decide +kernel) (c_FG_start hC   M sz (d - 1) (by omega) s1 es1) (by omega) ⟨rfl, rfl⟩ rfl (Nat.le_of_ble_eq_true rfl) (Nat.le_of_ble_eq_true rfl) rfl rfl rfl (Nat.le_of_ble_eq_true rfl) ⟨Nat.le_of_ble_eq_true rfl, Nat.le_of_ble_eq_true rfl⟩ (gs_V ?_)
  refine gb_run 7 (pc2 := 27) (ls2 := [(2, .int (0)), (1, .int (s1 48 11)), (0, .ref (0))]) (st2 := []) (M2 := s1) hC hqX11_late rfl ?_
  refine gw_pick [2, 1, 0] (ls2 := [(0, .ref (0)), (1, .int (s1 48 11)), (2, .int (0))]) rfl ?_
  exact c_FX_late_L27 hC sz d (by omega) R 1000 (s1 48 11) (0 : Int32) s1 hr
def FX_match (hoops : Int32) (m : Int32) (M : gM) : Option (Nat × Int32 × gM) :=
  (FX_needBits hoops (M 3 7) M).bind fun s1 => if s1.1 = 0 then ((FX_needIn m (0 : Int32) (999 : Int32) (s1.2)).bind fun s2 => if s2.1 = 0 then ((FA_solve hoops m (s2.2)).bind fun s3 => some (0, s3 39 7, s3)) else some (s2.1, 0, s2.2)) else some (s1.1, 0, s1.2)
set_option maxRecDepth 20000 in
theorem c_FX_match {l : Launch} {C : gC} (hC : g_ctx l C) (hoops : Int32) (m : Int32)  (M : gM) (sz d : Nat) (hd : 9 ≤ d) (R : Nat × Int32 × gM) (hr : FX_match hoops m M = some R) : gPt l C qX11_match d [.ref (0), .int (hoops), .int (m)] M sz (qtI R) (xtI R) := by
  refine gPt.of (ls := [(0, .ref (0)), (1, .int (hoops)), (2, .int (m))]) (by decide +kernel) (Nat.le_of_ble_eq_true rfl) rfl ?_
  unfold FX_match at hr
  refine gb_run 5 (pc2 := 9) (ls2 := [(0, .ref (0)), (1, .int (hoops)), (2, .int (m))]) (st2 := [.int (M 3 7), .int (hoops), .ref (0)]) (M2 := M) hC hqX11_match rfl ?_
  obtain ⟨s1, es1, hr⟩ := g_bd hr
  refine gt_cV (z := qX11_needBits) (a := 0) (av := [.int (hoops), .int (M 3 7)]) (rest := []) (pl := 1136) (kc2 := 1) (ks2 := 6) hC hqX11_match rfl kX11_needBits sX11_needBits (by decide +kernel) (c_FX_needBits hC hoops (M 3 7)  M sz (d - 1) (by omega) s1 es1) (by omega) rfl rfl rfl (Nat.le_of_ble_eq_true rfl) (Nat.le_of_ble_eq_true rfl) rfl rfl rfl (Nat.le_of_ble_eq_true rfl) ⟨Nat.le_of_ble_eq_true rfl, Nat.le_of_ble_eq_true rfl⟩ (gt_xI hr) (gs_t fun sz3 q0 => ?_)
  have hr := g_if1 q0 hr
  refine gb_run 4 (pc2 := 18) (ls2 := [(0, .ref (0)), (1, .int (hoops)), (2, .int (m))]) (st2 := [.int (999), .int (0), .int (m), .ref (0)]) (M2 := s1.2) hC hqX11_match rfl ?_
  obtain ⟨s2, es2, hr⟩ := g_bd hr
  refine gt_cV (z := qX11_needIn) (a := 0) (av := [.int (m), .int (0), .int (999)]) (rest := []) (pl := 658) (kc2 := 2) (ks2 := 12) hC hqX11_match rfl kX11_needIn sX11_needIn (by decide +kernel) (c_FX_needIn hC m (0 : Int32) (999 : Int32)  (s1.2) sz3 (d - 1) (by omega) s2 es2) (by omega) rfl rfl rfl (Nat.le_of_ble_eq_true rfl) (Nat.le_of_ble_eq_true rfl) rfl rfl rfl (Nat.le_of_ble_eq_true rfl) ⟨Nat.le_of_ble_eq_true rfl, Nat.le_of_ble_eq_true rfl⟩ (gt_xI hr) (gs_t fun sz5 q0 => ?_)
  have hr := g_if1 q0 hr
  refine gb_run 7 (pc2 := 34) (ls2 := [(0, .ref (0)), (1, .int (hoops)), (2, .int (m))]) (st2 := [.int (m), .int (hoops), .ref (48), .ref (39)]) (M2 := s2.2) hC hqX11_match rfl ?_
  obtain ⟨s3, es3, hr⟩ := g_bd hr
  refine gz_cV (z := qX5_solve) (a := 39) (av := [.ref (48), .int (hoops), .int (m)]) (rest := []) (pl := 1143) hC hqX11_match rfl kX5_solve sX5_solve (by decide +kernel) (c_FA_solve hC hoops m  (s2.2) sz5 (d - 1) (by omega) s3 es3) (by omega) ⟨rfl, rfl⟩ rfl (Nat.le_of_ble_eq_true rfl) (Nat.le_of_ble_eq_true rfl) rfl rfl rfl (Nat.le_of_ble_eq_true rfl) ⟨Nat.le_of_ble_eq_true rfl, Nat.le_of_ble_eq_true rfl⟩ (gs_V ?_)
  refine gb_run 3 (pc2 := 44) (ls2 := [(0, .ref (0)), (1, .int (hoops)), (2, .int (m))]) (st2 := [.int (s3 39 7)]) (M2 := s3) hC hqX11_match rfl ?_
  refine gb_iret hqX11_match rfl rfl (Nat.le_of_ble_eq_true rfl) (Nat.le_of_ble_eq_true rfl) ?_
  exact gl_tI hr
def FX_matched (hoops : Int32) (m : Int32) (h : Int32) (M : gM) : Option (Nat × Int32 × gM) :=
  (FX_needOne h (M 3 7) M).bind fun s1 => if s1.1 = 0 then ((FX_needBits hoops ((s1.2) 3 7) (s1.2)).bind fun s2 => if s2.1 = 0 then ((FX_needIn m (0 : Int32) (999 : Int32) (s2.2)).bind fun s3 => if s3.1 = 0 then ((FA_solve hoops m (s3.2)).bind fun s4 => some (0, r_at (s4 40) 8 h, s4)) else some (s3.1, 0, s3.2)) else some (s2.1, 0, s2.2)) else some (s1.1, 0, s1.2)
set_option maxRecDepth 20000 in
theorem c_FX_matched {l : Launch} {C : gC} (hC : g_ctx l C) (hoops : Int32) (m : Int32) (h : Int32)  (M : gM) (sz d : Nat) (hd : 9 ≤ d) (R : Nat × Int32 × gM) (hr : FX_matched hoops m h M = some R) : gPt l C qX11_matched d [.ref (0), .int (hoops), .int (m), .int (h)] M sz (qtI R) (xtI R) := by
  refine gPt.of (ls := [(0, .ref (0)), (1, .int (hoops)), (2, .int (m)), (3, .int (h))]) (by decide +kernel) (Nat.le_of_ble_eq_true rfl) rfl ?_
  unfold FX_matched at hr
  refine gb_run 5 (pc2 := 9) (ls2 := [(0, .ref (0)), (1, .int (hoops)), (2, .int (m)), (3, .int (h))]) (st2 := [.int (M 3 7), .int (h), .ref (0)]) (M2 := M) hC hqX11_matched rfl ?_
  obtain ⟨s1, es1, hr⟩ := g_bd hr
  refine gt_cV (z := qX11_needOne) (a := 0) (av := [.int (h), .int (M 3 7)]) (rest := []) (pl := 1042) (kc2 := 1) (ks2 := 6) hC hqX11_matched rfl kX11_needOne sX11_needOne (by decide +kernel) (c_FX_needOne hC h (M 3 7)  M sz (d - 1) (by omega) s1 es1) (by omega) rfl rfl rfl (Nat.le_of_ble_eq_true rfl) (Nat.le_of_ble_eq_true rfl) rfl rfl rfl (Nat.le_of_ble_eq_true rfl) ⟨Nat.le_of_ble_eq_true rfl, Nat.le_of_ble_eq_true rfl⟩ (gt_xI hr) (gs_t fun sz3 q0 => ?_)
  have hr := g_if1 q0 hr
  refine gb_run 5 (pc2 := 21) (ls2 := [(0, .ref (0)), (1, .int (hoops)), (2, .int (m)), (3, .int (h))]) (st2 := [.int ((s1.2) 3 7), .int (hoops), .ref (0)]) (M2 := s1.2) hC hqX11_matched rfl ?_
  obtain ⟨s2, es2, hr⟩ := g_bd hr
  refine gt_cV (z := qX11_needBits) (a := 0) (av := [.int (hoops), .int ((s1.2) 3 7)]) (rest := []) (pl := 1136) (kc2 := 2) (ks2 := 12) hC hqX11_matched rfl kX11_needBits sX11_needBits (by decide +kernel) (c_FX_needBits hC hoops ((s1.2) 3 7)  (s1.2) sz3 (d - 1) (by omega) s2 es2) (by omega) rfl rfl rfl (Nat.le_of_ble_eq_true rfl) (Nat.le_of_ble_eq_true rfl) rfl rfl rfl (Nat.le_of_ble_eq_true rfl) ⟨Nat.le_of_ble_eq_true rfl, Nat.le_of_ble_eq_true rfl⟩ (gt_xI hr) (gs_t fun sz5 q0 => ?_)
  have hr := g_if1 q0 hr
  refine gb_run 4 (pc2 := 30) (ls2 := [(0, .ref (0)), (1, .int (hoops)), (2, .int (m)), (3, .int (h))]) (st2 := [.int (999), .int (0), .int (m), .ref (0)]) (M2 := s2.2) hC hqX11_matched rfl ?_
  obtain ⟨s3, es3, hr⟩ := g_bd hr
  refine gt_cV (z := qX11_needIn) (a := 0) (av := [.int (m), .int (0), .int (999)]) (rest := []) (pl := 658) (kc2 := 3) (ks2 := 18) hC hqX11_matched rfl kX11_needIn sX11_needIn (by decide +kernel) (c_FX_needIn hC m (0 : Int32) (999 : Int32)  (s2.2) sz5 (d - 1) (by omega) s3 es3) (by omega) rfl rfl rfl (Nat.le_of_ble_eq_true rfl) (Nat.le_of_ble_eq_true rfl) rfl rfl rfl (Nat.le_of_ble_eq_true rfl) ⟨Nat.le_of_ble_eq_true rfl, Nat.le_of_ble_eq_true rfl⟩ (gt_xI hr) (gs_t fun sz6 q0 => ?_)
  have hr := g_if1 q0 hr
  refine gb_run 7 (pc2 := 46) (ls2 := [(0, .ref (0)), (1, .int (hoops)), (2, .int (m)), (3, .int (h))]) (st2 := [.int (m), .int (hoops), .ref (48), .ref (39)]) (M2 := s3.2) hC hqX11_matched rfl ?_
  obtain ⟨s4, es4, hr⟩ := g_bd hr
  refine gz_cV (z := qX5_solve) (a := 39) (av := [.ref (48), .int (hoops), .int (m)]) (rest := []) (pl := 1143) hC hqX11_matched rfl kX5_solve sX5_solve (by decide +kernel) (c_FA_solve hC hoops m  (s3.2) sz6 (d - 1) (by omega) s4 es4) (by omega) ⟨rfl, rfl⟩ rfl (Nat.le_of_ble_eq_true rfl) (Nat.le_of_ble_eq_true rfl) rfl rfl rfl (Nat.le_of_ble_eq_true rfl) ⟨Nat.le_of_ble_eq_true rfl, Nat.le_of_ble_eq_true rfl⟩ (gs_V ?_)
  refine gb_run 4 (pc2 := 57) (ls2 := [(0, .ref (0)), (1, .int (hoops)), (2, .int (m)), (3, .int (h))]) (st2 := [.int (h), .ref (40)]) (M2 := s4) hC hqX11_matched rfl ?_
  refine gz_cS (z := qX11_at) (av := [.ref (40), .int (h)]) (rest := []) (pl := 1062) hC hqX11_matched rfl kX11_at (by decide +kernel) (c_at hC 40 8 _ h s4 sz6 (d - 1) (by omega) (Nat.le_of_ble_eq_true rfl) rfl (Nat.le_of_ble_eq_true rfl)) (by omega) ⟨rfl, rfl⟩ rfl rfl (Nat.le_of_ble_eq_true rfl) ⟨Nat.le_of_ble_eq_true rfl, Nat.le_of_ble_eq_true rfl⟩ (gs_Ip (x := r_at (s4 40) 8 h) ?_)
  refine gb_iret hqX11_matched rfl rfl (Nat.le_of_ble_eq_true rfl) (Nat.le_of_ble_eq_true rfl) ?_
  exact gl_tI hr
def FX_fits (what : Int32) (M : gM) : Option (Nat × Int32 × gM) :=
  (FX_needIn what (0 : Int32) (1 : Int32) M).bind fun s1 => if s1.1 = 0 then ((FU_findFits (s1.2)).bind fun s2 => if what = (0 : Int32) then (some (0, s2 44 5, s2)) else (some (0, s2 44 6, s2))) else some (s1.1, 0, s1.2)
set_option maxRecDepth 20000 in
theorem c_FX_fits {l : Launch} {C : gC} (hC : g_ctx l C) (what : Int32)  (M : gM) (sz d : Nat) (hd : 8 ≤ d) (R : Nat × Int32 × gM) (hr : FX_fits what M = some R) : gPt l C qX11_fits d [.ref (0), .int (what)] M sz (qtI R) (xtI R) := by
  refine gPt.of (ls := [(0, .ref (0)), (1, .int (what))]) (by decide +kernel) (Nat.le_of_ble_eq_true rfl) rfl ?_
  unfold FX_fits at hr
  refine gb_run 4 (pc2 := 4) (ls2 := [(0, .ref (0)), (1, .int (what))]) (st2 := [.int (1), .int (0), .int (what), .ref (0)]) (M2 := M) hC hqX11_fits rfl ?_
  obtain ⟨s1, es1, hr⟩ := g_bd hr
  refine gt_cV (z := qX11_needIn) (a := 0) (av := [.int (what), .int (0), .int (1)]) (rest := []) (pl := 658) (kc2 := 1) (ks2 := 6) hC hqX11_fits rfl kX11_needIn sX11_needIn (by decide +kernel) (c_FX_needIn hC what (0 : Int32) (1 : Int32)  M sz (d - 1) (by omega) s1 es1) (by omega) rfl rfl rfl (Nat.le_of_ble_eq_true rfl) (Nat.le_of_ble_eq_true rfl) rfl rfl rfl (Nat.le_of_ble_eq_true rfl) ⟨Nat.le_of_ble_eq_true rfl, Nat.le_of_ble_eq_true rfl⟩ (gt_xI hr) (gs_t fun sz3 q0 => ?_)
  have hr := g_if1 q0 hr
  refine gb_run 5 (pc2 := 18) (ls2 := [(0, .ref (0)), (1, .int (what))]) (st2 := [.ref (48), .ref (44)]) (M2 := s1.2) hC hqX11_fits rfl ?_
  obtain ⟨s2, es2, hr⟩ := g_bd hr
  refine gz_cV (z := qX2_findFits) (a := 44) (av := [.ref (48)]) (rest := []) (pl := 1200) hC hqX11_fits rfl kX2_findFits sX2_findFits (by decide +kernel) (c_FU_findFits hC   (s1.2) sz3 (d - 1) (by omega) s2 es2) (by omega) ⟨rfl, rfl⟩ rfl (Nat.le_of_ble_eq_true rfl) (Nat.le_of_ble_eq_true rfl) rfl rfl rfl (Nat.le_of_ble_eq_true rfl) ⟨Nat.le_of_ble_eq_true rfl, Nat.le_of_ble_eq_true rfl⟩ (gs_V ?_)
  refine gb_run 1 (pc2 := 22) (ls2 := [(0, .ref (0)), (1, .int (what))]) (st2 := [.int (what)]) (M2 := s2) hC hqX11_fits rfl ?_
  refine gb_if_ne hqX11_fits rfl (fun h3 => ?_) (fun h3 => ?_)
  ·
    have hr := g_if0 h3 hr
    refine gb_run 3 (pc2 := 42) (ls2 := [(0, .ref (0)), (1, .int (what))]) (st2 := [.int (s2 44 6)]) (M2 := s2) hC hqX11_fits rfl ?_
    refine gb_iret hqX11_fits rfl rfl (Nat.le_of_ble_eq_true rfl) (Nat.le_of_ble_eq_true rfl) ?_
    exact gl_tI hr
  ·
    have hr := g_if1 h3 hr
    refine gb_run 4 (pc2 := 42) (ls2 := [(0, .ref (0)), (1, .int (what))]) (st2 := [.int (s2 44 5)]) (M2 := s2) hC hqX11_fits rfl ?_
    refine gb_iret hqX11_fits rfl rfl (Nat.le_of_ble_eq_true rfl) (Nat.le_of_ble_eq_true rfl) ?_
    exact gl_tI hr
def FX_listen (what : Int32) (M : gM) : Option (Nat × Int32 × gM) :=
  (FX_needIn what (0 : Int32) (1 : Int32) M).bind fun s1 => if s1.1 = 0 then ((FU_chooseGate (s1.2)).bind fun s2 => if what = (0 : Int32) then (some (0, s2 44 7, s2)) else (some (0, s2 44 8, s2))) else some (s1.1, 0, s1.2)
set_option maxRecDepth 20000 in
theorem c_FX_listen {l : Launch} {C : gC} (hC : g_ctx l C) (what : Int32)  (M : gM) (sz d : Nat) (hd : 8 ≤ d) (R : Nat × Int32 × gM) (hr : FX_listen what M = some R) : gPt l C qX11_listen d [.ref (0), .int (what)] M sz (qtI R) (xtI R) := by
  refine gPt.of (ls := [(0, .ref (0)), (1, .int (what))]) (by decide +kernel) (Nat.le_of_ble_eq_true rfl) rfl ?_
  unfold FX_listen at hr
  refine gb_run 4 (pc2 := 4) (ls2 := [(0, .ref (0)), (1, .int (what))]) (st2 := [.int (1), .int (0), .int (what), .ref (0)]) (M2 := M) hC hqX11_listen rfl ?_
  obtain ⟨s1, es1, hr⟩ := g_bd hr
  refine gt_cV (z := qX11_needIn) (a := 0) (av := [.int (what), .int (0), .int (1)]) (rest := []) (pl := 658) (kc2 := 1) (ks2 := 6) hC hqX11_listen rfl kX11_needIn sX11_needIn (by decide +kernel) (c_FX_needIn hC what (0 : Int32) (1 : Int32)  M sz (d - 1) (by omega) s1 es1) (by omega) rfl rfl rfl (Nat.le_of_ble_eq_true rfl) (Nat.le_of_ble_eq_true rfl) rfl rfl rfl (Nat.le_of_ble_eq_true rfl) ⟨Nat.le_of_ble_eq_true rfl, Nat.le_of_ble_eq_true rfl⟩ (gt_xI hr) (gs_t fun sz3 q0 => ?_)
  have hr := g_if1 q0 hr
  refine gb_run 5 (pc2 := 18) (ls2 := [(0, .ref (0)), (1, .int (what))]) (st2 := [.ref (48), .ref (44)]) (M2 := s1.2) hC hqX11_listen rfl ?_
  obtain ⟨s2, es2, hr⟩ := g_bd hr
  refine gz_cV (z := qX2_chooseGate) (a := 44) (av := [.ref (48)]) (rest := []) (pl := 1219) hC hqX11_listen rfl kX2_chooseGate sX2_chooseGate (by decide +kernel) (c_FU_chooseGate hC   (s1.2) sz3 (d - 1) (by omega) s2 es2) (by omega) ⟨rfl, rfl⟩ rfl (Nat.le_of_ble_eq_true rfl) (Nat.le_of_ble_eq_true rfl) rfl rfl rfl (Nat.le_of_ble_eq_true rfl) ⟨Nat.le_of_ble_eq_true rfl, Nat.le_of_ble_eq_true rfl⟩ (gs_V ?_)
  refine gb_run 1 (pc2 := 22) (ls2 := [(0, .ref (0)), (1, .int (what))]) (st2 := [.int (what)]) (M2 := s2) hC hqX11_listen rfl ?_
  refine gb_if_ne hqX11_listen rfl (fun h3 => ?_) (fun h3 => ?_)
  ·
    have hr := g_if0 h3 hr
    refine gb_run 3 (pc2 := 42) (ls2 := [(0, .ref (0)), (1, .int (what))]) (st2 := [.int (s2 44 8)]) (M2 := s2) hC hqX11_listen rfl ?_
    refine gb_iret hqX11_listen rfl rfl (Nat.le_of_ble_eq_true rfl) (Nat.le_of_ble_eq_true rfl) ?_
    exact gl_tI hr
  ·
    have hr := g_if1 h3 hr
    refine gb_run 4 (pc2 := 42) (ls2 := [(0, .ref (0)), (1, .int (what))]) (st2 := [.int (s2 44 7)]) (M2 := s2) hC hqX11_listen rfl ?_
    refine gb_iret hqX11_listen rfl rfl (Nat.le_of_ble_eq_true rfl) (Nat.le_of_ble_eq_true rfl) ?_
    exact gl_tI hr
def FX_partOf_J55 (up : Int64) (low : Int64) (part : Int32) (x5 : Int64) (y0 : Int64) : Option (Int64) :=
  if (lg_cmp x5 (0 : Int64)) ≤ (0 : Int32) then (some y0) else (if x5 = 0 then none else (some (y0 / x5)))
set_option maxRecDepth 20000 in
theorem c_FX_partOf_J55 {l : Launch} {C : gC} (hC : g_ctx l C) (up : Int64) (low : Int64) (part : Int32) (M : gM) (sz d : Nat) (hd : 1 ≤ d) (R : Int64) (x5 : Int64) (y0 : Int64) (hr : FX_partOf_J55 up low part x5 y0 = some R) : GW l C qX11_partOf d (gQg 956 g_S0 (qJp M R) sz) gN 0 0 55 [(5, .long (x5))] [.long (y0)] (956, g_S0, M, sz) := by
  unfold FX_partOf_J55 at hr
  refine gb_run 4 (pc2 := 61) (ls2 := [(9, .long (y0)), (5, .long (x5))]) (st2 := [.int (lg_cmp x5 (0 : Int64))]) (M2 := M) hC hqX11_partOf rfl ?_
  refine gb_if_le hqX11_partOf rfl (fun h1 => ?_) (fun h1 => ?_)
  ·
    have hr := g_if1 h1 hr
    refine gb_run 1 (pc2 := 74) (ls2 := [(9, .long (y0)), (5, .long (x5))]) (st2 := [.long (y0)]) (M2 := M) hC hqX11_partOf rfl ?_
    refine gb_lret hqX11_partOf rfl rfl (Nat.le_of_ble_eq_true rfl) (Nat.le_of_ble_eq_true rfl) ?_
    exact gl_Jp hr
  ·
    have hr := g_if0 h1 hr
    refine gb_run 2 (pc2 := 68) (ls2 := [(9, .long (y0)), (5, .long (x5))]) (st2 := [.long (x5), .long (y0)]) (M2 := M) hC hqX11_partOf rfl ?_
    obtain ⟨h2, hr⟩ := g_nz hr
    refine gb_ldiv hqX11_partOf rfl h2 ?_
    refine gb_run 1 (pc2 := 74) (ls2 := [(9, .long (y0)), (5, .long (x5))]) (st2 := [.long (y0 / x5)]) (M2 := M) hC hqX11_partOf rfl ?_
    refine gb_lret hqX11_partOf rfl rfl (Nat.le_of_ble_eq_true rfl) (Nat.le_of_ble_eq_true rfl) ?_
    exact gl_Jp hr
def FX_partOf_J45 (up : Int64) (low : Int64) (part : Int32) (x5 : Int64) : Option (Int64) :=
  if part = (0 : Int32) then (FX_partOf_J55 up low part x5 up) else (FX_partOf_J55 up low part x5 low)
set_option maxRecDepth 20000 in
theorem c_FX_partOf_J45 {l : Launch} {C : gC} (hC : g_ctx l C) (up : Int64) (low : Int64) (part : Int32) (M : gM) (sz d : Nat) (hd : 1 ≤ d) (R : Int64) (x5 : Int64) (hr : FX_partOf_J45 up low part x5 = some R) : GW l C qX11_partOf d (gQg 956 g_S0 (qJp M R) sz) gN 0 0 45 [(0, .long (up)), (2, .long (low)), (4, .int (part)), (5, .long (x5))] [] (956, g_S0, M, sz) := by
  unfold FX_partOf_J45 at hr
  refine gb_run 1 (pc2 := 47) (ls2 := [(0, .long (up)), (2, .long (low)), (4, .int (part)), (5, .long (x5))]) (st2 := [.int (part)]) (M2 := M) hC hqX11_partOf rfl ?_
  refine gb_if_ne hqX11_partOf rfl (fun h1 => ?_) (fun h1 => ?_)
  ·
    have hr := g_if0 h1 hr
    refine gb_run 1 (pc2 := 55) (ls2 := [(0, .long (up)), (2, .long (low)), (4, .int (part)), (5, .long (x5))]) (st2 := [.long (low)]) (M2 := M) hC hqX11_partOf rfl ?_
    refine gw_pick [3] (ls2 := [(5, .long (x5))]) rfl ?_
    exact c_FX_partOf_J55 hC up low part M sz d (by omega) R x5 low hr
  ·
    have hr := g_if1 h1 hr
    refine gb_run 2 (pc2 := 55) (ls2 := [(0, .long (up)), (2, .long (low)), (4, .int (part)), (5, .long (x5))]) (st2 := [.long (up)]) (M2 := M) hC hqX11_partOf rfl ?_
    refine gw_pick [3] (ls2 := [(5, .long (x5))]) rfl ?_
    exact c_FX_partOf_J55 hC up low part M sz d (by omega) R x5 up hr
def FX_partOf_L9 (up : Int64) (low : Int64) (part : Int32) : Nat → Int64 → Int64 → Int32 → Option (Int64)
  | 0, _, _, _ => none
  | k + 1, x5, x7, x9 =>
  if (200 : Int32) ≤ x9 then (FX_partOf_J45 up low part x5) else (if (lg_cmp x7 (0 : Int64)) = (0 : Int32) then (FX_partOf_J45 up low part x5) else (if x7 = 0 then none else (FX_partOf_L9 up low part k x7 (x5 - x5 / x7 * x7) (x9 + (1 : Int32)))))
set_option maxRecDepth 20000 in
theorem c_FX_partOf_L9 {l : Launch} {C : gC} (hC : g_ctx l C) (up : Int64) (low : Int64) (part : Int32) (M : gM) (sz d : Nat) (hd : 1 ≤ d) (R : Int64) : ∀ (k : Nat) (x5 : Int64) (x7 : Int64) (x9 : Int32), FX_partOf_L9 up low part k x5 x7 x9 = some R → GW l C qX11_partOf d (gQg 956 g_S0 (qJp M R) sz) gN 0 0 9 [(0, .long (up)), (2, .long (low)), (4, .int (part)), (5, .long (x5)), (7, .long (x7)), (9, .int (x9))] [] (956, g_S0, M, sz) := by
  intro k
  induction k with
  | zero => intro x5 x7 x9 hr; exact nomatch (show (none : Option (Int64)) = some R from hr)
  | succ k ih =>
    intro x5 x7 x9 hr
    unfold FX_partOf_L9 at hr
    refine gb_run 2 (pc2 := 14) (ls2 := [(0, .long (up)), (2, .long (low)), (4, .int (part)), (5, .long (x5)), (7, .long (x7)), (9, .int (x9))]) (st2 := [.int (200), .int (x9)]) (M2 := M) hC hqX11_partOf rfl ?_
    refine gb_icmp_ge hqX11_partOf rfl (fun h1 => ?_) (fun h1 => ?_)
    ·
      have hr := g_if1 h1 hr
      refine gw_pick [0, 1, 2, 3] (ls2 := [(0, .long (up)), (2, .long (low)), (4, .int (part)), (5, .long (x5))]) rfl ?_
      exact c_FX_partOf_J45 hC up low part M sz d (by omega) R x5 hr
    ·
      have hr := g_if0 h1 hr
      refine gb_run 3 (pc2 := 21) (ls2 := [(0, .long (up)), (2, .long (low)), (4, .int (part)), (5, .long (x5)), (7, .long (x7)), (9, .int (x9))]) (st2 := [.int (lg_cmp x7 (0 : Int64))]) (M2 := M) hC hqX11_partOf rfl ?_
      refine gb_if_eq hqX11_partOf rfl (fun h2 => ?_) (fun h2 => ?_)
      ·
        have hr := g_if1 h2 hr
        refine gw_pick [0, 1, 2, 3] (ls2 := [(0, .long (up)), (2, .long (low)), (4, .int (part)), (5, .long (x5))]) rfl ?_
        exact c_FX_partOf_J45 hC up low part M sz d (by omega) R x5 hr
      ·
        have hr := g_if0 h2 hr
        refine gb_run 2 (pc2 := 28) (ls2 := [(0, .long (up)), (2, .long (low)), (4, .int (part)), (5, .long (x5)), (7, .long (x7)), (9, .int (x9))]) (st2 := [.long (x7), .long (x5)]) (M2 := M) hC hqX11_partOf rfl ?_
        obtain ⟨h3, hr⟩ := g_nz hr
        refine gb_lrem hqX11_partOf rfl h3 ?_
        refine gb_run 7 (pc2 := 9) (ls2 := [(9, .int (x9 + (1 : Int32))), (7, .long (x5 - x5 / x7 * x7)), (5, .long (x7)), (10, .long (x5 - x5 / x7 * x7)), (0, .long (up)), (2, .long (low)), (4, .int (part))]) (st2 := []) (M2 := M) hC hqX11_partOf rfl ?_
        refine gw_pick [4, 5, 6, 2, 1, 0] (ls2 := [(0, .long (up)), (2, .long (low)), (4, .int (part)), (5, .long (x7)), (7, .long (x5 - x5 / x7 * x7)), (9, .int (x9 + (1 : Int32)))]) rfl ?_
        exact ih x7 (x5 - x5 / x7 * x7) (x9 + (1 : Int32)) hr
def FX_partOf (up : Int64) (low : Int64) (part : Int32) : Option (Int64) :=
  FX_partOf_L9 up low part 1000 low up (0 : Int32)
set_option maxRecDepth 20000 in
theorem c_FX_partOf {l : Launch} {C : gC} (hC : g_ctx l C) (up : Int64) (low : Int64) (part : Int32)  (M : gM) (sz d : Nat) (hd : 1 ≤ d) (R : Int64) (hr : FX_partOf up low part = some R) : gPg l C qX11_partOf d [.long (up), .long (low), .int (part)] 956 g_S0 M sz (qJp M R) := by
  refine gPg.of (ls := [(0, .long (up)), (2, .long (low)), (4, .int (part))]) (by decide +kernel) (Nat.le_of_ble_eq_true rfl) rfl ?_
  unfold FX_partOf at hr
  refine gb_run 6 (pc2 := 9) (ls2 := [(9, .int (0)), (7, .long (up)), (5, .long (low)), (0, .long (up)), (2, .long (low)), (4, .int (part))]) (st2 := []) (M2 := M) hC hqX11_partOf rfl ?_
  refine gw_pick [3, 4, 5, 2, 1, 0] (ls2 := [(0, .long (up)), (2, .long (low)), (4, .int (part)), (5, .long (low)), (7, .long (up)), (9, .int (0))]) rfl ?_
  exact c_FX_partOf_L9 hC up low part M sz d (by omega) R 1000 low up (0 : Int32) hr
def FX_safe_L27 (walks : Int32) (part : Int32) : Nat → Int64 → Int64 → Int32 → gM → Option (Nat × Int64 × gM)
  | 0, _, _, _, _ => none
  | k + 1, x3, x5, x7, M =>
  if (M 3 5) ≤ x7 then ((FX_partOf x3 x5 part).bind fun s2 => some (0, s2, M)) else (if (F_hasBit walks x7) = (0 : Int32) then (FX_safe_L27 walks part k x3 x5 (x7 + (1 : Int32)) M) else (FX_safe_L27 walks part k (x3 * (((16 : Int32) - (r_at (M 5) 8 x7)).toInt64)) (x5 * (16 : Int64)) (x7 + (1 : Int32)) M))
set_option maxRecDepth 20000 in
theorem c_FX_safe_L27 {l : Launch} {C : gC} (hC : g_ctx l C) (walks : Int32) (part : Int32) (sz d : Nat) (hd : 9 ≤ d) (R : Nat × Int64 × gM) : ∀ (k : Nat) (x3 : Int64) (x5 : Int64) (x7 : Int32) (M : gM), FX_safe_L27 walks part k x3 x5 x7 M = some R → GW l C qX11_safe d (gQt (qtJ R)) (gNt (xtJ R)) 2 12 27 [(0, .ref (0)), (1, .int (walks)), (2, .int (part)), (3, .long (x3)), (5, .long (x5)), (7, .int (x7))] [] (956, g_S0, M, sz) := by
  intro k
  induction k with
  | zero => intro x3 x5 x7 M hr; exact nomatch (show (none : Option (Nat × Int64 × gM)) = some R from hr)
  | succ k ih =>
    intro x3 x5 x7 M hr
    unfold FX_safe_L27 at hr
    refine gb_run 4 (pc2 := 36) (ls2 := [(0, .ref (0)), (1, .int (walks)), (2, .int (part)), (3, .long (x3)), (5, .long (x5)), (7, .int (x7))]) (st2 := [.int (M 3 5), .int (x7)]) (M2 := M) hC hqX11_safe rfl ?_
    refine gb_icmp_ge hqX11_safe rfl (fun h1 => ?_) (fun h1 => ?_)
    ·
      have hr := g_if1 h1 hr
      refine gb_run 3 (pc2 := 85) (ls2 := [(0, .ref (0)), (1, .int (walks)), (2, .int (part)), (3, .long (x3)), (5, .long (x5)), (7, .int (x7))]) (st2 := [.int (part), .long (x5), .long (x3)]) (M2 := M) hC hqX11_safe rfl ?_
      obtain ⟨s2, es2, hr⟩ := g_bd hr
      refine gz_cS (z := qX11_partOf) (av := [.long (x3), .long (x5), .int (part)]) (rest := []) (pl := 1245) hC hqX11_safe rfl kX11_partOf (by decide +kernel) (c_FX_partOf hC x3 x5 part  M sz (d - 1) (by omega) s2 es2) (by omega) ⟨rfl, rfl⟩ rfl rfl (Nat.le_of_ble_eq_true rfl) ⟨Nat.le_of_ble_eq_true rfl, Nat.le_of_ble_eq_true rfl⟩ (gs_Jp ?_)
      refine gb_lret hqX11_safe rfl rfl (Nat.le_of_ble_eq_true rfl) (Nat.le_of_ble_eq_true rfl) ?_
      exact gl_tJ hr
    ·
      have hr := g_if0 h1 hr
      refine gb_run 2 (pc2 := 42) (ls2 := [(0, .ref (0)), (1, .int (walks)), (2, .int (part)), (3, .long (x3)), (5, .long (x5)), (7, .int (x7))]) (st2 := [.int (x7), .int (walks)]) (M2 := M) hC hqX11_safe rfl ?_
      refine gz_cS (z := qX11_hasBit) (av := [.int (walks), .int (x7)]) (rest := []) (pl := 1243) hC hqX11_safe rfl kX11_hasBit (by decide +kernel) (c_F_hasBit hC walks x7  M sz (d - 1) (by omega)) (by omega) ⟨rfl, rfl⟩ rfl rfl (Nat.le_of_ble_eq_true rfl) ⟨Nat.le_of_ble_eq_true rfl, Nat.le_of_ble_eq_true rfl⟩ (gs_Zp fun z4 => ?_)
      refine gb_if_eq hqX11_safe rfl (fun h5 => ?_) (fun h5 => ?_)
      ·
        have hr := g_if1 h5 hr
        refine gb_run 2 (pc2 := 27) (ls2 := [(7, .int (x7 + (1 : Int32))), (0, .ref (0)), (1, .int (walks)), (2, .int (part)), (3, .long (x3)), (5, .long (x5))]) (st2 := []) (M2 := M) hC hqX11_safe rfl ?_
        refine gw_pick [1, 2, 3, 4, 5, 0] (ls2 := [(0, .ref (0)), (1, .int (walks)), (2, .int (part)), (3, .long (x3)), (5, .long (x5)), (7, .int (x7 + (1 : Int32)))]) rfl ?_
        exact ih x3 x5 (x7 + (1 : Int32)) M hr
      ·
        have hr := g_if0 h5 hr
        refine gb_run 6 (pc2 := 60) (ls2 := [(0, .ref (0)), (1, .int (walks)), (2, .int (part)), (3, .long (x3)), (5, .long (x5)), (7, .int (x7))]) (st2 := [.int (x7), .ref (5), .int (16), .long (x3)]) (M2 := M) hC hqX11_safe rfl ?_
        refine gz_cS (z := qX11_at) (av := [.ref (5), .int (x7)]) (rest := [.int (16), .long (x3)]) (pl := 1062) hC hqX11_safe rfl kX11_at (by decide +kernel) (c_at hC 5 8 _ x7 M sz (d - 1) (by omega) (Nat.le_of_ble_eq_true rfl) rfl (Nat.le_of_ble_eq_true rfl)) (by omega) ⟨rfl, rfl⟩ rfl rfl (Nat.le_of_ble_eq_true rfl) ⟨Nat.le_of_ble_eq_true rfl, Nat.le_of_ble_eq_true rfl⟩ (gs_Ip (x := r_at (M 5) 8 x7) ?_)
        refine gb_run 10 (pc2 := 27) (ls2 := [(7, .int (x7 + (1 : Int32))), (5, .long (x5 * (16 : Int64))), (3, .long (x3 * (((16 : Int32) - (r_at (M 5) 8 x7)).toInt64))), (0, .ref (0)), (1, .int (walks)), (2, .int (part))]) (st2 := []) (M2 := M) hC hqX11_safe rfl ?_
        refine gw_pick [3, 4, 5, 2, 1, 0] (ls2 := [(0, .ref (0)), (1, .int (walks)), (2, .int (part)), (3, .long (x3 * (((16 : Int32) - (r_at (M 5) 8 x7)).toInt64))), (5, .long (x5 * (16 : Int64))), (7, .int (x7 + (1 : Int32)))]) rfl ?_
        exact ih (x3 * (((16 : Int32) - (r_at (M 5) 8 x7)).toInt64)) (x5 * (16 : Int64)) (x7 + (1 : Int32)) M hr
def FX_safe (walks : Int32) (part : Int32) (M : gM) : Option (Nat × Int64 × gM) :=
  (FX_needBits walks (M 3 5) M).bind fun s1 => if s1.1 = 0 then ((FX_needIn part (0 : Int32) (1 : Int32) (s1.2)).bind fun s2 => if s2.1 = 0 then (FX_safe_L27 walks part 1000 (1 : Int64) (1 : Int64) (0 : Int32) (s2.2)) else some (s2.1, 0, s2.2)) else some (s1.1, 0, s1.2)
set_option maxRecDepth 20000 in
theorem c_FX_safe {l : Launch} {C : gC} (hC : g_ctx l C) (walks : Int32) (part : Int32)  (M : gM) (sz d : Nat) (hd : 9 ≤ d) (R : Nat × Int64 × gM) (hr : FX_safe walks part M = some R) : gPt l C qX11_safe d [.ref (0), .int (walks), .int (part)] M sz (qtJ R) (xtJ R) := by
  refine gPt.of (ls := [(0, .ref (0)), (1, .int (walks)), (2, .int (part))]) (by decide +kernel) (Nat.le_of_ble_eq_true rfl) rfl ?_
  unfold FX_safe at hr
  refine gb_run 5 (pc2 := 9) (ls2 := [(0, .ref (0)), (1, .int (walks)), (2, .int (part))]) (st2 := [.int (M 3 5), .int (walks), .ref (0)]) (M2 := M) hC hqX11_safe rfl ?_
  obtain ⟨s1, es1, hr⟩ := g_bd hr
  refine gt_cV (z := qX11_needBits) (a := 0) (av := [.int (walks), .int (M 3 5)]) (rest := []) (pl := 1136) (kc2 := 1) (ks2 := 6) hC hqX11_safe rfl kX11_needBits sX11_needBits (by decide +kernel) (c_FX_needBits hC walks (M 3 5)  M sz (d - 1) (by omega) s1 es1) (by omega) rfl rfl rfl (Nat.le_of_ble_eq_true rfl) (Nat.le_of_ble_eq_true rfl) rfl rfl rfl (Nat.le_of_ble_eq_true rfl) ⟨Nat.le_of_ble_eq_true rfl, Nat.le_of_ble_eq_true rfl⟩ (gt_xJ hr) (gs_t fun sz3 q0 => ?_)
  have hr := g_if1 q0 hr
  refine gb_run 4 (pc2 := 16) (ls2 := [(0, .ref (0)), (1, .int (walks)), (2, .int (part))]) (st2 := [.int (1), .int (0), .int (part), .ref (0)]) (M2 := s1.2) hC hqX11_safe rfl ?_
  obtain ⟨s2, es2, hr⟩ := g_bd hr
  refine gt_cV (z := qX11_needIn) (a := 0) (av := [.int (part), .int (0), .int (1)]) (rest := []) (pl := 658) (kc2 := 2) (ks2 := 12) hC hqX11_safe rfl kX11_needIn sX11_needIn (by decide +kernel) (c_FX_needIn hC part (0 : Int32) (1 : Int32)  (s1.2) sz3 (d - 1) (by omega) s2 es2) (by omega) rfl rfl rfl (Nat.le_of_ble_eq_true rfl) (Nat.le_of_ble_eq_true rfl) rfl rfl rfl (Nat.le_of_ble_eq_true rfl) ⟨Nat.le_of_ble_eq_true rfl, Nat.le_of_ble_eq_true rfl⟩ (gt_xJ hr) (gs_t fun sz5 q0 => ?_)
  have hr := g_if1 q0 hr
  refine gb_run 6 (pc2 := 27) (ls2 := [(7, .int (0)), (5, .long (1)), (3, .long (1)), (0, .ref (0)), (1, .int (walks)), (2, .int (part))]) (st2 := []) (M2 := s2.2) hC hqX11_safe rfl ?_
  refine gw_pick [3, 4, 5, 2, 1, 0] (ls2 := [(0, .ref (0)), (1, .int (walks)), (2, .int (part)), (3, .long (1)), (5, .long (1)), (7, .int (0))]) rfl ?_
  exact c_FX_safe_L27 hC walks part sz5 d (by omega) R 1000 (1 : Int64) (1 : Int64) (0 : Int32) (s2.2) hr
def FX_mean_L20 (n : Int32) (part : Int32) : Nat → Int64 → Int32 → gM → Option (Nat × Int32 × gM)
  | 0, _, _, _ => none
  | k + 1, x3, x5, M =>
  if (M 3 5) ≤ x5 then ((FX_partOf x3 (16 : Int64) part).bind fun s2 => some (0, s2.toInt32, M)) else (FX_mean_L20 n part k (x3 + (n.toInt64 * ((r_at (M 5) 8 x5).toInt64))) (x5 + (1 : Int32)) M)
set_option maxRecDepth 20000 in
theorem c_FX_mean_L20 {l : Launch} {C : gC} (hC : g_ctx l C) (n : Int32) (part : Int32) (sz d : Nat) (hd : 8 ≤ d) (R : Nat × Int32 × gM) : ∀ (k : Nat) (x3 : Int64) (x5 : Int32) (M : gM), FX_mean_L20 n part k x3 x5 M = some R → GW l C qX11_mean d (gQt (qtI R)) (gNt (xtI R)) 2 12 20 [(0, .ref (0)), (1, .int (n)), (2, .int (part)), (3, .long (x3)), (5, .int (x5))] [] (956, g_S0, M, sz) := by
  intro k
  induction k with
  | zero => intro x3 x5 M hr; exact nomatch (show (none : Option (Nat × Int32 × gM)) = some R from hr)
  | succ k ih =>
    intro x3 x5 M hr
    unfold FX_mean_L20 at hr
    refine gb_run 4 (pc2 := 29) (ls2 := [(0, .ref (0)), (1, .int (n)), (2, .int (part)), (3, .long (x3)), (5, .int (x5))]) (st2 := [.int (M 3 5), .int (x5)]) (M2 := M) hC hqX11_mean rfl ?_
    refine gb_icmp_ge hqX11_mean rfl (fun h1 => ?_) (fun h1 => ?_)
    ·
      have hr := g_if1 h1 hr
      refine gb_run 3 (pc2 := 62) (ls2 := [(0, .ref (0)), (1, .int (n)), (2, .int (part)), (3, .long (x3)), (5, .int (x5))]) (st2 := [.int (part), .long (16), .long (x3)]) (M2 := M) hC hqX11_mean rfl ?_
      obtain ⟨s2, es2, hr⟩ := g_bd hr
      refine gz_cS (z := qX11_partOf) (av := [.long (x3), .long (16), .int (part)]) (rest := []) (pl := 1245) hC hqX11_mean rfl kX11_partOf (by decide +kernel) (c_FX_partOf hC x3 (16 : Int64) part  M sz (d - 1) (by omega) s2 es2) (by omega) ⟨rfl, rfl⟩ rfl rfl (Nat.le_of_ble_eq_true rfl) ⟨Nat.le_of_ble_eq_true rfl, Nat.le_of_ble_eq_true rfl⟩ (gs_Jp ?_)
      refine gb_run 1 (pc2 := 66) (ls2 := [(0, .ref (0)), (1, .int (n)), (2, .int (part)), (3, .long (x3)), (5, .int (x5))]) (st2 := [.int (s2.toInt32)]) (M2 := M) hC hqX11_mean rfl ?_
      refine gb_iret hqX11_mean rfl rfl (Nat.le_of_ble_eq_true rfl) (Nat.le_of_ble_eq_true rfl) ?_
      exact gl_tI hr
    ·
      have hr := g_if0 h1 hr
      refine gb_run 7 (pc2 := 44) (ls2 := [(0, .ref (0)), (1, .int (n)), (2, .int (part)), (3, .long (x3)), (5, .int (x5))]) (st2 := [.int (x5), .ref (5), .long (n.toInt64), .long (x3)]) (M2 := M) hC hqX11_mean rfl ?_
      refine gz_cS (z := qX11_at) (av := [.ref (5), .int (x5)]) (rest := [.long (n.toInt64), .long (x3)]) (pl := 1062) hC hqX11_mean rfl kX11_at (by decide +kernel) (c_at hC 5 8 _ x5 M sz (d - 1) (by omega) (Nat.le_of_ble_eq_true rfl) rfl (Nat.le_of_ble_eq_true rfl)) (by omega) ⟨rfl, rfl⟩ rfl rfl (Nat.le_of_ble_eq_true rfl) ⟨Nat.le_of_ble_eq_true rfl, Nat.le_of_ble_eq_true rfl⟩ (gs_Ip (x := r_at (M 5) 8 x5) ?_)
      refine gb_run 6 (pc2 := 20) (ls2 := [(5, .int (x5 + (1 : Int32))), (3, .long (x3 + (n.toInt64 * ((r_at (M 5) 8 x5).toInt64)))), (0, .ref (0)), (1, .int (n)), (2, .int (part))]) (st2 := []) (M2 := M) hC hqX11_mean rfl ?_
      refine gw_pick [2, 3, 4, 1, 0] (ls2 := [(0, .ref (0)), (1, .int (n)), (2, .int (part)), (3, .long (x3 + (n.toInt64 * ((r_at (M 5) 8 x5).toInt64)))), (5, .int (x5 + (1 : Int32)))]) rfl ?_
      exact ih (x3 + (n.toInt64 * ((r_at (M 5) 8 x5).toInt64))) (x5 + (1 : Int32)) M hr
def FX_mean (n : Int32) (part : Int32) (M : gM) : Option (Nat × Int32 × gM) :=
  (FX_needIn n (0 : Int32) (99 : Int32) M).bind fun s1 => if s1.1 = 0 then ((FX_needIn part (0 : Int32) (1 : Int32) (s1.2)).bind fun s2 => if s2.1 = 0 then (FX_mean_L20 n part 1000 (0 : Int64) (0 : Int32) (s2.2)) else some (s2.1, 0, s2.2)) else some (s1.1, 0, s1.2)
set_option maxRecDepth 20000 in
theorem c_FX_mean {l : Launch} {C : gC} (hC : g_ctx l C) (n : Int32) (part : Int32)  (M : gM) (sz d : Nat) (hd : 8 ≤ d) (R : Nat × Int32 × gM) (hr : FX_mean n part M = some R) : gPt l C qX11_mean d [.ref (0), .int (n), .int (part)] M sz (qtI R) (xtI R) := by
  refine gPt.of (ls := [(0, .ref (0)), (1, .int (n)), (2, .int (part))]) (by decide +kernel) (Nat.le_of_ble_eq_true rfl) rfl ?_
  unfold FX_mean at hr
  refine gb_run 4 (pc2 := 5) (ls2 := [(0, .ref (0)), (1, .int (n)), (2, .int (part))]) (st2 := [.int (99), .int (0), .int (n), .ref (0)]) (M2 := M) hC hqX11_mean rfl ?_
  obtain ⟨s1, es1, hr⟩ := g_bd hr
  refine gt_cV (z := qX11_needIn) (a := 0) (av := [.int (n), .int (0), .int (99)]) (rest := []) (pl := 658) (kc2 := 1) (ks2 := 6) hC hqX11_mean rfl kX11_needIn sX11_needIn (by decide +kernel) (c_FX_needIn hC n (0 : Int32) (99 : Int32)  M sz (d - 1) (by omega) s1 es1) (by omega) rfl rfl rfl (Nat.le_of_ble_eq_true rfl) (Nat.le_of_ble_eq_true rfl) rfl rfl rfl (Nat.le_of_ble_eq_true rfl) ⟨Nat.le_of_ble_eq_true rfl, Nat.le_of_ble_eq_true rfl⟩ (gt_xI hr) (gs_t fun sz3 q0 => ?_)
  have hr := g_if1 q0 hr
  refine gb_run 4 (pc2 := 12) (ls2 := [(0, .ref (0)), (1, .int (n)), (2, .int (part))]) (st2 := [.int (1), .int (0), .int (part), .ref (0)]) (M2 := s1.2) hC hqX11_mean rfl ?_
  obtain ⟨s2, es2, hr⟩ := g_bd hr
  refine gt_cV (z := qX11_needIn) (a := 0) (av := [.int (part), .int (0), .int (1)]) (rest := []) (pl := 658) (kc2 := 2) (ks2 := 12) hC hqX11_mean rfl kX11_needIn sX11_needIn (by decide +kernel) (c_FX_needIn hC part (0 : Int32) (1 : Int32)  (s1.2) sz3 (d - 1) (by omega) s2 es2) (by omega) rfl rfl rfl (Nat.le_of_ble_eq_true rfl) (Nat.le_of_ble_eq_true rfl) rfl rfl rfl (Nat.le_of_ble_eq_true rfl) ⟨Nat.le_of_ble_eq_true rfl, Nat.le_of_ble_eq_true rfl⟩ (gt_xI hr) (gs_t fun sz5 q0 => ?_)
  have hr := g_if1 q0 hr
  refine gb_run 4 (pc2 := 20) (ls2 := [(5, .int (0)), (3, .long (0)), (0, .ref (0)), (1, .int (n)), (2, .int (part))]) (st2 := []) (M2 := s2.2) hC hqX11_mean rfl ?_
  refine gw_pick [2, 3, 4, 1, 0] (ls2 := [(0, .ref (0)), (1, .int (n)), (2, .int (part)), (3, .long (0)), (5, .int (0))]) rfl ?_
  exact c_FX_mean_L20 hC n part sz5 d (by omega) R 1000 (0 : Int64) (0 : Int32) (s2.2) hr
def FX_stands_L32 (q : Int32) (n : Int32) (part : Int32) : Nat → Int64 → Int64 → Int32 → gM → Option (Nat × Int64 × gM)
  | 0, _, _, _, _ => none
  | k + 1, x4, x6, x8, M =>
  if n ≤ x8 then ((FX_partOf x4 x6 part).bind fun s2 => some (0, s2, M)) else (FX_stands_L32 q n part k (x4 * (((16 : Int32) - q).toInt64)) (x6 * (16 : Int64)) (x8 + (1 : Int32)) M)
set_option maxRecDepth 20000 in
theorem c_FX_stands_L32 {l : Launch} {C : gC} (hC : g_ctx l C) (q : Int32) (n : Int32) (part : Int32) (sz d : Nat) (hd : 8 ≤ d) (R : Nat × Int64 × gM) : ∀ (k : Nat) (x4 : Int64) (x6 : Int64) (x8 : Int32) (M : gM), FX_stands_L32 q n part k x4 x6 x8 M = some R → GW l C qX11_stands d (gQt (qtJ R)) (gNt (xtJ R)) 3 18 32 [(1, .int (q)), (2, .int (n)), (3, .int (part)), (4, .long (x4)), (6, .long (x6)), (8, .int (x8))] [] (956, g_S0, M, sz) := by
  intro k
  induction k with
  | zero => intro x4 x6 x8 M hr; exact nomatch (show (none : Option (Nat × Int64 × gM)) = some R from hr)
  | succ k ih =>
    intro x4 x6 x8 M hr
    unfold FX_stands_L32 at hr
    refine gb_run 2 (pc2 := 35) (ls2 := [(1, .int (q)), (2, .int (n)), (3, .int (part)), (4, .long (x4)), (6, .long (x6)), (8, .int (x8))]) (st2 := [.int (n), .int (x8)]) (M2 := M) hC hqX11_stands rfl ?_
    refine gb_icmp_ge hqX11_stands rfl (fun h1 => ?_) (fun h1 => ?_)
    ·
      have hr := g_if1 h1 hr
      refine gb_run 3 (pc2 := 67) (ls2 := [(1, .int (q)), (2, .int (n)), (3, .int (part)), (4, .long (x4)), (6, .long (x6)), (8, .int (x8))]) (st2 := [.int (part), .long (x6), .long (x4)]) (M2 := M) hC hqX11_stands rfl ?_
      obtain ⟨s2, es2, hr⟩ := g_bd hr
      refine gz_cS (z := qX11_partOf) (av := [.long (x4), .long (x6), .int (part)]) (rest := []) (pl := 1245) hC hqX11_stands rfl kX11_partOf (by decide +kernel) (c_FX_partOf hC x4 x6 part  M sz (d - 1) (by omega) s2 es2) (by omega) ⟨rfl, rfl⟩ rfl rfl (Nat.le_of_ble_eq_true rfl) ⟨Nat.le_of_ble_eq_true rfl, Nat.le_of_ble_eq_true rfl⟩ (gs_Jp ?_)
      refine gb_lret hqX11_stands rfl rfl (Nat.le_of_ble_eq_true rfl) (Nat.le_of_ble_eq_true rfl) ?_
      exact gl_tJ hr
    ·
      have hr := g_if0 h1 hr
      refine gb_run 13 (pc2 := 32) (ls2 := [(8, .int (x8 + (1 : Int32))), (6, .long (x6 * (16 : Int64))), (4, .long (x4 * (((16 : Int32) - q).toInt64))), (1, .int (q)), (2, .int (n)), (3, .int (part))]) (st2 := []) (M2 := M) hC hqX11_stands rfl ?_
      refine gw_pick [3, 4, 5, 2, 1, 0] (ls2 := [(1, .int (q)), (2, .int (n)), (3, .int (part)), (4, .long (x4 * (((16 : Int32) - q).toInt64))), (6, .long (x6 * (16 : Int64))), (8, .int (x8 + (1 : Int32)))]) rfl ?_
      exact ih (x4 * (((16 : Int32) - q).toInt64)) (x6 * (16 : Int64)) (x8 + (1 : Int32)) M hr
def FX_stands (q : Int32) (n : Int32) (part : Int32) (M : gM) : Option (Nat × Int64 × gM) :=
  (FX_needIn q (0 : Int32) (16 : Int32) M).bind fun s1 => if s1.1 = 0 then ((FX_needIn n (0 : Int32) (12 : Int32) (s1.2)).bind fun s2 => if s2.1 = 0 then ((FX_needIn part (0 : Int32) (1 : Int32) (s2.2)).bind fun s3 => if s3.1 = 0 then (FX_stands_L32 q n part 1000 (1 : Int64) (1 : Int64) (0 : Int32) (s3.2)) else some (s3.1, 0, s3.2)) else some (s2.1, 0, s2.2)) else some (s1.1, 0, s1.2)
set_option maxRecDepth 20000 in
theorem c_FX_stands {l : Launch} {C : gC} (hC : g_ctx l C) (q : Int32) (n : Int32) (part : Int32)  (M : gM) (sz d : Nat) (hd : 8 ≤ d) (R : Nat × Int64 × gM) (hr : FX_stands q n part M = some R) : gPt l C qX11_stands d [.ref (0), .int (q), .int (n), .int (part)] M sz (qtJ R) (xtJ R) := by
  refine gPt.of (ls := [(0, .ref (0)), (1, .int (q)), (2, .int (n)), (3, .int (part))]) (by decide +kernel) (Nat.le_of_ble_eq_true rfl) rfl ?_
  unfold FX_stands at hr
  refine gb_run 4 (pc2 := 5) (ls2 := [(0, .ref (0)), (1, .int (q)), (2, .int (n)), (3, .int (part))]) (st2 := [.int (16), .int (0), .int (q), .ref (0)]) (M2 := M) hC hqX11_stands rfl ?_
  obtain ⟨s1, es1, hr⟩ := g_bd hr
  refine gt_cV (z := qX11_needIn) (a := 0) (av := [.int (q), .int (0), .int (16)]) (rest := []) (pl := 658) (kc2 := 1) (ks2 := 6) hC hqX11_stands rfl kX11_needIn sX11_needIn (by decide +kernel) (c_FX_needIn hC q (0 : Int32) (16 : Int32)  M sz (d - 1) (by omega) s1 es1) (by omega) rfl rfl rfl (Nat.le_of_ble_eq_true rfl) (Nat.le_of_ble_eq_true rfl) rfl rfl rfl (Nat.le_of_ble_eq_true rfl) ⟨Nat.le_of_ble_eq_true rfl, Nat.le_of_ble_eq_true rfl⟩ (gt_xJ hr) (gs_t fun sz3 q0 => ?_)
  have hr := g_if1 q0 hr
  refine gb_run 4 (pc2 := 13) (ls2 := [(0, .ref (0)), (1, .int (q)), (2, .int (n)), (3, .int (part))]) (st2 := [.int (12), .int (0), .int (n), .ref (0)]) (M2 := s1.2) hC hqX11_stands rfl ?_
  obtain ⟨s2, es2, hr⟩ := g_bd hr
  refine gt_cV (z := qX11_needIn) (a := 0) (av := [.int (n), .int (0), .int (12)]) (rest := []) (pl := 658) (kc2 := 2) (ks2 := 12) hC hqX11_stands rfl kX11_needIn sX11_needIn (by decide +kernel) (c_FX_needIn hC n (0 : Int32) (12 : Int32)  (s1.2) sz3 (d - 1) (by omega) s2 es2) (by omega) rfl rfl rfl (Nat.le_of_ble_eq_true rfl) (Nat.le_of_ble_eq_true rfl) rfl rfl rfl (Nat.le_of_ble_eq_true rfl) ⟨Nat.le_of_ble_eq_true rfl, Nat.le_of_ble_eq_true rfl⟩ (gt_xJ hr) (gs_t fun sz5 q0 => ?_)
  have hr := g_if1 q0 hr
  refine gb_run 4 (pc2 := 20) (ls2 := [(0, .ref (0)), (1, .int (q)), (2, .int (n)), (3, .int (part))]) (st2 := [.int (1), .int (0), .int (part), .ref (0)]) (M2 := s2.2) hC hqX11_stands rfl ?_
  obtain ⟨s3, es3, hr⟩ := g_bd hr
  refine gt_cV (z := qX11_needIn) (a := 0) (av := [.int (part), .int (0), .int (1)]) (rest := []) (pl := 658) (kc2 := 3) (ks2 := 18) hC hqX11_stands rfl kX11_needIn sX11_needIn (by decide +kernel) (c_FX_needIn hC part (0 : Int32) (1 : Int32)  (s2.2) sz5 (d - 1) (by omega) s3 es3) (by omega) rfl rfl rfl (Nat.le_of_ble_eq_true rfl) (Nat.le_of_ble_eq_true rfl) rfl rfl rfl (Nat.le_of_ble_eq_true rfl) ⟨Nat.le_of_ble_eq_true rfl, Nat.le_of_ble_eq_true rfl⟩ (gt_xJ hr) (gs_t fun sz6 q0 => ?_)
  have hr := g_if1 q0 hr
  refine gb_run 6 (pc2 := 32) (ls2 := [(8, .int (0)), (6, .long (1)), (4, .long (1)), (0, .ref (0)), (1, .int (q)), (2, .int (n)), (3, .int (part))]) (st2 := []) (M2 := s3.2) hC hqX11_stands rfl ?_
  refine gw_pick [4, 5, 6, 2, 1, 0] (ls2 := [(1, .int (q)), (2, .int (n)), (3, .int (part)), (4, .long (1)), (6, .long (1)), (8, .int (0))]) rfl ?_
  exact c_FX_stands_L32 hC q n part sz6 d (by omega) R 1000 (1 : Int64) (1 : Int64) (0 : Int32) (s3.2) hr
def FX_cover_J58 (walks : Int32) (c25 : Int32 → Int32 → gM → Option (Nat × Int32 × gM)) (x2 : Int32) (x3 : Int32) (y0 : Int32) (M : gM) : Option (Nat × Int32 × gM) :=
  if y0 = (0 : Int32) then (c25 x2 (x3 + (1 : Int32)) M) else (if (F_bitCount x2) ≤ (F_bitCount x3) then (c25 x2 (x3 + (1 : Int32)) M) else (c25 x3 (x3 + (1 : Int32)) M))
set_option maxRecDepth 20000 in
theorem c_FX_cover_J58 {l : Launch} {C : gC} (hC : g_ctx l C) (walks : Int32) (sz d : Nat) (hd : 9 ≤ d) (R : Nat × Int32 × gM) (c25 : Int32 → Int32 → gM → Option (Nat × Int32 × gM)) (hc25 : ∀ (x2 : Int32) (x3 : Int32) (M : gM), c25 x2 x3 M = some R → GW l C qX11_cover d (gQt (qtI R)) (gNt (xtI R)) 1 6 25 [(0, .ref (0)), (1, .int (walks)), (2, .int (x2)), (3, .int (x3))] [] (956, g_S0, M, sz)) (x2 : Int32) (x3 : Int32) (y0 : Int32) (M : gM) (hr : FX_cover_J58 walks c25 x2 x3 y0 M = some R) : GW l C qX11_cover d (gQt (qtI R)) (gNt (xtI R)) 1 6 58 [(0, .ref (0)), (1, .int (walks)), (2, .int (x2)), (3, .int (x3))] [.int (y0)] (956, g_S0, M, sz) := by
  unfold FX_cover_J58 at hr
  refine gb_run 2 (pc2 := 62) (ls2 := [(4, .int (y0)), (0, .ref (0)), (1, .int (walks)), (2, .int (x2)), (3, .int (x3))]) (st2 := [.int (y0)]) (M2 := M) hC hqX11_cover rfl ?_
  refine gb_if_eq hqX11_cover rfl (fun h1 => ?_) (fun h1 => ?_)
  ·
    have hr := g_if1 h1 hr
    refine gb_run 2 (pc2 := 25) (ls2 := [(3, .int (x3 + (1 : Int32))), (4, .int (y0)), (0, .ref (0)), (1, .int (walks)), (2, .int (x2))]) (st2 := []) (M2 := M) hC hqX11_cover rfl ?_
    refine gw_pick [2, 3, 4, 0] (ls2 := [(0, .ref (0)), (1, .int (walks)), (2, .int (x2)), (3, .int (x3 + (1 : Int32)))]) rfl ?_
    exact hc25 x2 (x3 + (1 : Int32)) M hr
  ·
    have hr := g_if0 h1 hr
    refine gb_run 1 (pc2 := 66) (ls2 := [(4, .int (y0)), (0, .ref (0)), (1, .int (walks)), (2, .int (x2)), (3, .int (x3))]) (st2 := [.int (x3)]) (M2 := M) hC hqX11_cover rfl ?_
    refine gz_cS (z := qJ6_bitCount_0f7a4) (av := [.int (x3)]) (rest := []) (pl := 1274) hC hqX11_cover rfl kJ6_bitCount_0f7a4 (by decide +kernel) (c_F_bitCount hC x3  M sz (d - 1) (by omega)) (by omega) ⟨rfl, rfl⟩ rfl rfl (Nat.le_of_ble_eq_true rfl) ⟨Nat.le_of_ble_eq_true rfl, Nat.le_of_ble_eq_true rfl⟩ (gs_Ip ?_)
    refine gb_run 1 (pc2 := 70) (ls2 := [(4, .int (y0)), (0, .ref (0)), (1, .int (walks)), (2, .int (x2)), (3, .int (x3))]) (st2 := [.int (x2), .int (F_bitCount x3)]) (M2 := M) hC hqX11_cover rfl ?_
    refine gz_cS (z := qJ6_bitCount_0f7a4) (av := [.int (x2)]) (rest := [.int (F_bitCount x3)]) (pl := 1274) hC hqX11_cover rfl kJ6_bitCount_0f7a4 (by decide +kernel) (c_F_bitCount hC x2  M sz (d - 1) (by omega)) (by omega) ⟨rfl, rfl⟩ rfl rfl (Nat.le_of_ble_eq_true rfl) ⟨Nat.le_of_ble_eq_true rfl, Nat.le_of_ble_eq_true rfl⟩ (gs_Ip ?_)
    refine gb_icmp_ge hqX11_cover rfl (fun h2 => ?_) (fun h2 => ?_)
    ·
      have hr := g_if1 h2 hr
      refine gb_run 2 (pc2 := 25) (ls2 := [(3, .int (x3 + (1 : Int32))), (4, .int (y0)), (0, .ref (0)), (1, .int (walks)), (2, .int (x2))]) (st2 := []) (M2 := M) hC hqX11_cover rfl ?_
      refine gw_pick [2, 3, 4, 0] (ls2 := [(0, .ref (0)), (1, .int (walks)), (2, .int (x2)), (3, .int (x3 + (1 : Int32)))]) rfl ?_
      exact hc25 x2 (x3 + (1 : Int32)) M hr
    ·
      have hr := g_if0 h2 hr
      refine gb_run 4 (pc2 := 25) (ls2 := [(3, .int (x3 + (1 : Int32))), (2, .int (x3)), (4, .int (y0)), (0, .ref (0)), (1, .int (walks))]) (st2 := []) (M2 := M) hC hqX11_cover rfl ?_
      refine gw_pick [3, 4, 1, 0] (ls2 := [(0, .ref (0)), (1, .int (walks)), (2, .int (x3)), (3, .int (x3 + (1 : Int32)))]) rfl ?_
      exact hc25 x3 (x3 + (1 : Int32)) M hr
def FX_cover_L25 (walks : Int32) : Nat → Int32 → Int32 → gM → Option (Nat × Int32 × gM)
  | 0, _, _, _ => none
  | k + 1, x2, x3, M =>
  if (F_allOf (M 3 5)) < x3 then (some (0, x2, M)) else ((FP_watchedFrom x3 M).bind fun s2 => if (s2 &&& walks) = walks then (FX_cover_J58 walks (FX_cover_L25 walks k) x2 x3 (1 : Int32) M) else (FX_cover_J58 walks (FX_cover_L25 walks k) x2 x3 (0 : Int32) M))
set_option maxRecDepth 20000 in
theorem c_FX_cover_L25 {l : Launch} {C : gC} (hC : g_ctx l C) (walks : Int32) (sz d : Nat) (hd : 9 ≤ d) (R : Nat × Int32 × gM) : ∀ (k : Nat) (x2 : Int32) (x3 : Int32) (M : gM), FX_cover_L25 walks k x2 x3 M = some R → GW l C qX11_cover d (gQt (qtI R)) (gNt (xtI R)) 1 6 25 [(0, .ref (0)), (1, .int (walks)), (2, .int (x2)), (3, .int (x3))] [] (956, g_S0, M, sz) := by
  intro k
  induction k with
  | zero => intro x2 x3 M hr; exact nomatch (show (none : Option (Nat × Int32 × gM)) = some R from hr)
  | succ k ih =>
    intro x2 x3 M hr
    unfold FX_cover_L25 at hr
    refine gb_run 4 (pc2 := 33) (ls2 := [(0, .ref (0)), (1, .int (walks)), (2, .int (x2)), (3, .int (x3))]) (st2 := [.int (M 3 5), .int (x3)]) (M2 := M) hC hqX11_cover rfl ?_
    refine gz_cS (z := qX11_allOf) (av := [.int (M 3 5)]) (rest := [.int (x3)]) (pl := 1140) hC hqX11_cover rfl kX11_allOf (by decide +kernel) (c_F_allOf hC (M 3 5)  M sz (d - 1) (by omega)) (by omega) ⟨rfl, rfl⟩ rfl rfl (Nat.le_of_ble_eq_true rfl) ⟨Nat.le_of_ble_eq_true rfl, Nat.le_of_ble_eq_true rfl⟩ (gs_Ip ?_)
    refine gb_icmp_gt hqX11_cover rfl (fun h1 => ?_) (fun h1 => ?_)
    ·
      have hr := g_if1 h1 hr
      refine gb_run 1 (pc2 := 85) (ls2 := [(0, .ref (0)), (1, .int (walks)), (2, .int (x2)), (3, .int (x3))]) (st2 := [.int (x2)]) (M2 := M) hC hqX11_cover rfl ?_
      refine gb_iret hqX11_cover rfl rfl (Nat.le_of_ble_eq_true rfl) (Nat.le_of_ble_eq_true rfl) ?_
      exact gl_tI hr
    ·
      have hr := g_if0 h1 hr
      refine gb_run 3 (pc2 := 44) (ls2 := [(0, .ref (0)), (1, .int (walks)), (2, .int (x2)), (3, .int (x3))]) (st2 := [.int (x3), .ref (3)]) (M2 := M) hC hqX11_cover rfl ?_
      obtain ⟨s2, es2, hr⟩ := g_bd hr
      refine gz_cV (z := qX6_watchedFrom) (a := 3) (av := [.int (x3)]) (rest := []) (pl := 1269) hC hqX11_cover rfl kX6_watchedFrom sX6_watchedFrom (by decide +kernel) (c_FP_watchedFrom hC x3  M sz (d - 1) (by omega) s2 es2) (by omega) ⟨rfl, rfl⟩ rfl (Nat.le_of_ble_eq_true rfl) (Nat.le_of_ble_eq_true rfl) rfl rfl rfl (Nat.le_of_ble_eq_true rfl) ⟨Nat.le_of_ble_eq_true rfl, Nat.le_of_ble_eq_true rfl⟩ (gs_Ip ?_)
      refine gb_run 3 (pc2 := 50) (ls2 := [(0, .ref (0)), (1, .int (walks)), (2, .int (x2)), (3, .int (x3))]) (st2 := [.int (walks), .int (s2 &&& walks)]) (M2 := M) hC hqX11_cover rfl ?_
      refine gb_icmp_ne hqX11_cover rfl (fun h3 => ?_) (fun h3 => ?_)
      ·
        have hr := g_if0 h3 hr
        refine gb_run 1 (pc2 := 58) (ls2 := [(0, .ref (0)), (1, .int (walks)), (2, .int (x2)), (3, .int (x3))]) (st2 := [.int (0)]) (M2 := M) hC hqX11_cover rfl ?_
        exact c_FX_cover_J58 hC walks sz d (by omega) R (FX_cover_L25 walks k) ih x2 x3 (0 : Int32) M hr
      ·
        have hr := g_if1 h3 hr
        refine gb_run 2 (pc2 := 58) (ls2 := [(0, .ref (0)), (1, .int (walks)), (2, .int (x2)), (3, .int (x3))]) (st2 := [.int (1)]) (M2 := M) hC hqX11_cover rfl ?_
        exact c_FX_cover_J58 hC walks sz d (by omega) R (FX_cover_L25 walks k) ih x2 x3 (1 : Int32) M hr
def FX_cover (walks : Int32) (M : gM) : Option (Nat × Int32 × gM) :=
  (FX_needBits walks (M 3 5) M).bind fun s1 => if s1.1 = 0 then (FX_cover_L25 walks 1000 (F_allOf ((s1.2) 3 5)) (0 : Int32) (s1.2)) else some (s1.1, 0, s1.2)
set_option maxRecDepth 20000 in
theorem c_FX_cover {l : Launch} {C : gC} (hC : g_ctx l C) (walks : Int32)  (M : gM) (sz d : Nat) (hd : 9 ≤ d) (R : Nat × Int32 × gM) (hr : FX_cover walks M = some R) : gPt l C qX11_cover d [.ref (0), .int (walks)] M sz (qtI R) (xtI R) := by
  refine gPt.of (ls := [(0, .ref (0)), (1, .int (walks))]) (by decide +kernel) (Nat.le_of_ble_eq_true rfl) rfl ?_
  unfold FX_cover at hr
  refine gb_run 5 (pc2 := 9) (ls2 := [(0, .ref (0)), (1, .int (walks))]) (st2 := [.int (M 3 5), .int (walks), .ref (0)]) (M2 := M) hC hqX11_cover rfl ?_
  obtain ⟨s1, es1, hr⟩ := g_bd hr
  refine gt_cV (z := qX11_needBits) (a := 0) (av := [.int (walks), .int (M 3 5)]) (rest := []) (pl := 1136) (kc2 := 1) (ks2 := 6) hC hqX11_cover rfl kX11_needBits sX11_needBits (by decide +kernel) (c_FX_needBits hC walks (M 3 5)  M sz (d - 1) (by omega) s1 es1) (by omega) rfl rfl rfl (Nat.le_of_ble_eq_true rfl) (Nat.le_of_ble_eq_true rfl) rfl rfl rfl (Nat.le_of_ble_eq_true rfl) ⟨Nat.le_of_ble_eq_true rfl, Nat.le_of_ble_eq_true rfl⟩ (gt_xI hr) (gs_t fun sz3 q0 => ?_)
  have hr := g_if1 q0 hr
  refine gb_run 3 (pc2 := 19) (ls2 := [(0, .ref (0)), (1, .int (walks))]) (st2 := [.int ((s1.2) 3 5)]) (M2 := s1.2) hC hqX11_cover rfl ?_
  refine gz_cS (z := qX11_allOf) (av := [.int ((s1.2) 3 5)]) (rest := []) (pl := 1140) hC hqX11_cover rfl kX11_allOf (by decide +kernel) (c_F_allOf hC ((s1.2) 3 5)  (s1.2) sz3 (d - 1) (by omega)) (by omega) ⟨rfl, rfl⟩ rfl rfl (Nat.le_of_ble_eq_true rfl) ⟨Nat.le_of_ble_eq_true rfl, Nat.le_of_ble_eq_true rfl⟩ (gs_Ip ?_)
  refine gb_run 3 (pc2 := 25) (ls2 := [(3, .int (0)), (2, .int (F_allOf ((s1.2) 3 5))), (0, .ref (0)), (1, .int (walks))]) (st2 := []) (M2 := s1.2) hC hqX11_cover rfl ?_
  refine gw_pick [2, 3, 1, 0] (ls2 := [(0, .ref (0)), (1, .int (walks)), (2, .int (F_allOf ((s1.2) 3 5))), (3, .int (0))]) rfl ?_
  exact c_FX_cover_L25 hC walks sz3 d (by omega) R 1000 (F_allOf ((s1.2) 3 5)) (0 : Int32) (s1.2) hr
def FX_watch_L23 (n : Int32) (what : Int32) : Nat → Int32 → Int32 → Int32 → gM → Option (Nat × Int32 × gM)
  | 0, _, _, _, _ => none
  | k + 1, x3, x4, x5, M =>
  if (F_allOf (M 3 5)) < x5 then (if what = (0 : Int32) then (some (0, x3, M)) else (some (0, x4, M))) else ((FP_watchedFrom x5 M).bind fun s3 => (FP_fallsOn s3 M).bind fun s4 => if (F_bitCount x5) = n then (if s4 ≤ x4 then (FX_watch_L23 n what k x3 x4 (x5 + (1 : Int32)) M) else (FX_watch_L23 n what k x5 s4 (x5 + (1 : Int32)) M)) else (FX_watch_L23 n what k x3 x4 (x5 + (1 : Int32)) M))
set_option maxRecDepth 20000 in
theorem c_FX_watch_L23 {l : Launch} {C : gC} (hC : g_ctx l C) (n : Int32) (what : Int32) (sz d : Nat) (hd : 8 ≤ d) (R : Nat × Int32 × gM) : ∀ (k : Nat) (x3 : Int32) (x4 : Int32) (x5 : Int32) (M : gM), FX_watch_L23 n what k x3 x4 x5 M = some R → GW l C qX11_watch d (gQt (qtI R)) (gNt (xtI R)) 2 12 23 [(0, .ref (0)), (1, .int (n)), (2, .int (what)), (3, .int (x3)), (4, .int (x4)), (5, .int (x5))] [] (956, g_S0, M, sz) := by
  intro k
  induction k with
  | zero => intro x3 x4 x5 M hr; exact nomatch (show (none : Option (Nat × Int32 × gM)) = some R from hr)
  | succ k ih =>
    intro x3 x4 x5 M hr
    unfold FX_watch_L23 at hr
    refine gb_run 4 (pc2 := 32) (ls2 := [(0, .ref (0)), (1, .int (n)), (2, .int (what)), (3, .int (x3)), (4, .int (x4)), (5, .int (x5))]) (st2 := [.int (M 3 5), .int (x5)]) (M2 := M) hC hqX11_watch rfl ?_
    refine gz_cS (z := qX11_allOf) (av := [.int (M 3 5)]) (rest := [.int (x5)]) (pl := 1140) hC hqX11_watch rfl kX11_allOf (by decide +kernel) (c_F_allOf hC (M 3 5)  M sz (d - 1) (by omega)) (by omega) ⟨rfl, rfl⟩ rfl rfl (Nat.le_of_ble_eq_true rfl) ⟨Nat.le_of_ble_eq_true rfl, Nat.le_of_ble_eq_true rfl⟩ (gs_Ip ?_)
    refine gb_icmp_gt hqX11_watch rfl (fun h1 => ?_) (fun h1 => ?_)
    ·
      have hr := g_if1 h1 hr
      refine gb_run 1 (pc2 := 86) (ls2 := [(0, .ref (0)), (1, .int (n)), (2, .int (what)), (3, .int (x3)), (4, .int (x4)), (5, .int (x5))]) (st2 := [.int (what)]) (M2 := M) hC hqX11_watch rfl ?_
      refine gb_if_ne hqX11_watch rfl (fun h2 => ?_) (fun h2 => ?_)
      ·
        have hr := g_if0 h2 hr
        refine gb_run 1 (pc2 := 95) (ls2 := [(0, .ref (0)), (1, .int (n)), (2, .int (what)), (3, .int (x3)), (4, .int (x4)), (5, .int (x5))]) (st2 := [.int (x4)]) (M2 := M) hC hqX11_watch rfl ?_
        refine gb_iret hqX11_watch rfl rfl (Nat.le_of_ble_eq_true rfl) (Nat.le_of_ble_eq_true rfl) ?_
        exact gl_tI hr
      ·
        have hr := g_if1 h2 hr
        refine gb_run 2 (pc2 := 95) (ls2 := [(0, .ref (0)), (1, .int (n)), (2, .int (what)), (3, .int (x3)), (4, .int (x4)), (5, .int (x5))]) (st2 := [.int (x3)]) (M2 := M) hC hqX11_watch rfl ?_
        refine gb_iret hqX11_watch rfl rfl (Nat.le_of_ble_eq_true rfl) (Nat.le_of_ble_eq_true rfl) ?_
        exact gl_tI hr
    ·
      have hr := g_if0 h1 hr
      refine gb_run 5 (pc2 := 48) (ls2 := [(0, .ref (0)), (1, .int (n)), (2, .int (what)), (3, .int (x3)), (4, .int (x4)), (5, .int (x5))]) (st2 := [.int (x5), .ref (3), .ref (3)]) (M2 := M) hC hqX11_watch rfl ?_
      obtain ⟨s3, es3, hr⟩ := g_bd hr
      refine gz_cV (z := qX6_watchedFrom) (a := 3) (av := [.int (x5)]) (rest := [.ref (3)]) (pl := 1269) hC hqX11_watch rfl kX6_watchedFrom sX6_watchedFrom (by decide +kernel) (c_FP_watchedFrom hC x5  M sz (d - 1) (by omega) s3 es3) (by omega) ⟨rfl, rfl⟩ rfl (Nat.le_of_ble_eq_true rfl) (Nat.le_of_ble_eq_true rfl) rfl rfl rfl (Nat.le_of_ble_eq_true rfl) ⟨Nat.le_of_ble_eq_true rfl, Nat.le_of_ble_eq_true rfl⟩ (gs_Ip ?_)
      obtain ⟨s4, es4, hr⟩ := g_bd hr
      refine gz_cV (z := qX6_fallsOn) (a := 3) (av := [.int (s3)]) (rest := []) (pl := 1282) hC hqX11_watch rfl kX6_fallsOn sX6_fallsOn (by decide +kernel) (c_FP_fallsOn hC s3  M sz (d - 1) (by omega) s4 es4) (by omega) ⟨rfl, rfl⟩ rfl (Nat.le_of_ble_eq_true rfl) (Nat.le_of_ble_eq_true rfl) rfl rfl rfl (Nat.le_of_ble_eq_true rfl) ⟨Nat.le_of_ble_eq_true rfl, Nat.le_of_ble_eq_true rfl⟩ (gs_Ip ?_)
      refine gb_run 2 (pc2 := 58) (ls2 := [(6, .int (s4)), (0, .ref (0)), (1, .int (n)), (2, .int (what)), (3, .int (x3)), (4, .int (x4)), (5, .int (x5))]) (st2 := [.int (x5)]) (M2 := M) hC hqX11_watch rfl ?_
      refine gz_cS (z := qJ6_bitCount_0f7a4) (av := [.int (x5)]) (rest := []) (pl := 1274) hC hqX11_watch rfl kJ6_bitCount_0f7a4 (by decide +kernel) (c_F_bitCount hC x5  M sz (d - 1) (by omega)) (by omega) ⟨rfl, rfl⟩ rfl rfl (Nat.le_of_ble_eq_true rfl) ⟨Nat.le_of_ble_eq_true rfl, Nat.le_of_ble_eq_true rfl⟩ (gs_Ip ?_)
      refine gb_run 1 (pc2 := 62) (ls2 := [(6, .int (s4)), (0, .ref (0)), (1, .int (n)), (2, .int (what)), (3, .int (x3)), (4, .int (x4)), (5, .int (x5))]) (st2 := [.int (n), .int (F_bitCount x5)]) (M2 := M) hC hqX11_watch rfl ?_
      refine gb_icmp_ne hqX11_watch rfl (fun h5 => ?_) (fun h5 => ?_)
      ·
        have hr := g_if0 h5 hr
        refine gb_run 2 (pc2 := 23) (ls2 := [(5, .int (x5 + (1 : Int32))), (6, .int (s4)), (0, .ref (0)), (1, .int (n)), (2, .int (what)), (3, .int (x3)), (4, .int (x4))]) (st2 := []) (M2 := M) hC hqX11_watch rfl ?_
        refine gw_pick [2, 3, 4, 5, 6, 0] (ls2 := [(0, .ref (0)), (1, .int (n)), (2, .int (what)), (3, .int (x3)), (4, .int (x4)), (5, .int (x5 + (1 : Int32)))]) rfl ?_
        exact ih x3 x4 (x5 + (1 : Int32)) M hr
      ·
        have hr := g_if1 h5 hr
        refine gb_run 2 (pc2 := 69) (ls2 := [(6, .int (s4)), (0, .ref (0)), (1, .int (n)), (2, .int (what)), (3, .int (x3)), (4, .int (x4)), (5, .int (x5))]) (st2 := [.int (x4), .int (s4)]) (M2 := M) hC hqX11_watch rfl ?_
        refine gb_icmp_le hqX11_watch rfl (fun h6 => ?_) (fun h6 => ?_)
        ·
          have hr := g_if1 h6 hr
          refine gb_run 2 (pc2 := 23) (ls2 := [(5, .int (x5 + (1 : Int32))), (6, .int (s4)), (0, .ref (0)), (1, .int (n)), (2, .int (what)), (3, .int (x3)), (4, .int (x4))]) (st2 := []) (M2 := M) hC hqX11_watch rfl ?_
          refine gw_pick [2, 3, 4, 5, 6, 0] (ls2 := [(0, .ref (0)), (1, .int (n)), (2, .int (what)), (3, .int (x3)), (4, .int (x4)), (5, .int (x5 + (1 : Int32)))]) rfl ?_
          exact ih x3 x4 (x5 + (1 : Int32)) M hr
        ·
          have hr := g_if0 h6 hr
          refine gb_run 6 (pc2 := 23) (ls2 := [(5, .int (x5 + (1 : Int32))), (4, .int (s4)), (3, .int (x5)), (6, .int (s4)), (0, .ref (0)), (1, .int (n)), (2, .int (what))]) (st2 := []) (M2 := M) hC hqX11_watch rfl ?_
          refine gw_pick [4, 5, 6, 2, 1, 0] (ls2 := [(0, .ref (0)), (1, .int (n)), (2, .int (what)), (3, .int (x5)), (4, .int (s4)), (5, .int (x5 + (1 : Int32)))]) rfl ?_
          exact ih x5 s4 (x5 + (1 : Int32)) M hr
def FX_watch (n : Int32) (what : Int32) (M : gM) : Option (Nat × Int32 × gM) :=
  (FX_needIn n (0 : Int32) (8 : Int32) M).bind fun s1 => if s1.1 = 0 then ((FX_needIn what (0 : Int32) (1 : Int32) (s1.2)).bind fun s2 => if s2.1 = 0 then (FX_watch_L23 n what 1000 (-1 : Int32) (-1 : Int32) (0 : Int32) (s2.2)) else some (s2.1, 0, s2.2)) else some (s1.1, 0, s1.2)
set_option maxRecDepth 20000 in
theorem c_FX_watch {l : Launch} {C : gC} (hC : g_ctx l C) (n : Int32) (what : Int32)  (M : gM) (sz d : Nat) (hd : 8 ≤ d) (R : Nat × Int32 × gM) (hr : FX_watch n what M = some R) : gPt l C qX11_watch d [.ref (0), .int (n), .int (what)] M sz (qtI R) (xtI R) := by
  refine gPt.of (ls := [(0, .ref (0)), (1, .int (n)), (2, .int (what))]) (by decide +kernel) (Nat.le_of_ble_eq_true rfl) rfl ?_
  unfold FX_watch at hr
  refine gb_run 4 (pc2 := 5) (ls2 := [(0, .ref (0)), (1, .int (n)), (2, .int (what))]) (st2 := [.int (8), .int (0), .int (n), .ref (0)]) (M2 := M) hC hqX11_watch rfl ?_
  obtain ⟨s1, es1, hr⟩ := g_bd hr
  refine gt_cV (z := qX11_needIn) (a := 0) (av := [.int (n), .int (0), .int (8)]) (rest := []) (pl := 658) (kc2 := 1) (ks2 := 6) hC hqX11_watch rfl kX11_needIn sX11_needIn (by decide +kernel) (c_FX_needIn hC n (0 : Int32) (8 : Int32)  M sz (d - 1) (by omega) s1 es1) (by omega) rfl rfl rfl (Nat.le_of_ble_eq_true rfl) (Nat.le_of_ble_eq_true rfl) rfl rfl rfl (Nat.le_of_ble_eq_true rfl) ⟨Nat.le_of_ble_eq_true rfl, Nat.le_of_ble_eq_true rfl⟩ (gt_xI hr) (gs_t fun sz3 q0 => ?_)
  have hr := g_if1 q0 hr
  refine gb_run 4 (pc2 := 12) (ls2 := [(0, .ref (0)), (1, .int (n)), (2, .int (what))]) (st2 := [.int (1), .int (0), .int (what), .ref (0)]) (M2 := s1.2) hC hqX11_watch rfl ?_
  obtain ⟨s2, es2, hr⟩ := g_bd hr
  refine gt_cV (z := qX11_needIn) (a := 0) (av := [.int (what), .int (0), .int (1)]) (rest := []) (pl := 658) (kc2 := 2) (ks2 := 12) hC hqX11_watch rfl kX11_needIn sX11_needIn (by decide +kernel) (c_FX_needIn hC what (0 : Int32) (1 : Int32)  (s1.2) sz3 (d - 1) (by omega) s2 es2) (by omega) rfl rfl rfl (Nat.le_of_ble_eq_true rfl) (Nat.le_of_ble_eq_true rfl) rfl rfl rfl (Nat.le_of_ble_eq_true rfl) ⟨Nat.le_of_ble_eq_true rfl, Nat.le_of_ble_eq_true rfl⟩ (gt_xI hr) (gs_t fun sz5 q0 => ?_)
  have hr := g_if1 q0 hr
  refine gb_run 6 (pc2 := 23) (ls2 := [(5, .int (0)), (4, .int (-1)), (3, .int (-1)), (0, .ref (0)), (1, .int (n)), (2, .int (what))]) (st2 := []) (M2 := s2.2) hC hqX11_watch rfl ?_
  refine gw_pick [3, 4, 5, 2, 1, 0] (ls2 := [(0, .ref (0)), (1, .int (n)), (2, .int (what)), (3, .int (-1)), (4, .int (-1)), (5, .int (0))]) rfl ?_
  exact c_FX_watch_L23 hC n what sz5 d (by omega) R 1000 (-1 : Int32) (-1 : Int32) (0 : Int32) (s2.2) hr
