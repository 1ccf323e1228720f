/-! pub1, decompiled. -/
def FX_feed (a : Int32) (b : Int32) (c : Int32) (u : Int32) (e : Int32) (M : gM) : Option (Int32 × gM) :=
  if ((M 1 1) + (20 : Int32)) ≤ (600 : Int32) then ((F_push a M).bind fun s2 => (F_push b s2).bind fun s3 => (F_push c s3).bind fun s4 => (F_push u s4).bind fun s5 => (F_push e s5).bind fun s6 => some (s6 1 1, s6)) else (some (-1, M))
set_option maxRecDepth 20000 in
theorem c_FX_feed {l : Launch} {C : gC} (hC : g_ctx l C) (a : Int32) (b : Int32) (c : Int32) (u : Int32) (e : Int32)  (M : gM) (sz d : Nat) (hd : 3 ≤ d) (R : Int32 × gM) (hr : FX_feed a b c u e M = some R) : gPg l C qX11_feed d [.ref (0), .int (a), .int (b), .int (c), .int (u), .int (e)] 956 g_S0 M sz (qI R) := by
  refine gPg.of (ls := [(0, .ref (0)), (1, .int (a)), (2, .int (b)), (3, .int (c)), (4, .int (u)), (5, .int (e))]) (by decide +kernel) (Nat.le_of_ble_eq_true rfl) rfl ?_
  unfold FX_feed at hr
  refine gb_run 6 (pc2 := 13) (ls2 := [(0, .ref (0)), (1, .int (a)), (2, .int (b)), (3, .int (c)), (4, .int (u)), (5, .int (e))]) (st2 := [.int (600), .int ((M 1 1) + (20 : Int32))]) (M2 := M) hC hqX11_feed rfl ?_
  refine gb_icmp_le hqX11_feed rfl (fun h1 => ?_) (fun h1 => ?_)
  ·
    have hr := g_if1 h1 hr
    refine gb_run 3 (pc2 := 23) (ls2 := [(0, .ref (0)), (1, .int (a)), (2, .int (b)), (3, .int (c)), (4, .int (u)), (5, .int (e))]) (st2 := [.int (a), .ref (1)]) (M2 := M) hC hqX11_feed rfl ?_
    obtain ⟨s2, es2, hr⟩ := g_bd hr
    refine gz_cV (z := qX10_push) (a := 1) (av := [.int (a)]) (rest := []) (pl := 538) hC hqX11_feed rfl kX10_push sX10_push (by decide +kernel) (c_F_push hC a  M sz (d - 1) (by omega) s2 es2) (by omega) ⟨rfl, rfl⟩ rfl (Nat.le_of_ble_eq_true rfl) (Nat.le_of_ble_eq_true rfl) rfl rfl rfl (Nat.le_of_ble_eq_true rfl) ⟨Nat.le_of_ble_eq_true rfl, Nat.le_of_ble_eq_true rfl⟩ (gs_V ?_)
    refine gb_run 3 (pc2 := 31) (ls2 := [(0, .ref (0)), (1, .int (a)), (2, .int (b)), (3, .int (c)), (4, .int (u)), (5, .int (e))]) (st2 := [.int (b), .ref (1)]) (M2 := s2) hC hqX11_feed rfl ?_
    obtain ⟨s3, es3, hr⟩ := g_bd hr
    refine gz_cV (z := qX10_push) (a := 1) (av := [.int (b)]) (rest := []) (pl := 538) hC hqX11_feed rfl kX10_push sX10_push (by decide +kernel) (c_F_push hC b  s2 sz (d - 1) (by omega) s3 es3) (by omega) ⟨rfl, rfl⟩ rfl (Nat.le_of_ble_eq_true rfl) (Nat.le_of_ble_eq_true rfl) rfl rfl rfl (Nat.le_of_ble_eq_true rfl) ⟨Nat.le_of_ble_eq_true rfl, Nat.le_of_ble_eq_true rfl⟩ (gs_V ?_)
    refine gb_run 3 (pc2 := 39) (ls2 := [(0, .ref (0)), (1, .int (a)), (2, .int (b)), (3, .int (c)), (4, .int (u)), (5, .int (e))]) (st2 := [.int (c), .ref (1)]) (M2 := s3) hC hqX11_feed rfl ?_
    obtain ⟨s4, es4, hr⟩ := g_bd hr
    refine gz_cV (z := qX10_push) (a := 1) (av := [.int (c)]) (rest := []) (pl := 538) hC hqX11_feed rfl kX10_push sX10_push (by decide +kernel) (c_F_push hC c  s3 sz (d - 1) (by omega) s4 es4) (by omega) ⟨rfl, rfl⟩ rfl (Nat.le_of_ble_eq_true rfl) (Nat.le_of_ble_eq_true rfl) rfl rfl rfl (Nat.le_of_ble_eq_true rfl) ⟨Nat.le_of_ble_eq_true rfl, Nat.le_of_ble_eq_true rfl⟩ (gs_V ?_)
    refine gb_run 3 (pc2 := 48) (ls2 := [(0, .ref (0)), (1, .int (a)), (2, .int (b)), (3, .int (c)), (4, .int (u)), (5, .int (e))]) (st2 := [.int (u), .ref (1)]) (M2 := s4) hC hqX11_feed rfl ?_
    obtain ⟨s5, es5, hr⟩ := g_bd hr
    refine gz_cV (z := qX10_push) (a := 1) (av := [.int (u)]) (rest := []) (pl := 538) hC hqX11_feed rfl kX10_push sX10_push (by decide +kernel) (c_F_push hC u  s4 sz (d - 1) (by omega) s5 es5) (by omega) ⟨rfl, rfl⟩ rfl (Nat.le_of_ble_eq_true rfl) (Nat.le_of_ble_eq_true rfl) rfl rfl rfl (Nat.le_of_ble_eq_true rfl) ⟨Nat.le_of_ble_eq_true rfl, Nat.le_of_ble_eq_true rfl⟩ (gs_V ?_)
    refine gb_run 3 (pc2 := 57) (ls2 := [(0, .ref (0)), (1, .int (a)), (2, .int (b)), (3, .int (c)), (4, .int (u)), (5, .int (e))]) (st2 := [.int (e), .ref (1)]) (M2 := s5) hC hqX11_feed rfl ?_
    obtain ⟨s6, es6, hr⟩ := g_bd hr
    refine gz_cV (z := qX10_push) (a := 1) (av := [.int (e)]) (rest := []) (pl := 538) hC hqX11_feed rfl kX10_push sX10_push (by decide +kernel) (c_F_push hC e  s5 sz (d - 1) (by omega) s6 es6) (by omega) ⟨rfl, rfl⟩ rfl (Nat.le_of_ble_eq_true rfl) (Nat.le_of_ble_eq_true rfl) rfl rfl rfl (Nat.le_of_ble_eq_true rfl) ⟨Nat.le_of_ble_eq_true rfl, Nat.le_of_ble_eq_true rfl⟩ (gs_V ?_)
    refine gb_run 3 (pc2 := 67) (ls2 := [(0, .ref (0)), (1, .int (a)), (2, .int (b)), (3, .int (c)), (4, .int (u)), (5, .int (e))]) (st2 := [.int (s6 1 1)]) (M2 := s6) hC hqX11_feed rfl ?_
    refine gb_iret hqX11_feed rfl rfl (Nat.le_of_ble_eq_true rfl) (Nat.le_of_ble_eq_true rfl) ?_
    exact gl_I hr
  ·
    have hr := g_if0 h1 hr
    refine gb_run 1 (pc2 := 17) (ls2 := [(0, .ref (0)), (1, .int (a)), (2, .int (b)), (3, .int (c)), (4, .int (u)), (5, .int (e))]) (st2 := [.int (-1)]) (M2 := M) hC hqX11_feed rfl ?_
    refine gb_iret hqX11_feed rfl rfl (Nat.le_of_ble_eq_true rfl) (Nat.le_of_ble_eq_true rfl) ?_
    exact gl_I hr
def FX_park (n : Int32) (M : gM) : Option (Nat × Int32 × gM) :=
  (FX_needText n (600 : Int32) M).bind fun s1 => if s1.1 = 0 then ((F_open n (s1.2)).bind fun s2 => (FP_read s2).bind fun s3 => if (F_faulty s3) = (0 : Int32) then ((FP_copy s3).bind fun s7 => (FL_clear s7).bind fun s8 => (FS_clear s8).bind fun s9 => (FH_clear s9).bind fun s10 => some (0, s10 3 7, g_set (g_set s10 0 14 (0 : Int32)) 0 15 (0 : Int32))) else (some (0, (s3 1 5) - (10 : Int32), s3))) else some (s1.1, 0, s1.2)
set_option maxRecDepth 20000 in
theorem c_FX_park {l : Launch} {C : gC} (hC : g_ctx l C) (n : Int32)  (M : gM) (sz d : Nat) (hd : 9 ≤ d) (R : Nat × Int32 × gM) (hr : FX_park n M = some R) : gPt l C qX11_park d [.ref (0), .int (n)] M sz (qtI R) (xtI R) := by
  refine gPt.of (ls := [(0, .ref (0)), (1, .int (n))]) (by decide +kernel) (Nat.le_of_ble_eq_true rfl) rfl ?_
  unfold FX_park at hr
  refine gb_run 3 (pc2 := 5) (ls2 := [(0, .ref (0)), (1, .int (n))]) (st2 := [.int (600), .int (n), .ref (0)]) (M2 := M) hC hqX11_park rfl ?_
  obtain ⟨s1, es1, hr⟩ := g_bd hr
  refine gt_cV (z := qX11_needText) (a := 0) (av := [.int (n), .int (600)]) (rest := []) (pl := 653) (kc2 := 1) (ks2 := 6) hC hqX11_park rfl kX11_needText sX11_needText (by decide +kernel) (c_FX_needText hC n (600 : Int32)  M sz (d - 1) (by omega) s1 es1) (by omega) rfl rfl rfl (Nat.le_of_ble_eq_true rfl) (Nat.le_of_ble_eq_true rfl) rfl rfl rfl (Nat.le_of_ble_eq_true rfl) ⟨Nat.le_of_ble_eq_true rfl, Nat.le_of_ble_eq_true rfl⟩ (gt_xI hr) (gs_t fun sz3 q0 => ?_)
  have hr := g_if1 q0 hr
  refine gb_run 3 (pc2 := 13) (ls2 := [(0, .ref (0)), (1, .int (n))]) (st2 := [.int (n), .ref (1)]) (M2 := s1.2) hC hqX11_park rfl ?_
  obtain ⟨s2, es2, hr⟩ := g_bd hr
  refine gz_cV (z := qX10_open) (a := 1) (av := [.int (n)]) (rest := []) (pl := 729) hC hqX11_park rfl kX10_open sX10_open (by decide +kernel) (c_F_open hC n  (s1.2) sz3 (d - 1) (by omega) s2 es2) (by omega) ⟨rfl, rfl⟩ rfl (Nat.le_of_ble_eq_true rfl) (Nat.le_of_ble_eq_true rfl) rfl rfl rfl (Nat.le_of_ble_eq_true rfl) ⟨Nat.le_of_ble_eq_true rfl, Nat.le_of_ble_eq_true rfl⟩ (gs_V ?_)
  refine gb_run 4 (pc2 := 24) (ls2 := [(0, .ref (0)), (1, .int (n))]) (st2 := [.ref (1), .ref (9)]) (M2 := s2) hC hqX11_park rfl ?_
  obtain ⟨s3, es3, hr⟩ := g_bd hr
  refine gz_cV (z := qX6_read) (a := 9) (av := [.ref (1)]) (rest := []) (pl := 733) hC hqX11_park rfl kX6_read sX6_read (by decide +kernel) (c_FP_read hC   s2 sz3 (d - 1) (by omega) s3 es3) (by omega) ⟨rfl, rfl⟩ rfl (Nat.le_of_ble_eq_true rfl) (Nat.le_of_ble_eq_true rfl) rfl rfl rfl (Nat.le_of_ble_eq_true rfl) ⟨Nat.le_of_ble_eq_true rfl, Nat.le_of_ble_eq_true rfl⟩ (gs_V ?_)
  refine gb_run 2 (pc2 := 31) (ls2 := [(0, .ref (0)), (1, .int (n))]) (st2 := [.ref (1)]) (M2 := s3) hC hqX11_park rfl ?_
  refine gz_cV (z := qX10_faulty) (a := 1) (av := []) (rest := []) (pl := 848) hC hqX11_park rfl kX10_faulty sX10_faulty (by decide +kernel) (c_F_faulty hC   s3 sz3 (d - 1) (by omega)) (by omega) ⟨rfl, rfl⟩ rfl (Nat.le_of_ble_eq_true rfl) (Nat.le_of_ble_eq_true rfl) rfl rfl rfl (Nat.le_of_ble_eq_true rfl) ⟨Nat.le_of_ble_eq_true rfl, Nat.le_of_ble_eq_true rfl⟩ (gs_Zp fun z5 => ?_)
  refine gb_if_eq hqX11_park rfl (fun h6 => ?_) (fun h6 => ?_)
  ·
    have hr := g_if1 h6 hr
    refine gb_run 4 (pc2 := 56) (ls2 := [(0, .ref (0)), (1, .int (n))]) (st2 := [.ref (9), .ref (3)]) (M2 := s3) hC hqX11_park rfl ?_
    obtain ⟨s7, es7, hr⟩ := g_bd hr
    refine gz_cV (z := qX6_copy) (a := 3) (av := [.ref (9)]) (rest := []) (pl := 849) hC hqX11_park rfl kX6_copy sX6_copy (by decide +kernel) (c_FP_copy hC   s3 sz3 (d - 1) (by omega) s7 es7) (by omega) ⟨rfl, rfl⟩ rfl (Nat.le_of_ble_eq_true rfl) (Nat.le_of_ble_eq_true rfl) rfl rfl rfl (Nat.le_of_ble_eq_true rfl) ⟨Nat.le_of_ble_eq_true rfl, Nat.le_of_ble_eq_true rfl⟩ (gs_V ?_)
    refine gb_run 2 (pc2 := 63) (ls2 := [(0, .ref (0)), (1, .int (n))]) (st2 := [.ref (15)]) (M2 := s7) hC hqX11_park rfl ?_
    obtain ⟨s8, es8, hr⟩ := g_bd hr
    refine gz_cV (z := qX4_clear) (a := 15) (av := []) (rest := []) (pl := 854) hC hqX11_park rfl kX4_clear sX4_clear (by decide +kernel) (c_FL_clear hC   s7 sz3 (d - 1) (by omega) s8 es8) (by omega) ⟨rfl, rfl⟩ rfl (Nat.le_of_ble_eq_true rfl) (Nat.le_of_ble_eq_true rfl) rfl rfl rfl (Nat.le_of_ble_eq_true rfl) ⟨Nat.le_of_ble_eq_true rfl, Nat.le_of_ble_eq_true rfl⟩ (gs_V ?_)
    refine gb_run 2 (pc2 := 70) (ls2 := [(0, .ref (0)), (1, .int (n))]) (st2 := [.ref (23)]) (M2 := s8) hC hqX11_park rfl ?_
    obtain ⟨s9, es9, hr⟩ := g_bd hr
    refine gz_cV (z := qX7_clear) (a := 23) (av := []) (rest := []) (pl := 858) hC hqX11_park rfl kX7_clear sX7_clear (by decide +kernel) (c_FS_clear hC   s8 sz3 (d - 1) (by omega) s9 es9) (by omega) ⟨rfl, rfl⟩ rfl (Nat.le_of_ble_eq_true rfl) (Nat.le_of_ble_eq_true rfl) rfl rfl rfl (Nat.le_of_ble_eq_true rfl) ⟨Nat.le_of_ble_eq_true rfl, Nat.le_of_ble_eq_true rfl⟩ (gs_V ?_)
    refine gb_run 2 (pc2 := 77) (ls2 := [(0, .ref (0)), (1, .int (n))]) (st2 := [.ref (47)]) (M2 := s9) hC hqX11_park rfl ?_
    obtain ⟨s10, es10, hr⟩ := g_bd hr
    refine gz_cV (z := qX3_clear) (a := 47) (av := []) (rest := []) (pl := 859) hC hqX11_park rfl kX3_clear sX3_clear (by decide +kernel) (c_FH_clear hC   s9 sz3 (d - 1) (by omega) s10 es10) (by omega) ⟨rfl, rfl⟩ rfl (Nat.le_of_ble_eq_true rfl) (Nat.le_of_ble_eq_true rfl) rfl rfl rfl (Nat.le_of_ble_eq_true rfl) ⟨Nat.le_of_ble_eq_true rfl, Nat.le_of_ble_eq_true rfl⟩ (gs_V ?_)
    refine gb_run 9 (pc2 := 97) (ls2 := [(0, .ref (0)), (1, .int (n))]) (st2 := [.int (s10 3 7)]) (M2 := g_set (g_set s10 0 14 (0 : Int32)) 0 15 (0 : Int32)) hC hqX11_park rfl ?_
    refine gb_iret hqX11_park rfl rfl (Nat.le_of_ble_eq_true rfl) (Nat.le_of_ble_eq_true rfl) ?_
    exact gl_tI hr
  ·
    have hr := g_if0 h6 hr
    refine gb_run 5 (pc2 := 47) (ls2 := [(0, .ref (0)), (1, .int (n))]) (st2 := [.int ((s3 1 5) - (10 : Int32))]) (M2 := s3) hC hqX11_park rfl ?_
    refine gb_iret hqX11_park rfl rfl (Nat.le_of_ble_eq_true rfl) (Nat.le_of_ble_eq_true rfl) ?_
    exact gl_tI hr
def FX_law (n : Int32) (M : gM) : Option (Nat × Int32 × gM) :=
  (FX_needText n (150 : Int32) M).bind fun s1 => if s1.1 = 0 then ((F_open n (s1.2)).bind fun s2 => (FL_read s2).bind fun s3 => if (F_faulty s3) = (0 : Int32) then ((FL_copy s3).bind fun s7 => some (0, 1, s7)) else (some (0, (s3 1 5) - (10 : Int32), s3))) else some (s1.1, 0, s1.2)
set_option maxRecDepth 20000 in
theorem c_FX_law {l : Launch} {C : gC} (hC : g_ctx l C) (n : Int32)  (M : gM) (sz d : Nat) (hd : 49 ≤ d) (R : Nat × Int32 × gM) (hr : FX_law n M = some R) : gPt l C qX11_law d [.ref (0), .int (n)] M sz (qtI R) (xtI R) := by
  refine gPt.of (ls := [(0, .ref (0)), (1, .int (n))]) (by decide +kernel) (Nat.le_of_ble_eq_true rfl) rfl ?_
  unfold FX_law at hr
  refine gb_run 3 (pc2 := 5) (ls2 := [(0, .ref (0)), (1, .int (n))]) (st2 := [.int (150), .int (n), .ref (0)]) (M2 := M) hC hqX11_law rfl ?_
  obtain ⟨s1, es1, hr⟩ := g_bd hr
  refine gt_cV (z := qX11_needText) (a := 0) (av := [.int (n), .int (150)]) (rest := []) (pl := 653) (kc2 := 1) (ks2 := 6) hC hqX11_law rfl kX11_needText sX11_needText (by decide +kernel) (c_FX_needText hC n (150 : Int32)  M sz (d - 1) (by omega) s1 es1) (by omega) rfl rfl rfl (Nat.le_of_ble_eq_true rfl) (Nat.le_of_ble_eq_true rfl) rfl rfl rfl (Nat.le_of_ble_eq_true rfl) ⟨Nat.le_of_ble_eq_true rfl, Nat.le_of_ble_eq_true rfl⟩ (gt_xI hr) (gs_t fun sz3 q0 => ?_)
  have hr := g_if1 q0 hr
  refine gb_run 3 (pc2 := 13) (ls2 := [(0, .ref (0)), (1, .int (n))]) (st2 := [.int (n), .ref (1)]) (M2 := s1.2) hC hqX11_law rfl ?_
  obtain ⟨s2, es2, hr⟩ := g_bd hr
  refine gz_cV (z := qX10_open) (a := 1) (av := [.int (n)]) (rest := []) (pl := 729) hC hqX11_law rfl kX10_open sX10_open (by decide +kernel) (c_F_open hC n  (s1.2) sz3 (d - 1) (by omega) s2 es2) (by omega) ⟨rfl, rfl⟩ rfl (Nat.le_of_ble_eq_true rfl) (Nat.le_of_ble_eq_true rfl) rfl rfl rfl (Nat.le_of_ble_eq_true rfl) ⟨Nat.le_of_ble_eq_true rfl, Nat.le_of_ble_eq_true rfl⟩ (gs_V ?_)
  refine gb_run 4 (pc2 := 24) (ls2 := [(0, .ref (0)), (1, .int (n))]) (st2 := [.ref (1), .ref (19)]) (M2 := s2) hC hqX11_law rfl ?_
  obtain ⟨s3, es3, hr⟩ := g_bd hr
  refine gz_cV (z := qX4_read) (a := 19) (av := [.ref (1)]) (rest := []) (pl := 871) hC hqX11_law rfl kX4_read sX4_read (by decide +kernel) (c_FL_read hC   s2 sz3 (d - 1) (by omega) s3 es3) (by omega) ⟨rfl, rfl⟩ rfl (Nat.le_of_ble_eq_true rfl) (Nat.le_of_ble_eq_true rfl) rfl rfl rfl (Nat.le_of_ble_eq_true rfl) ⟨Nat.le_of_ble_eq_true rfl, Nat.le_of_ble_eq_true rfl⟩ (gs_V ?_)
  refine gb_run 2 (pc2 := 31) (ls2 := [(0, .ref (0)), (1, .int (n))]) (st2 := [.ref (1)]) (M2 := s3) hC hqX11_law rfl ?_
  refine gz_cV (z := qX10_faulty) (a := 1) (av := []) (rest := []) (pl := 848) hC hqX11_law rfl kX10_faulty sX10_faulty (by decide +kernel) (c_F_faulty hC   s3 sz3 (d - 1) (by omega)) (by omega) ⟨rfl, rfl⟩ rfl (Nat.le_of_ble_eq_true rfl) (Nat.le_of_ble_eq_true rfl) rfl rfl rfl (Nat.le_of_ble_eq_true rfl) ⟨Nat.le_of_ble_eq_true rfl, Nat.le_of_ble_eq_true rfl⟩ (gs_Zp fun z5 => ?_)
  refine gb_if_eq hqX11_law rfl (fun h6 => ?_) (fun h6 => ?_)
  ·
    have hr := g_if1 h6 hr
    refine gb_run 4 (pc2 := 56) (ls2 := [(0, .ref (0)), (1, .int (n))]) (st2 := [.ref (19), .ref (15)]) (M2 := s3) hC hqX11_law rfl ?_
    obtain ⟨s7, es7, hr⟩ := g_bd hr
    refine gz_cV (z := qX4_copy) (a := 15) (av := [.ref (19)]) (rest := []) (pl := 921) hC hqX11_law rfl kX4_copy sX4_copy (by decide +kernel) (c_FL_copy hC   s3 sz3 (d - 1) (by omega) s7 es7) (by omega) ⟨rfl, rfl⟩ rfl (Nat.le_of_ble_eq_true rfl) (Nat.le_of_ble_eq_true rfl) rfl rfl rfl (Nat.le_of_ble_eq_true rfl) ⟨Nat.le_of_ble_eq_true rfl, Nat.le_of_ble_eq_true rfl⟩ (gs_V ?_)
    refine gb_run 1 (pc2 := 60) (ls2 := [(0, .ref (0)), (1, .int (n))]) (st2 := [.int (1)]) (M2 := s7) hC hqX11_law rfl ?_
    refine gb_iret hqX11_law rfl rfl (Nat.le_of_ble_eq_true rfl) (Nat.le_of_ble_eq_true rfl) ?_
    exact gl_tI hr
  ·
    have hr := g_if0 h6 hr
    refine gb_run 5 (pc2 := 47) (ls2 := [(0, .ref (0)), (1, .int (n))]) (st2 := [.int ((s3 1 5) - (10 : Int32))]) (M2 := s3) hC hqX11_law rfl ?_
    refine gb_iret hqX11_law rfl rfl (Nat.le_of_ble_eq_true rfl) (Nat.le_of_ble_eq_true rfl) ?_
    exact gl_tI hr
def FX_work (n : Int32) (M : gM) : Option (Nat × Int32 × gM) :=
  (FX_needText n (150 : Int32) M).bind fun s1 => if s1.1 = 0 then (if ((s1.2) 47 2) < (16 : Int32) then ((F_open n (s1.2)).bind fun s3 => (FT_read s3).bind fun s4 => if (F_faulty s4) = (0 : Int32) then ((FH_keep 47 s4).bind fun s8 => (FT_start s8).bind fun s9 => (FT_perform 12 (0 : Int32) (s9 28 5) (0 : Int32) s9).bind fun s10 => some (0, s10 28 7, g_set s10 0 15 (s10 28 8))) else (some (0, (s4 1 5) - (10 : Int32), s4))) else ((F_open (0 : Int32) (s1.2)).bind fun s11 => some (0, -20, s11))) else some (s1.1, 0, s1.2)
set_option maxRecDepth 20000 in
theorem c_FX_work {l : Launch} {C : gC} (hC : g_ctx l C) (n : Int32)  (M : gM) (sz d : Nat) (hd : 38 ≤ d) (R : Nat × Int32 × gM) (hr : FX_work n M = some R) : gPt l C qX11_work d [.ref (0), .int (n)] M sz (qtI R) (xtI R) := by
  refine gPt.of (ls := [(0, .ref (0)), (1, .int (n))]) (by decide +kernel) (Nat.le_of_ble_eq_true rfl) rfl ?_
  unfold FX_work at hr
  refine gb_run 3 (pc2 := 5) (ls2 := [(0, .ref (0)), (1, .int (n))]) (st2 := [.int (150), .int (n), .ref (0)]) (M2 := M) hC hqX11_work rfl ?_
  obtain ⟨s1, es1, hr⟩ := g_bd hr
  refine gt_cV (z := qX11_needText) (a := 0) (av := [.int (n), .int (150)]) (rest := []) (pl := 653) (kc2 := 1) (ks2 := 6) hC hqX11_work rfl kX11_needText sX11_needText (by decide +kernel) (c_FX_needText hC n (150 : Int32)  M sz (d - 1) (by omega) s1 es1) (by omega) rfl rfl rfl (Nat.le_of_ble_eq_true rfl) (Nat.le_of_ble_eq_true rfl) rfl rfl rfl (Nat.le_of_ble_eq_true rfl) ⟨Nat.le_of_ble_eq_true rfl, Nat.le_of_ble_eq_true rfl⟩ (gt_xI hr) (gs_t fun sz3 q0 => ?_)
  have hr := g_if1 q0 hr
  refine gb_run 4 (pc2 := 17) (ls2 := [(0, .ref (0)), (1, .int (n))]) (st2 := [.int (16), .int ((s1.2) 47 2)]) (M2 := s1.2) hC hqX11_work rfl ?_
  refine gb_icmp_lt hqX11_work rfl (fun h2 => ?_) (fun h2 => ?_)
  ·
    have hr := g_if1 h2 hr
    refine gb_run 3 (pc2 := 36) (ls2 := [(0, .ref (0)), (1, .int (n))]) (st2 := [.int (n), .ref (1)]) (M2 := s1.2) hC hqX11_work rfl ?_
    obtain ⟨s3, es3, hr⟩ := g_bd hr
    refine gz_cV (z := qX10_open) (a := 1) (av := [.int (n)]) (rest := []) (pl := 729) hC hqX11_work rfl kX10_open sX10_open (by decide +kernel) (c_F_open hC n  (s1.2) sz3 (d - 1) (by omega) s3 es3) (by omega) ⟨rfl, rfl⟩ rfl (Nat.le_of_ble_eq_true rfl) (Nat.le_of_ble_eq_true rfl) rfl rfl rfl (Nat.le_of_ble_eq_true rfl) ⟨Nat.le_of_ble_eq_true rfl, Nat.le_of_ble_eq_true rfl⟩ (gs_V ?_)
    refine gb_run 4 (pc2 := 47) (ls2 := [(0, .ref (0)), (1, .int (n))]) (st2 := [.ref (1), .ref (28)]) (M2 := s3) hC hqX11_work rfl ?_
    obtain ⟨s4, es4, hr⟩ := g_bd hr
    refine gz_cV (z := qX9_read) (a := 28) (av := [.ref (1)]) (rest := []) (pl := 933) hC hqX11_work rfl kX9_read sX9_read (by decide +kernel) (c_FT_read hC   s3 sz3 (d - 1) (by omega) s4 es4) (by omega) ⟨rfl, rfl⟩ rfl (Nat.le_of_ble_eq_true rfl) (Nat.le_of_ble_eq_true rfl) rfl rfl rfl (Nat.le_of_ble_eq_true rfl) ⟨Nat.le_of_ble_eq_true rfl, Nat.le_of_ble_eq_true rfl⟩ (gs_V ?_)
    refine gb_run 2 (pc2 := 54) (ls2 := [(0, .ref (0)), (1, .int (n))]) (st2 := [.ref (1)]) (M2 := s4) hC hqX11_work rfl ?_
    refine gz_cV (z := qX10_faulty) (a := 1) (av := []) (rest := []) (pl := 848) hC hqX11_work rfl kX10_faulty sX10_faulty (by decide +kernel) (c_F_faulty hC   s4 sz3 (d - 1) (by omega)) (by omega) ⟨rfl, rfl⟩ rfl (Nat.le_of_ble_eq_true rfl) (Nat.le_of_ble_eq_true rfl) rfl rfl rfl (Nat.le_of_ble_eq_true rfl) ⟨Nat.le_of_ble_eq_true rfl, Nat.le_of_ble_eq_true rfl⟩ (gs_Zp fun z6 => ?_)
    refine gb_if_eq hqX11_work rfl (fun h7 => ?_) (fun h7 => ?_)
    ·
      have hr := g_if1 h7 hr
      refine gb_run 2 (pc2 := 75) (ls2 := [(0, .ref (0)), (1, .int (n))]) (st2 := [.ref (47)]) (M2 := s4) hC hqX11_work rfl ?_
      obtain ⟨s8, es8, hr⟩ := g_bd hr
      refine gz_cV (z := qX3_keep) (a := 47) (av := []) (rest := []) (pl := 967) hC hqX11_work rfl kX3_keep sX3_keep (by decide +kernel) (c_FH_keep hC 47 g_h47 s4 sz3 (d - 1) (by omega) s8 es8) (by omega) ⟨rfl, rfl⟩ rfl (Nat.le_of_ble_eq_true rfl) (Nat.le_of_ble_eq_true rfl) rfl rfl rfl (Nat.le_of_ble_eq_true rfl) ⟨Nat.le_of_ble_eq_true rfl, Nat.le_of_ble_eq_true rfl⟩ (gs_V ?_)
      refine gb_run 2 (pc2 := 82) (ls2 := [(0, .ref (0)), (1, .int (n))]) (st2 := [.ref (28)]) (M2 := s8) hC hqX11_work rfl ?_
      obtain ⟨s9, es9, hr⟩ := g_bd hr
      refine gz_cV (z := qX9_start) (a := 28) (av := []) (rest := []) (pl := 971) hC hqX11_work rfl kX9_start sX9_start (by decide +kernel) (c_FT_start hC   s8 sz3 (d - 1) (by omega) s9 es9) (by omega) ⟨rfl, rfl⟩ rfl (Nat.le_of_ble_eq_true rfl) (Nat.le_of_ble_eq_true rfl) rfl rfl rfl (Nat.le_of_ble_eq_true rfl) ⟨Nat.le_of_ble_eq_true rfl, Nat.le_of_ble_eq_true rfl⟩ (gs_V ?_)
      refine gb_run 10 (pc2 := 105) (ls2 := [(0, .ref (0)), (1, .int (n))]) (st2 := [.int (0), .int (s9 28 5), .int (0), .ref (48), .ref (28)]) (M2 := s9) hC hqX11_work rfl ?_
      obtain ⟨s10, es10, hr⟩ := g_bd hr
      refine gz_cVN (host := "HoopHours") (z := qX9_perform) (a := 28) (av := [.ref (48), .int (0), .int (s9 28 5), .int (0)]) (rest := []) (pl := 975) hC hqX11_work rfl kX9_perform sX9_perform (by decide +kernel) (c_FT_perform hC 12 (0 : Int32) (s9 28 5) (0 : Int32)  s9 sz3 (d - 1) (by omega) s10 es10) (by omega) ⟨rfl, rfl⟩ rfl (Nat.le_of_ble_eq_true rfl) (Nat.le_of_ble_eq_true rfl) rfl rfl rfl (Nat.le_of_ble_eq_true rfl) ⟨Nat.le_of_ble_eq_true rfl, Nat.le_of_ble_eq_true rfl⟩ (gs_V ?_)
      refine gb_run 8 (pc2 := 126) (ls2 := [(0, .ref (0)), (1, .int (n))]) (st2 := [.int (s10 28 7)]) (M2 := g_set s10 0 15 (s10 28 8)) hC hqX11_work rfl ?_
      refine gb_iret hqX11_work rfl rfl (Nat.le_of_ble_eq_true rfl) (Nat.le_of_ble_eq_true rfl) ?_
      exact gl_tI hr
    ·
      have hr := g_if0 h7 hr
      refine gb_run 5 (pc2 := 70) (ls2 := [(0, .ref (0)), (1, .int (n))]) (st2 := [.int ((s4 1 5) - (10 : Int32))]) (M2 := s4) hC hqX11_work rfl ?_
      refine gb_iret hqX11_work rfl rfl (Nat.le_of_ble_eq_true rfl) (Nat.le_of_ble_eq_true rfl) ?_
      exact gl_tI hr
  ·
    have hr := g_if0 h2 hr
    refine gb_run 3 (pc2 := 25) (ls2 := [(0, .ref (0)), (1, .int (n))]) (st2 := [.int (0), .ref (1)]) (M2 := s1.2) hC hqX11_work rfl ?_
    obtain ⟨s11, es11, hr⟩ := g_bd hr
    refine gz_cV (z := qX10_open) (a := 1) (av := [.int (0)]) (rest := []) (pl := 729) hC hqX11_work rfl kX10_open sX10_open (by decide +kernel) (c_F_open hC (0 : Int32)  (s1.2) sz3 (d - 1) (by omega) s11 es11) (by omega) ⟨rfl, rfl⟩ rfl (Nat.le_of_ble_eq_true rfl) (Nat.le_of_ble_eq_true rfl) rfl rfl rfl (Nat.le_of_ble_eq_true rfl) ⟨Nat.le_of_ble_eq_true rfl, Nat.le_of_ble_eq_true rfl⟩ (gs_V ?_)
    refine gb_run 1 (pc2 := 30) (ls2 := [(0, .ref (0)), (1, .int (n))]) (st2 := [.int (-20)]) (M2 := s11) hC hqX11_work rfl ?_
    refine gb_iret hqX11_work rfl rfl (Nat.le_of_ble_eq_true rfl) (Nat.le_of_ble_eq_true rfl) ?_
    exact gl_tI hr
def FX_songs (n : Int32) (M : gM) : Option (Nat × Int32 × gM) :=
  (FX_needText n (60 : Int32) M).bind fun s1 => if s1.1 = 0 then ((F_open n (s1.2)).bind fun s2 => (FS_read (s2 3 5) s2).bind fun s3 => if (F_faulty s3) = (0 : Int32) then ((FS_copy s3).bind fun s7 => some (0, s7 23 1, s7)) else (some (0, (s3 1 5) - (10 : Int32), s3))) else some (s1.1, 0, s1.2)
set_option maxRecDepth 20000 in
theorem c_FX_songs {l : Launch} {C : gC} (hC : g_ctx l C) (n : Int32)  (M : gM) (sz d : Nat) (hd : 9 ≤ d) (R : Nat × Int32 × gM) (hr : FX_songs n M = some R) : gPt l C qX11_songs d [.ref (0), .int (n)] M sz (qtI R) (xtI R) := by
  refine gPt.of (ls := [(0, .ref (0)), (1, .int (n))]) (by decide +kernel) (Nat.le_of_ble_eq_true rfl) rfl ?_
  unfold FX_songs at hr
  refine gb_run 3 (pc2 := 4) (ls2 := [(0, .ref (0)), (1, .int (n))]) (st2 := [.int (60), .int (n), .ref (0)]) (M2 := M) hC hqX11_songs rfl ?_
  obtain ⟨s1, es1, hr⟩ := g_bd hr
  refine gt_cV (z := qX11_needText) (a := 0) (av := [.int (n), .int (60)]) (rest := []) (pl := 653) (kc2 := 1) (ks2 := 6) hC hqX11_songs rfl kX11_needText sX11_needText (by decide +kernel) (c_FX_needText hC n (60 : Int32)  M sz (d - 1) (by omega) s1 es1) (by omega) rfl rfl rfl (Nat.le_of_ble_eq_true rfl) (Nat.le_of_ble_eq_true rfl) rfl rfl rfl (Nat.le_of_ble_eq_true rfl) ⟨Nat.le_of_ble_eq_true rfl, Nat.le_of_ble_eq_true rfl⟩ (gt_xI hr) (gs_t fun sz3 q0 => ?_)
  have hr := g_if1 q0 hr
  refine gb_run 3 (pc2 := 12) (ls2 := [(0, .ref (0)), (1, .int (n))]) (st2 := [.int (n), .ref (1)]) (M2 := s1.2) hC hqX11_songs rfl ?_
  obtain ⟨s2, es2, hr⟩ := g_bd hr
  refine gz_cV (z := qX10_open) (a := 1) (av := [.int (n)]) (rest := []) (pl := 729) hC hqX11_songs rfl kX10_open sX10_open (by decide +kernel) (c_F_open hC n  (s1.2) sz3 (d - 1) (by omega) s2 es2) (by omega) ⟨rfl, rfl⟩ rfl (Nat.le_of_ble_eq_true rfl) (Nat.le_of_ble_eq_true rfl) rfl rfl rfl (Nat.le_of_ble_eq_true rfl) ⟨Nat.le_of_ble_eq_true rfl, Nat.le_of_ble_eq_true rfl⟩ (gs_V ?_)
  refine gb_run 7 (pc2 := 30) (ls2 := [(0, .ref (0)), (1, .int (n))]) (st2 := [.int (s2 3 5), .ref (1), .ref (25)]) (M2 := s2) hC hqX11_songs rfl ?_
  obtain ⟨s3, es3, hr⟩ := g_bd hr
  refine gz_cV (z := qX7_read) (a := 25) (av := [.ref (1), .int (s2 3 5)]) (rest := []) (pl := 999) hC hqX11_songs rfl kX7_read sX7_read (by decide +kernel) (c_FS_read hC (s2 3 5)  s2 sz3 (d - 1) (by omega) s3 es3) (by omega) ⟨rfl, rfl⟩ rfl (Nat.le_of_ble_eq_true rfl) (Nat.le_of_ble_eq_true rfl) rfl rfl rfl (Nat.le_of_ble_eq_true rfl) ⟨Nat.le_of_ble_eq_true rfl, Nat.le_of_ble_eq_true rfl⟩ (gs_V ?_)
  refine gb_run 2 (pc2 := 37) (ls2 := [(0, .ref (0)), (1, .int (n))]) (st2 := [.ref (1)]) (M2 := s3) hC hqX11_songs rfl ?_
  refine gz_cV (z := qX10_faulty) (a := 1) (av := []) (rest := []) (pl := 848) hC hqX11_songs rfl kX10_faulty sX10_faulty (by decide +kernel) (c_F_faulty hC   s3 sz3 (d - 1) (by omega)) (by omega) ⟨rfl, rfl⟩ rfl (Nat.le_of_ble_eq_true rfl) (Nat.le_of_ble_eq_true rfl) rfl rfl rfl (Nat.le_of_ble_eq_true rfl) ⟨Nat.le_of_ble_eq_true rfl, Nat.le_of_ble_eq_true rfl⟩ (gs_Zp fun z5 => ?_)
  refine gb_if_eq hqX11_songs rfl (fun h6 => ?_) (fun h6 => ?_)
  ·
    have hr := g_if1 h6 hr
    refine gb_run 4 (pc2 := 62) (ls2 := [(0, .ref (0)), (1, .int (n))]) (st2 := [.ref (25), .ref (23)]) (M2 := s3) hC hqX11_songs rfl ?_
    obtain ⟨s7, es7, hr⟩ := g_bd hr
    refine gz_cV (z := qX7_copy) (a := 23) (av := [.ref (25)]) (rest := []) (pl := 1018) hC hqX11_songs rfl kX7_copy sX7_copy (by decide +kernel) (c_FS_copy hC   s3 sz3 (d - 1) (by omega) s7 es7) (by omega) ⟨rfl, rfl⟩ rfl (Nat.le_of_ble_eq_true rfl) (Nat.le_of_ble_eq_true rfl) rfl rfl rfl (Nat.le_of_ble_eq_true rfl) ⟨Nat.le_of_ble_eq_true rfl, Nat.le_of_ble_eq_true rfl⟩ (gs_V ?_)
    refine gb_run 3 (pc2 := 72) (ls2 := [(0, .ref (0)), (1, .int (n))]) (st2 := [.int (s7 23 1)]) (M2 := s7) hC hqX11_songs rfl ?_
    refine gb_iret hqX11_songs rfl rfl (Nat.le_of_ble_eq_true rfl) (Nat.le_of_ble_eq_true rfl) ?_
    exact gl_tI hr
  ·
    have hr := g_if0 h6 hr
    refine gb_run 5 (pc2 := 53) (ls2 := [(0, .ref (0)), (1, .int (n))]) (st2 := [.int ((s3 1 5) - (10 : Int32))]) (M2 := s3) hC hqX11_songs rfl ?_
    refine gb_iret hqX11_songs rfl rfl (Nat.le_of_ble_eq_true rfl) (Nat.le_of_ble_eq_true rfl) ?_
    exact gl_tI hr
def FX_fault  (M : gM) : Int32 :=
  M 1 6
set_option maxRecDepth 20000 in
theorem c_FX_fault {l : Launch} {C : gC} (hC : g_ctx l C)   (M : gM) (sz d : Nat) (hd : 1 ≤ d) : gPg l C qX11_fault d [.ref (0)] 956 g_S0 M sz (qIp M (FX_fault M)) := by
  refine gPg.of (ls := [(0, .ref (0))]) (by decide +kernel) (Nat.le_of_ble_eq_true rfl) rfl ?_
  obtain ⟨R, hr⟩ : ∃ R, FX_fault M = R := ⟨_, rfl⟩
  rw [hr]
  unfold FX_fault at hr
  refine gb_run 3 (pc2 := 7) (ls2 := [(0, .ref (0))]) (st2 := [.int (M 1 6)]) (M2 := M) hC hqX11_fault rfl ?_
  refine gb_iret hqX11_fault rfl rfl (Nat.le_of_ble_eq_true rfl) (Nat.le_of_ble_eq_true rfl) ?_
  exact gl_It hr
def FX_undo  (M : gM) : Option (Int32 × gM) :=
  if (0 : Int32) < (M 47 2) then ((FH_takeBack 47 M).bind fun s2 => some (s2 47 2, g_set s2 0 15 (0 : Int32))) else (some (-1, M))
set_option maxRecDepth 20000 in
theorem c_FX_undo {l : Launch} {C : gC} (hC : g_ctx l C)   (M : gM) (sz d : Nat) (hd : 4 ≤ d) (R : Int32 × gM) (hr : FX_undo M = some R) : gPg l C qX11_undo d [.ref (0)] 956 g_S0 M sz (qI R) := by
  refine gPg.of (ls := [(0, .ref (0))]) (by decide +kernel) (Nat.le_of_ble_eq_true rfl) rfl ?_
  unfold FX_undo at hr
  refine gb_run 3 (pc2 := 7) (ls2 := [(0, .ref (0))]) (st2 := [.int (M 47 2)]) (M2 := M) hC hqX11_undo rfl ?_
  refine gb_if_gt hqX11_undo rfl (fun h1 => ?_) (fun h1 => ?_)
  ·
    have hr := g_if1 h1 hr
    refine gb_run 2 (pc2 := 16) (ls2 := [(0, .ref (0))]) (st2 := [.ref (47)]) (M2 := M) hC hqX11_undo rfl ?_
    obtain ⟨s2, es2, hr⟩ := g_bd hr
    refine gz_cV (z := qX3_takeBack) (a := 47) (av := []) (rest := []) (pl := 553) hC hqX11_undo rfl kX3_takeBack sX3_takeBack (by decide +kernel) (c_FH_takeBack hC 47 g_h47 M sz (d - 1) (by omega) s2 es2) (by omega) ⟨rfl, rfl⟩ rfl (Nat.le_of_ble_eq_true rfl) (Nat.le_of_ble_eq_true rfl) rfl rfl rfl (Nat.le_of_ble_eq_true rfl) ⟨Nat.le_of_ble_eq_true rfl, Nat.le_of_ble_eq_true rfl⟩ (gs_V ?_)
    refine gb_run 6 (pc2 := 31) (ls2 := [(0, .ref (0))]) (st2 := [.int (s2 47 2)]) (M2 := g_set s2 0 15 (0 : Int32)) hC hqX11_undo rfl ?_
    refine gb_iret hqX11_undo rfl rfl (Nat.le_of_ble_eq_true rfl) (Nat.le_of_ble_eq_true rfl) ?_
    exact gl_I hr
  ·
    have hr := g_if0 h1 hr
    refine gb_run 1 (pc2 := 11) (ls2 := [(0, .ref (0))]) (st2 := [.int (-1)]) (M2 := M) hC hqX11_undo rfl ?_
    refine gb_iret hqX11_undo rfl rfl (Nat.le_of_ble_eq_true rfl) (Nat.le_of_ble_eq_true rfl) ?_
    exact gl_I hr
def FX_told (what : Int32) (M : gM) : Option (Nat × Int32 × gM) :=
  (FX_needIn what (0 : Int32) (12 : Int32) M).bind fun s1 => if s1.1 = 0 then (if what = (0 : Int32) then (some (0, (s1.2) 3 5, s1.2)) else if what = (1 : Int32) then (some (0, (s1.2) 3 6, s1.2)) else if what = (2 : Int32) then (some (0, (s1.2) 3 7, s1.2)) else if what = (3 : Int32) then (some (0, (s1.2) 48 5, s1.2)) else if what = (4 : Int32) then (some (0, (s1.2) 48 6, s1.2)) else if what = (5 : Int32) then (some (0, (s1.2) 48 7, s1.2)) else if what = (6 : Int32) then (some (0, (s1.2) 48 8, s1.2)) else if what = (7 : Int32) then (some (0, (s1.2) 48 9, s1.2)) else if what = (8 : Int32) then (some (0, (s1.2) 48 10, s1.2)) else if what = (9 : Int32) then ((FZ_fines 48 (s1.2)).bind fun s12 => some (0, s12, s1.2)) else if what = (10 : Int32) then (some (0, (s1.2) 23 1, s1.2)) else if what = (11 : Int32) then (some (0, (s1.2) 0 15, s1.2)) else (some (0, (s1.2) 48 11, s1.2))) else some (s1.1, 0, s1.2)
set_option maxRecDepth 20000 in
theorem c_FX_told {l : Launch} {C : gC} (hC : g_ctx l C) (what : Int32)  (M : gM) (sz d : Nat) (hd : 8 ≤ d) (R : Nat × Int32 × gM) (hr : FX_told what M = some R) : gPt l C qX11_told d [.ref (0), .int (what)] M sz (qtI R) (xtI R) := by
  refine gPt.of (ls := [(0, .ref (0)), (1, .int (what))]) (by decide +kernel) (Nat.le_of_ble_eq_true rfl) rfl ?_
  unfold FX_told at hr
  refine gb_run 4 (pc2 := 5) (ls2 := [(0, .ref (0)), (1, .int (what))]) (st2 := [.int (12), .int (0), .int (what), .ref (0)]) (M2 := M) hC hqX11_told rfl ?_
  obtain ⟨s1, es1, hr⟩ := g_bd hr
  refine gt_cV (z := qX11_needIn) (a := 0) (av := [.int (what), .int (0), .int (12)]) (rest := []) (pl := 658) (kc2 := 1) (ks2 := 6) hC hqX11_told rfl kX11_needIn sX11_needIn (by decide +kernel) (c_FX_needIn hC what (0 : Int32) (12 : Int32)  M sz (d - 1) (by omega) s1 es1) (by omega) rfl rfl rfl (Nat.le_of_ble_eq_true rfl) (Nat.le_of_ble_eq_true rfl) rfl rfl rfl (Nat.le_of_ble_eq_true rfl) ⟨Nat.le_of_ble_eq_true rfl, Nat.le_of_ble_eq_true rfl⟩ (gt_xI hr) (gs_t fun sz3 q0 => ?_)
  have hr := g_if1 q0 hr
  refine gb_run 5 (pc2 := 17) (ls2 := [(2, .ref (48)), (0, .ref (0)), (1, .int (what))]) (st2 := [.int (what)]) (M2 := s1.2) hC hqX11_told rfl ?_
  by_cases h2 : what = (0 : Int32)
  ·
    have hr := g_if1 h2 hr
    refine gb_tblIn (tgt := 80) hqX11_told rfl (by rw [h2]; first | done | decide) (by rw [h2]; first | done | decide) (by rw [h2]; first | done | rfl) (by decide) ?_
    refine gb_run 3 (pc2 := 87) (ls2 := [(2, .ref (48)), (0, .ref (0)), (1, .int (what))]) (st2 := [.int ((s1.2) 3 5)]) (M2 := s1.2) hC hqX11_told rfl ?_
    refine gb_iret hqX11_told rfl rfl (Nat.le_of_ble_eq_true rfl) (Nat.le_of_ble_eq_true rfl) ?_
    exact gl_tI hr
  have hr := g_if0 h2 hr
  by_cases h3 : what = (1 : Int32)
  ·
    have hr := g_if1 h3 hr
    refine gb_tblIn (tgt := 88) hqX11_told rfl (by rw [h3]; first | done | decide) (by rw [h3]; first | done | decide) (by rw [h3]; first | done | rfl) (by decide) ?_
    refine gb_run 3 (pc2 := 95) (ls2 := [(2, .ref (48)), (0, .ref (0)), (1, .int (what))]) (st2 := [.int ((s1.2) 3 6)]) (M2 := s1.2) hC hqX11_told rfl ?_
    refine gb_iret hqX11_told rfl rfl (Nat.le_of_ble_eq_true rfl) (Nat.le_of_ble_eq_true rfl) ?_
    exact gl_tI hr
  have hr := g_if0 h3 hr
  by_cases h4 : what = (2 : Int32)
  ·
    have hr := g_if1 h4 hr
    refine gb_tblIn (tgt := 96) hqX11_told rfl (by rw [h4]; first | done | decide) (by rw [h4]; first | done | decide) (by rw [h4]; first | done | rfl) (by decide) ?_
    refine gb_run 3 (pc2 := 103) (ls2 := [(2, .ref (48)), (0, .ref (0)), (1, .int (what))]) (st2 := [.int ((s1.2) 3 7)]) (M2 := s1.2) hC hqX11_told rfl ?_
    refine gb_iret hqX11_told rfl rfl (Nat.le_of_ble_eq_true rfl) (Nat.le_of_ble_eq_true rfl) ?_
    exact gl_tI hr
  have hr := g_if0 h4 hr
  by_cases h5 : what = (3 : Int32)
  ·
    have hr := g_if1 h5 hr
    refine gb_tblIn (tgt := 104) hqX11_told rfl (by rw [h5]; first | done | decide) (by rw [h5]; first | done | decide) (by rw [h5]; first | done | rfl) (by decide) ?_
    refine gb_run 2 (pc2 := 108) (ls2 := [(2, .ref (48)), (0, .ref (0)), (1, .int (what))]) (st2 := [.int ((s1.2) 48 5)]) (M2 := s1.2) hC hqX11_told rfl ?_
    refine gb_iret hqX11_told rfl rfl (Nat.le_of_ble_eq_true rfl) (Nat.le_of_ble_eq_true rfl) ?_
    exact gl_tI hr
  have hr := g_if0 h5 hr
  by_cases h6 : what = (4 : Int32)
  ·
    have hr := g_if1 h6 hr
    refine gb_tblIn (tgt := 109) hqX11_told rfl (by rw [h6]; first | done | decide) (by rw [h6]; first | done | decide) (by rw [h6]; first | done | rfl) (by decide) ?_
    refine gb_run 2 (pc2 := 113) (ls2 := [(2, .ref (48)), (0, .ref (0)), (1, .int (what))]) (st2 := [.int ((s1.2) 48 6)]) (M2 := s1.2) hC hqX11_told rfl ?_
    refine gb_iret hqX11_told rfl rfl (Nat.le_of_ble_eq_true rfl) (Nat.le_of_ble_eq_true rfl) ?_
    exact gl_tI hr
  have hr := g_if0 h6 hr
  by_cases h7 : what = (5 : Int32)
  ·
    have hr := g_if1 h7 hr
    refine gb_tblIn (tgt := 114) hqX11_told rfl (by rw [h7]; first | done | decide) (by rw [h7]; first | done | decide) (by rw [h7]; first | done | rfl) (by decide) ?_
    refine gb_run 2 (pc2 := 118) (ls2 := [(2, .ref (48)), (0, .ref (0)), (1, .int (what))]) (st2 := [.int ((s1.2) 48 7)]) (M2 := s1.2) hC hqX11_told rfl ?_
    refine gb_iret hqX11_told rfl rfl (Nat.le_of_ble_eq_true rfl) (Nat.le_of_ble_eq_true rfl) ?_
    exact gl_tI hr
  have hr := g_if0 h7 hr
  by_cases h8 : what = (6 : Int32)
  ·
    have hr := g_if1 h8 hr
    refine gb_tblIn (tgt := 119) hqX11_told rfl (by rw [h8]; first | done | decide) (by rw [h8]; first | done | decide) (by rw [h8]; first | done | rfl) (by decide) ?_
    refine gb_run 2 (pc2 := 123) (ls2 := [(2, .ref (48)), (0, .ref (0)), (1, .int (what))]) (st2 := [.int ((s1.2) 48 8)]) (M2 := s1.2) hC hqX11_told rfl ?_
    refine gb_iret hqX11_told rfl rfl (Nat.le_of_ble_eq_true rfl) (Nat.le_of_ble_eq_true rfl) ?_
    exact gl_tI hr
  have hr := g_if0 h8 hr
  by_cases h9 : what = (7 : Int32)
  ·
    have hr := g_if1 h9 hr
    refine gb_tblIn (tgt := 124) hqX11_told rfl (by rw [h9]; first | done | decide) (by rw [h9]; first | done | decide) (by rw [h9]; first | done | rfl) (by decide) ?_
    refine gb_run 2 (pc2 := 128) (ls2 := [(2, .ref (48)), (0, .ref (0)), (1, .int (what))]) (st2 := [.int ((s1.2) 48 9)]) (M2 := s1.2) hC hqX11_told rfl ?_
    refine gb_iret hqX11_told rfl rfl (Nat.le_of_ble_eq_true rfl) (Nat.le_of_ble_eq_true rfl) ?_
    exact gl_tI hr
  have hr := g_if0 h9 hr
  by_cases h10 : what = (8 : Int32)
  ·
    have hr := g_if1 h10 hr
    refine gb_tblIn (tgt := 129) hqX11_told rfl (by rw [h10]; first | done | decide) (by rw [h10]; first | done | decide) (by rw [h10]; first | done | rfl) (by decide) ?_
    refine gb_run 2 (pc2 := 133) (ls2 := [(2, .ref (48)), (0, .ref (0)), (1, .int (what))]) (st2 := [.int ((s1.2) 48 10)]) (M2 := s1.2) hC hqX11_told rfl ?_
    refine gb_iret hqX11_told rfl rfl (Nat.le_of_ble_eq_true rfl) (Nat.le_of_ble_eq_true rfl) ?_
    exact gl_tI hr
  have hr := g_if0 h10 hr
  by_cases h11 : what = (9 : Int32)
  ·
    have hr := g_if1 h11 hr
    refine gb_tblIn (tgt := 134) hqX11_told rfl (by rw [h11]; first | done | decide) (by rw [h11]; first | done | decide) (by rw [h11]; first | done | rfl) (by decide) ?_
    refine gb_run 1 (pc2 := 135) (ls2 := [(2, .ref (48)), (0, .ref (0)), (1, .int (what))]) (st2 := [.ref (48)]) (M2 := s1.2) hC hqX11_told rfl ?_
    obtain ⟨s12, es12, hr⟩ := g_bd hr
    refine gz_cV (z := qX8_fines) (a := 48) (av := []) (rest := []) (pl := 1030) hC hqX11_told rfl kX8_fines sX8_fines (by decide +kernel) (c_FZ_fines hC 48 (by decide +kernel) (s1.2) sz3 (d - 1) (by omega) s12 es12) (by omega) ⟨rfl, rfl⟩ rfl (Nat.le_of_ble_eq_true rfl) (Nat.le_of_ble_eq_true rfl) rfl rfl rfl (Nat.le_of_ble_eq_true rfl) ⟨Nat.le_of_ble_eq_true rfl, Nat.le_of_ble_eq_true rfl⟩ (gs_Ip ?_)
    refine gb_iret hqX11_told rfl rfl (Nat.le_of_ble_eq_true rfl) (Nat.le_of_ble_eq_true rfl) ?_
    exact gl_tI hr
  have hr := g_if0 h11 hr
  by_cases h13 : what = (10 : Int32)
  ·
    have hr := g_if1 h13 hr
    refine gb_tblIn (tgt := 139) hqX11_told rfl (by rw [h13]; first | done | decide) (by rw [h13]; first | done | decide) (by rw [h13]; first | done | rfl) (by decide) ?_
    refine gb_run 3 (pc2 := 146) (ls2 := [(2, .ref (48)), (0, .ref (0)), (1, .int (what))]) (st2 := [.int ((s1.2) 23 1)]) (M2 := s1.2) hC hqX11_told rfl ?_
    refine gb_iret hqX11_told rfl rfl (Nat.le_of_ble_eq_true rfl) (Nat.le_of_ble_eq_true rfl) ?_
    exact gl_tI hr
  have hr := g_if0 h13 hr
  by_cases h14 : what = (11 : Int32)
  ·
    have hr := g_if1 h14 hr
    refine gb_tblIn (tgt := 147) hqX11_told rfl (by rw [h14]; first | done | decide) (by rw [h14]; first | done | decide) (by rw [h14]; first | done | rfl) (by decide) ?_
    refine gb_run 2 (pc2 := 151) (ls2 := [(2, .ref (48)), (0, .ref (0)), (1, .int (what))]) (st2 := [.int ((s1.2) 0 15)]) (M2 := s1.2) hC hqX11_told rfl ?_
    refine gb_iret hqX11_told rfl rfl (Nat.le_of_ble_eq_true rfl) (Nat.le_of_ble_eq_true rfl) ?_
    exact gl_tI hr
  have hr := g_if0 h14 hr
  refine gb_tblOut (tgt := 152) hqX11_told rfl (by have q0 := gd_ne (z := 0) rfl h2; have q1 := gd_ne (z := 1) rfl h3; have q2 := gd_ne (z := 2) rfl h4; have q3 := gd_ne (z := 3) rfl h5; have q4 := gd_ne (z := 4) rfl h6; have q5 := gd_ne (z := 5) rfl h7; have q6 := gd_ne (z := 6) rfl h8; have q7 := gd_ne (z := 7) rfl h9; have q8 := gd_ne (z := 8) rfl h10; have q9 := gd_ne (z := 9) rfl h11; have q10 := gd_ne (z := 10) rfl h13; have q11 := gd_ne (z := 11) rfl h14; omega) (by decide) ?_
  refine gb_run 2 (pc2 := 156) (ls2 := [(2, .ref (48)), (0, .ref (0)), (1, .int (what))]) (st2 := [.int ((s1.2) 48 11)]) (M2 := s1.2) hC hqX11_told rfl ?_
  refine gb_iret hqX11_told rfl rfl (Nat.le_of_ble_eq_true rfl) (Nat.le_of_ble_eq_true rfl) ?_
  exact gl_tI hr
def FX_walk (w : Int32) (what : Int32) (M : gM) : Option (Nat × Int32 × gM) :=
  (FX_needOne w (M 3 5) M).bind fun s1 => if s1.1 = 0 then ((FX_needIn what (0 : Int32) (1 : Int32) (s1.2)).bind fun s2 => if s2.1 = 0 then (if what = (0 : Int32) then (some (0, r_at ((s2.2) 4) 8 w, s2.2)) else (some (0, r_at ((s2.2) 5) 8 w, s2.2))) else some (s2.1, 0, s2.2)) else some (s1.1, 0, s1.2)
set_option maxRecDepth 20000 in
theorem c_FX_walk {l : Launch} {C : gC} (hC : g_ctx l C) (w : Int32) (what : Int32)  (M : gM) (sz d : Nat) (hd : 8 ≤ d) (R : Nat × Int32 × gM) (hr : FX_walk w what M = some R) : gPt l C qX11_walk d [.ref (0), .int (w), .int (what)] M sz (qtI R) (xtI R) := by
  refine gPt.of (ls := [(0, .ref (0)), (1, .int (w)), (2, .int (what))]) (by decide +kernel) (Nat.le_of_ble_eq_true rfl) rfl ?_
  unfold FX_walk at hr
  refine gb_run 5 (pc2 := 9) (ls2 := [(0, .ref (0)), (1, .int (w)), (2, .int (what))]) (st2 := [.int (M 3 5), .int (w), .ref (0)]) (M2 := M) hC hqX11_walk rfl ?_
  obtain ⟨s1, es1, hr⟩ := g_bd hr
  refine gt_cV (z := qX11_needOne) (a := 0) (av := [.int (w), .int (M 3 5)]) (rest := []) (pl := 1042) (kc2 := 1) (ks2 := 6) hC hqX11_walk rfl kX11_needOne sX11_needOne (by decide +kernel) (c_FX_needOne hC w (M 3 5)  M sz (d - 1) (by omega) s1 es1) (by omega) rfl rfl rfl (Nat.le_of_ble_eq_true rfl) (Nat.le_of_ble_eq_true rfl) rfl rfl rfl (Nat.le_of_ble_eq_true rfl) ⟨Nat.le_of_ble_eq_true rfl, Nat.le_of_ble_eq_true rfl⟩ (gt_xI hr) (gs_t fun sz3 q0 => ?_)
  have hr := g_if1 q0 hr
  refine gb_run 4 (pc2 := 16) (ls2 := [(0, .ref (0)), (1, .int (w)), (2, .int (what))]) (st2 := [.int (1), .int (0), .int (what), .ref (0)]) (M2 := s1.2) hC hqX11_walk rfl ?_
  obtain ⟨s2, es2, hr⟩ := g_bd hr
  refine gt_cV (z := qX11_needIn) (a := 0) (av := [.int (what), .int (0), .int (1)]) (rest := []) (pl := 658) (kc2 := 2) (ks2 := 12) hC hqX11_walk rfl kX11_needIn sX11_needIn (by decide +kernel) (c_FX_needIn hC what (0 : Int32) (1 : Int32)  (s1.2) sz3 (d - 1) (by omega) s2 es2) (by omega) rfl rfl rfl (Nat.le_of_ble_eq_true rfl) (Nat.le_of_ble_eq_true rfl) rfl rfl rfl (Nat.le_of_ble_eq_true rfl) ⟨Nat.le_of_ble_eq_true rfl, Nat.le_of_ble_eq_true rfl⟩ (gt_xI hr) (gs_t fun sz5 q0 => ?_)
  have hr := g_if1 q0 hr
  refine gb_run 1 (pc2 := 20) (ls2 := [(0, .ref (0)), (1, .int (w)), (2, .int (what))]) (st2 := [.int (what)]) (M2 := s2.2) hC hqX11_walk rfl ?_
  refine gb_if_ne hqX11_walk rfl (fun h3 => ?_) (fun h3 => ?_)
  ·
    have hr := g_if0 h3 hr
    refine gb_run 4 (pc2 := 41) (ls2 := [(0, .ref (0)), (1, .int (w)), (2, .int (what))]) (st2 := [.int (w), .ref (5)]) (M2 := s2.2) hC hqX11_walk rfl ?_
    refine gz_cS (z := qX11_at) (av := [.ref (5), .int (w)]) (rest := []) (pl := 1062) hC hqX11_walk rfl kX11_at (by decide +kernel) (c_at hC 5 8 _ w (s2.2) sz5 (d - 1) (by omega) (Nat.le_of_ble_eq_true rfl) rfl (Nat.le_of_ble_eq_true rfl)) (by omega) ⟨rfl, rfl⟩ rfl rfl (Nat.le_of_ble_eq_true rfl) ⟨Nat.le_of_ble_eq_true rfl, Nat.le_of_ble_eq_true rfl⟩ (gs_Ip (x := r_at ((s2.2) 5) 8 w) ?_)
    refine gb_iret hqX11_walk rfl rfl (Nat.le_of_ble_eq_true rfl) (Nat.le_of_ble_eq_true rfl) ?_
    exact gl_tI hr
  ·
    have hr := g_if1 h3 hr
    refine gb_run 5 (pc2 := 41) (ls2 := [(0, .ref (0)), (1, .int (w)), (2, .int (what))]) (st2 := [.int (w), .ref (4)]) (M2 := s2.2) hC hqX11_walk rfl ?_
    refine gz_cS (z := qX11_at) (av := [.ref (4), .int (w)]) (rest := []) (pl := 1062) hC hqX11_walk rfl kX11_at (by decide +kernel) (c_at hC 4 8 _ w (s2.2) sz5 (d - 1) (by omega) (Nat.le_of_ble_eq_true rfl) rfl (Nat.le_of_ble_eq_true rfl)) (by omega) ⟨rfl, rfl⟩ rfl rfl (Nat.le_of_ble_eq_true rfl) ⟨Nat.le_of_ble_eq_true rfl, Nat.le_of_ble_eq_true rfl⟩ (gs_Ip (x := r_at ((s2.2) 4) 8 w) ?_)
    refine gb_iret hqX11_walk rfl rfl (Nat.le_of_ble_eq_true rfl) (Nat.le_of_ble_eq_true rfl) ?_
    exact gl_tI hr
def FX_child (c : Int32) (what : Int32) (M : gM) : Option (Nat × Int32 × gM) :=
  (FX_needOne c (M 3 6) M).bind fun s1 => if s1.1 = 0 then ((FX_needIn what (0 : Int32) (5 : Int32) (s1.2)).bind fun s2 => if s2.1 = 0 then (if what = (0 : Int32) then (some (0, r_at ((s2.2) 6) 8 c, s2.2)) else if what = (1 : Int32) then (some (0, r_at ((s2.2) 7) 8 c, s2.2)) else if what = (2 : Int32) then (some (0, r_at ((s2.2) 49) 8 c, s2.2)) else if what = (3 : Int32) then (some (0, r_at ((s2.2) 50) 8 c, s2.2)) else if what = (4 : Int32) then (some (0, r_at ((s2.2) 51) 8 c, s2.2)) else ((FZ_hoopsOf 48 c (s2.2)).bind fun s8 => some (0, s8, s2.2))) else some (s2.1, 0, s2.2)) else some (s1.1, 0, s1.2)
set_option maxRecDepth 20000 in
theorem c_FX_child {l : Launch} {C : gC} (hC : g_ctx l C) (c : Int32) (what : Int32)  (M : gM) (sz d : Nat) (hd : 8 ≤ d) (R : Nat × Int32 × gM) (hr : FX_child c what M = some R) : gPt l C qX11_child d [.ref (0), .int (c), .int (what)] M sz (qtI R) (xtI R) := by
  refine gPt.of (ls := [(0, .ref (0)), (1, .int (c)), (2, .int (what))]) (by decide +kernel) (Nat.le_of_ble_eq_true rfl) rfl ?_
  unfold FX_child at hr
  refine gb_run 5 (pc2 := 9) (ls2 := [(0, .ref (0)), (1, .int (c)), (2, .int (what))]) (st2 := [.int (M 3 6), .int (c), .ref (0)]) (M2 := M) hC hqX11_child rfl ?_
  obtain ⟨s1, es1, hr⟩ := g_bd hr
  refine gt_cV (z := qX11_needOne) (a := 0) (av := [.int (c), .int (M 3 6)]) (rest := []) (pl := 1042) (kc2 := 1) (ks2 := 6) hC hqX11_child rfl kX11_needOne sX11_needOne (by decide +kernel) (c_FX_needOne hC c (M 3 6)  M sz (d - 1) (by omega) s1 es1) (by omega) rfl rfl rfl (Nat.le_of_ble_eq_true rfl) (Nat.le_of_ble_eq_true rfl) rfl rfl rfl (Nat.le_of_ble_eq_true rfl) ⟨Nat.le_of_ble_eq_true rfl, Nat.le_of_ble_eq_true rfl⟩ (gt_xI hr) (gs_t fun sz3 q0 => ?_)
  have hr := g_if1 q0 hr
  refine gb_run 4 (pc2 := 16) (ls2 := [(0, .ref (0)), (1, .int (c)), (2, .int (what))]) (st2 := [.int (5), .int (0), .int (what), .ref (0)]) (M2 := s1.2) hC hqX11_child rfl ?_
  obtain ⟨s2, es2, hr⟩ := g_bd hr
  refine gt_cV (z := qX11_needIn) (a := 0) (av := [.int (what), .int (0), .int (5)]) (rest := []) (pl := 658) (kc2 := 2) (ks2 := 12) hC hqX11_child rfl kX11_needIn sX11_needIn (by decide +kernel) (c_FX_needIn hC what (0 : Int32) (5 : Int32)  (s1.2) sz3 (d - 1) (by omega) s2 es2) (by omega) rfl rfl rfl (Nat.le_of_ble_eq_true rfl) (Nat.le_of_ble_eq_true rfl) rfl rfl rfl (Nat.le_of_ble_eq_true rfl) ⟨Nat.le_of_ble_eq_true rfl, Nat.le_of_ble_eq_true rfl⟩ (gt_xI hr) (gs_t fun sz5 q0 => ?_)
  have hr := g_if1 q0 hr
  refine gb_run 5 (pc2 := 28) (ls2 := [(3, .ref (48)), (0, .ref (0)), (1, .int (c)), (2, .int (what))]) (st2 := [.int (what)]) (M2 := s2.2) hC hqX11_child rfl ?_
  by_cases h3 : what = (0 : Int32)
  ·
    have hr := g_if1 h3 hr
    refine gb_tblIn (tgt := 64) hqX11_child rfl (by rw [h3]; first | done | decide) (by rw [h3]; first | done | decide) (by rw [h3]; first | done | rfl) (by decide) ?_
    refine gb_run 4 (pc2 := 72) (ls2 := [(3, .ref (48)), (0, .ref (0)), (1, .int (c)), (2, .int (what))]) (st2 := [.int (c), .ref (6)]) (M2 := s2.2) hC hqX11_child rfl ?_
    refine gz_cS (z := qX11_at) (av := [.ref (6), .int (c)]) (rest := []) (pl := 1062) hC hqX11_child rfl kX11_at (by decide +kernel) (c_at hC 6 8 _ c (s2.2) sz5 (d - 1) (by omega) (Nat.le_of_ble_eq_true rfl) rfl (Nat.le_of_ble_eq_true rfl)) (by omega) ⟨rfl, rfl⟩ rfl rfl (Nat.le_of_ble_eq_true rfl) ⟨Nat.le_of_ble_eq_true rfl, Nat.le_of_ble_eq_true rfl⟩ (gs_Ip (x := r_at ((s2.2) 6) 8 c) ?_)
    refine gb_iret hqX11_child rfl rfl (Nat.le_of_ble_eq_true rfl) (Nat.le_of_ble_eq_true rfl) ?_
    exact gl_tI hr
  have hr := g_if0 h3 hr
  by_cases h4 : what = (1 : Int32)
  ·
    have hr := g_if1 h4 hr
    refine gb_tblIn (tgt := 76) hqX11_child rfl (by rw [h4]; first | done | decide) (by rw [h4]; first | done | decide) (by rw [h4]; first | done | rfl) (by decide) ?_
    refine gb_run 4 (pc2 := 84) (ls2 := [(3, .ref (48)), (0, .ref (0)), (1, .int (c)), (2, .int (what))]) (st2 := [.int (c), .ref (7)]) (M2 := s2.2) hC hqX11_child rfl ?_
    refine gz_cS (z := qX11_at) (av := [.ref (7), .int (c)]) (rest := []) (pl := 1062) hC hqX11_child rfl kX11_at (by decide +kernel) (c_at hC 7 8 _ c (s2.2) sz5 (d - 1) (by omega) (Nat.le_of_ble_eq_true rfl) rfl (Nat.le_of_ble_eq_true rfl)) (by omega) ⟨rfl, rfl⟩ rfl rfl (Nat.le_of_ble_eq_true rfl) ⟨Nat.le_of_ble_eq_true rfl, Nat.le_of_ble_eq_true rfl⟩ (gs_Ip (x := r_at ((s2.2) 7) 8 c) ?_)
    refine gb_iret hqX11_child rfl rfl (Nat.le_of_ble_eq_true rfl) (Nat.le_of_ble_eq_true rfl) ?_
    exact gl_tI hr
  have hr := g_if0 h4 hr
  by_cases h5 : what = (2 : Int32)
  ·
    have hr := g_if1 h5 hr
    refine gb_tblIn (tgt := 88) hqX11_child rfl (by rw [h5]; first | done | decide) (by rw [h5]; first | done | decide) (by rw [h5]; first | done | rfl) (by decide) ?_
    refine gb_run 3 (pc2 := 93) (ls2 := [(3, .ref (48)), (0, .ref (0)), (1, .int (c)), (2, .int (what))]) (st2 := [.int (c), .ref (49)]) (M2 := s2.2) hC hqX11_child rfl ?_
    refine gz_cS (z := qX11_at) (av := [.ref (49), .int (c)]) (rest := []) (pl := 1062) hC hqX11_child rfl kX11_at (by decide +kernel) (c_at hC 49 8 _ c (s2.2) sz5 (d - 1) (by omega) (Nat.le_of_ble_eq_true rfl) rfl (Nat.le_of_ble_eq_true rfl)) (by omega) ⟨rfl, rfl⟩ rfl rfl (Nat.le_of_ble_eq_true rfl) ⟨Nat.le_of_ble_eq_true rfl, Nat.le_of_ble_eq_true rfl⟩ (gs_Ip (x := r_at ((s2.2) 49) 8 c) ?_)
    refine gb_iret hqX11_child rfl rfl (Nat.le_of_ble_eq_true rfl) (Nat.le_of_ble_eq_true rfl) ?_
    exact gl_tI hr
  have hr := g_if0 h5 hr
  by_cases h6 : what = (3 : Int32)
  ·
    have hr := g_if1 h6 hr
    refine gb_tblIn (tgt := 97) hqX11_child rfl (by rw [h6]; first | done | decide) (by rw [h6]; first | done | decide) (by rw [h6]; first | done | rfl) (by decide) ?_
    refine gb_run 3 (pc2 := 102) (ls2 := [(3, .ref (48)), (0, .ref (0)), (1, .int (c)), (2, .int (what))]) (st2 := [.int (c), .ref (50)]) (M2 := s2.2) hC hqX11_child rfl ?_
    refine gz_cS (z := qX11_at) (av := [.ref (50), .int (c)]) (rest := []) (pl := 1062) hC hqX11_child rfl kX11_at (by decide +kernel) (c_at hC 50 8 _ c (s2.2) sz5 (d - 1) (by omega) (Nat.le_of_ble_eq_true rfl) rfl (Nat.le_of_ble_eq_true rfl)) (by omega) ⟨rfl, rfl⟩ rfl rfl (Nat.le_of_ble_eq_true rfl) ⟨Nat.le_of_ble_eq_true rfl, Nat.le_of_ble_eq_true rfl⟩ (gs_Ip (x := r_at ((s2.2) 50) 8 c) ?_)
    refine gb_iret hqX11_child rfl rfl (Nat.le_of_ble_eq_true rfl) (Nat.le_of_ble_eq_true rfl) ?_
    exact gl_tI hr
  have hr := g_if0 h6 hr
  by_cases h7 : what = (4 : Int32)
  ·
    have hr := g_if1 h7 hr
    refine gb_tblIn (tgt := 106) hqX11_child rfl (by rw [h7]; first | done | decide) (by rw [h7]; first | done | decide) (by rw [h7]; first | done | rfl) (by decide) ?_
    refine gb_run 3 (pc2 := 111) (ls2 := [(3, .ref (48)), (0, .ref (0)), (1, .int (c)), (2, .int (what))]) (st2 := [.int (c), .ref (51)]) (M2 := s2.2) hC hqX11_child rfl ?_
    refine gz_cS (z := qX11_at) (av := [.ref (51), .int (c)]) (rest := []) (pl := 1062) hC hqX11_child rfl kX11_at (by decide +kernel) (c_at hC 51 8 _ c (s2.2) sz5 (d - 1) (by omega) (Nat.le_of_ble_eq_true rfl) rfl (Nat.le_of_ble_eq_true rfl)) (by omega) ⟨rfl, rfl⟩ rfl rfl (Nat.le_of_ble_eq_true rfl) ⟨Nat.le_of_ble_eq_true rfl, Nat.le_of_ble_eq_true rfl⟩ (gs_Ip (x := r_at ((s2.2) 51) 8 c) ?_)
    refine gb_iret hqX11_child rfl rfl (Nat.le_of_ble_eq_true rfl) (Nat.le_of_ble_eq_true rfl) ?_
    exact gl_tI hr
  have hr := g_if0 h7 hr
  refine gb_tblOut (tgt := 115) hqX11_child rfl (by have q0 := gd_ne (z := 0) rfl h3; have q1 := gd_ne (z := 1) rfl h4; have q2 := gd_ne (z := 2) rfl h5; have q3 := gd_ne (z := 3) rfl h6; have q4 := gd_ne (z := 4) rfl h7; omega) (by decide) ?_
  refine gb_run 2 (pc2 := 117) (ls2 := [(3, .ref (48)), (0, .ref (0)), (1, .int (c)), (2, .int (what))]) (st2 := [.int (c), .ref (48)]) (M2 := s2.2) hC hqX11_child rfl ?_
  obtain ⟨s8, es8, hr⟩ := g_bd hr
  refine gz_cV (z := qX8_hoopsOf) (a := 48) (av := [.int (c)]) (rest := []) (pl := 621) hC hqX11_child rfl kX8_hoopsOf sX8_hoopsOf (by decide +kernel) (c_FZ_hoopsOf hC 48 c (by decide +kernel) (s2.2) sz5 (d - 1) (by omega) s8 es8) (by omega) ⟨rfl, rfl⟩ rfl (Nat.le_of_ble_eq_true rfl) (Nat.le_of_ble_eq_true rfl) rfl rfl rfl (Nat.le_of_ble_eq_true rfl) ⟨Nat.le_of_ble_eq_true rfl, Nat.le_of_ble_eq_true rfl⟩ (gs_Ip ?_)
  refine gb_iret hqX11_child rfl rfl (Nat.le_of_ble_eq_true rfl) (Nat.le_of_ble_eq_true rfl) ?_
  exact gl_tI hr
def FX_hoop (h : Int32) (what : Int32) (M : gM) : Option (Nat × Int32 × gM) :=
  (FX_needOne h (M 3 7) M).bind fun s1 => if s1.1 = 0 then ((FX_needIn what (0 : Int32) (2 : Int32) (s1.2)).bind fun s2 => if s2.1 = 0 then (if what = (0 : Int32) then (some (0, r_at ((s2.2) 8) 8 h, s2.2)) else if what = (1 : Int32) then (some (0, r_at ((s2.2) 52) 8 h, s2.2)) else (some (0, r_at ((s2.2) 53) 8 h, s2.2))) else some (s2.1, 0, s2.2)) else some (s1.1, 0, s1.2)
set_option maxRecDepth 20000 in
theorem c_FX_hoop {l : Launch} {C : gC} (hC : g_ctx l C) (h : Int32) (what : Int32)  (M : gM) (sz d : Nat) (hd : 8 ≤ d) (R : Nat × Int32 × gM) (hr : FX_hoop h what M = some R) : gPt l C qX11_hoop d [.ref (0), .int (h), .int (what)] M sz (qtI R) (xtI R) := by
  refine gPt.of (ls := [(0, .ref (0)), (1, .int (h)), (2, .int (what))]) (by decide +kernel) (Nat.le_of_ble_eq_true rfl) rfl ?_
  unfold FX_hoop at hr
  refine gb_run 5 (pc2 := 9) (ls2 := [(0, .ref (0)), (1, .int (h)), (2, .int (what))]) (st2 := [.int (M 3 7), .int (h), .ref (0)]) (M2 := M) hC hqX11_hoop rfl ?_
  obtain ⟨s1, es1, hr⟩ := g_bd hr
  refine gt_cV (z := qX11_needOne) (a := 0) (av := [.int (h), .int (M 3 7)]) (rest := []) (pl := 1042) (kc2 := 1) (ks2 := 6) hC hqX11_hoop rfl kX11_needOne sX11_needOne (by decide +kernel) (c_FX_needOne hC h (M 3 7)  M sz (d - 1) (by omega) s1 es1) (by omega) rfl rfl rfl (Nat.le_of_ble_eq_true rfl) (Nat.le_of_ble_eq_true rfl) rfl rfl rfl (Nat.le_of_ble_eq_true rfl) ⟨Nat.le_of_ble_eq_true rfl, Nat.le_of_ble_eq_true rfl⟩ (gt_xI hr) (gs_t fun sz3 q0 => ?_)
  have hr := g_if1 q0 hr
  refine gb_run 4 (pc2 := 16) (ls2 := [(0, .ref (0)), (1, .int (h)), (2, .int (what))]) (st2 := [.int (2), .int (0), .int (what), .ref (0)]) (M2 := s1.2) hC hqX11_hoop rfl ?_
  obtain ⟨s2, es2, hr⟩ := g_bd hr
  refine gt_cV (z := qX11_needIn) (a := 0) (av := [.int (what), .int (0), .int (2)]) (rest := []) (pl := 658) (kc2 := 2) (ks2 := 12) hC hqX11_hoop rfl kX11_needIn sX11_needIn (by decide +kernel) (c_FX_needIn hC what (0 : Int32) (2 : Int32)  (s1.2) sz3 (d - 1) (by omega) s2 es2) (by omega) rfl rfl rfl (Nat.le_of_ble_eq_true rfl) (Nat.le_of_ble_eq_true rfl) rfl rfl rfl (Nat.le_of_ble_eq_true rfl) ⟨Nat.le_of_ble_eq_true rfl, Nat.le_of_ble_eq_true rfl⟩ (gt_xI hr) (gs_t fun sz5 q0 => ?_)
  have hr := g_if1 q0 hr
  refine gb_run 5 (pc2 := 28) (ls2 := [(3, .ref (48)), (0, .ref (0)), (1, .int (h)), (2, .int (what))]) (st2 := [.int (what)]) (M2 := s2.2) hC hqX11_hoop rfl ?_
  by_cases h3 : what = (0 : Int32)
  ·
    have hr := g_if1 h3 hr
    refine gb_lkp (tgt := 56) hqX11_hoop rfl (by decide) (by rw [h3]; first | done | rfl) (by decide) ?_
    refine gb_run 4 (pc2 := 64) (ls2 := [(3, .ref (48)), (0, .ref (0)), (1, .int (h)), (2, .int (what))]) (st2 := [.int (h), .ref (8)]) (M2 := s2.2) hC hqX11_hoop rfl ?_
    refine gz_cS (z := qX11_at) (av := [.ref (8), .int (h)]) (rest := []) (pl := 1062) hC hqX11_hoop rfl kX11_at (by decide +kernel) (c_at hC 8 8 _ h (s2.2) sz5 (d - 1) (by omega) (Nat.le_of_ble_eq_true rfl) rfl (Nat.le_of_ble_eq_true rfl)) (by omega) ⟨rfl, rfl⟩ rfl rfl (Nat.le_of_ble_eq_true rfl) ⟨Nat.le_of_ble_eq_true rfl, Nat.le_of_ble_eq_true rfl⟩ (gs_Ip (x := r_at ((s2.2) 8) 8 h) ?_)
    refine gb_iret hqX11_hoop rfl rfl (Nat.le_of_ble_eq_true rfl) (Nat.le_of_ble_eq_true rfl) ?_
    exact gl_tI hr
  have hr := g_if0 h3 hr
  by_cases h4 : what = (1 : Int32)
  ·
    have hr := g_if1 h4 hr
    refine gb_lkp (tgt := 68) hqX11_hoop rfl (by decide) (by rw [h4]; first | done | rfl) (by decide) ?_
    refine gb_run 3 (pc2 := 73) (ls2 := [(3, .ref (48)), (0, .ref (0)), (1, .int (h)), (2, .int (what))]) (st2 := [.int (h), .ref (52)]) (M2 := s2.2) hC hqX11_hoop rfl ?_
    refine gz_cS (z := qX11_at) (av := [.ref (52), .int (h)]) (rest := []) (pl := 1062) hC hqX11_hoop rfl kX11_at (by decide +kernel) (c_at hC 52 8 _ h (s2.2) sz5 (d - 1) (by omega) (Nat.le_of_ble_eq_true rfl) rfl (Nat.le_of_ble_eq_true rfl)) (by omega) ⟨rfl, rfl⟩ rfl rfl (Nat.le_of_ble_eq_true rfl) ⟨Nat.le_of_ble_eq_true rfl, Nat.le_of_ble_eq_true rfl⟩ (gs_Ip (x := r_at ((s2.2) 52) 8 h) ?_)
    refine gb_iret hqX11_hoop rfl rfl (Nat.le_of_ble_eq_true rfl) (Nat.le_of_ble_eq_true rfl) ?_
    exact gl_tI hr
  have hr := g_if0 h4 hr
  refine gb_lkp (tgt := 77) hqX11_hoop rfl (by decide) ((lv_osw h3 rfl).trans ((lv_osw h4 rfl).trans (rfl)) : _ = (49 : Int)) (by decide) ?_
  refine gb_run 3 (pc2 := 82) (ls2 := [(3, .ref (48)), (0, .ref (0)), (1, .int (h)), (2, .int (what))]) (st2 := [.int (h), .ref (53)]) (M2 := s2.2) hC hqX11_hoop rfl ?_
  refine gz_cS (z := qX11_at) (av := [.ref (53), .int (h)]) (rest := []) (pl := 1062) hC hqX11_hoop rfl kX11_at (by decide +kernel) (c_at hC 53 8 _ h (s2.2) sz5 (d - 1) (by omega) (Nat.le_of_ble_eq_true rfl) rfl (Nat.le_of_ble_eq_true rfl)) (by omega) ⟨rfl, rfl⟩ rfl rfl (Nat.le_of_ble_eq_true rfl) ⟨Nat.le_of_ble_eq_true rfl, Nat.le_of_ble_eq_true rfl⟩ (gs_Ip (x := r_at ((s2.2) 53) 8 h) ?_)
  refine gb_iret hqX11_hoop rfl rfl (Nat.le_of_ble_eq_true rfl) (Nat.le_of_ble_eq_true rfl) ?_
  exact gl_tI hr
def FX_minutes (w : Int32) (c : Int32) (h : Int32) (M : gM) : Option (Nat × Int32 × gM) :=
  (FX_needOne w (M 3 5) M).bind fun s1 => if s1.1 = 0 then ((FX_needOne c ((s1.2) 3 6) (s1.2)).bind fun s2 => if s2.1 = 0 then ((FX_needOne h ((s2.2) 3 7) (s2.2)).bind fun s3 => if s3.1 = 0 then ((FB_minutesOf 48 w c h (r_at ((s3.2) 49) 8 c) (s3.2)).bind fun s4 => some (0, s4.1, s4.2)) else some (s3.1, 0, s3.2)) else some (s2.1, 0, s2.2)) else some (s1.1, 0, s1.2)
set_option maxRecDepth 20000 in
theorem c_FX_minutes {l : Launch} {C : gC} (hC : g_ctx l C) (w : Int32) (c : Int32) (h : Int32)  (M : gM) (sz d : Nat) (hd : 8 ≤ d) (R : Nat × Int32 × gM) (hr : FX_minutes w c h M = some R) : gPt l C qX11_minutes d [.ref (0), .int (w), .int (c), .int (h)] M sz (qtI R) (xtI R) := by
  refine gPt.of (ls := [(0, .ref (0)), (1, .int (w)), (2, .int (c)), (3, .int (h))]) (by decide +kernel) (Nat.le_of_ble_eq_true rfl) rfl ?_
  unfold FX_minutes at hr
  refine gb_run 5 (pc2 := 9) (ls2 := [(0, .ref (0)), (1, .int (w)), (2, .int (c)), (3, .int (h))]) (st2 := [.int (M 3 5), .int (w), .ref (0)]) (M2 := M) hC hqX11_minutes rfl ?_
  obtain ⟨s1, es1, hr⟩ := g_bd hr
  refine gt_cV (z := qX11_needOne) (a := 0) (av := [.int (w), .int (M 3 5)]) (rest := []) (pl := 1042) (kc2 := 1) (ks2 := 6) hC hqX11_minutes rfl kX11_needOne sX11_needOne (by decide +kernel) (c_FX_needOne hC w (M 3 5)  M sz (d - 1) (by omega) s1 es1) (by omega) rfl rfl rfl (Nat.le_of_ble_eq_true rfl) (Nat.le_of_ble_eq_true rfl) rfl rfl rfl (Nat.le_of_ble_eq_true rfl) ⟨Nat.le_of_ble_eq_true rfl, Nat.le_of_ble_eq_true rfl⟩ (gt_xI hr) (gs_t fun sz3 q0 => ?_)
  have hr := g_if1 q0 hr
  refine gb_run 5 (pc2 := 21) (ls2 := [(0, .ref (0)), (1, .int (w)), (2, .int (c)), (3, .int (h))]) (st2 := [.int ((s1.2) 3 6), .int (c), .ref (0)]) (M2 := s1.2) hC hqX11_minutes rfl ?_
  obtain ⟨s2, es2, hr⟩ := g_bd hr
  refine gt_cV (z := qX11_needOne) (a := 0) (av := [.int (c), .int ((s1.2) 3 6)]) (rest := []) (pl := 1042) (kc2 := 2) (ks2 := 12) hC hqX11_minutes rfl kX11_needOne sX11_needOne (by decide +kernel) (c_FX_needOne hC c ((s1.2) 3 6)  (s1.2) sz3 (d - 1) (by omega) s2 es2) (by omega) rfl rfl rfl (Nat.le_of_ble_eq_true rfl) (Nat.le_of_ble_eq_true rfl) rfl rfl rfl (Nat.le_of_ble_eq_true rfl) ⟨Nat.le_of_ble_eq_true rfl, Nat.le_of_ble_eq_true rfl⟩ (gt_xI hr) (gs_t fun sz5 q0 => ?_)
  have hr := g_if1 q0 hr
  refine gb_run 5 (pc2 := 33) (ls2 := [(0, .ref (0)), (1, .int (w)), (2, .int (c)), (3, .int (h))]) (st2 := [.int ((s2.2) 3 7), .int (h), .ref (0)]) (M2 := s2.2) hC hqX11_minutes rfl ?_
  obtain ⟨s3, es3, hr⟩ := g_bd hr
  refine gt_cV (z := qX11_needOne) (a := 0) (av := [.int (h), .int ((s2.2) 3 7)]) (rest := []) (pl := 1042) (kc2 := 3) (ks2 := 18) hC hqX11_minutes rfl kX11_needOne sX11_needOne (by decide +kernel) (c_FX_needOne hC h ((s2.2) 3 7)  (s2.2) sz5 (d - 1) (by omega) s3 es3) (by omega) rfl rfl rfl (Nat.le_of_ble_eq_true rfl) (Nat.le_of_ble_eq_true rfl) rfl rfl rfl (Nat.le_of_ble_eq_true rfl) ⟨Nat.le_of_ble_eq_true rfl, Nat.le_of_ble_eq_true rfl⟩ (gt_xI hr) (gs_t fun sz6 q0 => ?_)
  have hr := g_if1 q0 hr
  refine gb_run 13 (pc2 := 60) (ls2 := [(4, .ref (48)), (0, .ref (0)), (1, .int (w)), (2, .int (c)), (3, .int (h))]) (st2 := [.int (c), .ref (49), .int (h), .int (c), .int (w), .ref (48), .ref (27)]) (M2 := s3.2) hC hqX11_minutes rfl ?_
  refine gz_cS (z := qX11_at) (av := [.ref (49), .int (c)]) (rest := [.int (h), .int (c), .int (w), .ref (48), .ref (27)]) (pl := 1062) hC hqX11_minutes rfl kX11_at (by decide +kernel) (c_at hC 49 8 _ c (s3.2) sz6 (d - 1) (by omega) (Nat.le_of_ble_eq_true rfl) rfl (Nat.le_of_ble_eq_true rfl)) (by omega) ⟨rfl, rfl⟩ rfl rfl (Nat.le_of_ble_eq_true rfl) ⟨Nat.le_of_ble_eq_true rfl, Nat.le_of_ble_eq_true rfl⟩ (gs_Ip (x := r_at ((s3.2) 49) 8 c) ?_)
  obtain ⟨s4, es4, hr⟩ := g_bd hr
  refine gz_cV (z := qX0_minutesOf) (a := 27) (av := [.ref (48), .int (w), .int (c), .int (h), .int (r_at ((s3.2) 49) 8 c)]) (rest := []) (pl := 1084) hC hqX11_minutes rfl kX0_minutesOf sX0_minutesOf (by decide +kernel) (c_FB_minutesOf hC 48 w c h (r_at ((s3.2) 49) 8 c) (by decide +kernel) (s3.2) sz6 (d - 1) (by omega) s4 es4) (by omega) ⟨rfl, rfl⟩ rfl (Nat.le_of_ble_eq_true rfl) (Nat.le_of_ble_eq_true rfl) rfl rfl rfl (Nat.le_of_ble_eq_true rfl) ⟨Nat.le_of_ble_eq_true rfl, Nat.le_of_ble_eq_true rfl⟩ (gs_I ?_)
  refine gb_iret hqX11_minutes rfl rfl (Nat.le_of_ble_eq_true rfl) (Nat.le_of_ble_eq_true rfl) ?_
  exact gl_tI hr
def FX_would (len : Int32) (pace : Int32) (age : Int32) (heavy : Int32) (tired : Int32) (rain : Int32) (bribe : Int32) (M : gM) : Option (Nat × Int32 × gM) :=
  (FX_needIn len (1 : Int32) (20 : Int32) M).bind fun s1 => if s1.1 = 0 then ((FX_needIn pace (1 : Int32) (9 : Int32) (s1.2)).bind fun s2 => if s2.1 = 0 then ((FX_needIn age (3 : Int32) (14 : Int32) (s2.2)).bind fun s3 => if s3.1 = 0 then ((FX_needIn heavy (1 : Int32) (9 : Int32) (s3.2)).bind fun s4 => if s4.1 = 0 then ((FX_needIn tired (0 : Int32) (99 : Int32) (s4.2)).bind fun s5 => if s5.1 = 0 then ((FX_needIn rain (0 : Int32) (1 : Int32) (s5.2)).bind fun s6 => if s6.1 = 0 then ((FX_needIn bribe (0 : Int32) (99 : Int32) (s6.2)).bind fun s7 => if s7.1 = 0 then ((FL_outcome (g_set (g_set (g_set (g_set (g_set (g_set (g_set (g_set (g_set (s7.2) 15 5 len) 15 6 pace) 15 7 age) 15 8 heavy) 15 9 tired) 15 10 rain) 15 11 (0 : Int32)) 15 12 (0 : Int32)) 15 13 bribe)).bind fun s8 => some (0, s8.1, s8.2)) else some (s7.1, 0, s7.2)) else some (s6.1, 0, s6.2)) else some (s5.1, 0, s5.2)) else some (s4.1, 0, s4.2)) else some (s3.1, 0, s3.2)) else some (s2.1, 0, s2.2)) else some (s1.1, 0, s1.2)
set_option maxRecDepth 20000 in
theorem c_FX_would {l : Launch} {C : gC} (hC : g_ctx l C) (len : Int32) (pace : Int32) (age : Int32) (heavy : Int32) (tired : Int32) (rain : Int32) (bribe : Int32)  (M : gM) (sz d : Nat) (hd : 8 ≤ d) (R : Nat × Int32 × gM) (hr : FX_would len pace age heavy tired rain bribe M = some R) : gPt l C qX11_would d [.ref (0), .int (len), .int (pace), .int (age), .int (heavy), .int (tired), .int (rain), .int (bribe)] M sz (qtI R) (xtI R) := by
  refine gPt.of (ls := [(0, .ref (0)), (1, .int (len)), (2, .int (pace)), (3, .int (age)), (4, .int (heavy)), (5, .int (tired)), (6, .int (rain)), (7, .int (bribe))]) (by decide +kernel) (Nat.le_of_ble_eq_true rfl) rfl ?_
  unfold FX_would at hr
  refine gb_run 4 (pc2 := 5) (ls2 := [(0, .ref (0)), (1, .int (len)), (2, .int (pace)), (3, .int (age)), (4, .int (heavy)), (5, .int (tired)), (6, .int (rain)), (7, .int (bribe))]) (st2 := [.int (20), .int (1), .int (len), .ref (0)]) (M2 := M) hC hqX11_would rfl ?_
  obtain ⟨s1, es1, hr⟩ := g_bd hr
  refine gt_cV (z := qX11_needIn) (a := 0) (av := [.int (len), .int (1), .int (20)]) (rest := []) (pl := 658) (kc2 := 1) (ks2 := 6) hC hqX11_would rfl kX11_needIn sX11_needIn (by decide +kernel) (c_FX_needIn hC len (1 : Int32) (20 : Int32)  M sz (d - 1) (by omega) s1 es1) (by omega) rfl rfl rfl (Nat.le_of_ble_eq_true rfl) (Nat.le_of_ble_eq_true rfl) rfl rfl rfl (Nat.le_of_ble_eq_true rfl) ⟨Nat.le_of_ble_eq_true rfl, Nat.le_of_ble_eq_true rfl⟩ (gt_xI hr) (gs_t fun sz3 q0 => ?_)
  have hr := g_if1 q0 hr
  refine gb_run 4 (pc2 := 13) (ls2 := [(0, .ref (0)), (1, .int (len)), (2, .int (pace)), (3, .int (age)), (4, .int (heavy)), (5, .int (tired)), (6, .int (rain)), (7, .int (bribe))]) (st2 := [.int (9), .int (1), .int (pace), .ref (0)]) (M2 := s1.2) hC hqX11_would rfl ?_
  obtain ⟨s2, es2, hr⟩ := g_bd hr
  refine gt_cV (z := qX11_needIn) (a := 0) (av := [.int (pace), .int (1), .int (9)]) (rest := []) (pl := 658) (kc2 := 2) (ks2 := 12) hC hqX11_would rfl kX11_needIn sX11_needIn (by decide +kernel) (c_FX_needIn hC pace (1 : Int32) (9 : Int32)  (s1.2) sz3 (d - 1) (by omega) s2 es2) (by omega) rfl rfl rfl (Nat.le_of_ble_eq_true rfl) (Nat.le_of_ble_eq_true rfl) rfl rfl rfl (Nat.le_of_ble_eq_true rfl) ⟨Nat.le_of_ble_eq_true rfl, Nat.le_of_ble_eq_true rfl⟩ (gt_xI hr) (gs_t fun sz5 q0 => ?_)
  have hr := g_if1 q0 hr
  refine gb_run 4 (pc2 := 21) (ls2 := [(0, .ref (0)), (1, .int (len)), (2, .int (pace)), (3, .int (age)), (4, .int (heavy)), (5, .int (tired)), (6, .int (rain)), (7, .int (bribe))]) (st2 := [.int (14), .int (3), .int (age), .ref (0)]) (M2 := s2.2) hC hqX11_would rfl ?_
  obtain ⟨s3, es3, hr⟩ := g_bd hr
  refine gt_cV (z := qX11_needIn) (a := 0) (av := [.int (age), .int (3), .int (14)]) (rest := []) (pl := 658) (kc2 := 3) (ks2 := 18) hC hqX11_would rfl kX11_needIn sX11_needIn (by decide +kernel) (c_FX_needIn hC age (3 : Int32) (14 : Int32)  (s2.2) sz5 (d - 1) (by omega) s3 es3) (by omega) rfl rfl rfl (Nat.le_of_ble_eq_true rfl) (Nat.le_of_ble_eq_true rfl) rfl rfl rfl (Nat.le_of_ble_eq_true rfl) ⟨Nat.le_of_ble_eq_true rfl, Nat.le_of_ble_eq_true rfl⟩ (gt_xI hr) (gs_t fun sz6 q0 => ?_)
  have hr := g_if1 q0 hr
  refine gb_run 4 (pc2 := 30) (ls2 := [(0, .ref (0)), (1, .int (len)), (2, .int (pace)), (3, .int (age)), (4, .int (heavy)), (5, .int (tired)), (6, .int (rain)), (7, .int (bribe))]) (st2 := [.int (9), .int (1), .int (heavy), .ref (0)]) (M2 := s3.2) hC hqX11_would rfl ?_
  obtain ⟨s4, es4, hr⟩ := g_bd hr
  refine gt_cV (z := qX11_needIn) (a := 0) (av := [.int (heavy), .int (1), .int (9)]) (rest := []) (pl := 658) (kc2 := 4) (ks2 := 24) hC hqX11_would rfl kX11_needIn sX11_needIn (by decide +kernel) (c_FX_needIn hC heavy (1 : Int32) (9 : Int32)  (s3.2) sz6 (d - 1) (by omega) s4 es4) (by omega) rfl rfl rfl (Nat.le_of_ble_eq_true rfl) (Nat.le_of_ble_eq_true rfl) rfl rfl rfl (Nat.le_of_ble_eq_true rfl) ⟨Nat.le_of_ble_eq_true rfl, Nat.le_of_ble_eq_true rfl⟩ (gt_xI hr) (gs_t fun sz7 q0 => ?_)
  have hr := g_if1 q0 hr
  refine gb_run 4 (pc2 := 39) (ls2 := [(0, .ref (0)), (1, .int (len)), (2, .int (pace)), (3, .int (age)), (4, .int (heavy)), (5, .int (tired)), (6, .int (rain)), (7, .int (bribe))]) (st2 := [.int (99), .int (0), .int (tired), .ref (0)]) (M2 := s4.2) hC hqX11_would rfl ?_
  obtain ⟨s5, es5, hr⟩ := g_bd hr
  refine gt_cV (z := qX11_needIn) (a := 0) (av := [.int (tired), .int (0), .int (99)]) (rest := []) (pl := 658) (kc2 := 5) (ks2 := 30) hC hqX11_would rfl kX11_needIn sX11_needIn (by decide +kernel) (c_FX_needIn hC tired (0 : Int32) (99 : Int32)  (s4.2) sz7 (d - 1) (by omega) s5 es5) (by omega) rfl rfl rfl (Nat.le_of_ble_eq_true rfl) (Nat.le_of_ble_eq_true rfl) rfl rfl rfl (Nat.le_of_ble_eq_true rfl) ⟨Nat.le_of_ble_eq_true rfl, Nat.le_of_ble_eq_true rfl⟩ (gt_xI hr) (gs_t fun sz8 q0 => ?_)
  have hr := g_if1 q0 hr
  refine gb_run 4 (pc2 := 47) (ls2 := [(0, .ref (0)), (1, .int (len)), (2, .int (pace)), (3, .int (age)), (4, .int (heavy)), (5, .int (tired)), (6, .int (rain)), (7, .int (bribe))]) (st2 := [.int (1), .int (0), .int (rain), .ref (0)]) (M2 := s5.2) hC hqX11_would rfl ?_
  obtain ⟨s6, es6, hr⟩ := g_bd hr
  refine gt_cV (z := qX11_needIn) (a := 0) (av := [.int (rain), .int (0), .int (1)]) (rest := []) (pl := 658) (kc2 := 6) (ks2 := 36) hC hqX11_would rfl kX11_needIn sX11_needIn (by decide +kernel) (c_FX_needIn hC rain (0 : Int32) (1 : Int32)  (s5.2) sz8 (d - 1) (by omega) s6 es6) (by omega) rfl rfl rfl (Nat.le_of_ble_eq_true rfl) (Nat.le_of_ble_eq_true rfl) rfl rfl rfl (Nat.le_of_ble_eq_true rfl) ⟨Nat.le_of_ble_eq_true rfl, Nat.le_of_ble_eq_true rfl⟩ (gt_xI hr) (gs_t fun sz9 q0 => ?_)
  have hr := g_if1 q0 hr
  refine gb_run 4 (pc2 := 56) (ls2 := [(0, .ref (0)), (1, .int (len)), (2, .int (pace)), (3, .int (age)), (4, .int (heavy)), (5, .int (tired)), (6, .int (rain)), (7, .int (bribe))]) (st2 := [.int (99), .int (0), .int (bribe), .ref (0)]) (M2 := s6.2) hC hqX11_would rfl ?_
  obtain ⟨s7, es7, hr⟩ := g_bd hr
  refine gt_cV (z := qX11_needIn) (a := 0) (av := [.int (bribe), .int (0), .int (99)]) (rest := []) (pl := 658) (kc2 := 7) (ks2 := 42) hC hqX11_would rfl kX11_needIn sX11_needIn (by decide +kernel) (c_FX_needIn hC bribe (0 : Int32) (99 : Int32)  (s6.2) sz9 (d - 1) (by omega) s7 es7) (by omega) rfl rfl rfl (Nat.le_of_ble_eq_true rfl) (Nat.le_of_ble_eq_true rfl) rfl rfl rfl (Nat.le_of_ble_eq_true rfl) ⟨Nat.le_of_ble_eq_true rfl, Nat.le_of_ble_eq_true rfl⟩ (gt_xI hr) (gs_t fun sz10 q0 => ?_)
  have hr := g_if1 q0 hr
  refine gb_run 38 (pc2 := 139) (ls2 := [(0, .ref (0)), (1, .int (len)), (2, .int (pace)), (3, .int (age)), (4, .int (heavy)), (5, .int (tired)), (6, .int (rain)), (7, .int (bribe))]) (st2 := [.ref (15)]) (M2 := g_set (g_set (g_set (g_set (g_set (g_set (g_set (g_set (g_set (s7.2) 15 5 len) 15 6 pace) 15 7 age) 15 8 heavy) 15 9 tired) 15 10 rain) 15 11 (0 : Int32)) 15 12 (0 : Int32)) 15 13 bribe) hC hqX11_would rfl ?_
  obtain ⟨s8, es8, hr⟩ := g_bd hr
  refine gz_cV (z := qX4_outcome) (a := 15) (av := []) (rest := []) (pl := 1092) hC hqX11_would rfl kX4_outcome sX4_outcome (by decide +kernel) (c_FL_outcome hC   (g_set (g_set (g_set (g_set (g_set (g_set (g_set (g_set (g_set (s7.2) 15 5 len) 15 6 pace) 15 7 age) 15 8 heavy) 15 9 tired) 15 10 rain) 15 11 (0 : Int32)) 15 12 (0 : Int32)) 15 13 bribe) sz10 (d - 1) (by omega) s8 es8) (by omega) ⟨rfl, rfl⟩ rfl (Nat.le_of_ble_eq_true rfl) (Nat.le_of_ble_eq_true rfl) rfl rfl rfl (Nat.le_of_ble_eq_true rfl) ⟨Nat.le_of_ble_eq_true rfl, Nat.le_of_ble_eq_true rfl⟩ (gs_I ?_)
  refine gb_iret hqX11_would rfl rfl (Nat.le_of_ble_eq_true rfl) (Nat.le_of_ble_eq_true rfl) ?_
  exact gl_tI hr
def FX_lasts (h : Int32) (c : Int32) (M : gM) : Option (Nat × Int32 × gM) :=
  (FX_needOne h (M 3 7) M).bind fun s1 => if s1.1 = 0 then ((FX_needOne c ((s1.2) 3 6) (s1.2)).bind fun s2 => if s2.1 = 0 then ((FB_longOf 48 h c (s2.2)).bind fun s3 => some (0, s3.1, s3.2)) else some (s2.1, 0, s2.2)) else some (s1.1, 0, s1.2)
set_option maxRecDepth 20000 in
theorem c_FX_lasts {l : Launch} {C : gC} (hC : g_ctx l C) (h : Int32) (c : Int32)  (M : gM) (sz d : Nat) (hd : 8 ≤ d) (R : Nat × Int32 × gM) (hr : FX_lasts h c M = some R) : gPt l C qX11_lasts d [.ref (0), .int (h), .int (c)] M sz (qtI R) (xtI R) := by
  refine gPt.of (ls := [(0, .ref (0)), (1, .int (h)), (2, .int (c))]) (by decide +kernel) (Nat.le_of_ble_eq_true rfl) rfl ?_
  unfold FX_lasts at hr
  refine gb_run 5 (pc2 := 9) (ls2 := [(0, .ref (0)), (1, .int (h)), (2, .int (c))]) (st2 := [.int (M 3 7), .int (h), .ref (0)]) (M2 := M) hC hqX11_lasts rfl ?_
  obtain ⟨s1, es1, hr⟩ := g_bd hr
  refine gt_cV (z := qX11_needOne) (a := 0) (av := [.int (h), .int (M 3 7)]) (rest := []) (pl := 1042) (kc2 := 1) (ks2 := 6) hC hqX11_lasts rfl kX11_needOne sX11_needOne (by decide +kernel) (c_FX_needOne hC h (M 3 7)  M sz (d - 1) (by omega) s1 es1) (by omega) rfl rfl rfl (Nat.le_of_ble_eq_true rfl) (Nat.le_of_ble_eq_true rfl) rfl rfl rfl (Nat.le_of_ble_eq_true rfl) ⟨Nat.le_of_ble_eq_true rfl, Nat.le_of_ble_eq_true rfl⟩ (gt_xI hr) (gs_t fun sz3 q0 => ?_)
  have hr := g_if1 q0 hr
  refine gb_run 5 (pc2 := 21) (ls2 := [(0, .ref (0)), (1, .int (h)), (2, .int (c))]) (st2 := [.int ((s1.2) 3 6), .int (c), .ref (0)]) (M2 := s1.2) hC hqX11_lasts rfl ?_
  obtain ⟨s2, es2, hr⟩ := g_bd hr
  refine gt_cV (z := qX11_needOne) (a := 0) (av := [.int (c), .int ((s1.2) 3 6)]) (rest := []) (pl := 1042) (kc2 := 2) (ks2 := 12) hC hqX11_lasts rfl kX11_needOne sX11_needOne (by decide +kernel) (c_FX_needOne hC c ((s1.2) 3 6)  (s1.2) sz3 (d - 1) (by omega) s2 es2) (by omega) rfl rfl rfl (Nat.le_of_ble_eq_true rfl) (Nat.le_of_ble_eq_true rfl) rfl rfl rfl (Nat.le_of_ble_eq_true rfl) ⟨Nat.le_of_ble_eq_true rfl, Nat.le_of_ble_eq_true rfl⟩ (gt_xI hr) (gs_t fun sz5 q0 => ?_)
  have hr := g_if1 q0 hr
  refine gb_run 7 (pc2 := 37) (ls2 := [(0, .ref (0)), (1, .int (h)), (2, .int (c))]) (st2 := [.int (c), .int (h), .ref (48), .ref (27)]) (M2 := s2.2) hC hqX11_lasts rfl ?_
  obtain ⟨s3, es3, hr⟩ := g_bd hr
  refine gz_cV (z := qX0_longOf) (a := 27) (av := [.ref (48), .int (h), .int (c)]) (rest := []) (pl := 1100) hC hqX11_lasts rfl kX0_longOf sX0_longOf (by decide +kernel) (c_FB_longOf hC 48 h c (by decide +kernel) (s2.2) sz5 (d - 1) (by omega) s3 es3) (by omega) ⟨rfl, rfl⟩ rfl (Nat.le_of_ble_eq_true rfl) (Nat.le_of_ble_eq_true rfl) rfl rfl rfl (Nat.le_of_ble_eq_true rfl) ⟨Nat.le_of_ble_eq_true rfl, Nat.le_of_ble_eq_true rfl⟩ (gs_I ?_)
  refine gb_iret hqX11_lasts rfl rfl (Nat.le_of_ble_eq_true rfl) (Nat.le_of_ble_eq_true rfl) ?_
  exact gl_tI hr
