/-! match, decompiled. -/
def F_bitCount (x : Int32) : Int32 :=
  (((((((x - (((x.toUInt32 >>> ((1 : Int32).toUInt32 &&& Int32.toUInt32 31)).toInt32) &&& (1431655765 : Int32))) &&& (858993459 : Int32)) + ((((x - (((x.toUInt32 >>> ((1 : Int32).toUInt32 &&& Int32.toUInt32 31)).toInt32) &&& (1431655765 : Int32))).toUInt32 >>> ((2 : Int32).toUInt32 &&& Int32.toUInt32 31)).toInt32) &&& (858993459 : Int32))) + (((((x - (((x.toUInt32 >>> ((1 : Int32).toUInt32 &&& Int32.toUInt32 31)).toInt32) &&& (1431655765 : Int32))) &&& (858993459 : Int32)) + ((((x - (((x.toUInt32 >>> ((1 : Int32).toUInt32 &&& Int32.toUInt32 31)).toInt32) &&& (1431655765 : Int32))).toUInt32 >>> ((2 : Int32).toUInt32 &&& Int32.toUInt32 31)).toInt32) &&& (858993459 : Int32))).toUInt32 >>> ((4 : Int32).toUInt32 &&& Int32.toUInt32 31)).toInt32)) &&& (252645135 : Int32)) + (((((((x - (((x.toUInt32 >>> ((1 : Int32).toUInt32 &&& Int32.toUInt32 31)).toInt32) &&& (1431655765 : Int32))) &&& (858993459 : Int32)) + ((((x - (((x.toUInt32 >>> ((1 : Int32).toUInt32 &&& Int32.toUInt32 31)).toInt32) &&& (1431655765 : Int32))).toUInt32 >>> ((2 : Int32).toUInt32 &&& Int32.toUInt32 31)).toInt32) &&& (858993459 : Int32))) + (((((x - (((x.toUInt32 >>> ((1 : Int32).toUInt32 &&& Int32.toUInt32 31)).toInt32) &&& (1431655765 : Int32))) &&& (858993459 : Int32)) + ((((x - (((x.toUInt32 >>> ((1 : Int32).toUInt32 &&& Int32.toUInt32 31)).toInt32) &&& (1431655765 : Int32))).toUInt32 >>> ((2 : Int32).toUInt32 &&& Int32.toUInt32 31)).toInt32) &&& (858993459 : Int32))).toUInt32 >>> ((4 : Int32).toUInt32 &&& Int32.toUInt32 31)).toInt32)) &&& (252645135 : Int32)).toUInt32 >>> ((8 : Int32).toUInt32 &&& Int32.toUInt32 31)).toInt32)) + ((((((((x - (((x.toUInt32 >>> ((1 : Int32).toUInt32 &&& Int32.toUInt32 31)).toInt32) &&& (1431655765 : Int32))) &&& (858993459 : Int32)) + ((((x - (((x.toUInt32 >>> ((1 : Int32).toUInt32 &&& Int32.toUInt32 31)).toInt32) &&& (1431655765 : Int32))).toUInt32 >>> ((2 : Int32).toUInt32 &&& Int32.toUInt32 31)).toInt32) &&& (858993459 : Int32))) + (((((x - (((x.toUInt32 >>> ((1 : Int32).toUInt32 &&& Int32.toUInt32 31)).toInt32) &&& (1431655765 : Int32))) &&& (858993459 : Int32)) + ((((x - (((x.toUInt32 >>> ((1 : Int32).toUInt32 &&& Int32.toUInt32 31)).toInt32) &&& (1431655765 : Int32))).toUInt32 >>> ((2 : Int32).toUInt32 &&& Int32.toUInt32 31)).toInt32) &&& (858993459 : Int32))).toUInt32 >>> ((4 : Int32).toUInt32 &&& Int32.toUInt32 31)).toInt32)) &&& (252645135 : Int32)) + (((((((x - (((x.toUInt32 >>> ((1 : Int32).toUInt32 &&& Int32.toUInt32 31)).toInt32) &&& (1431655765 : Int32))) &&& (858993459 : Int32)) + ((((x - (((x.toUInt32 >>> ((1 : Int32).toUInt32 &&& Int32.toUInt32 31)).toInt32) &&& (1431655765 : Int32))).toUInt32 >>> ((2 : Int32).toUInt32 &&& Int32.toUInt32 31)).toInt32) &&& (858993459 : Int32))) + (((((x - (((x.toUInt32 >>> ((1 : Int32).toUInt32 &&& Int32.toUInt32 31)).toInt32) &&& (1431655765 : Int32))) &&& (858993459 : Int32)) + ((((x - (((x.toUInt32 >>> ((1 : Int32).toUInt32 &&& Int32.toUInt32 31)).toInt32) &&& (1431655765 : Int32))).toUInt32 >>> ((2 : Int32).toUInt32 &&& Int32.toUInt32 31)).toInt32) &&& (858993459 : Int32))).toUInt32 >>> ((4 : Int32).toUInt32 &&& Int32.toUInt32 31)).toInt32)) &&& (252645135 : Int32)).toUInt32 >>> ((8 : Int32).toUInt32 &&& Int32.toUInt32 31)).toInt32)).toUInt32 >>> ((16 : Int32).toUInt32 &&& Int32.toUInt32 31)).toInt32)) &&& (63 : Int32)
set_option maxRecDepth 20000 in
theorem c_F_bitCount {l : Launch} {C : gC} (hC : g_ctx l C) (x : Int32)  (M : gM) (sz d : Nat) (hd : 1 ≤ d) : gPg l C qJ6_bitCount_0f7a4 d [.int (x)] 956 g_S0 M sz (qIp M (F_bitCount x)) := by
  refine gPg.of (ls := [(0, .int (x))]) (by decide +kernel) (Nat.le_of_ble_eq_true rfl) rfl ?_
  obtain ⟨R, hr⟩ : ∃ R, F_bitCount x = R := ⟨_, rfl⟩
  rw [hr]
  unfold F_bitCount at hr
  refine gb_run 41 (pc2 := 52) (ls2 := [(0, .int (((((((x - (((x.toUInt32 >>> ((1 : Int32).toUInt32 &&& Int32.toUInt32 31)).toInt32) &&& (1431655765 : Int32))) &&& (858993459 : Int32)) + ((((x - (((x.toUInt32 >>> ((1 : Int32).toUInt32 &&& Int32.toUInt32 31)).toInt32) &&& (1431655765 : Int32))).toUInt32 >>> ((2 : Int32).toUInt32 &&& Int32.toUInt32 31)).toInt32) &&& (858993459 : Int32))) + (((((x - (((x.toUInt32 >>> ((1 : Int32).toUInt32 &&& Int32.toUInt32 31)).toInt32) &&& (1431655765 : Int32))) &&& (858993459 : Int32)) + ((((x - (((x.toUInt32 >>> ((1 : Int32).toUInt32 &&& Int32.toUInt32 31)).toInt32) &&& (1431655765 : Int32))).toUInt32 >>> ((2 : Int32).toUInt32 &&& Int32.toUInt32 31)).toInt32) &&& (858993459 : Int32))).toUInt32 >>> ((4 : Int32).toUInt32 &&& Int32.toUInt32 31)).toInt32)) &&& (252645135 : Int32)) + (((((((x - (((x.toUInt32 >>> ((1 : Int32).toUInt32 &&& Int32.toUInt32 31)).toInt32) &&& (1431655765 : Int32))) &&& (858993459 : Int32)) + ((((x - (((x.toUInt32 >>> ((1 : Int32).toUInt32 &&& Int32.toUInt32 31)).toInt32) &&& (1431655765 : Int32))).toUInt32 >>> ((2 : Int32).toUInt32 &&& Int32.toUInt32 31)).toInt32) &&& (858993459 : Int32))) + (((((x - (((x.toUInt32 >>> ((1 : Int32).toUInt32 &&& Int32.toUInt32 31)).toInt32) &&& (1431655765 : Int32))) &&& (858993459 : Int32)) + ((((x - (((x.toUInt32 >>> ((1 : Int32).toUInt32 &&& Int32.toUInt32 31)).toInt32) &&& (1431655765 : Int32))).toUInt32 >>> ((2 : Int32).toUInt32 &&& Int32.toUInt32 31)).toInt32) &&& (858993459 : Int32))).toUInt32 >>> ((4 : Int32).toUInt32 &&& Int32.toUInt32 31)).toInt32)) &&& (252645135 : Int32)).toUInt32 >>> ((8 : Int32).toUInt32 &&& Int32.toUInt32 31)).toInt32)) + ((((((((x - (((x.toUInt32 >>> ((1 : Int32).toUInt32 &&& Int32.toUInt32 31)).toInt32) &&& (1431655765 : Int32))) &&& (858993459 : Int32)) + ((((x - (((x.toUInt32 >>> ((1 : Int32).toUInt32 &&& Int32.toUInt32 31)).toInt32) &&& (1431655765 : Int32))).toUInt32 >>> ((2 : Int32).toUInt32 &&& Int32.toUInt32 31)).toInt32) &&& (858993459 : Int32))) + (((((x - (((x.toUInt32 >>> ((1 : Int32).toUInt32 &&& Int32.toUInt32 31)).toInt32) &&& (1431655765 : Int32))) &&& (858993459 : Int32)) + ((((x - (((x.toUInt32 >>> ((1 : Int32).toUInt32 &&& Int32.toUInt32 31)).toInt32) &&& (1431655765 : Int32))).toUInt32 >>> ((2 : Int32).toUInt32 &&& Int32.toUInt32 31)).toInt32) &&& (858993459 : Int32))).toUInt32 >>> ((4 : Int32).toUInt32 &&& Int32.toUInt32 31)).toInt32)) &&& (252645135 : Int32)) + (((((((x - (((x.toUInt32 >>> ((1 : Int32).toUInt32 &&& Int32.toUInt32 31)).toInt32) &&& (1431655765 : Int32))) &&& (858993459 : Int32)) + ((((x - (((x.toUInt32 >>> ((1 : Int32).toUInt32 &&& Int32.toUInt32 31)).toInt32) &&& (1431655765 : Int32))).toUInt32 >>> ((2 : Int32).toUInt32 &&& Int32.toUInt32 31)).toInt32) &&& (858993459 : Int32))) + (((((x - (((x.toUInt32 >>> ((1 : Int32).toUInt32 &&& Int32.toUInt32 31)).toInt32) &&& (1431655765 : Int32))) &&& (858993459 : Int32)) + ((((x - (((x.toUInt32 >>> ((1 : Int32).toUInt32 &&& Int32.toUInt32 31)).toInt32) &&& (1431655765 : Int32))).toUInt32 >>> ((2 : Int32).toUInt32 &&& Int32.toUInt32 31)).toInt32) &&& (858993459 : Int32))).toUInt32 >>> ((4 : Int32).toUInt32 &&& Int32.toUInt32 31)).toInt32)) &&& (252645135 : Int32)).toUInt32 >>> ((8 : Int32).toUInt32 &&& Int32.toUInt32 31)).toInt32)).toUInt32 >>> ((16 : Int32).toUInt32 &&& Int32.toUInt32 31)).toInt32)))]) (st2 := [.int ((((((((x - (((x.toUInt32 >>> ((1 : Int32).toUInt32 &&& Int32.toUInt32 31)).toInt32) &&& (1431655765 : Int32))) &&& (858993459 : Int32)) + ((((x - (((x.toUInt32 >>> ((1 : Int32).toUInt32 &&& Int32.toUInt32 31)).toInt32) &&& (1431655765 : Int32))).toUInt32 >>> ((2 : Int32).toUInt32 &&& Int32.toUInt32 31)).toInt32) &&& (858993459 : Int32))) + (((((x - (((x.toUInt32 >>> ((1 : Int32).toUInt32 &&& Int32.toUInt32 31)).toInt32) &&& (1431655765 : Int32))) &&& (858993459 : Int32)) + ((((x - (((x.toUInt32 >>> ((1 : Int32).toUInt32 &&& Int32.toUInt32 31)).toInt32) &&& (1431655765 : Int32))).toUInt32 >>> ((2 : Int32).toUInt32 &&& Int32.toUInt32 31)).toInt32) &&& (858993459 : Int32))).toUInt32 >>> ((4 : Int32).toUInt32 &&& Int32.toUInt32 31)).toInt32)) &&& (252645135 : Int32)) + (((((((x - (((x.toUInt32 >>> ((1 : Int32).toUInt32 &&& Int32.toUInt32 31)).toInt32) &&& (1431655765 : Int32))) &&& (858993459 : Int32)) + ((((x - (((x.toUInt32 >>> ((1 : Int32).toUInt32 &&& Int32.toUInt32 31)).toInt32) &&& (1431655765 : Int32))).toUInt32 >>> ((2 : Int32).toUInt32 &&& Int32.toUInt32 31)).toInt32) &&& (858993459 : Int32))) + (((((x - (((x.toUInt32 >>> ((1 : Int32).toUInt32 &&& Int32.toUInt32 31)).toInt32) &&& (1431655765 : Int32))) &&& (858993459 : Int32)) + ((((x - (((x.toUInt32 >>> ((1 : Int32).toUInt32 &&& Int32.toUInt32 31)).toInt32) &&& (1431655765 : Int32))).toUInt32 >>> ((2 : Int32).toUInt32 &&& Int32.toUInt32 31)).toInt32) &&& (858993459 : Int32))).toUInt32 >>> ((4 : Int32).toUInt32 &&& Int32.toUInt32 31)).toInt32)) &&& (252645135 : Int32)).toUInt32 >>> ((8 : Int32).toUInt32 &&& Int32.toUInt32 31)).toInt32)) + ((((((((x - (((x.toUInt32 >>> ((1 : Int32).toUInt32 &&& Int32.toUInt32 31)).toInt32) &&& (1431655765 : Int32))) &&& (858993459 : Int32)) + ((((x - (((x.toUInt32 >>> ((1 : Int32).toUInt32 &&& Int32.toUInt32 31)).toInt32) &&& (1431655765 : Int32))).toUInt32 >>> ((2 : Int32).toUInt32 &&& Int32.toUInt32 31)).toInt32) &&& (858993459 : Int32))) + (((((x - (((x.toUInt32 >>> ((1 : Int32).toUInt32 &&& Int32.toUInt32 31)).toInt32) &&& (1431655765 : Int32))) &&& (858993459 : Int32)) + ((((x - (((x.toUInt32 >>> ((1 : Int32).toUInt32 &&& Int32.toUInt32 31)).toInt32) &&& (1431655765 : Int32))).toUInt32 >>> ((2 : Int32).toUInt32 &&& Int32.toUInt32 31)).toInt32) &&& (858993459 : Int32))).toUInt32 >>> ((4 : Int32).toUInt32 &&& Int32.toUInt32 31)).toInt32)) &&& (252645135 : Int32)) + (((((((x - (((x.toUInt32 >>> ((1 : Int32).toUInt32 &&& Int32.toUInt32 31)).toInt32) &&& (1431655765 : Int32))) &&& (858993459 : Int32)) + ((((x - (((x.toUInt32 >>> ((1 : Int32).toUInt32 &&& Int32.toUInt32 31)).toInt32) &&& (1431655765 : Int32))).toUInt32 >>> ((2 : Int32).toUInt32 &&& Int32.toUInt32 31)).toInt32) &&& (858993459 : Int32))) + (((((x - (((x.toUInt32 >>> ((1 : Int32).toUInt32 &&& Int32.toUInt32 31)).toInt32) &&& (1431655765 : Int32))) &&& (858993459 : Int32)) + ((((x - (((x.toUInt32 >>> ((1 : Int32).toUInt32 &&& Int32.toUInt32 31)).toInt32) &&& (1431655765 : Int32))).toUInt32 >>> ((2 : Int32).toUInt32 &&& Int32.toUInt32 31)).toInt32) &&& (858993459 : Int32))).toUInt32 >>> ((4 : Int32).toUInt32 &&& Int32.toUInt32 31)).toInt32)) &&& (252645135 : Int32)).toUInt32 >>> ((8 : Int32).toUInt32 &&& Int32.toUInt32 31)).toInt32)).toUInt32 >>> ((16 : Int32).toUInt32 &&& Int32.toUInt32 31)).toInt32)) &&& (63 : Int32))]) (M2 := M) hC hqJ6_bitCount_0f7a4 rfl ?_
  refine gb_iret hqJ6_bitCount_0f7a4 rfl rfl (Nat.le_of_ble_eq_true rfl) (Nat.le_of_ble_eq_true rfl) ?_
  exact gl_It hr
def FA_list_L7 (hoops : Int32) : Nat → Int32 → gM → Option (gM)
  | 0, _, _ => none
  | k + 1, x2, M =>
  if (M 3 7) ≤ x2 then (some M) else (if (F_hasBit hoops x2) = (0 : Int32) then (FA_list_L7 hoops k (x2 + (1 : Int32)) M) else (g_let (r_put M 41 8 (M 39 6) x2) fun M5 => FA_list_L7 hoops k (x2 + (1 : Int32)) (g_set M5 39 6 ((M5 39 6) + (1 : Int32)))))
set_option maxRecDepth 20000 in
theorem c_FA_list_L7 {l : Launch} {C : gC} (hC : g_ctx l C) (hoops : Int32) (sz d : Nat) (hd : 2 ≤ d) (R : gM) : ∀ (k : Nat) (x2 : Int32) (M : gM), FA_list_L7 hoops k x2 M = some R → GW l C qX5_list d (gQg 956 g_S0 (qV R) sz) gN 0 0 7 [(0, .ref (39)), (1, .int (hoops)), (2, .int (x2))] [] (956, g_S0, M, sz) := by
  intro k
  induction k with
  | zero => intro x2 M hr; exact nomatch (show (none : Option (gM)) = some R from hr)
  | succ k ih =>
    intro x2 M hr
    unfold FA_list_L7 at hr
    refine gb_run 4 (pc2 := 15) (ls2 := [(0, .ref (39)), (1, .int (hoops)), (2, .int (x2))]) (st2 := [.int (M 3 7), .int (x2)]) (M2 := M) hC hqX5_list rfl ?_
    refine gb_icmp_ge hqX5_list rfl (fun h1 => ?_) (fun h1 => ?_)
    ·
      have hr := g_if1 h1 hr
      refine gb_vret hqX5_list rfl rfl (Nat.le_of_ble_eq_true rfl) (Nat.le_of_ble_eq_true rfl) ?_
      exact gl_V hr
    ·
      have hr := g_if0 h1 hr
      refine gb_run 2 (pc2 := 20) (ls2 := [(0, .ref (39)), (1, .int (hoops)), (2, .int (x2))]) (st2 := [.int (x2), .int (hoops)]) (M2 := M) hC hqX5_list rfl ?_
      refine gz_cSN (host := "HoopHours") (z := qX11_hasBit) (av := [.int (hoops), .int (x2)]) (rest := []) (pl := 1152) hC hqX5_list rfl kX11_hasBit (by decide +kernel) (c_F_hasBit hC hoops x2  M sz (d - 1) (by omega)) (by omega) ⟨rfl, rfl⟩ rfl rfl (Nat.le_of_ble_eq_true rfl) ⟨Nat.le_of_ble_eq_true rfl, Nat.le_of_ble_eq_true rfl⟩ (gs_Zp fun z3 => ?_)
      refine gb_if_eq hqX5_list rfl (fun h4 => ?_) (fun h4 => ?_)
      ·
        have hr := g_if1 h4 hr
        refine gb_run 2 (pc2 := 7) (ls2 := [(2, .int (x2 + (1 : Int32))), (0, .ref (39)), (1, .int (hoops))]) (st2 := []) (M2 := M) hC hqX5_list rfl ?_
        refine gw_pick [1, 2, 0] (ls2 := [(0, .ref (39)), (1, .int (hoops)), (2, .int (x2 + (1 : Int32)))]) rfl ?_
        exact ih (x2 + (1 : Int32)) M hr
      ·
        have hr := g_if0 h4 hr
        refine gb_run 5 (pc2 := 35) (ls2 := [(0, .ref (39)), (1, .int (hoops)), (2, .int (x2))]) (st2 := [.int (x2), .int (M 39 6), .ref (41)]) (M2 := M) hC hqX5_list rfl ?_
        refine gz_cSN (host := "HoopHours") (z := qX11_put) (av := [.ref (41), .int (M 39 6), .int (x2)]) (rest := []) (pl := 1155) hC hqX5_list rfl kX11_put (by decide +kernel) (c_put hC 41 8 _ (M 39 6) x2 M sz (d - 1) (by omega) (Nat.le_of_ble_eq_true rfl) rfl (Nat.le_of_ble_eq_true rfl)) (by omega) ⟨rfl, rfl⟩ rfl rfl (Nat.le_of_ble_eq_true rfl) ⟨Nat.le_of_ble_eq_true rfl, Nat.le_of_ble_eq_true rfl⟩ (gs_V ?_)
        refine g_letP (P := fun M5 => GW l C qX5_list d (gQg 956 g_S0 (qV R) sz) gN 0 0 38 [(0, .ref (39)), (1, .int (hoops)), (2, .int (x2))] [] (956, g_S0, M5, sz)) hr (fun M5 hr => ?_)
        refine gb_run 8 (pc2 := 7) (ls2 := [(2, .int (x2 + (1 : Int32))), (0, .ref (39)), (1, .int (hoops))]) (st2 := []) (M2 := g_set M5 39 6 ((M5 39 6) + (1 : Int32))) hC hqX5_list rfl ?_
        refine gw_pick [1, 2, 0] (ls2 := [(0, .ref (39)), (1, .int (hoops)), (2, .int (x2 + (1 : Int32)))]) rfl ?_
        exact ih (x2 + (1 : Int32)) (g_set M5 39 6 ((M5 39 6) + (1 : Int32))) hr
def FA_list (hoops : Int32) (M : gM) : Option (gM) :=
  FA_list_L7 hoops 1000 (0 : Int32) (g_set M 39 6 (0 : Int32))
set_option maxRecDepth 20000 in
theorem c_FA_list {l : Launch} {C : gC} (hC : g_ctx l C) (hoops : Int32)  (M : gM) (sz d : Nat) (hd : 2 ≤ d) (R : gM) (hr : FA_list hoops M = some R) : gPg l C qX5_list d [.ref (39), .int (hoops)] 956 g_S0 M sz (qV R) := by
  refine gPg.of (ls := [(0, .ref (39)), (1, .int (hoops))]) (by decide +kernel) (Nat.le_of_ble_eq_true rfl) rfl ?_
  unfold FA_list at hr
  refine gb_run 5 (pc2 := 7) (ls2 := [(2, .int (0)), (0, .ref (39)), (1, .int (hoops))]) (st2 := []) (M2 := g_set M 39 6 (0 : Int32)) hC hqX5_list rfl ?_
  refine gw_pick [1, 2, 0] (ls2 := [(0, .ref (39)), (1, .int (hoops)), (2, .int (0))]) rfl ?_
  exact c_FA_list_L7 hC hoops sz d (by omega) R 1000 (0 : Int32) (g_set M 39 6 (0 : Int32)) hr
def FA_measure_L13 (m : Int32) (c2 : Int32 → gM → Option (gM)) : Nat → Int32 → Int32 → gM → Option (gM)
  | 0, _, _, _ => none
  | k + 1, x3, x4, M =>
  if (M 3 6) ≤ x4 then (c2 (x3 + (1 : Int32)) M) else ((FB_longOf 48 (r_at (M 41) 8 x3) x4 M).bind fun s2 => g_let (r_put (s2.2) 42 64 ((x3 * (8 : Int32)) + x4) (m_abs (s2.1 - m))) fun M3 => FA_measure_L13 m c2 k x3 (x4 + (1 : Int32)) M3)
set_option maxRecDepth 20000 in
theorem c_FA_measure_L13 {l : Launch} {C : gC} (hC : g_ctx l C) (m : Int32) (sz d : Nat) (hd : 5 ≤ d) (R : gM) (c2 : Int32 → gM → Option (gM)) (hc2 : ∀ (x3 : Int32) (M : gM), c2 x3 M = some R → GW l C qX5_measure d (gQg 956 g_S0 (qV R) sz) gN 0 0 2 [(0, .ref (39)), (1, .ref (48)), (2, .int (m)), (3, .int (x3))] [] (956, g_S0, M, sz)) : ∀ (k : Nat) (x3 : Int32) (x4 : Int32) (M : gM), FA_measure_L13 m c2 k x3 x4 M = some R → GW l C qX5_measure d (gQg 956 g_S0 (qV R) sz) gN 0 0 13 [(0, .ref (39)), (1, .ref (48)), (2, .int (m)), (3, .int (x3)), (4, .int (x4))] [] (956, g_S0, M, sz) := by
  intro k
  induction k with
  | zero => intro x3 x4 M hr; exact nomatch (show (none : Option (gM)) = some R from hr)
  | succ k ih =>
    intro x3 x4 M hr
    unfold FA_measure_L13 at hr
    refine gb_run 4 (pc2 := 22) (ls2 := [(0, .ref (39)), (1, .ref (48)), (2, .int (m)), (3, .int (x3)), (4, .int (x4))]) (st2 := [.int (M 3 6), .int (x4)]) (M2 := M) hC hqX5_measure rfl ?_
    refine gb_icmp_ge hqX5_measure rfl (fun h1 => ?_) (fun h1 => ?_)
    ·
      have hr := g_if1 h1 hr
      refine gb_run 2 (pc2 := 2) (ls2 := [(3, .int (x3 + (1 : Int32))), (0, .ref (39)), (1, .ref (48)), (2, .int (m)), (4, .int (x4))]) (st2 := []) (M2 := M) hC hqX5_measure rfl ?_
      refine gw_pick [1, 2, 3, 0] (ls2 := [(0, .ref (39)), (1, .ref (48)), (2, .int (m)), (3, .int (x3 + (1 : Int32)))]) rfl ?_
      exact hc2 (x3 + (1 : Int32)) M hr
    ·
      have hr := g_if0 h1 hr
      refine gb_run 6 (pc2 := 35) (ls2 := [(0, .ref (39)), (1, .ref (48)), (2, .int (m)), (3, .int (x3)), (4, .int (x4))]) (st2 := [.int (x3), .ref (41), .ref (48), .ref (27)]) (M2 := M) hC hqX5_measure rfl ?_
      refine gz_cSN (host := "HoopHours") (z := qX11_at) (av := [.ref (41), .int (x3)]) (rest := [.ref (48), .ref (27)]) (pl := 1160) hC hqX5_measure rfl kX11_at (by decide +kernel) (c_at hC 41 8 _ x3 M sz (d - 1) (by omega) (Nat.le_of_ble_eq_true rfl) rfl (Nat.le_of_ble_eq_true rfl)) (by omega) ⟨rfl, rfl⟩ rfl rfl (Nat.le_of_ble_eq_true rfl) ⟨Nat.le_of_ble_eq_true rfl, Nat.le_of_ble_eq_true rfl⟩ (gs_Ip (x := r_at (M 41) 8 x3) ?_)
      refine gb_run 1 (pc2 := 40) (ls2 := [(0, .ref (39)), (1, .ref (48)), (2, .int (m)), (3, .int (x3)), (4, .int (x4))]) (st2 := [.int (x4), .int (r_at (M 41) 8 x3), .ref (48), .ref (27)]) (M2 := M) hC hqX5_measure rfl ?_
      obtain ⟨s2, es2, hr⟩ := g_bd hr
      refine gz_cV (z := qX0_longOf) (a := 27) (av := [.ref (48), .int (r_at (M 41) 8 x3), .int (x4)]) (rest := []) (pl := 1161) hC hqX5_measure rfl kX0_longOf sX0_longOf (by decide +kernel) (c_FB_longOf hC 48 (r_at (M 41) 8 x3) x4 (by decide +kernel) M sz (d - 1) (by omega) s2 es2) (by omega) ⟨rfl, rfl⟩ rfl (Nat.le_of_ble_eq_true rfl) (Nat.le_of_ble_eq_true rfl) rfl rfl rfl (Nat.le_of_ble_eq_true rfl) ⟨Nat.le_of_ble_eq_true rfl, Nat.le_of_ble_eq_true rfl⟩ (gs_I ?_)
      refine gb_run 11 (pc2 := 60) (ls2 := [(5, .int (s2.1)), (0, .ref (39)), (1, .ref (48)), (2, .int (m)), (3, .int (x3)), (4, .int (x4))]) (st2 := [.int (s2.1 - m), .int ((x3 * (8 : Int32)) + x4), .ref (42)]) (M2 := s2.2) hC hqX5_measure rfl ?_
      refine gb_abs (pl := 1162) hC hqX5_measure rfl (by decide +kernel) (Nat.le_of_ble_eq_true rfl) (by omega) (Nat.le_of_ble_eq_true rfl) (Nat.le_of_ble_eq_true rfl) ?_
      refine gz_cSN (host := "HoopHours") (z := qX11_put) (av := [.ref (42), .int ((x3 * (8 : Int32)) + x4), .int (m_abs (s2.1 - m))]) (rest := []) (pl := 1155) hC hqX5_measure rfl kX11_put (by decide +kernel) (c_put hC 42 64 _ ((x3 * (8 : Int32)) + x4) (m_abs (s2.1 - m)) (s2.2) sz (d - 1) (by omega) (Nat.le_of_ble_eq_true rfl) rfl (Nat.le_of_ble_eq_true rfl)) (by omega) ⟨rfl, rfl⟩ rfl rfl (Nat.le_of_ble_eq_true rfl) ⟨Nat.le_of_ble_eq_true rfl, Nat.le_of_ble_eq_true rfl⟩ (gs_V ?_)
      refine g_letP (P := fun M3 => GW l C qX5_measure d (gQg 956 g_S0 (qV R) sz) gN 0 0 66 [(5, .int (s2.1)), (0, .ref (39)), (1, .ref (48)), (2, .int (m)), (3, .int (x3)), (4, .int (x4))] [] (956, g_S0, M3, sz)) hr (fun M3 hr => ?_)
      refine gb_run 2 (pc2 := 13) (ls2 := [(4, .int (x4 + (1 : Int32))), (5, .int (s2.1)), (0, .ref (39)), (1, .ref (48)), (2, .int (m)), (3, .int (x3))]) (st2 := []) (M2 := M3) hC hqX5_measure rfl ?_
      refine gw_pick [2, 3, 4, 5, 0] (ls2 := [(0, .ref (39)), (1, .ref (48)), (2, .int (m)), (3, .int (x3)), (4, .int (x4 + (1 : Int32)))]) rfl ?_
      exact ih x3 (x4 + (1 : Int32)) M3 hr
def FA_measure_L2 (m : Int32) : Nat → Int32 → gM → Option (gM)
  | 0, _, _ => none
  | k + 1, x3, M =>
  if (M 39 6) ≤ x3 then (some M) else (FA_measure_L13 m (FA_measure_L2 m k) 1000 x3 (0 : Int32) M)
set_option maxRecDepth 20000 in
theorem c_FA_measure_L2 {l : Launch} {C : gC} (hC : g_ctx l C) (m : Int32) (sz d : Nat) (hd : 5 ≤ d) (R : gM) : ∀ (k : Nat) (x3 : Int32) (M : gM), FA_measure_L2 m k x3 M = some R → GW l C qX5_measure d (gQg 956 g_S0 (qV R) sz) gN 0 0 2 [(0, .ref (39)), (1, .ref (48)), (2, .int (m)), (3, .int (x3))] [] (956, g_S0, M, sz) := by
  intro k
  induction k with
  | zero => intro x3 M hr; exact nomatch (show (none : Option (gM)) = some R from hr)
  | succ k ih =>
    intro x3 M hr
    unfold FA_measure_L2 at hr
    refine gb_run 3 (pc2 := 7) (ls2 := [(0, .ref (39)), (1, .ref (48)), (2, .int (m)), (3, .int (x3))]) (st2 := [.int (M 39 6), .int (x3)]) (M2 := M) hC hqX5_measure rfl ?_
    refine gb_icmp_ge hqX5_measure rfl (fun h1 => ?_) (fun h1 => ?_)
    ·
      have hr := g_if1 h1 hr
      refine gb_vret hqX5_measure rfl rfl (Nat.le_of_ble_eq_true rfl) (Nat.le_of_ble_eq_true rfl) ?_
      exact gl_V hr
    ·
      have hr := g_if0 h1 hr
      refine gb_run 2 (pc2 := 13) (ls2 := [(4, .int (0)), (0, .ref (39)), (1, .ref (48)), (2, .int (m)), (3, .int (x3))]) (st2 := []) (M2 := M) hC hqX5_measure rfl ?_
      refine gw_pick [1, 2, 3, 4, 0] (ls2 := [(0, .ref (39)), (1, .ref (48)), (2, .int (m)), (3, .int (x3)), (4, .int (0))]) rfl ?_
      exact c_FA_measure_L13 hC m sz d (by omega) R (FA_measure_L2 m k) ih 1000 x3 (0 : Int32) M hr
def FA_measure (m : Int32) (M : gM) : Option (gM) :=
  FA_measure_L2 m 1000 (0 : Int32) M
set_option maxRecDepth 20000 in
theorem c_FA_measure {l : Launch} {C : gC} (hC : g_ctx l C) (m : Int32)  (M : gM) (sz d : Nat) (hd : 5 ≤ d) (R : gM) (hr : FA_measure m M = some R) : gPg l C qX5_measure d [.ref (39), .ref (48), .int (m)] 956 g_S0 M sz (qV R) := by
  refine gPg.of (ls := [(0, .ref (39)), (1, .ref (48)), (2, .int (m))]) (by decide +kernel) (Nat.le_of_ble_eq_true rfl) rfl ?_
  unfold FA_measure at hr
  refine gb_run 2 (pc2 := 2) (ls2 := [(3, .int (0)), (0, .ref (39)), (1, .ref (48)), (2, .int (m))]) (st2 := []) (M2 := M) hC hqX5_measure rfl ?_
  refine gw_pick [1, 2, 3, 0] (ls2 := [(0, .ref (39)), (1, .ref (48)), (2, .int (m)), (3, .int (0))]) rfl ?_
  exact c_FA_measure_L2 hC m sz d (by omega) R 1000 (0 : Int32) M hr
def FA_sumWith (taken : Int32) (c : Int32) (M : gM) : Int32 :=
  (r_at (M 42) 64 (((F_bitCount taken) * (8 : Int32)) + c)) + (r_at (M 43) 256 (taken ||| ((1 : Int32) <<< (c &&& 31))))
set_option maxRecDepth 20000 in
theorem c_FA_sumWith {l : Launch} {C : gC} (hC : g_ctx l C) (taken : Int32) (c : Int32)  (M : gM) (sz d : Nat) (hd : 2 ≤ d) : gPg l C qX5_sumWith d [.ref (39), .int (taken), .int (c)] 956 g_S0 M sz (qIp M (FA_sumWith taken c M)) := by
  refine gPg.of (ls := [(0, .ref (39)), (1, .int (taken)), (2, .int (c))]) (by decide +kernel) (Nat.le_of_ble_eq_true rfl) rfl ?_
  obtain ⟨R, hr⟩ : ∃ R, FA_sumWith taken c M = R := ⟨_, rfl⟩
  rw [hr]
  unfold FA_sumWith at hr
  refine gb_run 3 (pc2 := 5) (ls2 := [(0, .ref (39)), (1, .int (taken)), (2, .int (c))]) (st2 := [.int (taken), .ref (42)]) (M2 := M) hC hqX5_sumWith rfl ?_
  refine gz_cS (z := qJ6_bitCount_0f7a4) (av := [.int (taken)]) (rest := [.ref (42)]) (pl := 1170) hC hqX5_sumWith rfl kJ6_bitCount_0f7a4 (by decide +kernel) (c_F_bitCount hC taken  M sz (d - 1) (by omega)) (by omega) ⟨rfl, rfl⟩ rfl rfl (Nat.le_of_ble_eq_true rfl) ⟨Nat.le_of_ble_eq_true rfl, Nat.le_of_ble_eq_true rfl⟩ (gs_Ip ?_)
  refine gb_run 4 (pc2 := 13) (ls2 := [(0, .ref (39)), (1, .int (taken)), (2, .int (c))]) (st2 := [.int (((F_bitCount taken) * (8 : Int32)) + c), .ref (42)]) (M2 := M) hC hqX5_sumWith rfl ?_
  refine gz_cSN (host := "HoopHours") (z := qX11_at) (av := [.ref (42), .int (((F_bitCount taken) * (8 : Int32)) + c)]) (rest := []) (pl := 1160) hC hqX5_sumWith rfl kX11_at (by decide +kernel) (c_at hC 42 64 _ (((F_bitCount taken) * (8 : Int32)) + c) M sz (d - 1) (by omega) (Nat.le_of_ble_eq_true rfl) rfl (Nat.le_of_ble_eq_true rfl)) (by omega) ⟨rfl, rfl⟩ rfl rfl (Nat.le_of_ble_eq_true rfl) ⟨Nat.le_of_ble_eq_true rfl, Nat.le_of_ble_eq_true rfl⟩ (gs_Ip (x := r_at (M 42) 64 (((F_bitCount taken) * (8 : Int32)) + c)) ?_)
  refine gb_run 9 (pc2 := 27) (ls2 := [(3, .int (r_at (M 42) 64 (((F_bitCount taken) * (8 : Int32)) + c))), (0, .ref (39)), (1, .int (taken)), (2, .int (c))]) (st2 := [.int (taken ||| ((1 : Int32) <<< (c &&& 31))), .ref (43), .int (r_at (M 42) 64 (((F_bitCount taken) * (8 : Int32)) + c))]) (M2 := M) hC hqX5_sumWith rfl ?_
  refine gz_cSN (host := "HoopHours") (z := qX11_at) (av := [.ref (43), .int (taken ||| ((1 : Int32) <<< (c &&& 31)))]) (rest := [.int (r_at (M 42) 64 (((F_bitCount taken) * (8 : Int32)) + c))]) (pl := 1160) hC hqX5_sumWith rfl kX11_at (by decide +kernel) (c_at hC 43 256 _ (taken ||| ((1 : Int32) <<< (c &&& 31))) M sz (d - 1) (by omega) (Nat.le_of_ble_eq_true rfl) rfl (Nat.le_of_ble_eq_true rfl)) (by omega) ⟨rfl, rfl⟩ rfl rfl (Nat.le_of_ble_eq_true rfl) ⟨Nat.le_of_ble_eq_true rfl, Nat.le_of_ble_eq_true rfl⟩ (gs_Ip (x := r_at (M 43) 256 (taken ||| ((1 : Int32) <<< (c &&& 31)))) ?_)
  refine gb_run 1 (pc2 := 31) (ls2 := [(3, .int (r_at (M 42) 64 (((F_bitCount taken) * (8 : Int32)) + c))), (0, .ref (39)), (1, .int (taken)), (2, .int (c))]) (st2 := [.int ((r_at (M 42) 64 (((F_bitCount taken) * (8 : Int32)) + c)) + (r_at (M 43) 256 (taken ||| ((1 : Int32) <<< (c &&& 31)))))]) (M2 := M) hC hqX5_sumWith rfl ?_
  refine gb_iret hqX5_sumWith rfl rfl (Nat.le_of_ble_eq_true rfl) (Nat.le_of_ble_eq_true rfl) ?_
  exact gl_It hr
def FA_findBests_L35 (c11 : Int32 → gM → Option (gM)) : Nat → Int32 → Int32 → Int32 → gM → Option (gM)
  | 0, _, _, _, _ => none
  | k + 1, x1, x2, x3, M =>
  if (M 3 6) ≤ x3 then (g_let (r_put M 43 256 x1 x2) fun M2 => c11 (x1 + (-1 : Int32)) M2) else (if (M 39 6) ≤ (F_bitCount x1) then (FA_findBests_L35 c11 k x1 x2 (x3 + (1 : Int32)) M) else (if (F_hasBit x1 x3) = (0 : Int32) then (FA_findBests_L35 c11 k x1 (m_min x2 (FA_sumWith x1 x3 M)) (x3 + (1 : Int32)) M) else (FA_findBests_L35 c11 k x1 x2 (x3 + (1 : Int32)) M)))
set_option maxRecDepth 20000 in
theorem c_FA_findBests_L35 {l : Launch} {C : gC} (hC : g_ctx l C) (sz d : Nat) (hd : 3 ≤ d) (R : gM) (c11 : Int32 → gM → Option (gM)) (hc11 : ∀ (x1 : Int32) (M : gM), c11 x1 M = some R → GW l C qX5_findBests d (gQg 956 g_S0 (qV R) sz) gN 0 0 11 [(0, .ref (39)), (1, .int (x1))] [] (956, g_S0, M, sz)) : ∀ (k : Nat) (x1 : Int32) (x2 : Int32) (x3 : Int32) (M : gM), FA_findBests_L35 c11 k x1 x2 x3 M = some R → GW l C qX5_findBests d (gQg 956 g_S0 (qV R) sz) gN 0 0 35 [(0, .ref (39)), (1, .int (x1)), (2, .int (x2)), (3, .int (x3))] [] (956, g_S0, M, sz) := by
  intro k
  induction k with
  | zero => intro x1 x2 x3 M hr; exact nomatch (show (none : Option (gM)) = some R from hr)
  | succ k ih =>
    intro x1 x2 x3 M hr
    unfold FA_findBests_L35 at hr
    refine gb_run 4 (pc2 := 43) (ls2 := [(0, .ref (39)), (1, .int (x1)), (2, .int (x2)), (3, .int (x3))]) (st2 := [.int (M 3 6), .int (x3)]) (M2 := M) hC hqX5_findBests rfl ?_
    refine gb_icmp_ge hqX5_findBests rfl (fun h1 => ?_) (fun h1 => ?_)
    ·
      have hr := g_if1 h1 hr
      refine gb_run 4 (pc2 := 88) (ls2 := [(0, .ref (39)), (1, .int (x1)), (2, .int (x2)), (3, .int (x3))]) (st2 := [.int (x2), .int (x1), .ref (43)]) (M2 := M) hC hqX5_findBests rfl ?_
      refine gz_cSN (host := "HoopHours") (z := qX11_put) (av := [.ref (43), .int (x1), .int (x2)]) (rest := []) (pl := 1155) hC hqX5_findBests rfl kX11_put (by decide +kernel) (c_put hC 43 256 _ x1 x2 M sz (d - 1) (by omega) (Nat.le_of_ble_eq_true rfl) rfl (Nat.le_of_ble_eq_true rfl)) (by omega) ⟨rfl, rfl⟩ rfl rfl (Nat.le_of_ble_eq_true rfl) ⟨Nat.le_of_ble_eq_true rfl, Nat.le_of_ble_eq_true rfl⟩ (gs_V ?_)
      refine g_letP (P := fun M2 => GW l C qX5_findBests d (gQg 956 g_S0 (qV R) sz) gN 0 0 91 [(0, .ref (39)), (1, .int (x1)), (2, .int (x2)), (3, .int (x3))] [] (956, g_S0, M2, sz)) hr (fun M2 hr => ?_)
      refine gb_run 2 (pc2 := 11) (ls2 := [(1, .int (x1 + (-1 : Int32))), (0, .ref (39)), (2, .int (x2)), (3, .int (x3))]) (st2 := []) (M2 := M2) hC hqX5_findBests rfl ?_
      refine gw_pick [1, 0] (ls2 := [(0, .ref (39)), (1, .int (x1 + (-1 : Int32)))]) rfl ?_
      exact hc11 (x1 + (-1 : Int32)) M2 hr
    ·
      have hr := g_if0 h1 hr
      refine gb_run 1 (pc2 := 47) (ls2 := [(0, .ref (39)), (1, .int (x1)), (2, .int (x2)), (3, .int (x3))]) (st2 := [.int (x1)]) (M2 := M) hC hqX5_findBests rfl ?_
      refine gz_cS (z := qJ6_bitCount_0f7a4) (av := [.int (x1)]) (rest := []) (pl := 1170) hC hqX5_findBests rfl kJ6_bitCount_0f7a4 (by decide +kernel) (c_F_bitCount hC x1  M sz (d - 1) (by omega)) (by omega) ⟨rfl, rfl⟩ rfl rfl (Nat.le_of_ble_eq_true rfl) ⟨Nat.le_of_ble_eq_true rfl, Nat.le_of_ble_eq_true rfl⟩ (gs_Ip ?_)
      refine gb_run 2 (pc2 := 54) (ls2 := [(0, .ref (39)), (1, .int (x1)), (2, .int (x2)), (3, .int (x3))]) (st2 := [.int (M 39 6), .int (F_bitCount x1)]) (M2 := M) hC hqX5_findBests rfl ?_
      refine gb_icmp_ge hqX5_findBests rfl (fun h3 => ?_) (fun h3 => ?_)
      ·
        have hr := g_if1 h3 hr
        refine gb_run 2 (pc2 := 35) (ls2 := [(3, .int (x3 + (1 : Int32))), (0, .ref (39)), (1, .int (x1)), (2, .int (x2))]) (st2 := []) (M2 := M) hC hqX5_findBests rfl ?_
        refine gw_pick [1, 2, 3, 0] (ls2 := [(0, .ref (39)), (1, .int (x1)), (2, .int (x2)), (3, .int (x3 + (1 : Int32)))]) rfl ?_
        exact ih x1 x2 (x3 + (1 : Int32)) M hr
      ·
        have hr := g_if0 h3 hr
        refine gb_run 2 (pc2 := 59) (ls2 := [(0, .ref (39)), (1, .int (x1)), (2, .int (x2)), (3, .int (x3))]) (st2 := [.int (x3), .int (x1)]) (M2 := M) hC hqX5_findBests rfl ?_
        refine gz_cSN (host := "HoopHours") (z := qX11_hasBit) (av := [.int (x1), .int (x3)]) (rest := []) (pl := 1152) hC hqX5_findBests rfl kX11_hasBit (by decide +kernel) (c_F_hasBit hC x1 x3  M sz (d - 1) (by omega)) (by omega) ⟨rfl, rfl⟩ rfl rfl (Nat.le_of_ble_eq_true rfl) ⟨Nat.le_of_ble_eq_true rfl, Nat.le_of_ble_eq_true rfl⟩ (gs_Zp fun z5 => ?_)
        refine gb_if_ne hqX5_findBests rfl (fun h6 => ?_) (fun h6 => ?_)
        ·
          have hr := g_if0 h6 hr
          refine gb_run 2 (pc2 := 35) (ls2 := [(3, .int (x3 + (1 : Int32))), (0, .ref (39)), (1, .int (x1)), (2, .int (x2))]) (st2 := []) (M2 := M) hC hqX5_findBests rfl ?_
          refine gw_pick [1, 2, 3, 0] (ls2 := [(0, .ref (39)), (1, .int (x1)), (2, .int (x2)), (3, .int (x3 + (1 : Int32)))]) rfl ?_
          exact ih x1 x2 (x3 + (1 : Int32)) M hr
        ·
          have hr := g_if1 h6 hr
          refine gb_run 4 (pc2 := 69) (ls2 := [(0, .ref (39)), (1, .int (x1)), (2, .int (x2)), (3, .int (x3))]) (st2 := [.int (x3), .int (x1), .ref (39), .int (x2)]) (M2 := M) hC hqX5_findBests rfl ?_
          refine gz_cV (z := qX5_sumWith) (a := 39) (av := [.int (x1), .int (x3)]) (rest := [.int (x2)]) (pl := 1177) hC hqX5_findBests rfl kX5_sumWith sX5_sumWith (by decide +kernel) (c_FA_sumWith hC x1 x3  M sz (d - 1) (by omega)) (by omega) ⟨rfl, rfl⟩ rfl (Nat.le_of_ble_eq_true rfl) (Nat.le_of_ble_eq_true rfl) rfl rfl rfl (Nat.le_of_ble_eq_true rfl) ⟨Nat.le_of_ble_eq_true rfl, Nat.le_of_ble_eq_true rfl⟩ (gs_Ip ?_)
          refine gb_min (pl := 1181) hC hqX5_findBests rfl (by decide +kernel) (Nat.le_of_ble_eq_true rfl) (by omega) (Nat.le_of_ble_eq_true rfl) (Nat.le_of_ble_eq_true rfl) ?_
          refine gb_run 3 (pc2 := 35) (ls2 := [(3, .int (x3 + (1 : Int32))), (2, .int (m_min x2 (FA_sumWith x1 x3 M))), (0, .ref (39)), (1, .int (x1))]) (st2 := []) (M2 := M) hC hqX5_findBests rfl ?_
          refine gw_pick [2, 3, 1, 0] (ls2 := [(0, .ref (39)), (1, .int (x1)), (2, .int (m_min x2 (FA_sumWith x1 x3 M))), (3, .int (x3 + (1 : Int32)))]) rfl ?_
          exact ih x1 (m_min x2 (FA_sumWith x1 x3 M)) (x3 + (1 : Int32)) M hr
def FA_findBests_L11 : Nat → Int32 → gM → Option (gM)
  | 0, _, _ => none
  | k + 1, x1, M =>
  if x1 < (0 : Int32) then (some M) else (if (F_bitCount x1) < (M 39 6) then (FA_findBests_L35 (FA_findBests_L11 k) 1000 x1 (1000000000 : Int32) (0 : Int32) M) else (FA_findBests_L35 (FA_findBests_L11 k) 1000 x1 (0 : Int32) (0 : Int32) M))
set_option maxRecDepth 20000 in
theorem c_FA_findBests_L11 {l : Launch} {C : gC} (hC : g_ctx l C) (sz d : Nat) (hd : 3 ≤ d) (R : gM) : ∀ (k : Nat) (x1 : Int32) (M : gM), FA_findBests_L11 k x1 M = some R → GW l C qX5_findBests d (gQg 956 g_S0 (qV R) sz) gN 0 0 11 [(0, .ref (39)), (1, .int (x1))] [] (956, g_S0, M, sz) := by
  intro k
  induction k with
  | zero => intro x1 M hr; exact nomatch (show (none : Option (gM)) = some R from hr)
  | succ k ih =>
    intro x1 M hr
    unfold FA_findBests_L11 at hr
    refine gb_run 1 (pc2 := 12) (ls2 := [(0, .ref (39)), (1, .int (x1))]) (st2 := [.int (x1)]) (M2 := M) hC hqX5_findBests rfl ?_
    refine gb_if_lt hqX5_findBests rfl (fun h1 => ?_) (fun h1 => ?_)
    ·
      have hr := g_if1 h1 hr
      refine gb_vret hqX5_findBests rfl rfl (Nat.le_of_ble_eq_true rfl) (Nat.le_of_ble_eq_true rfl) ?_
      exact gl_V hr
    ·
      have hr := g_if0 h1 hr
      refine gb_run 1 (pc2 := 16) (ls2 := [(0, .ref (39)), (1, .int (x1))]) (st2 := [.int (x1)]) (M2 := M) hC hqX5_findBests rfl ?_
      refine gz_cS (z := qJ6_bitCount_0f7a4) (av := [.int (x1)]) (rest := []) (pl := 1170) hC hqX5_findBests rfl kJ6_bitCount_0f7a4 (by decide +kernel) (c_F_bitCount hC x1  M sz (d - 1) (by omega)) (by omega) ⟨rfl, rfl⟩ rfl rfl (Nat.le_of_ble_eq_true rfl) ⟨Nat.le_of_ble_eq_true rfl, Nat.le_of_ble_eq_true rfl⟩ (gs_Ip ?_)
      refine gb_run 2 (pc2 := 23) (ls2 := [(0, .ref (39)), (1, .int (x1))]) (st2 := [.int (M 39 6), .int (F_bitCount x1)]) (M2 := M) hC hqX5_findBests rfl ?_
      refine gb_icmp_lt hqX5_findBests rfl (fun h2 => ?_) (fun h2 => ?_)
      ·
        have hr := g_if1 h2 hr
        refine gb_run 4 (pc2 := 35) (ls2 := [(3, .int (0)), (2, .int (1000000000)), (0, .ref (39)), (1, .int (x1))]) (st2 := []) (M2 := M) hC hqX5_findBests rfl ?_
        refine gw_pick [2, 3, 1, 0] (ls2 := [(0, .ref (39)), (1, .int (x1)), (2, .int (1000000000)), (3, .int (0))]) rfl ?_
        exact c_FA_findBests_L35 hC sz d (by omega) R (FA_findBests_L11 k) ih 1000 x1 (1000000000 : Int32) (0 : Int32) M hr
      ·
        have hr := g_if0 h2 hr
        refine gb_run 5 (pc2 := 35) (ls2 := [(3, .int (0)), (2, .int (0)), (0, .ref (39)), (1, .int (x1))]) (st2 := []) (M2 := M) hC hqX5_findBests rfl ?_
        refine gw_pick [2, 3, 1, 0] (ls2 := [(0, .ref (39)), (1, .int (x1)), (2, .int (0)), (3, .int (0))]) rfl ?_
        exact c_FA_findBests_L35 hC sz d (by omega) R (FA_findBests_L11 k) ih 1000 x1 (0 : Int32) (0 : Int32) M hr
def FA_findBests  (M : gM) : Option (gM) :=
  FA_findBests_L11 1000 (F_allOf (M 3 6)) M
set_option maxRecDepth 20000 in
theorem c_FA_findBests {l : Launch} {C : gC} (hC : g_ctx l C)   (M : gM) (sz d : Nat) (hd : 3 ≤ d) (R : gM) (hr : FA_findBests M = some R) : gPg l C qX5_findBests d [.ref (39)] 956 g_S0 M sz (qV R) := by
  refine gPg.of (ls := [(0, .ref (39))]) (by decide +kernel) (Nat.le_of_ble_eq_true rfl) rfl ?_
  unfold FA_findBests at hr
  refine gb_run 3 (pc2 := 7) (ls2 := [(0, .ref (39))]) (st2 := [.int (M 3 6)]) (M2 := M) hC hqX5_findBests rfl ?_
  refine gz_cSN (host := "HoopHours") (z := qX11_allOf) (av := [.int (M 3 6)]) (rest := []) (pl := 1169) hC hqX5_findBests rfl kX11_allOf (by decide +kernel) (c_F_allOf hC (M 3 6)  M sz (d - 1) (by omega)) (by omega) ⟨rfl, rfl⟩ rfl rfl (Nat.le_of_ble_eq_true rfl) ⟨Nat.le_of_ble_eq_true rfl, Nat.le_of_ble_eq_true rfl⟩ (gs_Ip ?_)
  refine gb_run 1 (pc2 := 11) (ls2 := [(1, .int (F_allOf (M 3 6))), (0, .ref (39))]) (st2 := []) (M2 := M) hC hqX5_findBests rfl ?_
  refine gw_pick [1, 0] (ls2 := [(0, .ref (39)), (1, .int (F_allOf (M 3 6)))]) rfl ?_
  exact c_FA_findBests_L11 hC sz d (by omega) R 1000 (F_allOf (M 3 6)) M hr
def FA_choose_L14 (c4 : Int32 → Int32 → gM → Option (gM)) : Nat → Int32 → Int32 → Int32 → gM → Option (gM)
  | 0, _, _, _, _ => none
  | k + 1, x1, x2, x3, M =>
  if (M 3 6) ≤ x3 then (c4 x1 (x2 + (1 : Int32)) M) else (if (F_hasBit x1 x3) = (0 : Int32) then (if (FA_sumWith x1 x3 M) = (r_at (M 43) 256 x1) then (g_let (r_put M 40 8 (r_at (M 41) 8 x2) x3) fun M6 => c4 (x1 ||| ((1 : Int32) <<< (x3 &&& 31))) (x2 + (1 : Int32)) M6) else (FA_choose_L14 c4 k x1 x2 (x3 + (1 : Int32)) M)) else (FA_choose_L14 c4 k x1 x2 (x3 + (1 : Int32)) M))
set_option maxRecDepth 20000 in
theorem c_FA_choose_L14 {l : Launch} {C : gC} (hC : g_ctx l C) (sz d : Nat) (hd : 3 ≤ d) (R : gM) (c4 : Int32 → Int32 → gM → Option (gM)) (hc4 : ∀ (x1 : Int32) (x2 : Int32) (M : gM), c4 x1 x2 M = some R → GW l C qX5_choose d (gQg 956 g_S0 (qV R) sz) gN 0 0 4 [(0, .ref (39)), (1, .int (x1)), (2, .int (x2))] [] (956, g_S0, M, sz)) : ∀ (k : Nat) (x1 : Int32) (x2 : Int32) (x3 : Int32) (M : gM), FA_choose_L14 c4 k x1 x2 x3 M = some R → GW l C qX5_choose d (gQg 956 g_S0 (qV R) sz) gN 0 0 14 [(0, .ref (39)), (1, .int (x1)), (2, .int (x2)), (3, .int (x3))] [] (956, g_S0, M, sz) := by
  intro k
  induction k with
  | zero => intro x1 x2 x3 M hr; exact nomatch (show (none : Option (gM)) = some R from hr)
  | succ k ih =>
    intro x1 x2 x3 M hr
    unfold FA_choose_L14 at hr
    refine gb_run 4 (pc2 := 22) (ls2 := [(0, .ref (39)), (1, .int (x1)), (2, .int (x2)), (3, .int (x3))]) (st2 := [.int (M 3 6), .int (x3)]) (M2 := M) hC hqX5_choose rfl ?_
    refine gb_icmp_ge hqX5_choose rfl (fun h1 => ?_) (fun h1 => ?_)
    ·
      have hr := g_if1 h1 hr
      refine gb_run 2 (pc2 := 4) (ls2 := [(2, .int (x2 + (1 : Int32))), (0, .ref (39)), (1, .int (x1)), (3, .int (x3))]) (st2 := []) (M2 := M) hC hqX5_choose rfl ?_
      refine gw_pick [1, 2, 0] (ls2 := [(0, .ref (39)), (1, .int (x1)), (2, .int (x2 + (1 : Int32)))]) rfl ?_
      exact hc4 x1 (x2 + (1 : Int32)) M hr
    ·
      have hr := g_if0 h1 hr
      refine gb_run 2 (pc2 := 27) (ls2 := [(0, .ref (39)), (1, .int (x1)), (2, .int (x2)), (3, .int (x3))]) (st2 := [.int (x3), .int (x1)]) (M2 := M) hC hqX5_choose rfl ?_
      refine gz_cSN (host := "HoopHours") (z := qX11_hasBit) (av := [.int (x1), .int (x3)]) (rest := []) (pl := 1152) hC hqX5_choose rfl kX11_hasBit (by decide +kernel) (c_F_hasBit hC x1 x3  M sz (d - 1) (by omega)) (by omega) ⟨rfl, rfl⟩ rfl rfl (Nat.le_of_ble_eq_true rfl) ⟨Nat.le_of_ble_eq_true rfl, Nat.le_of_ble_eq_true rfl⟩ (gs_Zp fun z3 => ?_)
      refine gb_if_ne hqX5_choose rfl (fun h4 => ?_) (fun h4 => ?_)
      ·
        have hr := g_if0 h4 hr
        refine gb_run 2 (pc2 := 14) (ls2 := [(3, .int (x3 + (1 : Int32))), (0, .ref (39)), (1, .int (x1)), (2, .int (x2))]) (st2 := []) (M2 := M) hC hqX5_choose rfl ?_
        refine gw_pick [1, 2, 3, 0] (ls2 := [(0, .ref (39)), (1, .int (x1)), (2, .int (x2)), (3, .int (x3 + (1 : Int32)))]) rfl ?_
        exact ih x1 x2 (x3 + (1 : Int32)) M hr
      ·
        have hr := g_if1 h4 hr
        refine gb_run 3 (pc2 := 36) (ls2 := [(0, .ref (39)), (1, .int (x1)), (2, .int (x2)), (3, .int (x3))]) (st2 := [.int (x3), .int (x1), .ref (39)]) (M2 := M) hC hqX5_choose rfl ?_
        refine gz_cV (z := qX5_sumWith) (a := 39) (av := [.int (x1), .int (x3)]) (rest := []) (pl := 1177) hC hqX5_choose rfl kX5_sumWith sX5_sumWith (by decide +kernel) (c_FA_sumWith hC x1 x3  M sz (d - 1) (by omega)) (by omega) ⟨rfl, rfl⟩ rfl (Nat.le_of_ble_eq_true rfl) (Nat.le_of_ble_eq_true rfl) rfl rfl rfl (Nat.le_of_ble_eq_true rfl) ⟨Nat.le_of_ble_eq_true rfl, Nat.le_of_ble_eq_true rfl⟩ (gs_Ip ?_)
        refine gb_run 3 (pc2 := 44) (ls2 := [(0, .ref (39)), (1, .int (x1)), (2, .int (x2)), (3, .int (x3))]) (st2 := [.int (x1), .ref (43), .int (FA_sumWith x1 x3 M)]) (M2 := M) hC hqX5_choose rfl ?_
        refine gz_cSN (host := "HoopHours") (z := qX11_at) (av := [.ref (43), .int (x1)]) (rest := [.int (FA_sumWith x1 x3 M)]) (pl := 1160) hC hqX5_choose rfl kX11_at (by decide +kernel) (c_at hC 43 256 _ x1 M sz (d - 1) (by omega) (Nat.le_of_ble_eq_true rfl) rfl (Nat.le_of_ble_eq_true rfl)) (by omega) ⟨rfl, rfl⟩ rfl rfl (Nat.le_of_ble_eq_true rfl) ⟨Nat.le_of_ble_eq_true rfl, Nat.le_of_ble_eq_true rfl⟩ (gs_Ip (x := r_at (M 43) 256 x1) ?_)
        refine gb_icmp_ne hqX5_choose rfl (fun h5 => ?_) (fun h5 => ?_)
        ·
          have hr := g_if0 h5 hr
          refine gb_run 2 (pc2 := 14) (ls2 := [(3, .int (x3 + (1 : Int32))), (0, .ref (39)), (1, .int (x1)), (2, .int (x2))]) (st2 := []) (M2 := M) hC hqX5_choose rfl ?_
          refine gw_pick [1, 2, 3, 0] (ls2 := [(0, .ref (39)), (1, .int (x1)), (2, .int (x2)), (3, .int (x3 + (1 : Int32)))]) rfl ?_
          exact ih x1 x2 (x3 + (1 : Int32)) M hr
        ·
          have hr := g_if1 h5 hr
          refine gb_run 5 (pc2 := 59) (ls2 := [(0, .ref (39)), (1, .int (x1)), (2, .int (x2)), (3, .int (x3))]) (st2 := [.int (x2), .ref (41), .ref (40)]) (M2 := M) hC hqX5_choose rfl ?_
          refine gz_cSN (host := "HoopHours") (z := qX11_at) (av := [.ref (41), .int (x2)]) (rest := [.ref (40)]) (pl := 1160) hC hqX5_choose rfl kX11_at (by decide +kernel) (c_at hC 41 8 _ x2 M sz (d - 1) (by omega) (Nat.le_of_ble_eq_true rfl) rfl (Nat.le_of_ble_eq_true rfl)) (by omega) ⟨rfl, rfl⟩ rfl rfl (Nat.le_of_ble_eq_true rfl) ⟨Nat.le_of_ble_eq_true rfl, Nat.le_of_ble_eq_true rfl⟩ (gs_Ip (x := r_at (M 41) 8 x2) ?_)
          refine gb_run 1 (pc2 := 63) (ls2 := [(0, .ref (39)), (1, .int (x1)), (2, .int (x2)), (3, .int (x3))]) (st2 := [.int (x3), .int (r_at (M 41) 8 x2), .ref (40)]) (M2 := M) hC hqX5_choose rfl ?_
          refine gz_cSN (host := "HoopHours") (z := qX11_put) (av := [.ref (40), .int (r_at (M 41) 8 x2), .int (x3)]) (rest := []) (pl := 1155) hC hqX5_choose rfl kX11_put (by decide +kernel) (c_put hC 40 8 _ (r_at (M 41) 8 x2) x3 M sz (d - 1) (by omega) (Nat.le_of_ble_eq_true rfl) rfl (Nat.le_of_ble_eq_true rfl)) (by omega) ⟨rfl, rfl⟩ rfl rfl (Nat.le_of_ble_eq_true rfl) ⟨Nat.le_of_ble_eq_true rfl, Nat.le_of_ble_eq_true rfl⟩ (gs_V ?_)
          refine g_letP (P := fun M6 => GW l C qX5_choose d (gQg 956 g_S0 (qV R) sz) gN 0 0 66 [(0, .ref (39)), (1, .int (x1)), (2, .int (x2)), (3, .int (x3))] [] (956, g_S0, M6, sz)) hr (fun M6 hr => ?_)
          refine gb_run 9 (pc2 := 4) (ls2 := [(2, .int (x2 + (1 : Int32))), (1, .int (x1 ||| ((1 : Int32) <<< (x3 &&& 31)))), (0, .ref (39)), (3, .int (x3))]) (st2 := []) (M2 := M6) hC hqX5_choose rfl ?_
          refine gw_pick [2, 1, 0] (ls2 := [(0, .ref (39)), (1, .int (x1 ||| ((1 : Int32) <<< (x3 &&& 31)))), (2, .int (x2 + (1 : Int32)))]) rfl ?_
          exact hc4 (x1 ||| ((1 : Int32) <<< (x3 &&& 31))) (x2 + (1 : Int32)) M6 hr
def FA_choose_L4 : Nat → Int32 → Int32 → gM → Option (gM)
  | 0, _, _, _ => none
  | k + 1, x1, x2, M =>
  if (M 39 6) ≤ x2 then (some M) else (FA_choose_L14 (FA_choose_L4 k) 1000 x1 x2 (0 : Int32) M)
set_option maxRecDepth 20000 in
theorem c_FA_choose_L4 {l : Launch} {C : gC} (hC : g_ctx l C) (sz d : Nat) (hd : 3 ≤ d) (R : gM) : ∀ (k : Nat) (x1 : Int32) (x2 : Int32) (M : gM), FA_choose_L4 k x1 x2 M = some R → GW l C qX5_choose d (gQg 956 g_S0 (qV R) sz) gN 0 0 4 [(0, .ref (39)), (1, .int (x1)), (2, .int (x2))] [] (956, g_S0, M, sz) := by
  intro k
  induction k with
  | zero => intro x1 x2 M hr; exact nomatch (show (none : Option (gM)) = some R from hr)
  | succ k ih =>
    intro x1 x2 M hr
    unfold FA_choose_L4 at hr
    refine gb_run 3 (pc2 := 9) (ls2 := [(0, .ref (39)), (1, .int (x1)), (2, .int (x2))]) (st2 := [.int (M 39 6), .int (x2)]) (M2 := M) hC hqX5_choose rfl ?_
    refine gb_icmp_ge hqX5_choose rfl (fun h1 => ?_) (fun h1 => ?_)
    ·
      have hr := g_if1 h1 hr
      refine gb_vret hqX5_choose rfl rfl (Nat.le_of_ble_eq_true rfl) (Nat.le_of_ble_eq_true rfl) ?_
      exact gl_V hr
    ·
      have hr := g_if0 h1 hr
      refine gb_run 2 (pc2 := 14) (ls2 := [(3, .int (0)), (0, .ref (39)), (1, .int (x1)), (2, .int (x2))]) (st2 := []) (M2 := M) hC hqX5_choose rfl ?_
      refine gw_pick [1, 2, 3, 0] (ls2 := [(0, .ref (39)), (1, .int (x1)), (2, .int (x2)), (3, .int (0))]) rfl ?_
      exact c_FA_choose_L14 hC sz d (by omega) R (FA_choose_L4 k) ih 1000 x1 x2 (0 : Int32) M hr
def FA_choose  (M : gM) : Option (gM) :=
  FA_choose_L4 1000 (0 : Int32) (0 : Int32) M
set_option maxRecDepth 20000 in
theorem c_FA_choose {l : Launch} {C : gC} (hC : g_ctx l C)   (M : gM) (sz d : Nat) (hd : 3 ≤ d) (R : gM) (hr : FA_choose M = some R) : gPg l C qX5_choose d [.ref (39)] 956 g_S0 M sz (qV R) := by
  refine gPg.of (ls := [(0, .ref (39))]) (by decide +kernel) (Nat.le_of_ble_eq_true rfl) rfl ?_
  unfold FA_choose at hr
  refine gb_run 4 (pc2 := 4) (ls2 := [(2, .int (0)), (1, .int (0)), (0, .ref (39))]) (st2 := []) (M2 := M) hC hqX5_choose rfl ?_
  refine gw_pick [2, 1, 0] (ls2 := [(0, .ref (39)), (1, .int (0)), (2, .int (0))]) rfl ?_
  exact c_FA_choose_L4 hC sz d (by omega) R 1000 (0 : Int32) (0 : Int32) M hr
def FA_solve (hoops : Int32) (m : Int32) (M : gM) : Option (gM) :=
  g_let (r_fill M 40 8 (-1 : Int32)) fun M1 => (FA_list hoops (g_set M1 39 7 (-1 : Int32))).bind fun s2 => if (s2 39 6) ≤ (s2 3 6) then ((FA_measure m s2).bind fun s4 => (FA_findBests s4).bind fun s5 => (FA_choose (g_set s5 39 7 (r_at (s5 43) 256 (0 : Int32)))).bind fun s6 => some s6) else (some s2)
set_option maxRecDepth 20000 in
theorem c_FA_solve {l : Launch} {C : gC} (hC : g_ctx l C) (hoops : Int32) (m : Int32)  (M : gM) (sz d : Nat) (hd : 6 ≤ d) (R : gM) (hr : FA_solve hoops m M = some R) : gPg l C qX5_solve d [.ref (39), .ref (48), .int (hoops), .int (m)] 956 g_S0 M sz (qV R) := by
  refine gPg.of (ls := [(0, .ref (39)), (1, .ref (48)), (2, .int (hoops)), (3, .int (m))]) (by decide +kernel) (Nat.le_of_ble_eq_true rfl) rfl ?_
  unfold FA_solve at hr
  refine gb_run 3 (pc2 := 5) (ls2 := [(0, .ref (39)), (1, .ref (48)), (2, .int (hoops)), (3, .int (m))]) (st2 := [.int (-1), .ref (40)]) (M2 := M) hC hqX5_solve rfl ?_
  refine gz_cSN (host := "HoopHours") (z := qX11_fill) (av := [.ref (40), .int (-1)]) (rest := []) (pl := 1147) hC hqX5_solve rfl kX11_fill (by decide +kernel) (c_fill hC 956 g_S0 40 8 _ (-1 : Int32) M sz (d - 1) (by omega) (Nat.le_of_ble_eq_true rfl) rfl (Nat.le_of_ble_eq_true rfl)) (by omega) ⟨rfl, rfl⟩ rfl rfl (Nat.le_of_ble_eq_true rfl) ⟨Nat.le_of_ble_eq_true rfl, Nat.le_of_ble_eq_true rfl⟩ (gs_V ?_)
  refine g_letP (P := fun M1 => GW l C qX5_solve d (gQg 956 g_S0 (qV R) sz) gN 0 0 8 [(0, .ref (39)), (1, .ref (48)), (2, .int (hoops)), (3, .int (m))] [] (956, g_S0, M1, sz)) hr (fun M1 hr => ?_)
  refine gb_run 5 (pc2 := 15) (ls2 := [(0, .ref (39)), (1, .ref (48)), (2, .int (hoops)), (3, .int (m))]) (st2 := [.int (hoops), .ref (39)]) (M2 := g_set M1 39 7 (-1 : Int32)) hC hqX5_solve rfl ?_
  obtain ⟨s2, es2, hr⟩ := g_bd hr
  refine gz_cV (z := qX5_list) (a := 39) (av := [.int (hoops)]) (rest := []) (pl := 1148) hC hqX5_solve rfl kX5_list sX5_list (by decide +kernel) (c_FA_list hC hoops  (g_set M1 39 7 (-1 : Int32)) sz (d - 1) (by omega) s2 es2) (by omega) ⟨rfl, rfl⟩ rfl (Nat.le_of_ble_eq_true rfl) (Nat.le_of_ble_eq_true rfl) rfl rfl rfl (Nat.le_of_ble_eq_true rfl) ⟨Nat.le_of_ble_eq_true rfl, Nat.le_of_ble_eq_true rfl⟩ (gs_V ?_)
  refine gb_run 5 (pc2 := 29) (ls2 := [(0, .ref (39)), (1, .ref (48)), (2, .int (hoops)), (3, .int (m))]) (st2 := [.int (s2 3 6), .int (s2 39 6)]) (M2 := s2) hC hqX5_solve rfl ?_
  refine gb_icmp_le hqX5_solve rfl (fun h3 => ?_) (fun h3 => ?_)
  ·
    have hr := g_if1 h3 hr
    refine gb_run 3 (pc2 := 36) (ls2 := [(0, .ref (39)), (1, .ref (48)), (2, .int (hoops)), (3, .int (m))]) (st2 := [.int (m), .ref (48), .ref (39)]) (M2 := s2) hC hqX5_solve rfl ?_
    obtain ⟨s4, es4, hr⟩ := g_bd hr
    refine gz_cV (z := qX5_measure) (a := 39) (av := [.ref (48), .int (m)]) (rest := []) (pl := 1156) hC hqX5_solve rfl kX5_measure sX5_measure (by decide +kernel) (c_FA_measure hC m  s2 sz (d - 1) (by omega) s4 es4) (by omega) ⟨rfl, rfl⟩ rfl (Nat.le_of_ble_eq_true rfl) (Nat.le_of_ble_eq_true rfl) rfl rfl rfl (Nat.le_of_ble_eq_true rfl) ⟨Nat.le_of_ble_eq_true rfl, Nat.le_of_ble_eq_true rfl⟩ (gs_V ?_)
    refine gb_run 1 (pc2 := 40) (ls2 := [(0, .ref (39)), (1, .ref (48)), (2, .int (hoops)), (3, .int (m))]) (st2 := [.ref (39)]) (M2 := s4) hC hqX5_solve rfl ?_
    obtain ⟨s5, es5, hr⟩ := g_bd hr
    refine gz_cV (z := qX5_findBests) (a := 39) (av := []) (rest := []) (pl := 1165) hC hqX5_solve rfl kX5_findBests sX5_findBests (by decide +kernel) (c_FA_findBests hC   s4 sz (d - 1) (by omega) s5 es5) (by omega) ⟨rfl, rfl⟩ rfl (Nat.le_of_ble_eq_true rfl) (Nat.le_of_ble_eq_true rfl) rfl rfl rfl (Nat.le_of_ble_eq_true rfl) ⟨Nat.le_of_ble_eq_true rfl, Nat.le_of_ble_eq_true rfl⟩ (gs_V ?_)
    refine gb_run 4 (pc2 := 49) (ls2 := [(0, .ref (39)), (1, .ref (48)), (2, .int (hoops)), (3, .int (m))]) (st2 := [.int (0), .ref (43), .ref (39)]) (M2 := s5) hC hqX5_solve rfl ?_
    refine gz_cSN (host := "HoopHours") (z := qX11_at) (av := [.ref (43), .int (0)]) (rest := [.ref (39)]) (pl := 1160) hC hqX5_solve rfl kX11_at (by decide +kernel) (c_at hC 43 256 _ (0 : Int32) s5 sz (d - 1) (by omega) (Nat.le_of_ble_eq_true rfl) rfl (Nat.le_of_ble_eq_true rfl)) (by omega) ⟨rfl, rfl⟩ rfl rfl (Nat.le_of_ble_eq_true rfl) ⟨Nat.le_of_ble_eq_true rfl, Nat.le_of_ble_eq_true rfl⟩ (gs_Ip (x := r_at (s5 43) 256 (0 : Int32)) ?_)
    refine gb_run 2 (pc2 := 56) (ls2 := [(0, .ref (39)), (1, .ref (48)), (2, .int (hoops)), (3, .int (m))]) (st2 := [.ref (39)]) (M2 := g_set s5 39 7 (r_at (s5 43) 256 (0 : Int32))) hC hqX5_solve rfl ?_
    obtain ⟨s6, es6, hr⟩ := g_bd hr
    refine gz_cV (z := qX5_choose) (a := 39) (av := []) (rest := []) (pl := 1182) hC hqX5_solve rfl kX5_choose sX5_choose (by decide +kernel) (c_FA_choose hC   (g_set s5 39 7 (r_at (s5 43) 256 (0 : Int32))) sz (d - 1) (by omega) s6 es6) (by omega) ⟨rfl, rfl⟩ rfl (Nat.le_of_ble_eq_true rfl) (Nat.le_of_ble_eq_true rfl) rfl rfl rfl (Nat.le_of_ble_eq_true rfl) ⟨Nat.le_of_ble_eq_true rfl, Nat.le_of_ble_eq_true rfl⟩ (gs_V ?_)
    refine gb_vret hqX5_solve rfl rfl (Nat.le_of_ble_eq_true rfl) (Nat.le_of_ble_eq_true rfl) ?_
    exact gl_V hr
  ·
    have hr := g_if0 h3 hr
    refine gb_vret hqX5_solve rfl rfl (Nat.le_of_ble_eq_true rfl) (Nat.le_of_ble_eq_true rfl) ?_
    exact gl_V hr
