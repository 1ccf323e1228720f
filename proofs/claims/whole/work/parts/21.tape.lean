/-! The Tape, decompiled. -/
def F_hasBit (b : Int32) (k : Int32) : Int32 :=
  if ((b >>> (k &&& 31)) &&& (1 : Int32)) = (1 : Int32) then 1 else 0
set_option maxRecDepth 20000 in
theorem c_F_hasBit {l : Launch} {C : gC} (hC : g_ctx l C) (b : Int32) (k : Int32)  (M : gM) (sz d : Nat) (hd : 1 ≤ d) : gPg l C qX11_hasBit d [.int (b), .int (k)] 956 g_S0 M sz (qZp M (F_hasBit b k)) := by
  refine gPg.of (ls := [(0, .int (b)), (1, .int (k))]) (by decide +kernel) (Nat.le_of_ble_eq_true rfl) rfl ?_
  obtain ⟨R, hr⟩ : ∃ R, F_hasBit b k = R := ⟨_, rfl⟩
  rw [hr]
  unfold F_hasBit at hr
  refine gb_run 6 (pc2 := 6) (ls2 := [(0, .int (b)), (1, .int (k))]) (st2 := [.int (1), .int ((b >>> (k &&& 31)) &&& (1 : Int32))]) (M2 := M) hC hqX11_hasBit rfl ?_
  refine gb_icmp_ne hqX11_hasBit rfl (fun h1 => ?_) (fun h1 => ?_)
  ·
    have hr := g_if0 h1 hr
    refine gb_run 1 (pc2 := 14) (ls2 := [(0, .int (b)), (1, .int (k))]) (st2 := [.int (0)]) (M2 := M) hC hqX11_hasBit rfl ?_
    refine gb_zret hqX11_hasBit rfl rfl (Nat.le_of_ble_eq_true rfl) (Nat.le_of_ble_eq_true rfl) (Or.inl rfl) ?_
    exact gl_Zt (Or.inl rfl) hr
  ·
    have hr := g_if1 h1 hr
    refine gb_run 2 (pc2 := 14) (ls2 := [(0, .int (b)), (1, .int (k))]) (st2 := [.int (1)]) (M2 := M) hC hqX11_hasBit rfl ?_
    refine gb_zret hqX11_hasBit rfl rfl (Nat.le_of_ble_eq_true rfl) (Nat.le_of_ble_eq_true rfl) (Or.inr rfl) ?_
    exact gl_Zt (Or.inr rfl) hr
def F_allOf (n : Int32) : Int32 :=
  ((1 : Int32) <<< (n &&& 31)) - (1 : Int32)
set_option maxRecDepth 20000 in
theorem c_F_allOf {l : Launch} {C : gC} (hC : g_ctx l C) (n : Int32)  (M : gM) (sz d : Nat) (hd : 1 ≤ d) : gPg l C qX11_allOf d [.int (n)] 956 g_S0 M sz (qIp M (F_allOf n)) := by
  refine gPg.of (ls := [(0, .int (n))]) (by decide +kernel) (Nat.le_of_ble_eq_true rfl) rfl ?_
  obtain ⟨R, hr⟩ : ∃ R, F_allOf n = R := ⟨_, rfl⟩
  rw [hr]
  unfold F_allOf at hr
  refine gb_run 5 (pc2 := 5) (ls2 := [(0, .int (n))]) (st2 := [.int (((1 : Int32) <<< (n &&& 31)) - (1 : Int32))]) (M2 := M) hC hqX11_allOf rfl ?_
  refine gb_iret hqX11_allOf rfl rfl (Nat.le_of_ble_eq_true rfl) (Nat.le_of_ble_eq_true rfl) ?_
  exact gl_It hr
def F_isDigit (c : Int32) : Int32 :=
  if c < (48 : Int32) then 0 else (if (57 : Int32) < c then 0 else 1)
set_option maxRecDepth 20000 in
theorem c_F_isDigit {l : Launch} {C : gC} (hC : g_ctx l C) (c : Int32)  (M : gM) (sz d : Nat) (hd : 1 ≤ d) : gPg l C qX10_isDigit d [.int (c)] 956 g_S0 M sz (qZp M (F_isDigit c)) := by
  refine gPg.of (ls := [(0, .int (c))]) (by decide +kernel) (Nat.le_of_ble_eq_true rfl) rfl ?_
  obtain ⟨R, hr⟩ : ∃ R, F_isDigit c = R := ⟨_, rfl⟩
  rw [hr]
  unfold F_isDigit at hr
  refine gb_run 2 (pc2 := 3) (ls2 := [(0, .int (c))]) (st2 := [.int (48), .int (c)]) (M2 := M) hC hqX10_isDigit rfl ?_
  refine gb_icmp_lt hqX10_isDigit rfl (fun h1 => ?_) (fun h1 => ?_)
  ·
    have hr := g_if1 h1 hr
    refine gb_run 1 (pc2 := 17) (ls2 := [(0, .int (c))]) (st2 := [.int (0)]) (M2 := M) hC hqX10_isDigit rfl ?_
    refine gb_zret hqX10_isDigit rfl rfl (Nat.le_of_ble_eq_true rfl) (Nat.le_of_ble_eq_true rfl) (Or.inl rfl) ?_
    exact gl_Zt (Or.inl rfl) hr
  ·
    have hr := g_if0 h1 hr
    refine gb_run 2 (pc2 := 9) (ls2 := [(0, .int (c))]) (st2 := [.int (57), .int (c)]) (M2 := M) hC hqX10_isDigit rfl ?_
    refine gb_icmp_gt hqX10_isDigit rfl (fun h2 => ?_) (fun h2 => ?_)
    ·
      have hr := g_if1 h2 hr
      refine gb_run 1 (pc2 := 17) (ls2 := [(0, .int (c))]) (st2 := [.int (0)]) (M2 := M) hC hqX10_isDigit rfl ?_
      refine gb_zret hqX10_isDigit rfl rfl (Nat.le_of_ble_eq_true rfl) (Nat.le_of_ble_eq_true rfl) (Or.inl rfl) ?_
      exact gl_Zt (Or.inl rfl) hr
    ·
      have hr := g_if0 h2 hr
      refine gb_run 2 (pc2 := 17) (ls2 := [(0, .int (c))]) (st2 := [.int (1)]) (M2 := M) hC hqX10_isDigit rfl ?_
      refine gb_zret hqX10_isDigit rfl rfl (Nat.le_of_ble_eq_true rfl) (Nat.le_of_ble_eq_true rfl) (Or.inr rfl) ?_
      exact gl_Zt (Or.inr rfl) hr
def F_isSmall (c : Int32) : Int32 :=
  if c < (97 : Int32) then 0 else (if (122 : Int32) < c then 0 else 1)
set_option maxRecDepth 20000 in
theorem c_F_isSmall {l : Launch} {C : gC} (hC : g_ctx l C) (c : Int32)  (M : gM) (sz d : Nat) (hd : 1 ≤ d) : gPg l C qX10_isSmall d [.int (c)] 956 g_S0 M sz (qZp M (F_isSmall c)) := by
  refine gPg.of (ls := [(0, .int (c))]) (by decide +kernel) (Nat.le_of_ble_eq_true rfl) rfl ?_
  obtain ⟨R, hr⟩ : ∃ R, F_isSmall c = R := ⟨_, rfl⟩
  rw [hr]
  unfold F_isSmall at hr
  refine gb_run 2 (pc2 := 3) (ls2 := [(0, .int (c))]) (st2 := [.int (97), .int (c)]) (M2 := M) hC hqX10_isSmall rfl ?_
  refine gb_icmp_lt hqX10_isSmall rfl (fun h1 => ?_) (fun h1 => ?_)
  ·
    have hr := g_if1 h1 hr
    refine gb_run 1 (pc2 := 17) (ls2 := [(0, .int (c))]) (st2 := [.int (0)]) (M2 := M) hC hqX10_isSmall rfl ?_
    refine gb_zret hqX10_isSmall rfl rfl (Nat.le_of_ble_eq_true rfl) (Nat.le_of_ble_eq_true rfl) (Or.inl rfl) ?_
    exact gl_Zt (Or.inl rfl) hr
  ·
    have hr := g_if0 h1 hr
    refine gb_run 2 (pc2 := 9) (ls2 := [(0, .int (c))]) (st2 := [.int (122), .int (c)]) (M2 := M) hC hqX10_isSmall rfl ?_
    refine gb_icmp_gt hqX10_isSmall rfl (fun h2 => ?_) (fun h2 => ?_)
    ·
      have hr := g_if1 h2 hr
      refine gb_run 1 (pc2 := 17) (ls2 := [(0, .int (c))]) (st2 := [.int (0)]) (M2 := M) hC hqX10_isSmall rfl ?_
      refine gb_zret hqX10_isSmall rfl rfl (Nat.le_of_ble_eq_true rfl) (Nat.le_of_ble_eq_true rfl) (Or.inl rfl) ?_
      exact gl_Zt (Or.inl rfl) hr
    ·
      have hr := g_if0 h2 hr
      refine gb_run 2 (pc2 := 17) (ls2 := [(0, .int (c))]) (st2 := [.int (1)]) (M2 := M) hC hqX10_isSmall rfl ?_
      refine gb_zret hqX10_isSmall rfl rfl (Nat.le_of_ble_eq_true rfl) (Nat.le_of_ble_eq_true rfl) (Or.inr rfl) ?_
      exact gl_Zt (Or.inr rfl) hr
def F_push_L3 (v : Int32) : Nat → Int32 → gM → Option (gM)
  | 0, _, _ => none
  | k + 1, x2, M =>
  if x2 < (0 : Int32) then (some M) else (g_let (r_put M 2 600 (M 1 1) (((v.toUInt32 >>> (x2.toUInt32 &&& Int32.toUInt32 31)).toInt32) &&& (255 : Int32))) fun M2 => F_push_L3 v k (x2 + (-8 : Int32)) (g_set M2 1 1 ((M2 1 1) + (1 : Int32))))
set_option maxRecDepth 20000 in
theorem c_F_push_L3 {l : Launch} {C : gC} (hC : g_ctx l C) (v : Int32) (sz d : Nat) (hd : 2 ≤ d) (R : gM) : ∀ (k : Nat) (x2 : Int32) (M : gM), F_push_L3 v k x2 M = some R → GW l C qX10_push d (gQg 956 g_S0 (qV R) sz) gN 0 0 3 [(0, .ref (1)), (1, .int (v)), (2, .int (x2))] [] (956, g_S0, M, sz) := by
  intro k
  induction k with
  | zero => intro x2 M hr; exact nomatch (show (none : Option (gM)) = some R from hr)
  | succ k ih =>
    intro x2 M hr
    unfold F_push_L3 at hr
    refine gb_run 1 (pc2 := 4) (ls2 := [(0, .ref (1)), (1, .int (v)), (2, .int (x2))]) (st2 := [.int (x2)]) (M2 := M) hC hqX10_push rfl ?_
    refine gb_if_lt hqX10_push rfl (fun h1 => ?_) (fun h1 => ?_)
    ·
      have hr := g_if1 h1 hr
      refine gb_vret hqX10_push rfl rfl (Nat.le_of_ble_eq_true rfl) (Nat.le_of_ble_eq_true rfl) ?_
      exact gl_V hr
    ·
      have hr := g_if0 h1 hr
      refine gb_run 9 (pc2 := 22) (ls2 := [(0, .ref (1)), (1, .int (v)), (2, .int (x2))]) (st2 := [.int (((v.toUInt32 >>> (x2.toUInt32 &&& Int32.toUInt32 31)).toInt32) &&& (255 : Int32)), .int (M 1 1), .ref (2)]) (M2 := M) hC hqX10_push rfl ?_
      refine gz_cSN (host := "HoopHours") (z := qX11_put) (av := [.ref (2), .int (M 1 1), .int (((v.toUInt32 >>> (x2.toUInt32 &&& Int32.toUInt32 31)).toInt32) &&& (255 : Int32))]) (rest := []) (pl := 542) hC hqX10_push rfl kX11_put (by decide +kernel) (c_put hC 2 600 _ (M 1 1) (((v.toUInt32 >>> (x2.toUInt32 &&& Int32.toUInt32 31)).toInt32) &&& (255 : Int32)) M sz (d - 1) (by omega) (Nat.le_of_ble_eq_true rfl) rfl (Nat.le_of_ble_eq_true rfl)) (by omega) ⟨rfl, rfl⟩ rfl rfl (Nat.le_of_ble_eq_true rfl) ⟨Nat.le_of_ble_eq_true rfl, Nat.le_of_ble_eq_true rfl⟩ (gs_V ?_)
      refine g_letP (P := fun M2 => GW l C qX10_push d (gQg 956 g_S0 (qV R) sz) gN 0 0 25 [(0, .ref (1)), (1, .int (v)), (2, .int (x2))] [] (956, g_S0, M2, sz)) hr (fun M2 hr => ?_)
      refine gb_run 8 (pc2 := 3) (ls2 := [(2, .int (x2 + (-8 : Int32))), (0, .ref (1)), (1, .int (v))]) (st2 := []) (M2 := g_set M2 1 1 ((M2 1 1) + (1 : Int32))) hC hqX10_push rfl ?_
      refine gw_pick [1, 2, 0] (ls2 := [(0, .ref (1)), (1, .int (v)), (2, .int (x2 + (-8 : Int32)))]) rfl ?_
      exact ih (x2 + (-8 : Int32)) (g_set M2 1 1 ((M2 1 1) + (1 : Int32))) hr
def F_push (v : Int32) (M : gM) : Option (gM) :=
  F_push_L3 v 10 (24 : Int32) M
set_option maxRecDepth 20000 in
theorem c_F_push {l : Launch} {C : gC} (hC : g_ctx l C) (v : Int32)  (M : gM) (sz d : Nat) (hd : 2 ≤ d) (R : gM) (hr : F_push v M = some R) : gPg l C qX10_push d [.ref (1), .int (v)] 956 g_S0 M sz (qV R) := by
  refine gPg.of (ls := [(0, .ref (1)), (1, .int (v))]) (by decide +kernel) (Nat.le_of_ble_eq_true rfl) rfl ?_
  unfold F_push at hr
  refine gb_run 2 (pc2 := 3) (ls2 := [(2, .int (24)), (0, .ref (1)), (1, .int (v))]) (st2 := []) (M2 := M) hC hqX10_push rfl ?_
  refine gw_pick [1, 2, 0] (ls2 := [(0, .ref (1)), (1, .int (v)), (2, .int (24))]) rfl ?_
  exact c_F_push_L3 hC v sz d (by omega) R 10 (24 : Int32) M hr
def F_open (e : Int32) (M : gM) : Option (gM) :=
  some (g_set (g_set (g_set (g_set (g_set M 1 2 e) 1 3 (0 : Int32)) 1 1 (0 : Int32)) 1 5 (0 : Int32)) 1 6 (-1 : Int32))
set_option maxRecDepth 20000 in
theorem c_F_open {l : Launch} {C : gC} (hC : g_ctx l C) (e : Int32)  (M : gM) (sz d : Nat) (hd : 1 ≤ d) (R : gM) (hr : F_open e M = some R) : gPg l C qX10_open d [.ref (1), .int (e)] 956 g_S0 M sz (qV R) := by
  refine gPg.of (ls := [(0, .ref (1)), (1, .int (e))]) (by decide +kernel) (Nat.le_of_ble_eq_true rfl) rfl ?_
  unfold F_open at hr
  refine gb_run 15 (pc2 := 25) (ls2 := [(0, .ref (1)), (1, .int (e))]) (st2 := []) (M2 := g_set (g_set (g_set (g_set (g_set M 1 2 e) 1 3 (0 : Int32)) 1 1 (0 : Int32)) 1 5 (0 : Int32)) 1 6 (-1 : Int32)) hC hqX10_open rfl ?_
  refine gb_vret hqX10_open rfl rfl (Nat.le_of_ble_eq_true rfl) (Nat.le_of_ble_eq_true rfl) ?_
  exact gl_V hr
def F_faulty  (M : gM) : Int32 :=
  if (M 1 5) = (0 : Int32) then 0 else 1
set_option maxRecDepth 20000 in
theorem c_F_faulty {l : Launch} {C : gC} (hC : g_ctx l C)   (M : gM) (sz d : Nat) (hd : 1 ≤ d) : gPg l C qX10_faulty d [.ref (1)] 956 g_S0 M sz (qZp M (F_faulty M)) := by
  refine gPg.of (ls := [(0, .ref (1))]) (by decide +kernel) (Nat.le_of_ble_eq_true rfl) rfl ?_
  obtain ⟨R, hr⟩ : ∃ R, F_faulty M = R := ⟨_, rfl⟩
  rw [hr]
  unfold F_faulty at hr
  refine gb_run 2 (pc2 := 4) (ls2 := [(0, .ref (1))]) (st2 := [.int (M 1 5)]) (M2 := M) hC hqX10_faulty rfl ?_
  refine gb_if_eq hqX10_faulty rfl (fun h1 => ?_) (fun h1 => ?_)
  ·
    have hr := g_if1 h1 hr
    refine gb_run 1 (pc2 := 12) (ls2 := [(0, .ref (1))]) (st2 := [.int (0)]) (M2 := M) hC hqX10_faulty rfl ?_
    refine gb_zret hqX10_faulty rfl rfl (Nat.le_of_ble_eq_true rfl) (Nat.le_of_ble_eq_true rfl) (Or.inl rfl) ?_
    exact gl_Zt (Or.inl rfl) hr
  ·
    have hr := g_if0 h1 hr
    refine gb_run 2 (pc2 := 12) (ls2 := [(0, .ref (1))]) (st2 := [.int (1)]) (M2 := M) hC hqX10_faulty rfl ?_
    refine gb_zret hqX10_faulty rfl rfl (Nat.le_of_ble_eq_true rfl) (Nat.le_of_ble_eq_true rfl) (Or.inr rfl) ?_
    exact gl_Zt (Or.inr rfl) hr
def F_fail (what : Int32) (here : Int32) (M : gM) : Option (gM) :=
  if (M 1 5) = (0 : Int32) then (some (g_set (g_set M 1 5 what) 1 6 here)) else (some M)
set_option maxRecDepth 20000 in
theorem c_F_fail {l : Launch} {C : gC} (hC : g_ctx l C) (what : Int32) (here : Int32)  (M : gM) (sz d : Nat) (hd : 1 ≤ d) (R : gM) (hr : F_fail what here M = some R) : gPg l C qX10_fail d [.ref (1), .int (what), .int (here)] 956 g_S0 M sz (qV R) := by
  refine gPg.of (ls := [(0, .ref (1)), (1, .int (what)), (2, .int (here))]) (by decide +kernel) (Nat.le_of_ble_eq_true rfl) rfl ?_
  unfold F_fail at hr
  refine gb_run 2 (pc2 := 4) (ls2 := [(0, .ref (1)), (1, .int (what)), (2, .int (here))]) (st2 := [.int (M 1 5)]) (M2 := M) hC hqX10_fail rfl ?_
  refine gb_if_ne hqX10_fail rfl (fun h1 => ?_) (fun h1 => ?_)
  ·
    have hr := g_if0 h1 hr
    refine gb_vret hqX10_fail rfl rfl (Nat.le_of_ble_eq_true rfl) (Nat.le_of_ble_eq_true rfl) ?_
    exact gl_V hr
  ·
    have hr := g_if1 h1 hr
    refine gb_run 6 (pc2 := 17) (ls2 := [(0, .ref (1)), (1, .int (what)), (2, .int (here))]) (st2 := []) (M2 := g_set (g_set M 1 5 what) 1 6 here) hC hqX10_fail rfl ?_
    refine gb_vret hqX10_fail rfl rfl (Nat.le_of_ble_eq_true rfl) (Nat.le_of_ble_eq_true rfl) ?_
    exact gl_V hr
def F_next_L0 : Nat → gM → Option (Int32 × gM)
  | 0, _ => none
  | k + 1, M =>
  if (M 1 3) < (0 : Int32) then (some (-1, M)) else (if (M 1 2) ≤ (M 1 3) then (some (-1, M)) else (if (nI 600) ≤ (M 1 3) then (some (-1, M)) else (g_ix (M 1 3) 600 fun j4 => if (M 2 j4) = (32 : Int32) then (F_next_L0 k (g_set M 1 3 ((M 1 3) + (1 : Int32)))) else (g_ix (M 1 3) 600 fun j6 => some (M 2 j6, M)))))
set_option maxRecDepth 20000 in
theorem c_F_next_L0 {l : Launch} {C : gC} (hC : g_ctx l C) (sz d : Nat) (hd : 1 ≤ d) (R : Int32 × gM) : ∀ (k : Nat) (M : gM), F_next_L0 k M = some R → GW l C qX10_next d (gQg 956 g_S0 (qI R) sz) gN 0 0 0 [(0, .ref (1))] [] (956, g_S0, M, sz) := by
  intro k
  induction k with
  | zero => intro M hr; exact nomatch (show (none : Option (Int32 × gM)) = some R from hr)
  | succ k ih =>
    intro M hr
    unfold F_next_L0 at hr
    refine gb_run 2 (pc2 := 4) (ls2 := [(0, .ref (1))]) (st2 := [.int (M 1 3)]) (M2 := M) hC hqX10_next rfl ?_
    refine gb_if_lt hqX10_next rfl (fun h1 => ?_) (fun h1 => ?_)
    ·
      have hr := g_if1 h1 hr
      refine gb_run 1 (pc2 := 68) (ls2 := [(0, .ref (1))]) (st2 := [.int (-1)]) (M2 := M) hC hqX10_next rfl ?_
      refine gb_iret hqX10_next rfl rfl (Nat.le_of_ble_eq_true rfl) (Nat.le_of_ble_eq_true rfl) ?_
      exact gl_I hr
    ·
      have hr := g_if0 h1 hr
      refine gb_run 4 (pc2 := 15) (ls2 := [(0, .ref (1))]) (st2 := [.int (M 1 2), .int (M 1 3)]) (M2 := M) hC hqX10_next rfl ?_
      refine gb_icmp_ge hqX10_next rfl (fun h2 => ?_) (fun h2 => ?_)
      ·
        have hr := g_if1 h2 hr
        refine gb_run 1 (pc2 := 68) (ls2 := [(0, .ref (1))]) (st2 := [.int (-1)]) (M2 := M) hC hqX10_next rfl ?_
        refine gb_iret hqX10_next rfl rfl (Nat.le_of_ble_eq_true rfl) (Nat.le_of_ble_eq_true rfl) ?_
        exact gl_I hr
      ·
        have hr := g_if0 h2 hr
        refine gb_run 4 (pc2 := 26) (ls2 := [(0, .ref (1))]) (st2 := [.ref (2), .int (M 1 3)]) (M2 := M) hC hqX10_next rfl ?_
        refine gb_alen hC hqX10_next rfl (Nat.le_of_ble_eq_true rfl) rfl ?_
        refine gb_icmp_ge hqX10_next rfl (fun h3 => ?_) (fun h3 => ?_)
        ·
          have hr := g_if1 h3 hr
          refine gb_run 1 (pc2 := 68) (ls2 := [(0, .ref (1))]) (st2 := [.int (-1)]) (M2 := M) hC hqX10_next rfl ?_
          refine gb_iret hqX10_next rfl rfl (Nat.le_of_ble_eq_true rfl) (Nat.le_of_ble_eq_true rfl) ?_
          exact gl_I hr
        ·
          have hr := g_if0 h3 hr
          refine gb_run 4 (pc2 := 38) (ls2 := [(0, .ref (1))]) (st2 := [.int (M 1 3), .ref (2)]) (M2 := M) hC hqX10_next rfl ?_
          obtain ⟨j4, ej4, ij4, lj4, hr⟩ := g_ixo hr
          refine gz_iaload hC hqX10_next rfl (Nat.le_of_ble_eq_true rfl) rfl ij4 ej4 ?_
          refine gb_run 1 (pc2 := 41) (ls2 := [(0, .ref (1))]) (st2 := [.int (32), .int (M 2 j4)]) (M2 := M) hC hqX10_next rfl ?_
          refine gb_icmp_eq hqX10_next rfl (fun h5 => ?_) (fun h5 => ?_)
          ·
            have hr := g_if1 h5 hr
            refine gb_run 7 (pc2 := 0) (ls2 := [(0, .ref (1))]) (st2 := []) (M2 := g_set M 1 3 ((M 1 3) + (1 : Int32))) hC hqX10_next rfl ?_
            exact ih (g_set M 1 3 ((M 1 3) + (1 : Int32))) hr
          ·
            have hr := g_if0 h5 hr
            refine gb_run 4 (pc2 := 52) (ls2 := [(0, .ref (1))]) (st2 := [.int (M 1 3), .ref (2)]) (M2 := M) hC hqX10_next rfl ?_
            obtain ⟨j6, ej6, ij6, lj6, hr⟩ := g_ixo hr
            refine gz_iaload hC hqX10_next rfl (Nat.le_of_ble_eq_true rfl) rfl ij6 ej6 ?_
            refine gb_iret hqX10_next rfl rfl (Nat.le_of_ble_eq_true rfl) (Nat.le_of_ble_eq_true rfl) ?_
            exact gl_I hr
def F_next  (M : gM) : Option (Int32 × gM) :=
  if (M 1 3) < (0 : Int32) then (some (-1, M)) else (if (M 1 2) ≤ (M 1 3) then (some (-1, M)) else (if (nI 600) ≤ (M 1 3) then (some (-1, M)) else (g_ix (M 1 3) 600 fun j4 => if (M 2 j4) = (32 : Int32) then (F_next_L0 1000 (g_set M 1 3 ((M 1 3) + (1 : Int32)))) else (g_ix (M 1 3) 600 fun j6 => some (M 2 j6, M)))))
set_option maxRecDepth 20000 in
theorem c_F_next {l : Launch} {C : gC} (hC : g_ctx l C)   (M : gM) (sz d : Nat) (hd : 1 ≤ d) (R : Int32 × gM) (hr : F_next M = some R) : gPg l C qX10_next d [.ref (1)] 956 g_S0 M sz (qI R) := by
  refine gPg.of (ls := [(0, .ref (1))]) (by decide +kernel) (Nat.le_of_ble_eq_true rfl) rfl ?_
  unfold F_next at hr
  refine gb_run 2 (pc2 := 4) (ls2 := [(0, .ref (1))]) (st2 := [.int (M 1 3)]) (M2 := M) hC hqX10_next rfl ?_
  refine gb_if_lt hqX10_next rfl (fun h1 => ?_) (fun h1 => ?_)
  ·
    have hr := g_if1 h1 hr
    refine gb_run 1 (pc2 := 68) (ls2 := [(0, .ref (1))]) (st2 := [.int (-1)]) (M2 := M) hC hqX10_next rfl ?_
    refine gb_iret hqX10_next rfl rfl (Nat.le_of_ble_eq_true rfl) (Nat.le_of_ble_eq_true rfl) ?_
    exact gl_I hr
  ·
    have hr := g_if0 h1 hr
    refine gb_run 4 (pc2 := 15) (ls2 := [(0, .ref (1))]) (st2 := [.int (M 1 2), .int (M 1 3)]) (M2 := M) hC hqX10_next rfl ?_
    refine gb_icmp_ge hqX10_next rfl (fun h2 => ?_) (fun h2 => ?_)
    ·
      have hr := g_if1 h2 hr
      refine gb_run 1 (pc2 := 68) (ls2 := [(0, .ref (1))]) (st2 := [.int (-1)]) (M2 := M) hC hqX10_next rfl ?_
      refine gb_iret hqX10_next rfl rfl (Nat.le_of_ble_eq_true rfl) (Nat.le_of_ble_eq_true rfl) ?_
      exact gl_I hr
    ·
      have hr := g_if0 h2 hr
      refine gb_run 4 (pc2 := 26) (ls2 := [(0, .ref (1))]) (st2 := [.ref (2), .int (M 1 3)]) (M2 := M) hC hqX10_next rfl ?_
      refine gb_alen hC hqX10_next rfl (Nat.le_of_ble_eq_true rfl) rfl ?_
      refine gb_icmp_ge hqX10_next rfl (fun h3 => ?_) (fun h3 => ?_)
      ·
        have hr := g_if1 h3 hr
        refine gb_run 1 (pc2 := 68) (ls2 := [(0, .ref (1))]) (st2 := [.int (-1)]) (M2 := M) hC hqX10_next rfl ?_
        refine gb_iret hqX10_next rfl rfl (Nat.le_of_ble_eq_true rfl) (Nat.le_of_ble_eq_true rfl) ?_
        exact gl_I hr
      ·
        have hr := g_if0 h3 hr
        refine gb_run 4 (pc2 := 38) (ls2 := [(0, .ref (1))]) (st2 := [.int (M 1 3), .ref (2)]) (M2 := M) hC hqX10_next rfl ?_
        obtain ⟨j4, ej4, ij4, lj4, hr⟩ := g_ixo hr
        refine gz_iaload hC hqX10_next rfl (Nat.le_of_ble_eq_true rfl) rfl ij4 ej4 ?_
        refine gb_run 1 (pc2 := 41) (ls2 := [(0, .ref (1))]) (st2 := [.int (32), .int (M 2 j4)]) (M2 := M) hC hqX10_next rfl ?_
        refine gb_icmp_eq hqX10_next rfl (fun h5 => ?_) (fun h5 => ?_)
        ·
          have hr := g_if1 h5 hr
          refine gb_run 7 (pc2 := 0) (ls2 := [(0, .ref (1))]) (st2 := []) (M2 := g_set M 1 3 ((M 1 3) + (1 : Int32))) hC hqX10_next rfl ?_
          exact c_F_next_L0 hC sz d (by omega) R 1000 (g_set M 1 3 ((M 1 3) + (1 : Int32))) hr
        ·
          have hr := g_if0 h5 hr
          refine gb_run 4 (pc2 := 52) (ls2 := [(0, .ref (1))]) (st2 := [.int (M 1 3), .ref (2)]) (M2 := M) hC hqX10_next rfl ?_
          obtain ⟨j6, ej6, ij6, lj6, hr⟩ := g_ixo hr
          refine gz_iaload hC hqX10_next rfl (Nat.le_of_ble_eq_true rfl) rfl ij6 ej6 ?_
          refine gb_iret hqX10_next rfl rfl (Nat.le_of_ble_eq_true rfl) (Nat.le_of_ble_eq_true rfl) ?_
          exact gl_I hr
def F_need (c : Int32) (M : gM) : Option (gM) :=
  (F_next M).bind fun s1 => if s1.1 = c then (some (g_set (s1.2) 1 3 (((s1.2) 1 3) + (1 : Int32)))) else ((F_fail (1 : Int32) ((s1.2) 1 3) (s1.2)).bind fun s3 => some s3)
set_option maxRecDepth 20000 in
theorem c_F_need {l : Launch} {C : gC} (hC : g_ctx l C) (c : Int32)  (M : gM) (sz d : Nat) (hd : 2 ≤ d) (R : gM) (hr : F_need c M = some R) : gPg l C qX10_need d [.ref (1), .int (c)] 956 g_S0 M sz (qV R) := by
  refine gPg.of (ls := [(0, .ref (1)), (1, .int (c))]) (by decide +kernel) (Nat.le_of_ble_eq_true rfl) rfl ?_
  unfold F_need at hr
  refine gb_run 1 (pc2 := 1) (ls2 := [(0, .ref (1)), (1, .int (c))]) (st2 := [.ref (1)]) (M2 := M) hC hqX10_need rfl ?_
  obtain ⟨s1, es1, hr⟩ := g_bd hr
  refine gz_cV (z := qX10_next) (a := 1) (av := []) (rest := []) (pl := 757) hC hqX10_need rfl kX10_next sX10_next (by decide +kernel) (c_F_next hC   M sz (d - 1) (by omega) s1 es1) (by omega) ⟨rfl, rfl⟩ rfl (Nat.le_of_ble_eq_true rfl) (Nat.le_of_ble_eq_true rfl) rfl rfl rfl (Nat.le_of_ble_eq_true rfl) ⟨Nat.le_of_ble_eq_true rfl, Nat.le_of_ble_eq_true rfl⟩ (gs_I ?_)
  refine gb_run 1 (pc2 := 5) (ls2 := [(0, .ref (1)), (1, .int (c))]) (st2 := [.int (c), .int (s1.1)]) (M2 := s1.2) hC hqX10_need rfl ?_
  refine gb_icmp_ne hqX10_need rfl (fun h2 => ?_) (fun h2 => ?_)
  ·
    have hr := g_if0 h2 hr
    refine gb_run 4 (pc2 := 27) (ls2 := [(0, .ref (1)), (1, .int (c))]) (st2 := [.int ((s1.2) 1 3), .int (1), .ref (1)]) (M2 := s1.2) hC hqX10_need rfl ?_
    obtain ⟨s3, es3, hr⟩ := g_bd hr
    refine gz_cV (z := qX10_fail) (a := 1) (av := [.int (1), .int ((s1.2) 1 3)]) (rest := []) (pl := 842) hC hqX10_need rfl kX10_fail sX10_fail (by decide +kernel) (c_F_fail hC (1 : Int32) ((s1.2) 1 3)  (s1.2) sz (d - 1) (by omega) s3 es3) (by omega) ⟨rfl, rfl⟩ rfl (Nat.le_of_ble_eq_true rfl) (Nat.le_of_ble_eq_true rfl) rfl rfl rfl (Nat.le_of_ble_eq_true rfl) ⟨Nat.le_of_ble_eq_true rfl, Nat.le_of_ble_eq_true rfl⟩ (gs_V ?_)
    refine gb_vret hqX10_need rfl rfl (Nat.le_of_ble_eq_true rfl) (Nat.le_of_ble_eq_true rfl) ?_
    exact gl_V hr
  ·
    have hr := g_if1 h2 hr
    refine gb_run 7 (pc2 := 30) (ls2 := [(0, .ref (1)), (1, .int (c))]) (st2 := []) (M2 := g_set (s1.2) 1 3 (((s1.2) 1 3) + (1 : Int32))) hC hqX10_need rfl ?_
    refine gb_vret hqX10_need rfl rfl (Nat.le_of_ble_eq_true rfl) (Nat.le_of_ble_eq_true rfl) ?_
    exact gl_V hr
def F_number_J115 (lo : Int32) (hi : Int32) (x3 : Int32) (M : gM) : Option (Int32 × gM) :=
  (F_fail (2 : Int32) (M 1 4) M).bind fun s1 => some (x3, s1)
set_option maxRecDepth 20000 in
theorem c_F_number_J115 {l : Launch} {C : gC} (hC : g_ctx l C) (lo : Int32) (hi : Int32) (sz d : Nat) (hd : 2 ≤ d) (R : Int32 × gM) (x3 : Int32) (M : gM) (hr : F_number_J115 lo hi x3 M = some R) : GW l C qX10_number d (gQg 956 g_S0 (qI R) sz) gN 0 0 115 [(0, .ref (1)), (3, .int (x3))] [] (956, g_S0, M, sz) := by
  unfold F_number_J115 at hr
  refine gb_run 4 (pc2 := 121) (ls2 := [(0, .ref (1)), (3, .int (x3))]) (st2 := [.int (M 1 4), .int (2), .ref (1)]) (M2 := M) hC hqX10_number rfl ?_
  obtain ⟨s1, es1, hr⟩ := g_bd hr
  refine gz_cV (z := qX10_fail) (a := 1) (av := [.int (2), .int (M 1 4)]) (rest := []) (pl := 842) hC hqX10_number rfl kX10_fail sX10_fail (by decide +kernel) (c_F_fail hC (2 : Int32) (M 1 4)  M sz (d - 1) (by omega) s1 es1) (by omega) ⟨rfl, rfl⟩ rfl (Nat.le_of_ble_eq_true rfl) (Nat.le_of_ble_eq_true rfl) rfl rfl rfl (Nat.le_of_ble_eq_true rfl) ⟨Nat.le_of_ble_eq_true rfl, Nat.le_of_ble_eq_true rfl⟩ (gs_V ?_)
  refine gb_run 1 (pc2 := 125) (ls2 := [(0, .ref (1)), (3, .int (x3))]) (st2 := [.int (x3)]) (M2 := s1) hC hqX10_number rfl ?_
  refine gb_iret hqX10_number rfl rfl (Nat.le_of_ble_eq_true rfl) (Nat.le_of_ble_eq_true rfl) ?_
  exact gl_I hr
def F_number_J82 (lo : Int32) (hi : Int32) (x3 : Int32) (M : gM) : Option (Int32 × gM) :=
  if (M 1 3) = (M 1 4) then ((F_fail (1 : Int32) (M 1 4) M).bind fun s4 => some (x3, s4)) else (if x3 < lo then (F_number_J115 lo hi x3 M) else (if x3 ≤ hi then (some (x3, M)) else (F_number_J115 lo hi x3 M)))
set_option maxRecDepth 20000 in
theorem c_F_number_J82 {l : Launch} {C : gC} (hC : g_ctx l C) (lo : Int32) (hi : Int32) (sz d : Nat) (hd : 2 ≤ d) (R : Int32 × gM) (x3 : Int32) (M : gM) (hr : F_number_J82 lo hi x3 M = some R) : GW l C qX10_number d (gQg 956 g_S0 (qI R) sz) gN 0 0 82 [(0, .ref (1)), (1, .int (lo)), (2, .int (hi)), (3, .int (x3))] [] (956, g_S0, M, sz) := by
  unfold F_number_J82 at hr
  refine gb_run 4 (pc2 := 90) (ls2 := [(0, .ref (1)), (1, .int (lo)), (2, .int (hi)), (3, .int (x3))]) (st2 := [.int (M 1 4), .int (M 1 3)]) (M2 := M) hC hqX10_number rfl ?_
  refine gb_icmp_ne hqX10_number rfl (fun h1 => ?_) (fun h1 => ?_)
  ·
    have hr := g_if0 h1 hr
    refine gb_run 2 (pc2 := 107) (ls2 := [(0, .ref (1)), (1, .int (lo)), (2, .int (hi)), (3, .int (x3))]) (st2 := [.int (lo), .int (x3)]) (M2 := M) hC hqX10_number rfl ?_
    refine gb_icmp_lt hqX10_number rfl (fun h2 => ?_) (fun h2 => ?_)
    ·
      have hr := g_if1 h2 hr
      refine gw_pick [0, 3] (ls2 := [(0, .ref (1)), (3, .int (x3))]) rfl ?_
      exact c_F_number_J115 hC lo hi sz d (by omega) R x3 M hr
    ·
      have hr := g_if0 h2 hr
      refine gb_run 2 (pc2 := 112) (ls2 := [(0, .ref (1)), (1, .int (lo)), (2, .int (hi)), (3, .int (x3))]) (st2 := [.int (hi), .int (x3)]) (M2 := M) hC hqX10_number rfl ?_
      refine gb_icmp_le hqX10_number rfl (fun h3 => ?_) (fun h3 => ?_)
      ·
        have hr := g_if1 h3 hr
        refine gb_run 1 (pc2 := 125) (ls2 := [(0, .ref (1)), (1, .int (lo)), (2, .int (hi)), (3, .int (x3))]) (st2 := [.int (x3)]) (M2 := M) hC hqX10_number rfl ?_
        refine gb_iret hqX10_number rfl rfl (Nat.le_of_ble_eq_true rfl) (Nat.le_of_ble_eq_true rfl) ?_
        exact gl_I hr
      ·
        have hr := g_if0 h3 hr
        refine gw_pick [0, 3] (ls2 := [(0, .ref (1)), (3, .int (x3))]) rfl ?_
        exact c_F_number_J115 hC lo hi sz d (by omega) R x3 M hr
  ·
    have hr := g_if1 h1 hr
    refine gb_run 4 (pc2 := 99) (ls2 := [(0, .ref (1)), (1, .int (lo)), (2, .int (hi)), (3, .int (x3))]) (st2 := [.int (M 1 4), .int (1), .ref (1)]) (M2 := M) hC hqX10_number rfl ?_
    obtain ⟨s4, es4, hr⟩ := g_bd hr
    refine gz_cV (z := qX10_fail) (a := 1) (av := [.int (1), .int (M 1 4)]) (rest := []) (pl := 842) hC hqX10_number rfl kX10_fail sX10_fail (by decide +kernel) (c_F_fail hC (1 : Int32) (M 1 4)  M sz (d - 1) (by omega) s4 es4) (by omega) ⟨rfl, rfl⟩ rfl (Nat.le_of_ble_eq_true rfl) (Nat.le_of_ble_eq_true rfl) rfl rfl rfl (Nat.le_of_ble_eq_true rfl) ⟨Nat.le_of_ble_eq_true rfl, Nat.le_of_ble_eq_true rfl⟩ (gs_V ?_)
    refine gb_run 2 (pc2 := 125) (ls2 := [(0, .ref (1)), (1, .int (lo)), (2, .int (hi)), (3, .int (x3))]) (st2 := [.int (x3)]) (M2 := s4) hC hqX10_number rfl ?_
    refine gb_iret hqX10_number rfl rfl (Nat.le_of_ble_eq_true rfl) (Nat.le_of_ble_eq_true rfl) ?_
    exact gl_I hr
def F_number_L15 (lo : Int32) (hi : Int32) : Nat → Int32 → gM → Option (Int32 × gM)
  | 0, _, _ => none
  | k + 1, x3, M =>
  if (M 1 2) ≤ (M 1 3) then (F_number_J82 lo hi x3 M) else (if (F_isDigit (r_at (M 2) 600 (M 1 3))) = (0 : Int32) then (F_number_J82 lo hi x3 M) else (F_number_L15 lo hi k (m_min (((x3 * (10 : Int32)) + (r_at (M 2) 600 (M 1 3))) - (48 : Int32)) (10000 : Int32)) (g_set M 1 3 ((M 1 3) + (1 : Int32)))))
set_option maxRecDepth 20000 in
theorem c_F_number_L15 {l : Launch} {C : gC} (hC : g_ctx l C) (lo : Int32) (hi : Int32) (sz d : Nat) (hd : 2 ≤ d) (R : Int32 × gM) : ∀ (k : Nat) (x3 : Int32) (M : gM), F_number_L15 lo hi k x3 M = some R → GW l C qX10_number d (gQg 956 g_S0 (qI R) sz) gN 0 0 15 [(0, .ref (1)), (1, .int (lo)), (2, .int (hi)), (3, .int (x3))] [] (956, g_S0, M, sz) := by
  intro k
  induction k with
  | zero => intro x3 M hr; exact nomatch (show (none : Option (Int32 × gM)) = some R from hr)
  | succ k ih =>
    intro x3 M hr
    unfold F_number_L15 at hr
    refine gb_run 4 (pc2 := 23) (ls2 := [(0, .ref (1)), (1, .int (lo)), (2, .int (hi)), (3, .int (x3))]) (st2 := [.int (M 1 2), .int (M 1 3)]) (M2 := M) hC hqX10_number rfl ?_
    refine gb_icmp_ge hqX10_number rfl (fun h1 => ?_) (fun h1 => ?_)
    ·
      have hr := g_if1 h1 hr
      exact c_F_number_J82 hC lo hi sz d (by omega) R x3 M hr
    ·
      have hr := g_if0 h1 hr
      refine gb_run 4 (pc2 := 34) (ls2 := [(0, .ref (1)), (1, .int (lo)), (2, .int (hi)), (3, .int (x3))]) (st2 := [.int (M 1 3), .ref (2)]) (M2 := M) hC hqX10_number rfl ?_
      refine gz_cSN (host := "HoopHours") (z := qX11_at) (av := [.ref (2), .int (M 1 3)]) (rest := []) (pl := 758) hC hqX10_number rfl kX11_at (by decide +kernel) (c_at hC 2 600 _ (M 1 3) M sz (d - 1) (by omega) (Nat.le_of_ble_eq_true rfl) rfl (Nat.le_of_ble_eq_true rfl)) (by omega) ⟨rfl, rfl⟩ rfl rfl (Nat.le_of_ble_eq_true rfl) ⟨Nat.le_of_ble_eq_true rfl, Nat.le_of_ble_eq_true rfl⟩ (gs_Ip ?_)
      refine gz_cS (z := qX10_isDigit) (av := [.int (r_at (M 2) 600 (M 1 3))]) (rest := []) (pl := 838) hC hqX10_number rfl kX10_isDigit (by decide +kernel) (c_F_isDigit hC (r_at (M 2) 600 (M 1 3))  M sz (d - 1) (by omega)) (by omega) ⟨rfl, rfl⟩ rfl rfl (Nat.le_of_ble_eq_true rfl) ⟨Nat.le_of_ble_eq_true rfl, Nat.le_of_ble_eq_true rfl⟩ (gs_Zp fun z3 => ?_)
      refine gb_if_eq hqX10_number rfl (fun h4 => ?_) (fun h4 => ?_)
      ·
        have hr := g_if1 h4 hr
        exact c_F_number_J82 hC lo hi sz d (by omega) R x3 M hr
      ·
        have hr := g_if0 h4 hr
        refine gb_run 7 (pc2 := 55) (ls2 := [(0, .ref (1)), (1, .int (lo)), (2, .int (hi)), (3, .int (x3))]) (st2 := [.int (M 1 3), .ref (2), .int (x3 * (10 : Int32))]) (M2 := M) hC hqX10_number rfl ?_
        refine gz_cSN (host := "HoopHours") (z := qX11_at) (av := [.ref (2), .int (M 1 3)]) (rest := [.int (x3 * (10 : Int32))]) (pl := 758) hC hqX10_number rfl kX11_at (by decide +kernel) (c_at hC 2 600 _ (M 1 3) M sz (d - 1) (by omega) (Nat.le_of_ble_eq_true rfl) rfl (Nat.le_of_ble_eq_true rfl)) (by omega) ⟨rfl, rfl⟩ rfl rfl (Nat.le_of_ble_eq_true rfl) ⟨Nat.le_of_ble_eq_true rfl, Nat.le_of_ble_eq_true rfl⟩ (gs_Ip ?_)
        refine gb_run 4 (pc2 := 65) (ls2 := [(0, .ref (1)), (1, .int (lo)), (2, .int (hi)), (3, .int (x3))]) (st2 := [.int (10000), .int (((x3 * (10 : Int32)) + (r_at (M 2) 600 (M 1 3))) - (48 : Int32))]) (M2 := M) hC hqX10_number rfl ?_
        refine gb_min (pl := 841) hC hqX10_number rfl (by decide +kernel) (Nat.le_of_ble_eq_true rfl) (by omega) (Nat.le_of_ble_eq_true rfl) (Nat.le_of_ble_eq_true rfl) ?_
        refine gb_run 8 (pc2 := 15) (ls2 := [(3, .int (m_min (((x3 * (10 : Int32)) + (r_at (M 2) 600 (M 1 3))) - (48 : Int32)) (10000 : Int32))), (0, .ref (1)), (1, .int (lo)), (2, .int (hi))]) (st2 := []) (M2 := g_set M 1 3 ((M 1 3) + (1 : Int32))) hC hqX10_number rfl ?_
        refine gw_pick [1, 2, 3, 0] (ls2 := [(0, .ref (1)), (1, .int (lo)), (2, .int (hi)), (3, .int (m_min (((x3 * (10 : Int32)) + (r_at (M 2) 600 (M 1 3))) - (48 : Int32)) (10000 : Int32)))]) rfl ?_
        exact ih (m_min (((x3 * (10 : Int32)) + (r_at (M 2) 600 (M 1 3))) - (48 : Int32)) (10000 : Int32)) (g_set M 1 3 ((M 1 3) + (1 : Int32))) hr
def F_number (lo : Int32) (hi : Int32) (M : gM) : Option (Int32 × gM) :=
  (F_next M).bind fun s1 => F_number_L15 lo hi 1000 (0 : Int32) (g_set (s1.2) 1 4 ((s1.2) 1 3))
set_option maxRecDepth 20000 in
theorem c_F_number {l : Launch} {C : gC} (hC : g_ctx l C) (lo : Int32) (hi : Int32)  (M : gM) (sz d : Nat) (hd : 2 ≤ d) (R : Int32 × gM) (hr : F_number lo hi M = some R) : gPg l C qX10_number d [.ref (1), .int (lo), .int (hi)] 956 g_S0 M sz (qI R) := by
  refine gPg.of (ls := [(0, .ref (1)), (1, .int (lo)), (2, .int (hi))]) (by decide +kernel) (Nat.le_of_ble_eq_true rfl) rfl ?_
  unfold F_number at hr
  refine gb_run 1 (pc2 := 1) (ls2 := [(0, .ref (1)), (1, .int (lo)), (2, .int (hi))]) (st2 := [.ref (1)]) (M2 := M) hC hqX10_number rfl ?_
  obtain ⟨s1, es1, hr⟩ := g_bd hr
  refine gz_cV (z := qX10_next) (a := 1) (av := []) (rest := []) (pl := 757) hC hqX10_number rfl kX10_next sX10_next (by decide +kernel) (c_F_next hC   M sz (d - 1) (by omega) s1 es1) (by omega) ⟨rfl, rfl⟩ rfl (Nat.le_of_ble_eq_true rfl) (Nat.le_of_ble_eq_true rfl) rfl rfl rfl (Nat.le_of_ble_eq_true rfl) ⟨Nat.le_of_ble_eq_true rfl, Nat.le_of_ble_eq_true rfl⟩ (gs_I ?_)
  refine gb_run 7 (pc2 := 15) (ls2 := [(3, .int (0)), (0, .ref (1)), (1, .int (lo)), (2, .int (hi))]) (st2 := []) (M2 := g_set (s1.2) 1 4 ((s1.2) 1 3)) hC hqX10_number rfl ?_
  refine gw_pick [1, 2, 3, 0] (ls2 := [(0, .ref (1)), (1, .int (lo)), (2, .int (hi)), (3, .int (0))]) rfl ?_
  exact c_F_number_L15 hC lo hi sz d (by omega) R 1000 (0 : Int32) (g_set (s1.2) 1 4 ((s1.2) 1 3)) hr
def F_word_L13 : Nat → gM → Option (gM)
  | 0, _ => none
  | k + 1, M =>
  if (M 1 2) ≤ (M 1 3) then (some M) else (if (F_isSmall (r_at (M 2) 600 (M 1 3))) = (0 : Int32) then (some M) else (F_word_L13 k (g_set M 1 3 ((M 1 3) + (1 : Int32)))))
set_option maxRecDepth 20000 in
theorem c_F_word_L13 {l : Launch} {C : gC} (hC : g_ctx l C) (sz d : Nat) (hd : 2 ≤ d) (R : gM) : ∀ (k : Nat) (M : gM), F_word_L13 k M = some R → GW l C qX10_word d (gQg 956 g_S0 (qV R) sz) gN 0 0 13 [(0, .ref (1))] [] (956, g_S0, M, sz) := by
  intro k
  induction k with
  | zero => intro M hr; exact nomatch (show (none : Option (gM)) = some R from hr)
  | succ k ih =>
    intro M hr
    unfold F_word_L13 at hr
    refine gb_run 4 (pc2 := 21) (ls2 := [(0, .ref (1))]) (st2 := [.int (M 1 2), .int (M 1 3)]) (M2 := M) hC hqX10_word rfl ?_
    refine gb_icmp_ge hqX10_word rfl (fun h1 => ?_) (fun h1 => ?_)
    ·
      have hr := g_if1 h1 hr
      refine gb_vret hqX10_word rfl rfl (Nat.le_of_ble_eq_true rfl) (Nat.le_of_ble_eq_true rfl) ?_
      exact gl_V hr
    ·
      have hr := g_if0 h1 hr
      refine gb_run 4 (pc2 := 32) (ls2 := [(0, .ref (1))]) (st2 := [.int (M 1 3), .ref (2)]) (M2 := M) hC hqX10_word rfl ?_
      refine gz_cSN (host := "HoopHours") (z := qX11_at) (av := [.ref (2), .int (M 1 3)]) (rest := []) (pl := 758) hC hqX10_word rfl kX11_at (by decide +kernel) (c_at hC 2 600 _ (M 1 3) M sz (d - 1) (by omega) (Nat.le_of_ble_eq_true rfl) rfl (Nat.le_of_ble_eq_true rfl)) (by omega) ⟨rfl, rfl⟩ rfl rfl (Nat.le_of_ble_eq_true rfl) ⟨Nat.le_of_ble_eq_true rfl, Nat.le_of_ble_eq_true rfl⟩ (gs_Ip ?_)
      refine gz_cS (z := qX10_isSmall) (av := [.int (r_at (M 2) 600 (M 1 3))]) (rest := []) (pl := 759) hC hqX10_word rfl kX10_isSmall (by decide +kernel) (c_F_isSmall hC (r_at (M 2) 600 (M 1 3))  M sz (d - 1) (by omega)) (by omega) ⟨rfl, rfl⟩ rfl rfl (Nat.le_of_ble_eq_true rfl) ⟨Nat.le_of_ble_eq_true rfl, Nat.le_of_ble_eq_true rfl⟩ (gs_Zp fun z3 => ?_)
      refine gb_if_eq hqX10_word rfl (fun h4 => ?_) (fun h4 => ?_)
      ·
        have hr := g_if1 h4 hr
        refine gb_vret hqX10_word rfl rfl (Nat.le_of_ble_eq_true rfl) (Nat.le_of_ble_eq_true rfl) ?_
        exact gl_V hr
      ·
        have hr := g_if0 h4 hr
        refine gb_run 7 (pc2 := 13) (ls2 := [(0, .ref (1))]) (st2 := []) (M2 := g_set M 1 3 ((M 1 3) + (1 : Int32))) hC hqX10_word rfl ?_
        exact ih (g_set M 1 3 ((M 1 3) + (1 : Int32))) hr
def F_word  (M : gM) : Option (gM) :=
  (F_next M).bind fun s1 => F_word_L13 1000 (g_set (s1.2) 1 4 ((s1.2) 1 3))
set_option maxRecDepth 20000 in
theorem c_F_word {l : Launch} {C : gC} (hC : g_ctx l C)   (M : gM) (sz d : Nat) (hd : 2 ≤ d) (R : gM) (hr : F_word M = some R) : gPg l C qX10_word d [.ref (1)] 956 g_S0 M sz (qV R) := by
  refine gPg.of (ls := [(0, .ref (1))]) (by decide +kernel) (Nat.le_of_ble_eq_true rfl) rfl ?_
  unfold F_word at hr
  refine gb_run 1 (pc2 := 1) (ls2 := [(0, .ref (1))]) (st2 := [.ref (1)]) (M2 := M) hC hqX10_word rfl ?_
  obtain ⟨s1, es1, hr⟩ := g_bd hr
  refine gz_cV (z := qX10_next) (a := 1) (av := []) (rest := []) (pl := 757) hC hqX10_word rfl kX10_next sX10_next (by decide +kernel) (c_F_next hC   M sz (d - 1) (by omega) s1 es1) (by omega) ⟨rfl, rfl⟩ rfl (Nat.le_of_ble_eq_true rfl) (Nat.le_of_ble_eq_true rfl) rfl rfl rfl (Nat.le_of_ble_eq_true rfl) ⟨Nat.le_of_ble_eq_true rfl, Nat.le_of_ble_eq_true rfl⟩ (gs_I ?_)
  refine gb_run 5 (pc2 := 13) (ls2 := [(0, .ref (1))]) (st2 := []) (M2 := g_set (s1.2) 1 4 ((s1.2) 1 3)) hC hqX10_word rfl ?_
  exact c_F_word_L13 hC sz d (by omega) R 1000 (g_set (s1.2) 1 4 ((s1.2) 1 3)) hr
def F_was_L20 (t : Nat) (M : gM) : Nat → Int32 → Option (Int32)
  | 0, _ => none
  | k + 1, x2 =>
  if (nI (g_len.getD t 0)) ≤ x2 then (some (1 : Int32)) else (g_ix x2 (g_len.getD t 0) fun j2 => if (r_at (M 2) 600 ((M 1 4) + x2)) = (g_ch t j2) then (F_was_L20 t M k (x2 + (1 : Int32))) else (some (0 : Int32)))
set_option maxRecDepth 20000 in
theorem c_F_was_L20 {l : Launch} {C : gC} (hC : g_ctx l C) (t : Nat) (M : gM) (ht : t < 20) (sz d : Nat) (hd : 5 ≤ d) (R : Int32) : ∀ (k : Nat) (x2 : Int32), F_was_L20 t M k x2 = some R → GW l C qX10_was d (gQg 956 g_S0 (qZp M R) sz) gN 0 0 20 [(0, .ref (1)), (1, .retAddr t), (2, .int (x2))] [] (956, g_S0, M, sz) := by
  intro k
  induction k with
  | zero => intro x2 hr; exact nomatch (show (none : Option (Int32)) = some R from hr)
  | succ k ih =>
    intro x2 hr
    unfold F_was_L20 at hr
    refine gb_run 2 (pc2 := 22) (ls2 := [(0, .ref (1)), (1, .retAddr t), (2, .int (x2))]) (st2 := [.retAddr t, .int (x2)]) (M2 := M) hC hqX10_was rfl ?_
    refine gb_len (pl := 770) hC t ht hqX10_was rfl (by decide +kernel) (Nat.le_of_ble_eq_true rfl) (by omega) (Nat.le_of_ble_eq_true rfl) (Nat.le_of_ble_eq_true rfl) ?_
    refine gb_icmp_ge hqX10_was rfl (fun h1 => ?_) (fun h1 => ?_)
    ·
      have hr := g_if1 h1 hr
      refine gb_run 1 (pc2 := 58) (ls2 := [(0, .ref (1)), (1, .retAddr t), (2, .int (x2))]) (st2 := [.int (1)]) (M2 := M) hC hqX10_was rfl ?_
      refine gb_zret hqX10_was rfl rfl (Nat.le_of_ble_eq_true rfl) (Nat.le_of_ble_eq_true rfl) (Or.inr rfl) ?_
      exact gl_Zp (Or.inr rfl) hr
    ·
      have hr := g_if0 h1 hr
      refine gb_run 6 (pc2 := 38) (ls2 := [(0, .ref (1)), (1, .retAddr t), (2, .int (x2))]) (st2 := [.int ((M 1 4) + x2), .ref (2)]) (M2 := M) hC hqX10_was rfl ?_
      refine gz_cSN (host := "HoopHours") (z := qX11_at) (av := [.ref (2), .int ((M 1 4) + x2)]) (rest := []) (pl := 758) hC hqX10_was rfl kX11_at (by decide +kernel) (c_at hC 2 600 _ ((M 1 4) + x2) M sz (d - 1) (by omega) (Nat.le_of_ble_eq_true rfl) rfl (Nat.le_of_ble_eq_true rfl)) (by omega) ⟨rfl, rfl⟩ rfl rfl (Nat.le_of_ble_eq_true rfl) ⟨Nat.le_of_ble_eq_true rfl, Nat.le_of_ble_eq_true rfl⟩ (gs_Ip ?_)
      refine gb_run 2 (pc2 := 43) (ls2 := [(0, .ref (1)), (1, .retAddr t), (2, .int (x2))]) (st2 := [.int (x2), .retAddr t, .int (r_at (M 2) 600 ((M 1 4) + x2))]) (M2 := M) hC hqX10_was rfl ?_
      obtain ⟨j2, ej2, ij2, lj2, hr⟩ := g_ixo hr
      refine gz_char (pl := 780) hC t ht ej2 ij2 hqX10_was rfl (by decide +kernel) (Nat.le_of_ble_eq_true rfl) (by omega) (Nat.le_of_ble_eq_true rfl) (Nat.le_of_ble_eq_true rfl) ?_
      refine gb_icmp_eq hqX10_was rfl (fun h3 => ?_) (fun h3 => ?_)
      ·
        have hr := g_if1 h3 hr
        refine gb_run 2 (pc2 := 20) (ls2 := [(2, .int (x2 + (1 : Int32))), (0, .ref (1)), (1, .retAddr t)]) (st2 := []) (M2 := M) hC hqX10_was rfl ?_
        refine gw_pick [1, 2, 0] (ls2 := [(0, .ref (1)), (1, .retAddr t), (2, .int (x2 + (1 : Int32)))]) rfl ?_
        exact ih (x2 + (1 : Int32)) hr
      ·
        have hr := g_if0 h3 hr
        refine gb_run 1 (pc2 := 50) (ls2 := [(0, .ref (1)), (1, .retAddr t), (2, .int (x2))]) (st2 := [.int (0)]) (M2 := M) hC hqX10_was rfl ?_
        refine gb_zret hqX10_was rfl rfl (Nat.le_of_ble_eq_true rfl) (Nat.le_of_ble_eq_true rfl) (Or.inl rfl) ?_
        exact gl_Zp (Or.inl rfl) hr
def F_was (t : Nat) (M : gM) : Option (Int32) :=
  if ((M 1 3) - (M 1 4)) = (nI (g_len.getD t 0)) then (F_was_L20 t M 1000 (0 : Int32)) else (some (0 : Int32))
set_option maxRecDepth 20000 in
theorem c_F_was {l : Launch} {C : gC} (hC : g_ctx l C) (t : Nat) (ht : t < 20) (M : gM) (sz d : Nat) (hd : 5 ≤ d) (R : Int32) (hr : F_was t M = some R) : gPg l C qX10_was d [.ref (1), .retAddr t] 956 g_S0 M sz (qZp M R) := by
  refine gPg.of (ls := [(0, .ref (1)), (1, .retAddr t)]) (by decide +kernel) (Nat.le_of_ble_eq_true rfl) rfl ?_
  unfold F_was at hr
  refine gb_run 6 (pc2 := 10) (ls2 := [(0, .ref (1)), (1, .retAddr t)]) (st2 := [.retAddr t, .int ((M 1 3) - (M 1 4))]) (M2 := M) hC hqX10_was rfl ?_
  refine gb_len (pl := 770) hC t ht hqX10_was rfl (by decide +kernel) (Nat.le_of_ble_eq_true rfl) (by omega) (Nat.le_of_ble_eq_true rfl) (Nat.le_of_ble_eq_true rfl) ?_
  refine gb_icmp_eq hqX10_was rfl (fun h1 => ?_) (fun h1 => ?_)
  ·
    have hr := g_if1 h1 hr
    refine gb_run 2 (pc2 := 20) (ls2 := [(2, .int (0)), (0, .ref (1)), (1, .retAddr t)]) (st2 := []) (M2 := M) hC hqX10_was rfl ?_
    refine gw_pick [1, 2, 0] (ls2 := [(0, .ref (1)), (1, .retAddr t), (2, .int (0))]) rfl ?_
    exact c_F_was_L20 hC t M ht sz d (by omega) R 1000 (0 : Int32) hr
  ·
    have hr := g_if0 h1 hr
    refine gb_run 1 (pc2 := 17) (ls2 := [(0, .ref (1)), (1, .retAddr t)]) (st2 := [.int (0)]) (M2 := M) hC hqX10_was rfl ?_
    refine gb_zret hqX10_was rfl rfl (Nat.le_of_ble_eq_true rfl) (Nat.le_of_ble_eq_true rfl) (Or.inl rfl) ?_
    exact gl_Zp (Or.inl rfl) hr
