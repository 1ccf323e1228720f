/-! mbase, decompiled. -/
def FM_tellsNothing_L2 : Nat → Int32 → gM → Option (gM)
  | 0, _, _ => none
  | k + 1, x1, M =>
  if (3 : Int32) ≤ x1 then (g_let (g_set M 467 3 (60 : Int32)) fun M2 => g_let (g_set M2 467 4 (5 : Int32)) fun M3 => some M3) else (g_ix x1 5 fun j4 => g_let (g_set M 467 j4 (0 : Int32)) fun M5 => FM_tellsNothing_L2 k (x1 + (1 : Int32)) M5)
set_option maxRecDepth 20000 in
theorem c_FM_tellsNothing_L2 {l : Launch} {C : gC} (hC : g_ctx l C) (sz d : Nat) (hd : 1 ≤ d) (R : gM) : ∀ (k : Nat) (x1 : Int32) (M : gM), FM_tellsNothing_L2 k x1 M = some R → GW l C qX12_tellsNothing d (gQg 956 g_S0 (qV R) sz) gN 0 0 2 [(0, .ref (464)), (1, .int (x1))] [] (956, g_S0, M, sz) := by
  intro k
  induction k with
  | zero => intro x1 M hr; exact nomatch (show (none : Option (gM)) = some R from hr)
  | succ k ih =>
    intro x1 M hr
    unfold FM_tellsNothing_L2 at hr
    refine gb_run 2 (pc2 := 4) (ls2 := [(0, .ref (464)), (1, .int (x1))]) (st2 := [.int (3), .int (x1)]) (M2 := M) hC hqX12_tellsNothing rfl ?_
    refine gb_icmp_ge hqX12_tellsNothing rfl (fun h1 => ?_) (fun h1 => ?_)
    ·
      have hr := g_if1 h1 hr
      refine gb_run 4 (pc2 := 27) (ls2 := [(0, .ref (464)), (1, .int (x1))]) (st2 := [.int (60), .int (3), .ref (467)]) (M2 := M) hC hqX12_tellsNothing rfl ?_
      refine gb_iastore hC hqX12_tellsNothing rfl (Nat.le_of_ble_eq_true rfl) rfl (by unfold vp_in; decide) ?_
      rw [show (3 : Int32).toNatClampNeg = 3 from rfl]
      refine g_letP (P := fun M2 => GW l C qX12_tellsNothing d (gQg 956 g_S0 (qV R) sz) gN 0 0 28 [(0, .ref (464)), (1, .int (x1))] [] (956, g_S0, M2, sz)) hr (fun M2 hr => ?_)
      refine gb_run 4 (pc2 := 34) (ls2 := [(0, .ref (464)), (1, .int (x1))]) (st2 := [.int (5), .int (4), .ref (467)]) (M2 := M2) hC hqX12_tellsNothing rfl ?_
      refine gb_iastore hC hqX12_tellsNothing rfl (Nat.le_of_ble_eq_true rfl) rfl (by unfold vp_in; decide) ?_
      rw [show (4 : Int32).toNatClampNeg = 4 from rfl]
      refine g_letP (P := fun M3 => GW l C qX12_tellsNothing d (gQg 956 g_S0 (qV R) sz) gN 0 0 35 [(0, .ref (464)), (1, .int (x1))] [] (956, g_S0, M3, sz)) hr (fun M3 hr => ?_)
      refine gb_vret hqX12_tellsNothing rfl rfl (Nat.le_of_ble_eq_true rfl) (Nat.le_of_ble_eq_true rfl) ?_
      exact gl_V hr
    ·
      have hr := g_if0 h1 hr
      refine gb_run 4 (pc2 := 13) (ls2 := [(0, .ref (464)), (1, .int (x1))]) (st2 := [.int (0), .int (x1), .ref (467)]) (M2 := M) hC hqX12_tellsNothing rfl ?_
      obtain ⟨j4, ej4, ij4, lj4, hr⟩ := g_ixo hr
      refine gz_iastore hC hqX12_tellsNothing rfl (Nat.le_of_ble_eq_true rfl) rfl ij4 ej4 ?_
      refine g_letP (P := fun M5 => GW l C qX12_tellsNothing d (gQg 956 g_S0 (qV R) sz) gN 0 0 14 [(0, .ref (464)), (1, .int (x1))] [] (956, g_S0, M5, sz)) hr (fun M5 hr => ?_)
      refine gb_run 2 (pc2 := 2) (ls2 := [(1, .int (x1 + (1 : Int32))), (0, .ref (464))]) (st2 := []) (M2 := M5) hC hqX12_tellsNothing rfl ?_
      refine gw_pick [1, 0] (ls2 := [(0, .ref (464)), (1, .int (x1 + (1 : Int32)))]) rfl ?_
      exact ih (x1 + (1 : Int32)) M5 hr
def FM_tellsNothing  (M : gM) : Option (gM) :=
  FM_tellsNothing_L2 1000 (0 : Int32) M
set_option maxRecDepth 20000 in
theorem c_FM_tellsNothing {l : Launch} {C : gC} (hC : g_ctx l C)   (M : gM) (sz d : Nat) (hd : 1 ≤ d) (R : gM) (hr : FM_tellsNothing M = some R) : gPg l C qX12_tellsNothing d [.ref (464)] 956 g_S0 M sz (qV R) := by
  refine gPg.of (ls := [(0, .ref (464))]) (by decide +kernel) (Nat.le_of_ble_eq_true rfl) rfl ?_
  unfold FM_tellsNothing at hr
  refine gb_run 2 (pc2 := 2) (ls2 := [(1, .int (0)), (0, .ref (464))]) (st2 := []) (M2 := M) hC hqX12_tellsNothing rfl ?_
  refine gw_pick [1, 0] (ls2 := [(0, .ref (464)), (1, .int (0))]) rfl ?_
  exact c_FM_tellsNothing_L2 hC sz d (by omega) R 1000 (0 : Int32) M hr
def FM_thrown  (M : gM) : Int32 :=
  M 464 0
set_option maxRecDepth 20000 in
theorem c_FM_thrown {l : Launch} {C : gC} (hC : g_ctx l C)   (M : gM) (sz d : Nat) (hd : 1 ≤ d) : gPg l C qX12_thrown d [.ref (464)] 956 g_S0 M sz (qIp M (FM_thrown M)) := by
  refine gPg.of (ls := [(0, .ref (464))]) (by decide +kernel) (Nat.le_of_ble_eq_true rfl) rfl ?_
  obtain ⟨R, hr⟩ : ∃ R, FM_thrown M = R := ⟨_, rfl⟩
  rw [hr]
  unfold FM_thrown at hr
  refine gb_run 2 (pc2 := 4) (ls2 := [(0, .ref (464))]) (st2 := [.int (M 464 0)]) (M2 := M) hC hqX12_thrown rfl ?_
  refine gb_iret hqX12_thrown rfl rfl (Nat.le_of_ble_eq_true rfl) (Nat.le_of_ble_eq_true rfl) ?_
  exact gl_It hr
def FM_bad_J26 (b : Int32) (what : Int32) (reason : Int32) (M : gM) : Option (Int32 × gM) :=
  if (M 464 0) = (0 : Int32) then (some (0, M)) else (some (1, M))
set_option maxRecDepth 20000 in
theorem c_FM_bad_J26 {l : Launch} {C : gC} (hC : g_ctx l C) (b : Int32) (what : Int32) (reason : Int32) (sz d : Nat) (hd : 1 ≤ d) (R : Int32 × gM) (M : gM) (hr : FM_bad_J26 b what reason M = some R) : GW l C qX12_bad d (gQg 956 g_S0 (qZ R) sz) gN 0 0 26 [(0, .ref (464))] [] (956, g_S0, M, sz) := by
  unfold FM_bad_J26 at hr
  refine gb_run 2 (pc2 := 30) (ls2 := [(0, .ref (464))]) (st2 := [.int (M 464 0)]) (M2 := M) hC hqX12_bad rfl ?_
  refine gb_if_eq hqX12_bad rfl (fun h1 => ?_) (fun h1 => ?_)
  ·
    have hr := g_if1 h1 hr
    refine gb_run 1 (pc2 := 38) (ls2 := [(0, .ref (464))]) (st2 := [.int (0)]) (M2 := M) hC hqX12_bad rfl ?_
    refine gb_zret hqX12_bad rfl rfl (Nat.le_of_ble_eq_true rfl) (Nat.le_of_ble_eq_true rfl) (Or.inl rfl) ?_
    exact gl_Z (Or.inl rfl) hr
  ·
    have hr := g_if0 h1 hr
    refine gb_run 2 (pc2 := 38) (ls2 := [(0, .ref (464))]) (st2 := [.int (1)]) (M2 := M) hC hqX12_bad rfl ?_
    refine gb_zret hqX12_bad rfl rfl (Nat.le_of_ble_eq_true rfl) (Nat.le_of_ble_eq_true rfl) (Or.inr rfl) ?_
    exact gl_Z (Or.inr rfl) hr
def FM_bad (b : Int32) (what : Int32) (reason : Int32) (M : gM) : Option (Int32 × gM) :=
  if b = (0 : Int32) then (FM_bad_J26 b what reason M) else (if (M 464 0) = (0 : Int32) then (g_ix reason 2 fun j3 => g_ix reason 2 fun j4 => g_let (g_set (g_set M 464 0 what) 466 j4 ((M 466 j3) + (1 : Int32))) fun M5 => FM_bad_J26 b what reason M5) else (FM_bad_J26 b what reason M))
set_option maxRecDepth 20000 in
theorem c_FM_bad {l : Launch} {C : gC} (hC : g_ctx l C) (b : Int32) (what : Int32) (reason : Int32)  (M : gM) (sz d : Nat) (hd : 1 ≤ d) (R : Int32 × gM) (hr : FM_bad b what reason M = some R) : gPg l C qX12_bad d [.ref (464), .int (b), .int (what), .int (reason)] 956 g_S0 M sz (qZ R) := by
  refine gPg.of (ls := [(0, .ref (464)), (1, .int (b)), (2, .int (what)), (3, .int (reason))]) (by decide +kernel) (Nat.le_of_ble_eq_true rfl) rfl ?_
  unfold FM_bad at hr
  refine gb_run 1 (pc2 := 1) (ls2 := [(0, .ref (464)), (1, .int (b)), (2, .int (what)), (3, .int (reason))]) (st2 := [.int (b)]) (M2 := M) hC hqX12_bad rfl ?_
  refine gb_if_eq hqX12_bad rfl (fun h1 => ?_) (fun h1 => ?_)
  ·
    have hr := g_if1 h1 hr
    refine gw_pick [0] (ls2 := [(0, .ref (464))]) rfl ?_
    exact c_FM_bad_J26 hC b what reason sz d (by omega) R M hr
  ·
    have hr := g_if0 h1 hr
    refine gb_run 2 (pc2 := 8) (ls2 := [(0, .ref (464)), (1, .int (b)), (2, .int (what)), (3, .int (reason))]) (st2 := [.int (M 464 0)]) (M2 := M) hC hqX12_bad rfl ?_
    refine gb_if_ne hqX12_bad rfl (fun h2 => ?_) (fun h2 => ?_)
    ·
      have hr := g_if0 h2 hr
      refine gw_pick [0] (ls2 := [(0, .ref (464))]) rfl ?_
      exact c_FM_bad_J26 hC b what reason sz d (by omega) R M hr
    ·
      have hr := g_if1 h2 hr
      refine gb_run 7 (pc2 := 22) (ls2 := [(0, .ref (464)), (1, .int (b)), (2, .int (what)), (3, .int (reason))]) (st2 := [.int (reason), .ref (466), .int (reason), .ref (466)]) (M2 := g_set M 464 0 what) hC hqX12_bad rfl ?_
      obtain ⟨j3, ej3, ij3, lj3, hr⟩ := g_ixo hr
      refine gz_iaload hC hqX12_bad rfl (Nat.le_of_ble_eq_true rfl) rfl ij3 ej3 ?_
      refine gb_run 2 (pc2 := 25) (ls2 := [(0, .ref (464)), (1, .int (b)), (2, .int (what)), (3, .int (reason))]) (st2 := [.int ((M 466 j3) + (1 : Int32)), .int (reason), .ref (466)]) (M2 := g_set M 464 0 what) hC hqX12_bad rfl ?_
      obtain ⟨j4, ej4, ij4, lj4, hr⟩ := g_ixo hr
      refine gz_iastore hC hqX12_bad rfl (Nat.le_of_ble_eq_true rfl) rfl ij4 ej4 ?_
      refine g_letP (P := fun M5 => GW l C qX12_bad d (gQg 956 g_S0 (qZ R) sz) gN 0 0 26 [(0, .ref (464)), (1, .int (b)), (2, .int (what)), (3, .int (reason))] [] (956, g_S0, M5, sz)) hr (fun M5 hr => ?_)
      refine gw_pick [0] (ls2 := [(0, .ref (464))]) rfl ?_
      exact c_FM_bad_J26 hC b what reason sz d (by omega) R M5 hr
def FM_in (v : Int32) (lo : Int32) (hi : Int32) : Int32 :=
  if v < lo then 0 else (if hi < v then 0 else 1)
set_option maxRecDepth 20000 in
theorem c_FM_in {l : Launch} {C : gC} (hC : g_ctx l C) (v : Int32) (lo : Int32) (hi : Int32)  (M : gM) (sz d : Nat) (hd : 1 ≤ d) : gPg l C qX12_in d [.int (v), .int (lo), .int (hi)] 956 g_S0 M sz (qZp M (FM_in v lo hi)) := by
  refine gPg.of (ls := [(0, .int (v)), (1, .int (lo)), (2, .int (hi))]) (by decide +kernel) (Nat.le_of_ble_eq_true rfl) rfl ?_
  obtain ⟨R, hr⟩ : ∃ R, FM_in v lo hi = R := ⟨_, rfl⟩
  rw [hr]
  unfold FM_in at hr
  refine gb_run 2 (pc2 := 2) (ls2 := [(0, .int (v)), (1, .int (lo)), (2, .int (hi))]) (st2 := [.int (lo), .int (v)]) (M2 := M) hC hqX12_in rfl ?_
  refine gb_icmp_lt hqX12_in rfl (fun h1 => ?_) (fun h1 => ?_)
  ·
    have hr := g_if1 h1 hr
    refine gb_run 1 (pc2 := 15) (ls2 := [(0, .int (v)), (1, .int (lo)), (2, .int (hi))]) (st2 := [.int (0)]) (M2 := M) hC hqX12_in rfl ?_
    refine gb_zret hqX12_in rfl rfl (Nat.le_of_ble_eq_true rfl) (Nat.le_of_ble_eq_true rfl) (Or.inl rfl) ?_
    exact gl_Zt (Or.inl rfl) hr
  ·
    have hr := g_if0 h1 hr
    refine gb_run 2 (pc2 := 7) (ls2 := [(0, .int (v)), (1, .int (lo)), (2, .int (hi))]) (st2 := [.int (hi), .int (v)]) (M2 := M) hC hqX12_in rfl ?_
    refine gb_icmp_gt hqX12_in rfl (fun h2 => ?_) (fun h2 => ?_)
    ·
      have hr := g_if1 h2 hr
      refine gb_run 1 (pc2 := 15) (ls2 := [(0, .int (v)), (1, .int (lo)), (2, .int (hi))]) (st2 := [.int (0)]) (M2 := M) hC hqX12_in rfl ?_
      refine gb_zret hqX12_in rfl rfl (Nat.le_of_ble_eq_true rfl) (Nat.le_of_ble_eq_true rfl) (Or.inl rfl) ?_
      exact gl_Zt (Or.inl rfl) hr
    ·
      have hr := g_if0 h2 hr
      refine gb_run 2 (pc2 := 15) (ls2 := [(0, .int (v)), (1, .int (lo)), (2, .int (hi))]) (st2 := [.int (1)]) (M2 := M) hC hqX12_in rfl ?_
      refine gb_zret hqX12_in rfl rfl (Nat.le_of_ble_eq_true rfl) (Nat.le_of_ble_eq_true rfl) (Or.inr rfl) ?_
      exact gl_Zt (Or.inr rfl) hr
def FM_less (u : Int32) (v : Int32) : Int32 :=
  if v ≤ u then v else u
set_option maxRecDepth 20000 in
theorem c_FM_less {l : Launch} {C : gC} (hC : g_ctx l C) (u : Int32) (v : Int32)  (M : gM) (sz d : Nat) (hd : 1 ≤ d) : gPg l C qX12_less d [.int (u), .int (v)] 956 g_S0 M sz (qIp M (FM_less u v)) := by
  refine gPg.of (ls := [(0, .int (u)), (1, .int (v))]) (by decide +kernel) (Nat.le_of_ble_eq_true rfl) rfl ?_
  obtain ⟨R, hr⟩ : ∃ R, FM_less u v = R := ⟨_, rfl⟩
  rw [hr]
  unfold FM_less at hr
  refine gb_run 2 (pc2 := 2) (ls2 := [(0, .int (u)), (1, .int (v))]) (st2 := [.int (v), .int (u)]) (M2 := M) hC hqX12_less rfl ?_
  refine gb_icmp_ge hqX12_less rfl (fun h1 => ?_) (fun h1 => ?_)
  ·
    have hr := g_if1 h1 hr
    refine gb_run 1 (pc2 := 10) (ls2 := [(0, .int (u)), (1, .int (v))]) (st2 := [.int (v)]) (M2 := M) hC hqX12_less rfl ?_
    refine gb_iret hqX12_less rfl rfl (Nat.le_of_ble_eq_true rfl) (Nat.le_of_ble_eq_true rfl) ?_
    exact gl_It hr
  ·
    have hr := g_if0 h1 hr
    refine gb_run 2 (pc2 := 10) (ls2 := [(0, .int (u)), (1, .int (v))]) (st2 := [.int (u)]) (M2 := M) hC hqX12_less rfl ?_
    refine gb_iret hqX12_less rfl rfl (Nat.le_of_ble_eq_true rfl) (Nat.le_of_ble_eq_true rfl) ?_
    exact gl_It hr
def FM_more (u : Int32) (v : Int32) : Int32 :=
  if u ≤ v then v else u
set_option maxRecDepth 20000 in
theorem c_FM_more {l : Launch} {C : gC} (hC : g_ctx l C) (u : Int32) (v : Int32)  (M : gM) (sz d : Nat) (hd : 1 ≤ d) : gPg l C qX12_more d [.int (u), .int (v)] 956 g_S0 M sz (qIp M (FM_more u v)) := by
  refine gPg.of (ls := [(0, .int (u)), (1, .int (v))]) (by decide +kernel) (Nat.le_of_ble_eq_true rfl) rfl ?_
  obtain ⟨R, hr⟩ : ∃ R, FM_more u v = R := ⟨_, rfl⟩
  rw [hr]
  unfold FM_more at hr
  refine gb_run 2 (pc2 := 2) (ls2 := [(0, .int (u)), (1, .int (v))]) (st2 := [.int (v), .int (u)]) (M2 := M) hC hqX12_more rfl ?_
  refine gb_icmp_le hqX12_more rfl (fun h1 => ?_) (fun h1 => ?_)
  ·
    have hr := g_if1 h1 hr
    refine gb_run 1 (pc2 := 10) (ls2 := [(0, .int (u)), (1, .int (v))]) (st2 := [.int (v)]) (M2 := M) hC hqX12_more rfl ?_
    refine gb_iret hqX12_more rfl rfl (Nat.le_of_ble_eq_true rfl) (Nat.le_of_ble_eq_true rfl) ?_
    exact gl_It hr
  ·
    have hr := g_if0 h1 hr
    refine gb_run 2 (pc2 := 10) (ls2 := [(0, .int (u)), (1, .int (v))]) (st2 := [.int (u)]) (M2 := M) hC hqX12_more rfl ?_
    refine gb_iret hqX12_more rfl rfl (Nat.le_of_ble_eq_true rfl) (Nat.le_of_ble_eq_true rfl) ?_
    exact gl_It hr
def FM_has (b : Int32) (k : Int32) : Int32 :=
  if ((b >>> (k &&& 31)) &&& (1 : Int32)) = (1 : Int32) then 1 else 0
set_option maxRecDepth 20000 in
theorem c_FM_has {l : Launch} {C : gC} (hC : g_ctx l C) (b : Int32) (k : Int32)  (M : gM) (sz d : Nat) (hd : 1 ≤ d) : gPg l C qX12_has d [.int (b), .int (k)] 956 g_S0 M sz (qZp M (FM_has b k)) := by
  refine gPg.of (ls := [(0, .int (b)), (1, .int (k))]) (by decide +kernel) (Nat.le_of_ble_eq_true rfl) rfl ?_
  obtain ⟨R, hr⟩ : ∃ R, FM_has b k = R := ⟨_, rfl⟩
  rw [hr]
  unfold FM_has at hr
  refine gb_run 6 (pc2 := 6) (ls2 := [(0, .int (b)), (1, .int (k))]) (st2 := [.int (1), .int ((b >>> (k &&& 31)) &&& (1 : Int32))]) (M2 := M) hC hqX12_has rfl ?_
  refine gb_icmp_ne hqX12_has rfl (fun h1 => ?_) (fun h1 => ?_)
  ·
    have hr := g_if0 h1 hr
    refine gb_run 1 (pc2 := 14) (ls2 := [(0, .int (b)), (1, .int (k))]) (st2 := [.int (0)]) (M2 := M) hC hqX12_has rfl ?_
    refine gb_zret hqX12_has rfl rfl (Nat.le_of_ble_eq_true rfl) (Nat.le_of_ble_eq_true rfl) (Or.inl rfl) ?_
    exact gl_Zt (Or.inl rfl) hr
  ·
    have hr := g_if1 h1 hr
    refine gb_run 2 (pc2 := 14) (ls2 := [(0, .int (b)), (1, .int (k))]) (st2 := [.int (1)]) (M2 := M) hC hqX12_has rfl ?_
    refine gb_zret hqX12_has rfl rfl (Nat.le_of_ble_eq_true rfl) (Nat.le_of_ble_eq_true rfl) (Or.inr rfl) ?_
    exact gl_Zt (Or.inr rfl) hr
def FM_feed_L23 (a : Int32) (b : Int32) (c : Int32) (u : Int32) (e : Int32) : Nat → Int32 → gM → Option (Int32 × gM)
  | 0, _, _ => none
  | k + 1, x6, M =>
  if (20 : Int32) ≤ x6 then (some (M 464 1, M)) else (if (4 : Int32) ≤ x6 then (if (8 : Int32) ≤ x6 then (if (12 : Int32) ≤ x6 then (if (16 : Int32) ≤ x6 then (g_ix (M 464 1) 600 fun j6 => g_let (g_set M 465 j6 ((e >>> (((24 : Int32) - ((8 : Int32) * (x6 - x6 / (4 : Int32) * (4 : Int32)))) &&& 31)) &&& (255 : Int32))) fun M7 => FM_feed_L23 a b c u e k (x6 + (1 : Int32)) (g_set M7 464 1 ((M7 464 1) + (1 : Int32)))) else (g_ix (M 464 1) 600 fun j8 => g_let (g_set M 465 j8 ((u >>> (((24 : Int32) - ((8 : Int32) * (x6 - x6 / (4 : Int32) * (4 : Int32)))) &&& 31)) &&& (255 : Int32))) fun M9 => FM_feed_L23 a b c u e k (x6 + (1 : Int32)) (g_set M9 464 1 ((M9 464 1) + (1 : Int32))))) else (g_ix (M 464 1) 600 fun j10 => g_let (g_set M 465 j10 ((c >>> (((24 : Int32) - ((8 : Int32) * (x6 - x6 / (4 : Int32) * (4 : Int32)))) &&& 31)) &&& (255 : Int32))) fun M11 => FM_feed_L23 a b c u e k (x6 + (1 : Int32)) (g_set M11 464 1 ((M11 464 1) + (1 : Int32))))) else (g_ix (M 464 1) 600 fun j12 => g_let (g_set M 465 j12 ((b >>> (((24 : Int32) - ((8 : Int32) * (x6 - x6 / (4 : Int32) * (4 : Int32)))) &&& 31)) &&& (255 : Int32))) fun M13 => FM_feed_L23 a b c u e k (x6 + (1 : Int32)) (g_set M13 464 1 ((M13 464 1) + (1 : Int32))))) else (g_ix (M 464 1) 600 fun j14 => g_let (g_set M 465 j14 ((a >>> (((24 : Int32) - ((8 : Int32) * (x6 - x6 / (4 : Int32) * (4 : Int32)))) &&& 31)) &&& (255 : Int32))) fun M15 => FM_feed_L23 a b c u e k (x6 + (1 : Int32)) (g_set M15 464 1 ((M15 464 1) + (1 : Int32)))))
set_option maxRecDepth 20000 in
theorem c_FM_feed_L23 {l : Launch} {C : gC} (hC : g_ctx l C) (a : Int32) (b : Int32) (c : Int32) (u : Int32) (e : Int32) (sz d : Nat) (hd : 1 ≤ d) (R : Int32 × gM) : ∀ (k : Nat) (x6 : Int32) (M : gM), FM_feed_L23 a b c u e k x6 M = some R → GW l C qX12_feed d (gQg 956 g_S0 (qI R) sz) gN 0 0 23 [(0, .ref (464)), (1, .int (a)), (2, .int (b)), (3, .int (c)), (4, .int (u)), (5, .int (e)), (6, .int (x6))] [] (956, g_S0, M, sz) := by
  intro k
  induction k with
  | zero => intro x6 M hr; exact nomatch (show (none : Option (Int32 × gM)) = some R from hr)
  | succ k ih =>
    intro x6 M hr
    unfold FM_feed_L23 at hr
    refine gb_run 2 (pc2 := 27) (ls2 := [(0, .ref (464)), (1, .int (a)), (2, .int (b)), (3, .int (c)), (4, .int (u)), (5, .int (e)), (6, .int (x6))]) (st2 := [.int (20), .int (x6)]) (M2 := M) hC hqX12_feed rfl ?_
    refine gb_icmp_ge hqX12_feed rfl (fun h1 => ?_) (fun h1 => ?_)
    ·
      have hr := g_if1 h1 hr
      refine gb_run 2 (pc2 := 124) (ls2 := [(0, .ref (464)), (1, .int (a)), (2, .int (b)), (3, .int (c)), (4, .int (u)), (5, .int (e)), (6, .int (x6))]) (st2 := [.int (M 464 1)]) (M2 := M) hC hqX12_feed rfl ?_
      refine gb_iret hqX12_feed rfl rfl (Nat.le_of_ble_eq_true rfl) (Nat.le_of_ble_eq_true rfl) ?_
      exact gl_I hr
    ·
      have hr := g_if0 h1 hr
      refine gb_run 2 (pc2 := 33) (ls2 := [(0, .ref (464)), (1, .int (a)), (2, .int (b)), (3, .int (c)), (4, .int (u)), (5, .int (e)), (6, .int (x6))]) (st2 := [.int (4), .int (x6)]) (M2 := M) hC hqX12_feed rfl ?_
      refine gb_icmp_ge hqX12_feed rfl (fun h2 => ?_) (fun h2 => ?_)
      ·
        have hr := g_if1 h2 hr
        refine gb_run 2 (pc2 := 44) (ls2 := [(0, .ref (464)), (1, .int (a)), (2, .int (b)), (3, .int (c)), (4, .int (u)), (5, .int (e)), (6, .int (x6))]) (st2 := [.int (8), .int (x6)]) (M2 := M) hC hqX12_feed rfl ?_
        refine gb_icmp_ge hqX12_feed rfl (fun h3 => ?_) (fun h3 => ?_)
        ·
          have hr := g_if1 h3 hr
          refine gb_run 2 (pc2 := 55) (ls2 := [(0, .ref (464)), (1, .int (a)), (2, .int (b)), (3, .int (c)), (4, .int (u)), (5, .int (e)), (6, .int (x6))]) (st2 := [.int (12), .int (x6)]) (M2 := M) hC hqX12_feed rfl ?_
          refine gb_icmp_ge hqX12_feed rfl (fun h4 => ?_) (fun h4 => ?_)
          ·
            have hr := g_if1 h4 hr
            refine gb_run 2 (pc2 := 66) (ls2 := [(0, .ref (464)), (1, .int (a)), (2, .int (b)), (3, .int (c)), (4, .int (u)), (5, .int (e)), (6, .int (x6))]) (st2 := [.int (16), .int (x6)]) (M2 := M) hC hqX12_feed rfl ?_
            refine gb_icmp_ge hqX12_feed rfl (fun h5 => ?_) (fun h5 => ?_)
            ·
              have hr := g_if1 h5 hr
              refine gb_run 11 (pc2 := 95) (ls2 := [(7, .int (e)), (0, .ref (464)), (1, .int (a)), (2, .int (b)), (3, .int (c)), (4, .int (u)), (5, .int (e)), (6, .int (x6))]) (st2 := [.int (4), .int (x6), .int (8), .int (24), .int (e), .int (M 464 1), .ref (465)]) (M2 := M) hC hqX12_feed rfl ?_
              refine gb_irem hqX12_feed rfl (by decide) ?_
              refine gb_run 5 (pc2 := 103) (ls2 := [(7, .int (e)), (0, .ref (464)), (1, .int (a)), (2, .int (b)), (3, .int (c)), (4, .int (u)), (5, .int (e)), (6, .int (x6))]) (st2 := [.int ((e >>> (((24 : Int32) - ((8 : Int32) * (x6 - x6 / (4 : Int32) * (4 : Int32)))) &&& 31)) &&& (255 : Int32)), .int (M 464 1), .ref (465)]) (M2 := M) hC hqX12_feed rfl ?_
              obtain ⟨j6, ej6, ij6, lj6, hr⟩ := g_ixo hr
              refine gz_iastore hC hqX12_feed rfl (Nat.le_of_ble_eq_true rfl) rfl ij6 ej6 ?_
              refine g_letP (P := fun M7 => GW l C qX12_feed d (gQg 956 g_S0 (qI R) sz) gN 0 0 104 [(7, .int (e)), (0, .ref (464)), (1, .int (a)), (2, .int (b)), (3, .int (c)), (4, .int (u)), (5, .int (e)), (6, .int (x6))] [] (956, g_S0, M7, sz)) hr (fun M7 hr => ?_)
              refine gb_run 8 (pc2 := 23) (ls2 := [(6, .int (x6 + (1 : Int32))), (7, .int (e)), (0, .ref (464)), (1, .int (a)), (2, .int (b)), (3, .int (c)), (4, .int (u)), (5, .int (e))]) (st2 := []) (M2 := g_set M7 464 1 ((M7 464 1) + (1 : Int32))) hC hqX12_feed rfl ?_
              refine gw_pick [2, 3, 4, 5, 6, 7, 0] (ls2 := [(0, .ref (464)), (1, .int (a)), (2, .int (b)), (3, .int (c)), (4, .int (u)), (5, .int (e)), (6, .int (x6 + (1 : Int32)))]) rfl ?_
              exact ih (x6 + (1 : Int32)) (g_set M7 464 1 ((M7 464 1) + (1 : Int32))) hr
            ·
              have hr := g_if0 h5 hr
              refine gb_run 12 (pc2 := 95) (ls2 := [(7, .int (u)), (0, .ref (464)), (1, .int (a)), (2, .int (b)), (3, .int (c)), (4, .int (u)), (5, .int (e)), (6, .int (x6))]) (st2 := [.int (4), .int (x6), .int (8), .int (24), .int (u), .int (M 464 1), .ref (465)]) (M2 := M) hC hqX12_feed rfl ?_
              refine gb_irem hqX12_feed rfl (by decide) ?_
              refine gb_run 5 (pc2 := 103) (ls2 := [(7, .int (u)), (0, .ref (464)), (1, .int (a)), (2, .int (b)), (3, .int (c)), (4, .int (u)), (5, .int (e)), (6, .int (x6))]) (st2 := [.int ((u >>> (((24 : Int32) - ((8 : Int32) * (x6 - x6 / (4 : Int32) * (4 : Int32)))) &&& 31)) &&& (255 : Int32)), .int (M 464 1), .ref (465)]) (M2 := M) hC hqX12_feed rfl ?_
              obtain ⟨j8, ej8, ij8, lj8, hr⟩ := g_ixo hr
              refine gz_iastore hC hqX12_feed rfl (Nat.le_of_ble_eq_true rfl) rfl ij8 ej8 ?_
              refine g_letP (P := fun M9 => GW l C qX12_feed d (gQg 956 g_S0 (qI R) sz) gN 0 0 104 [(7, .int (u)), (0, .ref (464)), (1, .int (a)), (2, .int (b)), (3, .int (c)), (4, .int (u)), (5, .int (e)), (6, .int (x6))] [] (956, g_S0, M9, sz)) hr (fun M9 hr => ?_)
              refine gb_run 8 (pc2 := 23) (ls2 := [(6, .int (x6 + (1 : Int32))), (7, .int (u)), (0, .ref (464)), (1, .int (a)), (2, .int (b)), (3, .int (c)), (4, .int (u)), (5, .int (e))]) (st2 := []) (M2 := g_set M9 464 1 ((M9 464 1) + (1 : Int32))) hC hqX12_feed rfl ?_
              refine gw_pick [2, 3, 4, 5, 6, 7, 0] (ls2 := [(0, .ref (464)), (1, .int (a)), (2, .int (b)), (3, .int (c)), (4, .int (u)), (5, .int (e)), (6, .int (x6 + (1 : Int32)))]) rfl ?_
              exact ih (x6 + (1 : Int32)) (g_set M9 464 1 ((M9 464 1) + (1 : Int32))) hr
          ·
            have hr := g_if0 h4 hr
            refine gb_run 12 (pc2 := 95) (ls2 := [(7, .int (c)), (0, .ref (464)), (1, .int (a)), (2, .int (b)), (3, .int (c)), (4, .int (u)), (5, .int (e)), (6, .int (x6))]) (st2 := [.int (4), .int (x6), .int (8), .int (24), .int (c), .int (M 464 1), .ref (465)]) (M2 := M) hC hqX12_feed rfl ?_
            refine gb_irem hqX12_feed rfl (by decide) ?_
            refine gb_run 5 (pc2 := 103) (ls2 := [(7, .int (c)), (0, .ref (464)), (1, .int (a)), (2, .int (b)), (3, .int (c)), (4, .int (u)), (5, .int (e)), (6, .int (x6))]) (st2 := [.int ((c >>> (((24 : Int32) - ((8 : Int32) * (x6 - x6 / (4 : Int32) * (4 : Int32)))) &&& 31)) &&& (255 : Int32)), .int (M 464 1), .ref (465)]) (M2 := M) hC hqX12_feed rfl ?_
            obtain ⟨j10, ej10, ij10, lj10, hr⟩ := g_ixo hr
            refine gz_iastore hC hqX12_feed rfl (Nat.le_of_ble_eq_true rfl) rfl ij10 ej10 ?_
            refine g_letP (P := fun M11 => GW l C qX12_feed d (gQg 956 g_S0 (qI R) sz) gN 0 0 104 [(7, .int (c)), (0, .ref (464)), (1, .int (a)), (2, .int (b)), (3, .int (c)), (4, .int (u)), (5, .int (e)), (6, .int (x6))] [] (956, g_S0, M11, sz)) hr (fun M11 hr => ?_)
            refine gb_run 8 (pc2 := 23) (ls2 := [(6, .int (x6 + (1 : Int32))), (7, .int (c)), (0, .ref (464)), (1, .int (a)), (2, .int (b)), (3, .int (c)), (4, .int (u)), (5, .int (e))]) (st2 := []) (M2 := g_set M11 464 1 ((M11 464 1) + (1 : Int32))) hC hqX12_feed rfl ?_
            refine gw_pick [2, 3, 4, 5, 6, 7, 0] (ls2 := [(0, .ref (464)), (1, .int (a)), (2, .int (b)), (3, .int (c)), (4, .int (u)), (5, .int (e)), (6, .int (x6 + (1 : Int32)))]) rfl ?_
            exact ih (x6 + (1 : Int32)) (g_set M11 464 1 ((M11 464 1) + (1 : Int32))) hr
        ·
          have hr := g_if0 h3 hr
          refine gb_run 12 (pc2 := 95) (ls2 := [(7, .int (b)), (0, .ref (464)), (1, .int (a)), (2, .int (b)), (3, .int (c)), (4, .int (u)), (5, .int (e)), (6, .int (x6))]) (st2 := [.int (4), .int (x6), .int (8), .int (24), .int (b), .int (M 464 1), .ref (465)]) (M2 := M) hC hqX12_feed rfl ?_
          refine gb_irem hqX12_feed rfl (by decide) ?_
          refine gb_run 5 (pc2 := 103) (ls2 := [(7, .int (b)), (0, .ref (464)), (1, .int (a)), (2, .int (b)), (3, .int (c)), (4, .int (u)), (5, .int (e)), (6, .int (x6))]) (st2 := [.int ((b >>> (((24 : Int32) - ((8 : Int32) * (x6 - x6 / (4 : Int32) * (4 : Int32)))) &&& 31)) &&& (255 : Int32)), .int (M 464 1), .ref (465)]) (M2 := M) hC hqX12_feed rfl ?_
          obtain ⟨j12, ej12, ij12, lj12, hr⟩ := g_ixo hr
          refine gz_iastore hC hqX12_feed rfl (Nat.le_of_ble_eq_true rfl) rfl ij12 ej12 ?_
          refine g_letP (P := fun M13 => GW l C qX12_feed d (gQg 956 g_S0 (qI R) sz) gN 0 0 104 [(7, .int (b)), (0, .ref (464)), (1, .int (a)), (2, .int (b)), (3, .int (c)), (4, .int (u)), (5, .int (e)), (6, .int (x6))] [] (956, g_S0, M13, sz)) hr (fun M13 hr => ?_)
          refine gb_run 8 (pc2 := 23) (ls2 := [(6, .int (x6 + (1 : Int32))), (7, .int (b)), (0, .ref (464)), (1, .int (a)), (2, .int (b)), (3, .int (c)), (4, .int (u)), (5, .int (e))]) (st2 := []) (M2 := g_set M13 464 1 ((M13 464 1) + (1 : Int32))) hC hqX12_feed rfl ?_
          refine gw_pick [2, 3, 4, 5, 6, 7, 0] (ls2 := [(0, .ref (464)), (1, .int (a)), (2, .int (b)), (3, .int (c)), (4, .int (u)), (5, .int (e)), (6, .int (x6 + (1 : Int32)))]) rfl ?_
          exact ih (x6 + (1 : Int32)) (g_set M13 464 1 ((M13 464 1) + (1 : Int32))) hr
      ·
        have hr := g_if0 h2 hr
        refine gb_run 12 (pc2 := 95) (ls2 := [(7, .int (a)), (0, .ref (464)), (1, .int (a)), (2, .int (b)), (3, .int (c)), (4, .int (u)), (5, .int (e)), (6, .int (x6))]) (st2 := [.int (4), .int (x6), .int (8), .int (24), .int (a), .int (M 464 1), .ref (465)]) (M2 := M) hC hqX12_feed rfl ?_
        refine gb_irem hqX12_feed rfl (by decide) ?_
        refine gb_run 5 (pc2 := 103) (ls2 := [(7, .int (a)), (0, .ref (464)), (1, .int (a)), (2, .int (b)), (3, .int (c)), (4, .int (u)), (5, .int (e)), (6, .int (x6))]) (st2 := [.int ((a >>> (((24 : Int32) - ((8 : Int32) * (x6 - x6 / (4 : Int32) * (4 : Int32)))) &&& 31)) &&& (255 : Int32)), .int (M 464 1), .ref (465)]) (M2 := M) hC hqX12_feed rfl ?_
        obtain ⟨j14, ej14, ij14, lj14, hr⟩ := g_ixo hr
        refine gz_iastore hC hqX12_feed rfl (Nat.le_of_ble_eq_true rfl) rfl ij14 ej14 ?_
        refine g_letP (P := fun M15 => GW l C qX12_feed d (gQg 956 g_S0 (qI R) sz) gN 0 0 104 [(7, .int (a)), (0, .ref (464)), (1, .int (a)), (2, .int (b)), (3, .int (c)), (4, .int (u)), (5, .int (e)), (6, .int (x6))] [] (956, g_S0, M15, sz)) hr (fun M15 hr => ?_)
        refine gb_run 8 (pc2 := 23) (ls2 := [(6, .int (x6 + (1 : Int32))), (7, .int (a)), (0, .ref (464)), (1, .int (a)), (2, .int (b)), (3, .int (c)), (4, .int (u)), (5, .int (e))]) (st2 := []) (M2 := g_set M15 464 1 ((M15 464 1) + (1 : Int32))) hC hqX12_feed rfl ?_
        refine gw_pick [2, 3, 4, 5, 6, 7, 0] (ls2 := [(0, .ref (464)), (1, .int (a)), (2, .int (b)), (3, .int (c)), (4, .int (u)), (5, .int (e)), (6, .int (x6 + (1 : Int32)))]) rfl ?_
        exact ih (x6 + (1 : Int32)) (g_set M15 464 1 ((M15 464 1) + (1 : Int32))) hr
def FM_feed (a : Int32) (b : Int32) (c : Int32) (u : Int32) (e : Int32) (M : gM) : Option (Int32 × gM) :=
  if ((M 464 1) + (20 : Int32)) ≤ (600 : Int32) then (FM_feed_L23 a b c u e 1000 (0 : Int32) (g_set M 464 0 (0 : Int32))) else (some (-1, g_set M 464 0 (0 : Int32)))
set_option maxRecDepth 20000 in
theorem c_FM_feed {l : Launch} {C : gC} (hC : g_ctx l C) (a : Int32) (b : Int32) (c : Int32) (u : Int32) (e : Int32)  (M : gM) (sz d : Nat) (hd : 1 ≤ d) (R : Int32 × gM) (hr : FM_feed a b c u e M = some R) : gPg l C qX12_feed d [.ref (464), .int (a), .int (b), .int (c), .int (u), .int (e)] 956 g_S0 M sz (qI R) := by
  refine gPg.of (ls := [(0, .ref (464)), (1, .int (a)), (2, .int (b)), (3, .int (c)), (4, .int (u)), (5, .int (e))]) (by decide +kernel) (Nat.le_of_ble_eq_true rfl) rfl ?_
  unfold FM_feed at hr
  refine gb_run 8 (pc2 := 15) (ls2 := [(0, .ref (464)), (1, .int (a)), (2, .int (b)), (3, .int (c)), (4, .int (u)), (5, .int (e))]) (st2 := [.int (600), .int ((M 464 1) + (20 : Int32))]) (M2 := g_set M 464 0 (0 : Int32)) hC hqX12_feed rfl ?_
  refine gb_icmp_le hqX12_feed rfl (fun h1 => ?_) (fun h1 => ?_)
  ·
    have hr := g_if1 h1 hr
    refine gb_run 2 (pc2 := 23) (ls2 := [(6, .int (0)), (0, .ref (464)), (1, .int (a)), (2, .int (b)), (3, .int (c)), (4, .int (u)), (5, .int (e))]) (st2 := []) (M2 := g_set M 464 0 (0 : Int32)) hC hqX12_feed rfl ?_
    refine gw_pick [1, 2, 3, 4, 5, 6, 0] (ls2 := [(0, .ref (464)), (1, .int (a)), (2, .int (b)), (3, .int (c)), (4, .int (u)), (5, .int (e)), (6, .int (0))]) rfl ?_
    exact c_FM_feed_L23 hC a b c u e sz d (by omega) R 1000 (0 : Int32) (g_set M 464 0 (0 : Int32)) hr
  ·
    have hr := g_if0 h1 hr
    refine gb_run 1 (pc2 := 19) (ls2 := [(0, .ref (464)), (1, .int (a)), (2, .int (b)), (3, .int (c)), (4, .int (u)), (5, .int (e))]) (st2 := [.int (-1)]) (M2 := g_set M 464 0 (0 : Int32)) hC hqX12_feed rfl ?_
    refine gb_iret hqX12_feed rfl rfl (Nat.le_of_ble_eq_true rfl) (Nat.le_of_ble_eq_true rfl) ?_
    exact gl_I hr
def FM_byteAt (k0 : Int32) (M : gM) : Option (Int32) :=
  if k0 < (M 464 2) then (g_ix k0 600 fun j2 => some (M 465 j2)) else (some (-1 : Int32))
set_option maxRecDepth 20000 in
theorem c_FM_byteAt {l : Launch} {C : gC} (hC : g_ctx l C) (k0 : Int32)  (M : gM) (sz d : Nat) (hd : 1 ≤ d) (R : Int32) (hr : FM_byteAt k0 M = some R) : gPg l C qX12_byteAt d [.ref (464), .int (k0)] 956 g_S0 M sz (qIp M R) := by
  refine gPg.of (ls := [(0, .ref (464)), (1, .int (k0))]) (by decide +kernel) (Nat.le_of_ble_eq_true rfl) rfl ?_
  unfold FM_byteAt at hr
  refine gb_run 3 (pc2 := 5) (ls2 := [(0, .ref (464)), (1, .int (k0))]) (st2 := [.int (M 464 2), .int (k0)]) (M2 := M) hC hqX12_byteAt rfl ?_
  refine gb_icmp_lt hqX12_byteAt rfl (fun h1 => ?_) (fun h1 => ?_)
  ·
    have hr := g_if1 h1 hr
    refine gb_run 3 (pc2 := 17) (ls2 := [(0, .ref (464)), (1, .int (k0))]) (st2 := [.int (k0), .ref (465)]) (M2 := M) hC hqX12_byteAt rfl ?_
    obtain ⟨j2, ej2, ij2, lj2, hr⟩ := g_ixo hr
    refine gz_iaload hC hqX12_byteAt rfl (Nat.le_of_ble_eq_true rfl) rfl ij2 ej2 ?_
    refine gb_iret hqX12_byteAt rfl rfl (Nat.le_of_ble_eq_true rfl) (Nat.le_of_ble_eq_true rfl) ?_
    exact gl_Ip hr
  ·
    have hr := g_if0 h1 hr
    refine gb_run 2 (pc2 := 18) (ls2 := [(0, .ref (464)), (1, .int (k0))]) (st2 := [.int (-1)]) (M2 := M) hC hqX12_byteAt rfl ?_
    refine gb_iret hqX12_byteAt rfl rfl (Nat.le_of_ble_eq_true rfl) (Nat.le_of_ble_eq_true rfl) ?_
    exact gl_Ip hr
def FM_blanks_L0 : Nat → gM → Option (gM)
  | 0, _ => none
  | k + 1, M =>
  (FM_byteAt (M 464 4) M).bind fun s1 => if s1 = (32 : Int32) then (FM_blanks_L0 k (g_set M 464 4 ((M 464 4) + (1 : Int32)))) else (some M)
set_option maxRecDepth 20000 in
theorem c_FM_blanks_L0 {l : Launch} {C : gC} (hC : g_ctx l C) (sz d : Nat) (hd : 2 ≤ d) (R : gM) : ∀ (k : Nat) (M : gM), FM_blanks_L0 k M = some R → GW l C qX12_blanks d (gQg 956 g_S0 (qV R) sz) gN 0 0 0 [(0, .ref (464))] [] (956, g_S0, M, sz) := by
  intro k
  induction k with
  | zero => intro M hr; exact nomatch (show (none : Option (gM)) = some R from hr)
  | succ k ih =>
    intro M hr
    unfold FM_blanks_L0 at hr
    refine gb_run 3 (pc2 := 5) (ls2 := [(0, .ref (464))]) (st2 := [.int (M 464 4), .ref (464)]) (M2 := M) hC hqX12_blanks rfl ?_
    obtain ⟨s1, es1, hr⟩ := g_bd hr
    refine gz_cV (z := qX12_byteAt) (a := 464) (av := [.int (M 464 4)]) (rest := []) (pl := 1563) hC hqX12_blanks rfl kX12_byteAt sX12_byteAt (by decide +kernel) (c_FM_byteAt hC (M 464 4)  M sz (d - 1) (by omega) s1 es1) (by omega) ⟨rfl, rfl⟩ rfl (Nat.le_of_ble_eq_true rfl) (Nat.le_of_ble_eq_true rfl) rfl rfl rfl (Nat.le_of_ble_eq_true rfl) ⟨Nat.le_of_ble_eq_true rfl, Nat.le_of_ble_eq_true rfl⟩ (gs_Ip ?_)
    refine gb_run 1 (pc2 := 10) (ls2 := [(0, .ref (464))]) (st2 := [.int (32), .int (s1)]) (M2 := M) hC hqX12_blanks rfl ?_
    refine gb_icmp_ne hqX12_blanks rfl (fun h2 => ?_) (fun h2 => ?_)
    ·
      have hr := g_if0 h2 hr
      refine gb_vret hqX12_blanks rfl rfl (Nat.le_of_ble_eq_true rfl) (Nat.le_of_ble_eq_true rfl) ?_
      exact gl_V hr
    ·
      have hr := g_if1 h2 hr
      refine gb_run 7 (pc2 := 0) (ls2 := [(0, .ref (464))]) (st2 := []) (M2 := g_set M 464 4 ((M 464 4) + (1 : Int32))) hC hqX12_blanks rfl ?_
      exact ih (g_set M 464 4 ((M 464 4) + (1 : Int32))) hr
def FM_blanks  (M : gM) : Option (gM) :=
  (FM_byteAt (M 464 4) M).bind fun s1 => if s1 = (32 : Int32) then (FM_blanks_L0 1000 (g_set M 464 4 ((M 464 4) + (1 : Int32)))) else (some M)
set_option maxRecDepth 20000 in
theorem c_FM_blanks {l : Launch} {C : gC} (hC : g_ctx l C)   (M : gM) (sz d : Nat) (hd : 2 ≤ d) (R : gM) (hr : FM_blanks M = some R) : gPg l C qX12_blanks d [.ref (464)] 956 g_S0 M sz (qV R) := by
  refine gPg.of (ls := [(0, .ref (464))]) (by decide +kernel) (Nat.le_of_ble_eq_true rfl) rfl ?_
  unfold FM_blanks at hr
  refine gb_run 3 (pc2 := 5) (ls2 := [(0, .ref (464))]) (st2 := [.int (M 464 4), .ref (464)]) (M2 := M) hC hqX12_blanks rfl ?_
  obtain ⟨s1, es1, hr⟩ := g_bd hr
  refine gz_cV (z := qX12_byteAt) (a := 464) (av := [.int (M 464 4)]) (rest := []) (pl := 1563) hC hqX12_blanks rfl kX12_byteAt sX12_byteAt (by decide +kernel) (c_FM_byteAt hC (M 464 4)  M sz (d - 1) (by omega) s1 es1) (by omega) ⟨rfl, rfl⟩ rfl (Nat.le_of_ble_eq_true rfl) (Nat.le_of_ble_eq_true rfl) rfl rfl rfl (Nat.le_of_ble_eq_true rfl) ⟨Nat.le_of_ble_eq_true rfl, Nat.le_of_ble_eq_true rfl⟩ (gs_Ip ?_)
  refine gb_run 1 (pc2 := 10) (ls2 := [(0, .ref (464))]) (st2 := [.int (32), .int (s1)]) (M2 := M) hC hqX12_blanks rfl ?_
  refine gb_icmp_ne hqX12_blanks rfl (fun h2 => ?_) (fun h2 => ?_)
  ·
    have hr := g_if0 h2 hr
    refine gb_vret hqX12_blanks rfl rfl (Nat.le_of_ble_eq_true rfl) (Nat.le_of_ble_eq_true rfl) ?_
    exact gl_V hr
  ·
    have hr := g_if1 h2 hr
    refine gb_run 7 (pc2 := 0) (ls2 := [(0, .ref (464))]) (st2 := []) (M2 := g_set M 464 4 ((M 464 4) + (1 : Int32))) hC hqX12_blanks rfl ?_
    exact c_FM_blanks_L0 hC sz d (by omega) R 1000 (g_set M 464 4 ((M 464 4) + (1 : Int32))) hr
def FM_wrong (what : Int32) (here : Int32) (M : gM) : Option (gM) :=
  if (M 464 5) = (0 : Int32) then (some (g_set (g_set M 464 5 what) 464 6 here)) else (some M)
set_option maxRecDepth 20000 in
theorem c_FM_wrong {l : Launch} {C : gC} (hC : g_ctx l C) (what : Int32) (here : Int32)  (M : gM) (sz d : Nat) (hd : 1 ≤ d) (R : gM) (hr : FM_wrong what here M = some R) : gPg l C qX12_wrong d [.ref (464), .int (what), .int (here)] 956 g_S0 M sz (qV R) := by
  refine gPg.of (ls := [(0, .ref (464)), (1, .int (what)), (2, .int (here))]) (by decide +kernel) (Nat.le_of_ble_eq_true rfl) rfl ?_
  unfold FM_wrong at hr
  refine gb_run 2 (pc2 := 4) (ls2 := [(0, .ref (464)), (1, .int (what)), (2, .int (here))]) (st2 := [.int (M 464 5)]) (M2 := M) hC hqX12_wrong rfl ?_
  refine gb_if_ne hqX12_wrong rfl (fun h1 => ?_) (fun h1 => ?_)
  ·
    have hr := g_if0 h1 hr
    refine gb_vret hqX12_wrong rfl rfl (Nat.le_of_ble_eq_true rfl) (Nat.le_of_ble_eq_true rfl) ?_
    exact gl_V hr
  ·
    have hr := g_if1 h1 hr
    refine gb_run 6 (pc2 := 17) (ls2 := [(0, .ref (464)), (1, .int (what)), (2, .int (here))]) (st2 := []) (M2 := g_set (g_set M 464 5 what) 464 6 here) hC hqX12_wrong rfl ?_
    refine gb_vret hqX12_wrong rfl rfl (Nat.le_of_ble_eq_true rfl) (Nat.le_of_ble_eq_true rfl) ?_
    exact gl_V hr
def FM_isDigit (c : Int32) : Int32 :=
  if c < (48 : Int32) then 0 else (if (57 : Int32) < c then 0 else 1)
set_option maxRecDepth 20000 in
theorem c_FM_isDigit {l : Launch} {C : gC} (hC : g_ctx l C) (c : Int32)  (M : gM) (sz d : Nat) (hd : 1 ≤ d) : gPg l C qX12_isDigit d [.int (c)] 956 g_S0 M sz (qZp M (FM_isDigit c)) := by
  refine gPg.of (ls := [(0, .int (c))]) (by decide +kernel) (Nat.le_of_ble_eq_true rfl) rfl ?_
  obtain ⟨R, hr⟩ : ∃ R, FM_isDigit c = R := ⟨_, rfl⟩
  rw [hr]
  unfold FM_isDigit at hr
  refine gb_run 2 (pc2 := 3) (ls2 := [(0, .int (c))]) (st2 := [.int (48), .int (c)]) (M2 := M) hC hqX12_isDigit rfl ?_
  refine gb_icmp_lt hqX12_isDigit rfl (fun h1 => ?_) (fun h1 => ?_)
  ·
    have hr := g_if1 h1 hr
    refine gb_run 1 (pc2 := 17) (ls2 := [(0, .int (c))]) (st2 := [.int (0)]) (M2 := M) hC hqX12_isDigit rfl ?_
    refine gb_zret hqX12_isDigit rfl rfl (Nat.le_of_ble_eq_true rfl) (Nat.le_of_ble_eq_true rfl) (Or.inl rfl) ?_
    exact gl_Zt (Or.inl rfl) hr
  ·
    have hr := g_if0 h1 hr
    refine gb_run 2 (pc2 := 9) (ls2 := [(0, .int (c))]) (st2 := [.int (57), .int (c)]) (M2 := M) hC hqX12_isDigit rfl ?_
    refine gb_icmp_gt hqX12_isDigit rfl (fun h2 => ?_) (fun h2 => ?_)
    ·
      have hr := g_if1 h2 hr
      refine gb_run 1 (pc2 := 17) (ls2 := [(0, .int (c))]) (st2 := [.int (0)]) (M2 := M) hC hqX12_isDigit rfl ?_
      refine gb_zret hqX12_isDigit rfl rfl (Nat.le_of_ble_eq_true rfl) (Nat.le_of_ble_eq_true rfl) (Or.inl rfl) ?_
      exact gl_Zt (Or.inl rfl) hr
    ·
      have hr := g_if0 h2 hr
      refine gb_run 2 (pc2 := 17) (ls2 := [(0, .int (c))]) (st2 := [.int (1)]) (M2 := M) hC hqX12_isDigit rfl ?_
      refine gb_zret hqX12_isDigit rfl rfl (Nat.le_of_ble_eq_true rfl) (Nat.le_of_ble_eq_true rfl) (Or.inr rfl) ?_
      exact gl_Zt (Or.inr rfl) hr
def FM_isSmall (c : Int32) : Int32 :=
  if c < (97 : Int32) then 0 else (if (122 : Int32) < c then 0 else 1)
set_option maxRecDepth 20000 in
theorem c_FM_isSmall {l : Launch} {C : gC} (hC : g_ctx l C) (c : Int32)  (M : gM) (sz d : Nat) (hd : 1 ≤ d) : gPg l C qX12_isSmall d [.int (c)] 956 g_S0 M sz (qZp M (FM_isSmall c)) := by
  refine gPg.of (ls := [(0, .int (c))]) (by decide +kernel) (Nat.le_of_ble_eq_true rfl) rfl ?_
  obtain ⟨R, hr⟩ : ∃ R, FM_isSmall c = R := ⟨_, rfl⟩
  rw [hr]
  unfold FM_isSmall at hr
  refine gb_run 2 (pc2 := 3) (ls2 := [(0, .int (c))]) (st2 := [.int (97), .int (c)]) (M2 := M) hC hqX12_isSmall rfl ?_
  refine gb_icmp_lt hqX12_isSmall rfl (fun h1 => ?_) (fun h1 => ?_)
  ·
    have hr := g_if1 h1 hr
    refine gb_run 1 (pc2 := 17) (ls2 := [(0, .int (c))]) (st2 := [.int (0)]) (M2 := M) hC hqX12_isSmall rfl ?_
    refine gb_zret hqX12_isSmall rfl rfl (Nat.le_of_ble_eq_true rfl) (Nat.le_of_ble_eq_true rfl) (Or.inl rfl) ?_
    exact gl_Zt (Or.inl rfl) hr
  ·
    have hr := g_if0 h1 hr
    refine gb_run 2 (pc2 := 9) (ls2 := [(0, .int (c))]) (st2 := [.int (122), .int (c)]) (M2 := M) hC hqX12_isSmall rfl ?_
    refine gb_icmp_gt hqX12_isSmall rfl (fun h2 => ?_) (fun h2 => ?_)
    ·
      have hr := g_if1 h2 hr
      refine gb_run 1 (pc2 := 17) (ls2 := [(0, .int (c))]) (st2 := [.int (0)]) (M2 := M) hC hqX12_isSmall rfl ?_
      refine gb_zret hqX12_isSmall rfl rfl (Nat.le_of_ble_eq_true rfl) (Nat.le_of_ble_eq_true rfl) (Or.inl rfl) ?_
      exact gl_Zt (Or.inl rfl) hr
    ·
      have hr := g_if0 h2 hr
      refine gb_run 2 (pc2 := 17) (ls2 := [(0, .int (c))]) (st2 := [.int (1)]) (M2 := M) hC hqX12_isSmall rfl ?_
      refine gb_zret hqX12_isSmall rfl rfl (Nat.le_of_ble_eq_true rfl) (Nat.le_of_ble_eq_true rfl) (Or.inr rfl) ?_
      exact gl_Zt (Or.inr rfl) hr
def FM_number_J122 (lo : Int32) (hi : Int32) (x4 : Int32) (M : gM) : Option (Int32 × gM) :=
  if (M 464 5) = (0 : Int32) then (some (x4, M)) else (some (0, M))
set_option maxRecDepth 20000 in
theorem c_FM_number_J122 {l : Launch} {C : gC} (hC : g_ctx l C) (lo : Int32) (hi : Int32) (sz d : Nat) (hd : 3 ≤ d) (R : Int32 × gM) (x4 : Int32) (M : gM) (hr : FM_number_J122 lo hi x4 M = some R) : GW l C qX12_number d (gQg 956 g_S0 (qI R) sz) gN 0 0 122 [(0, .ref (464)), (4, .int (x4))] [] (956, g_S0, M, sz) := by
  unfold FM_number_J122 at hr
  refine gb_run 2 (pc2 := 126) (ls2 := [(0, .ref (464)), (4, .int (x4))]) (st2 := [.int (M 464 5)]) (M2 := M) hC hqX12_number rfl ?_
  refine gb_if_ne hqX12_number rfl (fun h1 => ?_) (fun h1 => ?_)
  ·
    have hr := g_if0 h1 hr
    refine gb_run 1 (pc2 := 135) (ls2 := [(0, .ref (464)), (4, .int (x4))]) (st2 := [.int (0)]) (M2 := M) hC hqX12_number rfl ?_
    refine gb_iret hqX12_number rfl rfl (Nat.le_of_ble_eq_true rfl) (Nat.le_of_ble_eq_true rfl) ?_
    exact gl_I hr
  ·
    have hr := g_if1 h1 hr
    refine gb_run 2 (pc2 := 135) (ls2 := [(0, .ref (464)), (4, .int (x4))]) (st2 := [.int (x4)]) (M2 := M) hC hqX12_number rfl ?_
    refine gb_iret hqX12_number rfl rfl (Nat.le_of_ble_eq_true rfl) (Nat.le_of_ble_eq_true rfl) ?_
    exact gl_I hr
def FM_number_L44 (lo : Int32) (hi : Int32) : Nat → Int32 → Int32 → gM → Option (Int32 × gM)
  | 0, _, _, _ => none
  | k + 1, x3, x4, M =>
  (FM_byteAt (M 464 4) M).bind fun s1 => if (FM_isDigit s1) = (0 : Int32) then (if (FM_in x4 lo hi) = (0 : Int32) then ((FM_wrong (2 : Int32) x3 M).bind fun s8 => FM_number_J122 lo hi x4 s8) else (FM_number_J122 lo hi x4 M)) else ((FM_byteAt (M 464 4) M).bind fun s9 => if ((((10 : Int32) * x4) + s9) - (48 : Int32)) ≤ (100000 : Int32) then (FM_number_L44 lo hi k x3 ((((10 : Int32) * x4) + s9) - (48 : Int32)) (g_set M 464 4 ((M 464 4) + (1 : Int32)))) else (FM_number_L44 lo hi k x3 (100000 : Int32) (g_set M 464 4 ((M 464 4) + (1 : Int32)))))
set_option maxRecDepth 20000 in
theorem c_FM_number_L44 {l : Launch} {C : gC} (hC : g_ctx l C) (lo : Int32) (hi : Int32) (sz d : Nat) (hd : 3 ≤ d) (R : Int32 × gM) : ∀ (k : Nat) (x3 : Int32) (x4 : Int32) (M : gM), FM_number_L44 lo hi k x3 x4 M = some R → GW l C qX12_number d (gQg 956 g_S0 (qI R) sz) gN 0 0 44 [(0, .ref (464)), (1, .int (lo)), (2, .int (hi)), (3, .int (x3)), (4, .int (x4))] [] (956, g_S0, M, sz) := by
  intro k
  induction k with
  | zero => intro x3 x4 M hr; exact nomatch (show (none : Option (Int32 × gM)) = some R from hr)
  | succ k ih =>
    intro x3 x4 M hr
    unfold FM_number_L44 at hr
    refine gb_run 3 (pc2 := 49) (ls2 := [(0, .ref (464)), (1, .int (lo)), (2, .int (hi)), (3, .int (x3)), (4, .int (x4))]) (st2 := [.int (M 464 4), .ref (464)]) (M2 := M) hC hqX12_number rfl ?_
    obtain ⟨s1, es1, hr⟩ := g_bd hr
    refine gz_cV (z := qX12_byteAt) (a := 464) (av := [.int (M 464 4)]) (rest := []) (pl := 1563) hC hqX12_number rfl kX12_byteAt sX12_byteAt (by decide +kernel) (c_FM_byteAt hC (M 464 4)  M sz (d - 1) (by omega) s1 es1) (by omega) ⟨rfl, rfl⟩ rfl (Nat.le_of_ble_eq_true rfl) (Nat.le_of_ble_eq_true rfl) rfl rfl rfl (Nat.le_of_ble_eq_true rfl) ⟨Nat.le_of_ble_eq_true rfl, Nat.le_of_ble_eq_true rfl⟩ (gs_Ip ?_)
    refine gz_cS (z := qX12_isDigit) (av := [.int (s1)]) (rest := []) (pl := 1601) hC hqX12_number rfl kX12_isDigit (by decide +kernel) (c_FM_isDigit hC s1  M sz (d - 1) (by omega)) (by omega) ⟨rfl, rfl⟩ rfl rfl (Nat.le_of_ble_eq_true rfl) ⟨Nat.le_of_ble_eq_true rfl, Nat.le_of_ble_eq_true rfl⟩ (gs_Zp fun z3 => ?_)
    refine gb_if_eq hqX12_number rfl (fun h4 => ?_) (fun h4 => ?_)
    ·
      have hr := g_if1 h4 hr
      refine gb_run 3 (pc2 := 110) (ls2 := [(0, .ref (464)), (1, .int (lo)), (2, .int (hi)), (3, .int (x3)), (4, .int (x4))]) (st2 := [.int (hi), .int (lo), .int (x4)]) (M2 := M) hC hqX12_number rfl ?_
      refine gz_cS (z := qX12_in) (av := [.int (x4), .int (lo), .int (hi)]) (rest := []) (pl := 1548) hC hqX12_number rfl kX12_in (by decide +kernel) (c_FM_in hC x4 lo hi  M sz (d - 1) (by omega)) (by omega) ⟨rfl, rfl⟩ rfl rfl (Nat.le_of_ble_eq_true rfl) ⟨Nat.le_of_ble_eq_true rfl, Nat.le_of_ble_eq_true rfl⟩ (gs_Zp fun z6 => ?_)
      refine gb_if_ne hqX12_number rfl (fun h7 => ?_) (fun h7 => ?_)
      ·
        have hr := g_if0 h7 hr
        refine gw_pick [0, 4] (ls2 := [(0, .ref (464)), (4, .int (x4))]) rfl ?_
        exact c_FM_number_J122 hC lo hi sz d (by omega) R x4 M hr
      ·
        have hr := g_if1 h7 hr
        refine gb_run 3 (pc2 := 119) (ls2 := [(0, .ref (464)), (1, .int (lo)), (2, .int (hi)), (3, .int (x3)), (4, .int (x4))]) (st2 := [.int (x3), .int (2), .ref (464)]) (M2 := M) hC hqX12_number rfl ?_
        obtain ⟨s8, es8, hr⟩ := g_bd hr
        refine gz_cV (z := qX12_wrong) (a := 464) (av := [.int (2), .int (x3)]) (rest := []) (pl := 1589) hC hqX12_number rfl kX12_wrong sX12_wrong (by decide +kernel) (c_FM_wrong hC (2 : Int32) x3  M sz (d - 1) (by omega) s8 es8) (by omega) ⟨rfl, rfl⟩ rfl (Nat.le_of_ble_eq_true rfl) (Nat.le_of_ble_eq_true rfl) rfl rfl rfl (Nat.le_of_ble_eq_true rfl) ⟨Nat.le_of_ble_eq_true rfl, Nat.le_of_ble_eq_true rfl⟩ (gs_V ?_)
        refine gw_pick [0, 4] (ls2 := [(0, .ref (464)), (4, .int (x4))]) rfl ?_
        exact c_FM_number_J122 hC lo hi sz d (by omega) R x4 s8 hr
    ·
      have hr := g_if0 h4 hr
      refine gb_run 6 (pc2 := 68) (ls2 := [(0, .ref (464)), (1, .int (lo)), (2, .int (hi)), (3, .int (x3)), (4, .int (x4))]) (st2 := [.int (M 464 4), .ref (464), .int ((10 : Int32) * x4)]) (M2 := M) hC hqX12_number rfl ?_
      obtain ⟨s9, es9, hr⟩ := g_bd hr
      refine gz_cV (z := qX12_byteAt) (a := 464) (av := [.int (M 464 4)]) (rest := [.int ((10 : Int32) * x4)]) (pl := 1563) hC hqX12_number rfl kX12_byteAt sX12_byteAt (by decide +kernel) (c_FM_byteAt hC (M 464 4)  M sz (d - 1) (by omega) s9 es9) (by omega) ⟨rfl, rfl⟩ rfl (Nat.le_of_ble_eq_true rfl) (Nat.le_of_ble_eq_true rfl) rfl rfl rfl (Nat.le_of_ble_eq_true rfl) ⟨Nat.le_of_ble_eq_true rfl, Nat.le_of_ble_eq_true rfl⟩ (gs_Ip ?_)
      refine gb_run 6 (pc2 := 81) (ls2 := [(4, .int ((((10 : Int32) * x4) + s9) - (48 : Int32))), (0, .ref (464)), (1, .int (lo)), (2, .int (hi)), (3, .int (x3))]) (st2 := [.int (100000), .int ((((10 : Int32) * x4) + s9) - (48 : Int32))]) (M2 := M) hC hqX12_number rfl ?_
      refine gb_icmp_le hqX12_number rfl (fun h10 => ?_) (fun h10 => ?_)
      ·
        have hr := g_if1 h10 hr
        refine gb_run 9 (pc2 := 44) (ls2 := [(4, .int ((((10 : Int32) * x4) + s9) - (48 : Int32))), (0, .ref (464)), (1, .int (lo)), (2, .int (hi)), (3, .int (x3))]) (st2 := []) (M2 := g_set M 464 4 ((M 464 4) + (1 : Int32))) hC hqX12_number rfl ?_
        refine gw_pick [1, 2, 3, 4, 0] (ls2 := [(0, .ref (464)), (1, .int (lo)), (2, .int (hi)), (3, .int (x3)), (4, .int ((((10 : Int32) * x4) + s9) - (48 : Int32)))]) rfl ?_
        exact ih x3 ((((10 : Int32) * x4) + s9) - (48 : Int32)) (g_set M 464 4 ((M 464 4) + (1 : Int32))) hr
      ·
        have hr := g_if0 h10 hr
        refine gb_run 10 (pc2 := 44) (ls2 := [(4, .int (100000)), (0, .ref (464)), (1, .int (lo)), (2, .int (hi)), (3, .int (x3))]) (st2 := []) (M2 := g_set M 464 4 ((M 464 4) + (1 : Int32))) hC hqX12_number rfl ?_
        refine gw_pick [1, 2, 3, 4, 0] (ls2 := [(0, .ref (464)), (1, .int (lo)), (2, .int (hi)), (3, .int (x3)), (4, .int (100000))]) rfl ?_
        exact ih x3 (100000 : Int32) (g_set M 464 4 ((M 464 4) + (1 : Int32))) hr
def FM_number (lo : Int32) (hi : Int32) (M : gM) : Option (Int32 × gM) :=
  if (M 464 5) = (0 : Int32) then ((FM_blanks M).bind fun s2 => (FM_byteAt (s2 464 4) s2).bind fun s3 => if (FM_isDigit s3) = (0 : Int32) then ((FM_wrong (1 : Int32) (s2 464 4) s2).bind fun s7 => FM_number_L44 lo hi 1000 (s2 464 4) (0 : Int32) s7) else (FM_number_L44 lo hi 1000 (s2 464 4) (0 : Int32) s2)) else (some (0, M))
set_option maxRecDepth 20000 in
theorem c_FM_number {l : Launch} {C : gC} (hC : g_ctx l C) (lo : Int32) (hi : Int32)  (M : gM) (sz d : Nat) (hd : 3 ≤ d) (R : Int32 × gM) (hr : FM_number lo hi M = some R) : gPg l C qX12_number d [.ref (464), .int (lo), .int (hi)] 956 g_S0 M sz (qI R) := by
  refine gPg.of (ls := [(0, .ref (464)), (1, .int (lo)), (2, .int (hi))]) (by decide +kernel) (Nat.le_of_ble_eq_true rfl) rfl ?_
  unfold FM_number at hr
  refine gb_run 2 (pc2 := 4) (ls2 := [(0, .ref (464)), (1, .int (lo)), (2, .int (hi))]) (st2 := [.int (M 464 5)]) (M2 := M) hC hqX12_number rfl ?_
  refine gb_if_eq hqX12_number rfl (fun h1 => ?_) (fun h1 => ?_)
  ·
    have hr := g_if1 h1 hr
    refine gb_run 1 (pc2 := 10) (ls2 := [(0, .ref (464)), (1, .int (lo)), (2, .int (hi))]) (st2 := [.ref (464)]) (M2 := M) hC hqX12_number rfl ?_
    obtain ⟨s2, es2, hr⟩ := g_bd hr
    refine gz_cV (z := qX12_blanks) (a := 464) (av := []) (rest := []) (pl := 1559) hC hqX12_number rfl kX12_blanks sX12_blanks (by decide +kernel) (c_FM_blanks hC   M sz (d - 1) (by omega) s2 es2) (by omega) ⟨rfl, rfl⟩ rfl (Nat.le_of_ble_eq_true rfl) (Nat.le_of_ble_eq_true rfl) rfl rfl rfl (Nat.le_of_ble_eq_true rfl) ⟨Nat.le_of_ble_eq_true rfl, Nat.le_of_ble_eq_true rfl⟩ (gs_V ?_)
    refine gb_run 8 (pc2 := 26) (ls2 := [(4, .int (0)), (3, .int (s2 464 4)), (0, .ref (464)), (1, .int (lo)), (2, .int (hi))]) (st2 := [.int (s2 464 4), .ref (464)]) (M2 := s2) hC hqX12_number rfl ?_
    obtain ⟨s3, es3, hr⟩ := g_bd hr
    refine gz_cV (z := qX12_byteAt) (a := 464) (av := [.int (s2 464 4)]) (rest := []) (pl := 1563) hC hqX12_number rfl kX12_byteAt sX12_byteAt (by decide +kernel) (c_FM_byteAt hC (s2 464 4)  s2 sz (d - 1) (by omega) s3 es3) (by omega) ⟨rfl, rfl⟩ rfl (Nat.le_of_ble_eq_true rfl) (Nat.le_of_ble_eq_true rfl) rfl rfl rfl (Nat.le_of_ble_eq_true rfl) ⟨Nat.le_of_ble_eq_true rfl, Nat.le_of_ble_eq_true rfl⟩ (gs_Ip ?_)
    refine gz_cS (z := qX12_isDigit) (av := [.int (s3)]) (rest := []) (pl := 1601) hC hqX12_number rfl kX12_isDigit (by decide +kernel) (c_FM_isDigit hC s3  s2 sz (d - 1) (by omega)) (by omega) ⟨rfl, rfl⟩ rfl rfl (Nat.le_of_ble_eq_true rfl) ⟨Nat.le_of_ble_eq_true rfl, Nat.le_of_ble_eq_true rfl⟩ (gs_Zp fun z5 => ?_)
    refine gb_if_ne hqX12_number rfl (fun h6 => ?_) (fun h6 => ?_)
    ·
      have hr := g_if0 h6 hr
      refine gw_pick [2, 3, 4, 1, 0] (ls2 := [(0, .ref (464)), (1, .int (lo)), (2, .int (hi)), (3, .int (s2 464 4)), (4, .int (0))]) rfl ?_
      exact c_FM_number_L44 hC lo hi sz d (by omega) R 1000 (s2 464 4) (0 : Int32) s2 hr
    ·
      have hr := g_if1 h6 hr
      refine gb_run 4 (pc2 := 41) (ls2 := [(4, .int (0)), (3, .int (s2 464 4)), (0, .ref (464)), (1, .int (lo)), (2, .int (hi))]) (st2 := [.int (s2 464 4), .int (1), .ref (464)]) (M2 := s2) hC hqX12_number rfl ?_
      obtain ⟨s7, es7, hr⟩ := g_bd hr
      refine gz_cV (z := qX12_wrong) (a := 464) (av := [.int (1), .int (s2 464 4)]) (rest := []) (pl := 1589) hC hqX12_number rfl kX12_wrong sX12_wrong (by decide +kernel) (c_FM_wrong hC (1 : Int32) (s2 464 4)  s2 sz (d - 1) (by omega) s7 es7) (by omega) ⟨rfl, rfl⟩ rfl (Nat.le_of_ble_eq_true rfl) (Nat.le_of_ble_eq_true rfl) rfl rfl rfl (Nat.le_of_ble_eq_true rfl) ⟨Nat.le_of_ble_eq_true rfl, Nat.le_of_ble_eq_true rfl⟩ (gs_V ?_)
      refine gw_pick [2, 3, 4, 1, 0] (ls2 := [(0, .ref (464)), (1, .int (lo)), (2, .int (hi)), (3, .int (s2 464 4)), (4, .int (0))]) rfl ?_
      exact c_FM_number_L44 hC lo hi sz d (by omega) R 1000 (s2 464 4) (0 : Int32) s7 hr
  ·
    have hr := g_if0 h1 hr
    refine gb_run 1 (pc2 := 8) (ls2 := [(0, .ref (464)), (1, .int (lo)), (2, .int (hi))]) (st2 := [.int (0)]) (M2 := M) hC hqX12_number rfl ?_
    refine gb_iret hqX12_number rfl rfl (Nat.le_of_ble_eq_true rfl) (Nat.le_of_ble_eq_true rfl) ?_
    exact gl_I hr
def FM_wordHere_L8 : Nat → Int32 → Int32 → gM → Option (Int32 × gM)
  | 0, _, _, _ => none
  | k + 1, x1, x2, M =>
  (FM_byteAt ((M 464 4) + x2) M).bind fun s1 => if (FM_isSmall s1) = (0 : Int32) then (if x2 ≤ (6 : Int32) then (some (x1, M)) else (some (-1, M))) else (if (6 : Int32) ≤ x2 then (FM_wordHere_L8 k x1 (x2 + (1 : Int32)) M) else ((FM_byteAt ((M 464 4) + x2) M).bind fun s7 => FM_wordHere_L8 k (((((27 : Int32) * x1) + s7) - (97 : Int32)) + (1 : Int32)) (x2 + (1 : Int32)) M))
set_option maxRecDepth 20000 in
theorem c_FM_wordHere_L8 {l : Launch} {C : gC} (hC : g_ctx l C) (sz d : Nat) (hd : 3 ≤ d) (R : Int32 × gM) : ∀ (k : Nat) (x1 : Int32) (x2 : Int32) (M : gM), FM_wordHere_L8 k x1 x2 M = some R → GW l C qX12_wordHere d (gQg 956 g_S0 (qI R) sz) gN 0 0 8 [(0, .ref (464)), (1, .int (x1)), (2, .int (x2))] [] (956, g_S0, M, sz) := by
  intro k
  induction k with
  | zero => intro x1 x2 M hr; exact nomatch (show (none : Option (Int32 × gM)) = some R from hr)
  | succ k ih =>
    intro x1 x2 M hr
    unfold FM_wordHere_L8 at hr
    refine gb_run 5 (pc2 := 15) (ls2 := [(0, .ref (464)), (1, .int (x1)), (2, .int (x2))]) (st2 := [.int ((M 464 4) + x2), .ref (464)]) (M2 := M) hC hqX12_wordHere rfl ?_
    obtain ⟨s1, es1, hr⟩ := g_bd hr
    refine gz_cV (z := qX12_byteAt) (a := 464) (av := [.int ((M 464 4) + x2)]) (rest := []) (pl := 1563) hC hqX12_wordHere rfl kX12_byteAt sX12_byteAt (by decide +kernel) (c_FM_byteAt hC ((M 464 4) + x2)  M sz (d - 1) (by omega) s1 es1) (by omega) ⟨rfl, rfl⟩ rfl (Nat.le_of_ble_eq_true rfl) (Nat.le_of_ble_eq_true rfl) rfl rfl rfl (Nat.le_of_ble_eq_true rfl) ⟨Nat.le_of_ble_eq_true rfl, Nat.le_of_ble_eq_true rfl⟩ (gs_Ip ?_)
    refine gz_cS (z := qX12_isSmall) (av := [.int (s1)]) (rest := []) (pl := 1583) hC hqX12_wordHere rfl kX12_isSmall (by decide +kernel) (c_FM_isSmall hC s1  M sz (d - 1) (by omega)) (by omega) ⟨rfl, rfl⟩ rfl rfl (Nat.le_of_ble_eq_true rfl) ⟨Nat.le_of_ble_eq_true rfl, Nat.le_of_ble_eq_true rfl⟩ (gs_Zp fun z3 => ?_)
    refine gb_if_eq hqX12_wordHere rfl (fun h4 => ?_) (fun h4 => ?_)
    ·
      have hr := g_if1 h4 hr
      refine gb_run 2 (pc2 := 64) (ls2 := [(0, .ref (464)), (1, .int (x1)), (2, .int (x2))]) (st2 := [.int (6), .int (x2)]) (M2 := M) hC hqX12_wordHere rfl ?_
      refine gb_icmp_le hqX12_wordHere rfl (fun h5 => ?_) (fun h5 => ?_)
      ·
        have hr := g_if1 h5 hr
        refine gb_run 1 (pc2 := 72) (ls2 := [(0, .ref (464)), (1, .int (x1)), (2, .int (x2))]) (st2 := [.int (x1)]) (M2 := M) hC hqX12_wordHere rfl ?_
        refine gb_iret hqX12_wordHere rfl rfl (Nat.le_of_ble_eq_true rfl) (Nat.le_of_ble_eq_true rfl) ?_
        exact gl_I hr
      ·
        have hr := g_if0 h5 hr
        refine gb_run 2 (pc2 := 72) (ls2 := [(0, .ref (464)), (1, .int (x1)), (2, .int (x2))]) (st2 := [.int (-1)]) (M2 := M) hC hqX12_wordHere rfl ?_
        refine gb_iret hqX12_wordHere rfl rfl (Nat.le_of_ble_eq_true rfl) (Nat.le_of_ble_eq_true rfl) ?_
        exact gl_I hr
    ·
      have hr := g_if0 h4 hr
      refine gb_run 2 (pc2 := 27) (ls2 := [(0, .ref (464)), (1, .int (x1)), (2, .int (x2))]) (st2 := [.int (6), .int (x2)]) (M2 := M) hC hqX12_wordHere rfl ?_
      refine gb_icmp_ge hqX12_wordHere rfl (fun h6 => ?_) (fun h6 => ?_)
      ·
        have hr := g_if1 h6 hr
        refine gb_run 4 (pc2 := 8) (ls2 := [(2, .int (x2 + (1 : Int32))), (1, .int (x1)), (0, .ref (464))]) (st2 := []) (M2 := M) hC hqX12_wordHere rfl ?_
        refine gw_pick [2, 1, 0] (ls2 := [(0, .ref (464)), (1, .int (x1)), (2, .int (x2 + (1 : Int32)))]) rfl ?_
        exact ih x1 (x2 + (1 : Int32)) M hr
      ·
        have hr := g_if0 h6 hr
        refine gb_run 8 (pc2 := 41) (ls2 := [(0, .ref (464)), (1, .int (x1)), (2, .int (x2))]) (st2 := [.int ((M 464 4) + x2), .ref (464), .int ((27 : Int32) * x1)]) (M2 := M) hC hqX12_wordHere rfl ?_
        obtain ⟨s7, es7, hr⟩ := g_bd hr
        refine gz_cV (z := qX12_byteAt) (a := 464) (av := [.int ((M 464 4) + x2)]) (rest := [.int ((27 : Int32) * x1)]) (pl := 1563) hC hqX12_wordHere rfl kX12_byteAt sX12_byteAt (by decide +kernel) (c_FM_byteAt hC ((M 464 4) + x2)  M sz (d - 1) (by omega) s7 es7) (by omega) ⟨rfl, rfl⟩ rfl (Nat.le_of_ble_eq_true rfl) (Nat.le_of_ble_eq_true rfl) rfl rfl rfl (Nat.le_of_ble_eq_true rfl) ⟨Nat.le_of_ble_eq_true rfl, Nat.le_of_ble_eq_true rfl⟩ (gs_Ip ?_)
        refine gb_run 9 (pc2 := 8) (ls2 := [(2, .int (x2 + (1 : Int32))), (1, .int (((((27 : Int32) * x1) + s7) - (97 : Int32)) + (1 : Int32))), (0, .ref (464))]) (st2 := []) (M2 := M) hC hqX12_wordHere rfl ?_
        refine gw_pick [2, 1, 0] (ls2 := [(0, .ref (464)), (1, .int (((((27 : Int32) * x1) + s7) - (97 : Int32)) + (1 : Int32))), (2, .int (x2 + (1 : Int32)))]) rfl ?_
        exact ih (((((27 : Int32) * x1) + s7) - (97 : Int32)) + (1 : Int32)) (x2 + (1 : Int32)) M hr
def FM_wordHere  (M : gM) : Option (Int32 × gM) :=
  (FM_blanks M).bind fun s1 => FM_wordHere_L8 1000 (0 : Int32) (0 : Int32) s1
set_option maxRecDepth 20000 in
theorem c_FM_wordHere {l : Launch} {C : gC} (hC : g_ctx l C)   (M : gM) (sz d : Nat) (hd : 3 ≤ d) (R : Int32 × gM) (hr : FM_wordHere M = some R) : gPg l C qX12_wordHere d [.ref (464)] 956 g_S0 M sz (qI R) := by
  refine gPg.of (ls := [(0, .ref (464))]) (by decide +kernel) (Nat.le_of_ble_eq_true rfl) rfl ?_
  unfold FM_wordHere at hr
  refine gb_run 1 (pc2 := 1) (ls2 := [(0, .ref (464))]) (st2 := [.ref (464)]) (M2 := M) hC hqX12_wordHere rfl ?_
  obtain ⟨s1, es1, hr⟩ := g_bd hr
  refine gz_cV (z := qX12_blanks) (a := 464) (av := []) (rest := []) (pl := 1559) hC hqX12_wordHere rfl kX12_blanks sX12_blanks (by decide +kernel) (c_FM_blanks hC   M sz (d - 1) (by omega) s1 es1) (by omega) ⟨rfl, rfl⟩ rfl (Nat.le_of_ble_eq_true rfl) (Nat.le_of_ble_eq_true rfl) rfl rfl rfl (Nat.le_of_ble_eq_true rfl) ⟨Nat.le_of_ble_eq_true rfl, Nat.le_of_ble_eq_true rfl⟩ (gs_V ?_)
  refine gb_run 4 (pc2 := 8) (ls2 := [(2, .int (0)), (1, .int (0)), (0, .ref (464))]) (st2 := []) (M2 := s1) hC hqX12_wordHere rfl ?_
  refine gw_pick [2, 1, 0] (ls2 := [(0, .ref (464)), (1, .int (0)), (2, .int (0))]) rfl ?_
  exact c_FM_wordHere_L8 hC sz d (by omega) R 1000 (0 : Int32) (0 : Int32) s1 hr
def FM_six_J49 (a : Int32) (b : Int32) (c : Int32) (u : Int32) (e : Int32) (g : Int32) (y0 : Int32) : Int32 :=
  if g = (0 : Int32) then y0 else (((27 : Int32) * y0) + g)
set_option maxRecDepth 20000 in
theorem c_FM_six_J49 {l : Launch} {C : gC} (hC : g_ctx l C) (a : Int32) (b : Int32) (c : Int32) (u : Int32) (e : Int32) (g : Int32) (M : gM) (sz d : Nat) (hd : 1 ≤ d) (R : Int32) (y0 : Int32) (hr : FM_six_J49 a b c u e g y0 = R) : GW l C qX12_six d (gQg 956 g_S0 (qIp M R) sz) gN 0 0 49 [(5, .int (g))] [.int (y0)] (956, g_S0, M, sz) := by
  unfold FM_six_J49 at hr
  refine gb_run 2 (pc2 := 53) (ls2 := [(6, .int (y0)), (5, .int (g))]) (st2 := [.int (g)]) (M2 := M) hC hqX12_six rfl ?_
  refine gb_if_ne hqX12_six rfl (fun h1 => ?_) (fun h1 => ?_)
  ·
    have hr := g_if0 h1 hr
    refine gb_run 5 (pc2 := 69) (ls2 := [(6, .int (y0)), (5, .int (g))]) (st2 := [.int (((27 : Int32) * y0) + g)]) (M2 := M) hC hqX12_six rfl ?_
    refine gb_iret hqX12_six rfl rfl (Nat.le_of_ble_eq_true rfl) (Nat.le_of_ble_eq_true rfl) ?_
    exact gl_It hr
  ·
    have hr := g_if1 h1 hr
    refine gb_run 2 (pc2 := 69) (ls2 := [(6, .int (y0)), (5, .int (g))]) (st2 := [.int (y0)]) (M2 := M) hC hqX12_six rfl ?_
    refine gb_iret hqX12_six rfl rfl (Nat.le_of_ble_eq_true rfl) (Nat.le_of_ble_eq_true rfl) ?_
    exact gl_It hr
def FM_six_J29 (a : Int32) (b : Int32) (c : Int32) (u : Int32) (e : Int32) (g : Int32) (y0 : Int32) : Int32 :=
  if e = (0 : Int32) then (FM_six_J49 a b c u e g y0) else (FM_six_J49 a b c u e g (((27 : Int32) * y0) + e))
set_option maxRecDepth 20000 in
theorem c_FM_six_J29 {l : Launch} {C : gC} (hC : g_ctx l C) (a : Int32) (b : Int32) (c : Int32) (u : Int32) (e : Int32) (g : Int32) (M : gM) (sz d : Nat) (hd : 1 ≤ d) (R : Int32) (y0 : Int32) (hr : FM_six_J29 a b c u e g y0 = R) : GW l C qX12_six d (gQg 956 g_S0 (qIp M R) sz) gN 0 0 29 [(4, .int (e)), (5, .int (g))] [.int (y0)] (956, g_S0, M, sz) := by
  unfold FM_six_J29 at hr
  refine gb_run 2 (pc2 := 33) (ls2 := [(6, .int (y0)), (4, .int (e)), (5, .int (g))]) (st2 := [.int (e)]) (M2 := M) hC hqX12_six rfl ?_
  refine gb_if_ne hqX12_six rfl (fun h1 => ?_) (fun h1 => ?_)
  ·
    have hr := g_if0 h1 hr
    refine gb_run 5 (pc2 := 49) (ls2 := [(6, .int (y0)), (4, .int (e)), (5, .int (g))]) (st2 := [.int (((27 : Int32) * y0) + e)]) (M2 := M) hC hqX12_six rfl ?_
    refine gw_pick [2] (ls2 := [(5, .int (g))]) rfl ?_
    exact c_FM_six_J49 hC a b c u e g M sz d (by omega) R (((27 : Int32) * y0) + e) hr
  ·
    have hr := g_if1 h1 hr
    refine gb_run 2 (pc2 := 49) (ls2 := [(6, .int (y0)), (4, .int (e)), (5, .int (g))]) (st2 := [.int (y0)]) (M2 := M) hC hqX12_six rfl ?_
    refine gw_pick [2] (ls2 := [(5, .int (g))]) rfl ?_
    exact c_FM_six_J49 hC a b c u e g M sz d (by omega) R y0 hr
def FM_six (a : Int32) (b : Int32) (c : Int32) (u : Int32) (e : Int32) (g : Int32) : Int32 :=
  if u = (0 : Int32) then (FM_six_J29 a b c u e g (((27 : Int32) * (((27 : Int32) * a) + b)) + c)) else (FM_six_J29 a b c u e g (((27 : Int32) * (((27 : Int32) * (((27 : Int32) * a) + b)) + c)) + u))
set_option maxRecDepth 20000 in
theorem c_FM_six {l : Launch} {C : gC} (hC : g_ctx l C) (a : Int32) (b : Int32) (c : Int32) (u : Int32) (e : Int32) (g : Int32)  (M : gM) (sz d : Nat) (hd : 1 ≤ d) : gPg l C qX12_six d [.int (a), .int (b), .int (c), .int (u), .int (e), .int (g)] 956 g_S0 M sz (qIp M (FM_six a b c u e g)) := by
  refine gPg.of (ls := [(0, .int (a)), (1, .int (b)), (2, .int (c)), (3, .int (u)), (4, .int (e)), (5, .int (g))]) (by decide +kernel) (Nat.le_of_ble_eq_true rfl) rfl ?_
  obtain ⟨R, hr⟩ : ∃ R, FM_six a b c u e g = R := ⟨_, rfl⟩
  rw [hr]
  unfold FM_six at hr
  refine gb_run 11 (pc2 := 14) (ls2 := [(6, .int (((27 : Int32) * (((27 : Int32) * a) + b)) + c)), (0, .int (a)), (1, .int (b)), (2, .int (c)), (3, .int (u)), (4, .int (e)), (5, .int (g))]) (st2 := [.int (u)]) (M2 := M) hC hqX12_six rfl ?_
  refine gb_if_ne hqX12_six rfl (fun h1 => ?_) (fun h1 => ?_)
  ·
    have hr := g_if0 h1 hr
    refine gb_run 5 (pc2 := 29) (ls2 := [(6, .int (((27 : Int32) * (((27 : Int32) * a) + b)) + c)), (0, .int (a)), (1, .int (b)), (2, .int (c)), (3, .int (u)), (4, .int (e)), (5, .int (g))]) (st2 := [.int (((27 : Int32) * (((27 : Int32) * (((27 : Int32) * a) + b)) + c)) + u)]) (M2 := M) hC hqX12_six rfl ?_
    refine gw_pick [5, 6] (ls2 := [(4, .int (e)), (5, .int (g))]) rfl ?_
    exact c_FM_six_J29 hC a b c u e g M sz d (by omega) R (((27 : Int32) * (((27 : Int32) * (((27 : Int32) * a) + b)) + c)) + u) hr
  ·
    have hr := g_if1 h1 hr
    refine gb_run 2 (pc2 := 29) (ls2 := [(6, .int (((27 : Int32) * (((27 : Int32) * a) + b)) + c)), (0, .int (a)), (1, .int (b)), (2, .int (c)), (3, .int (u)), (4, .int (e)), (5, .int (g))]) (st2 := [.int (((27 : Int32) * (((27 : Int32) * a) + b)) + c)]) (M2 := M) hC hqX12_six rfl ?_
    refine gw_pick [5, 6] (ls2 := [(4, .int (e)), (5, .int (g))]) rfl ?_
    exact c_FM_six_J29 hC a b c u e g M sz d (by omega) R (((27 : Int32) * (((27 : Int32) * a) + b)) + c) hr
def FM_isWord (a : Int32) (b : Int32) (c : Int32) (u : Int32) (e : Int32) (g : Int32) (M : gM) : Option (Int32 × gM) :=
  if (M 464 5) = (0 : Int32) then ((FM_wordHere M).bind fun s2 => if s2.1 = (FM_six a b c u e g) then (some (1, s2.2)) else (some (0, s2.2))) else (some (0, M))
set_option maxRecDepth 20000 in
theorem c_FM_isWord {l : Launch} {C : gC} (hC : g_ctx l C) (a : Int32) (b : Int32) (c : Int32) (u : Int32) (e : Int32) (g : Int32)  (M : gM) (sz d : Nat) (hd : 4 ≤ d) (R : Int32 × gM) (hr : FM_isWord a b c u e g M = some R) : gPg l C qX12_isWord d [.ref (464), .int (a), .int (b), .int (c), .int (u), .int (e), .int (g)] 956 g_S0 M sz (qZ R) := by
  refine gPg.of (ls := [(0, .ref (464)), (1, .int (a)), (2, .int (b)), (3, .int (c)), (4, .int (u)), (5, .int (e)), (6, .int (g))]) (by decide +kernel) (Nat.le_of_ble_eq_true rfl) rfl ?_
  unfold FM_isWord at hr
  refine gb_run 2 (pc2 := 4) (ls2 := [(0, .ref (464)), (1, .int (a)), (2, .int (b)), (3, .int (c)), (4, .int (u)), (5, .int (e)), (6, .int (g))]) (st2 := [.int (M 464 5)]) (M2 := M) hC hqX12_isWord rfl ?_
  refine gb_if_ne hqX12_isWord rfl (fun h1 => ?_) (fun h1 => ?_)
  ·
    have hr := g_if0 h1 hr
    refine gb_run 1 (pc2 := 31) (ls2 := [(0, .ref (464)), (1, .int (a)), (2, .int (b)), (3, .int (c)), (4, .int (u)), (5, .int (e)), (6, .int (g))]) (st2 := [.int (0)]) (M2 := M) hC hqX12_isWord rfl ?_
    refine gb_zret hqX12_isWord rfl rfl (Nat.le_of_ble_eq_true rfl) (Nat.le_of_ble_eq_true rfl) (Or.inl rfl) ?_
    exact gl_Z (Or.inl rfl) hr
  ·
    have hr := g_if1 h1 hr
    refine gb_run 1 (pc2 := 8) (ls2 := [(0, .ref (464)), (1, .int (a)), (2, .int (b)), (3, .int (c)), (4, .int (u)), (5, .int (e)), (6, .int (g))]) (st2 := [.ref (464)]) (M2 := M) hC hqX12_isWord rfl ?_
    obtain ⟨s2, es2, hr⟩ := g_bd hr
    refine gz_cV (z := qX12_wordHere) (a := 464) (av := []) (rest := []) (pl := 1579) hC hqX12_isWord rfl kX12_wordHere sX12_wordHere (by decide +kernel) (c_FM_wordHere hC   M sz (d - 1) (by omega) s2 es2) (by omega) ⟨rfl, rfl⟩ rfl (Nat.le_of_ble_eq_true rfl) (Nat.le_of_ble_eq_true rfl) rfl rfl rfl (Nat.le_of_ble_eq_true rfl) ⟨Nat.le_of_ble_eq_true rfl, Nat.le_of_ble_eq_true rfl⟩ (gs_I ?_)
    refine gb_run 6 (pc2 := 20) (ls2 := [(0, .ref (464)), (1, .int (a)), (2, .int (b)), (3, .int (c)), (4, .int (u)), (5, .int (e)), (6, .int (g))]) (st2 := [.int (g), .int (e), .int (u), .int (c), .int (b), .int (a), .int (s2.1)]) (M2 := s2.2) hC hqX12_isWord rfl ?_
    refine gz_cS (z := qX12_six) (av := [.int (a), .int (b), .int (c), .int (u), .int (e), .int (g)]) (rest := [.int (s2.1)]) (pl := 1586) hC hqX12_isWord rfl kX12_six (by decide +kernel) (c_FM_six hC a b c u e g  (s2.2) sz (d - 1) (by omega)) (by omega) ⟨rfl, rfl⟩ rfl rfl (Nat.le_of_ble_eq_true rfl) ⟨Nat.le_of_ble_eq_true rfl, Nat.le_of_ble_eq_true rfl⟩ (gs_Ip ?_)
    refine gb_icmp_ne hqX12_isWord rfl (fun h3 => ?_) (fun h3 => ?_)
    ·
      have hr := g_if0 h3 hr
      refine gb_run 1 (pc2 := 31) (ls2 := [(0, .ref (464)), (1, .int (a)), (2, .int (b)), (3, .int (c)), (4, .int (u)), (5, .int (e)), (6, .int (g))]) (st2 := [.int (0)]) (M2 := s2.2) hC hqX12_isWord rfl ?_
      refine gb_zret hqX12_isWord rfl rfl (Nat.le_of_ble_eq_true rfl) (Nat.le_of_ble_eq_true rfl) (Or.inl rfl) ?_
      exact gl_Z (Or.inl rfl) hr
    ·
      have hr := g_if1 h3 hr
      refine gb_run 2 (pc2 := 31) (ls2 := [(0, .ref (464)), (1, .int (a)), (2, .int (b)), (3, .int (c)), (4, .int (u)), (5, .int (e)), (6, .int (g))]) (st2 := [.int (1)]) (M2 := s2.2) hC hqX12_isWord rfl ?_
      refine gb_zret hqX12_isWord rfl rfl (Nat.le_of_ble_eq_true rfl) (Nat.le_of_ble_eq_true rfl) (Or.inr rfl) ?_
      exact gl_Z (Or.inr rfl) hr
def FM_skipWord_L0 : Nat → gM → Option (gM)
  | 0, _ => none
  | k + 1, M =>
  (FM_byteAt (M 464 4) M).bind fun s1 => if (FM_isSmall s1) = (0 : Int32) then (some M) else (FM_skipWord_L0 k (g_set M 464 4 ((M 464 4) + (1 : Int32))))
set_option maxRecDepth 20000 in
theorem c_FM_skipWord_L0 {l : Launch} {C : gC} (hC : g_ctx l C) (sz d : Nat) (hd : 2 ≤ d) (R : gM) : ∀ (k : Nat) (M : gM), FM_skipWord_L0 k M = some R → GW l C qX12_skipWord d (gQg 956 g_S0 (qV R) sz) gN 0 0 0 [(0, .ref (464))] [] (956, g_S0, M, sz) := by
  intro k
  induction k with
  | zero => intro M hr; exact nomatch (show (none : Option (gM)) = some R from hr)
  | succ k ih =>
    intro M hr
    unfold FM_skipWord_L0 at hr
    refine gb_run 3 (pc2 := 5) (ls2 := [(0, .ref (464))]) (st2 := [.int (M 464 4), .ref (464)]) (M2 := M) hC hqX12_skipWord rfl ?_
    obtain ⟨s1, es1, hr⟩ := g_bd hr
    refine gz_cV (z := qX12_byteAt) (a := 464) (av := [.int (M 464 4)]) (rest := []) (pl := 1563) hC hqX12_skipWord rfl kX12_byteAt sX12_byteAt (by decide +kernel) (c_FM_byteAt hC (M 464 4)  M sz (d - 1) (by omega) s1 es1) (by omega) ⟨rfl, rfl⟩ rfl (Nat.le_of_ble_eq_true rfl) (Nat.le_of_ble_eq_true rfl) rfl rfl rfl (Nat.le_of_ble_eq_true rfl) ⟨Nat.le_of_ble_eq_true rfl, Nat.le_of_ble_eq_true rfl⟩ (gs_Ip ?_)
    refine gz_cS (z := qX12_isSmall) (av := [.int (s1)]) (rest := []) (pl := 1583) hC hqX12_skipWord rfl kX12_isSmall (by decide +kernel) (c_FM_isSmall hC s1  M sz (d - 1) (by omega)) (by omega) ⟨rfl, rfl⟩ rfl rfl (Nat.le_of_ble_eq_true rfl) ⟨Nat.le_of_ble_eq_true rfl, Nat.le_of_ble_eq_true rfl⟩ (gs_Zp fun z3 => ?_)
    refine gb_if_eq hqX12_skipWord rfl (fun h4 => ?_) (fun h4 => ?_)
    ·
      have hr := g_if1 h4 hr
      refine gb_vret hqX12_skipWord rfl rfl (Nat.le_of_ble_eq_true rfl) (Nat.le_of_ble_eq_true rfl) ?_
      exact gl_V hr
    ·
      have hr := g_if0 h4 hr
      refine gb_run 7 (pc2 := 0) (ls2 := [(0, .ref (464))]) (st2 := []) (M2 := g_set M 464 4 ((M 464 4) + (1 : Int32))) hC hqX12_skipWord rfl ?_
      exact ih (g_set M 464 4 ((M 464 4) + (1 : Int32))) hr
def FM_skipWord  (M : gM) : Option (gM) :=
  (FM_byteAt (M 464 4) M).bind fun s1 => if (FM_isSmall s1) = (0 : Int32) then (some M) else (FM_skipWord_L0 1000 (g_set M 464 4 ((M 464 4) + (1 : Int32))))
set_option maxRecDepth 20000 in
theorem c_FM_skipWord {l : Launch} {C : gC} (hC : g_ctx l C)   (M : gM) (sz d : Nat) (hd : 2 ≤ d) (R : gM) (hr : FM_skipWord M = some R) : gPg l C qX12_skipWord d [.ref (464)] 956 g_S0 M sz (qV R) := by
  refine gPg.of (ls := [(0, .ref (464))]) (by decide +kernel) (Nat.le_of_ble_eq_true rfl) rfl ?_
  unfold FM_skipWord at hr
  refine gb_run 3 (pc2 := 5) (ls2 := [(0, .ref (464))]) (st2 := [.int (M 464 4), .ref (464)]) (M2 := M) hC hqX12_skipWord rfl ?_
  obtain ⟨s1, es1, hr⟩ := g_bd hr
  refine gz_cV (z := qX12_byteAt) (a := 464) (av := [.int (M 464 4)]) (rest := []) (pl := 1563) hC hqX12_skipWord rfl kX12_byteAt sX12_byteAt (by decide +kernel) (c_FM_byteAt hC (M 464 4)  M sz (d - 1) (by omega) s1 es1) (by omega) ⟨rfl, rfl⟩ rfl (Nat.le_of_ble_eq_true rfl) (Nat.le_of_ble_eq_true rfl) rfl rfl rfl (Nat.le_of_ble_eq_true rfl) ⟨Nat.le_of_ble_eq_true rfl, Nat.le_of_ble_eq_true rfl⟩ (gs_Ip ?_)
  refine gz_cS (z := qX12_isSmall) (av := [.int (s1)]) (rest := []) (pl := 1583) hC hqX12_skipWord rfl kX12_isSmall (by decide +kernel) (c_FM_isSmall hC s1  M sz (d - 1) (by omega)) (by omega) ⟨rfl, rfl⟩ rfl rfl (Nat.le_of_ble_eq_true rfl) ⟨Nat.le_of_ble_eq_true rfl, Nat.le_of_ble_eq_true rfl⟩ (gs_Zp fun z3 => ?_)
  refine gb_if_eq hqX12_skipWord rfl (fun h4 => ?_) (fun h4 => ?_)
  ·
    have hr := g_if1 h4 hr
    refine gb_vret hqX12_skipWord rfl rfl (Nat.le_of_ble_eq_true rfl) (Nat.le_of_ble_eq_true rfl) ?_
    exact gl_V hr
  ·
    have hr := g_if0 h4 hr
    refine gb_run 7 (pc2 := 0) (ls2 := [(0, .ref (464))]) (st2 := []) (M2 := g_set M 464 4 ((M 464 4) + (1 : Int32))) hC hqX12_skipWord rfl ?_
    exact c_FM_skipWord_L0 hC sz d (by omega) R 1000 (g_set M 464 4 ((M 464 4) + (1 : Int32))) hr
def FM_takes (a : Int32) (b : Int32) (c : Int32) (u : Int32) (e : Int32) (g : Int32) (M : gM) : Option (Int32 × gM) :=
  (FM_isWord a b c u e g M).bind fun s1 => if s1.1 = (0 : Int32) then (some (s1.1, s1.2)) else ((FM_skipWord (s1.2)).bind fun s4 => some (s1.1, s4))
set_option maxRecDepth 20000 in
theorem c_FM_takes {l : Launch} {C : gC} (hC : g_ctx l C) (a : Int32) (b : Int32) (c : Int32) (u : Int32) (e : Int32) (g : Int32)  (M : gM) (sz d : Nat) (hd : 5 ≤ d) (R : Int32 × gM) (hr : FM_takes a b c u e g M = some R) : gPg l C qX12_takes d [.ref (464), .int (a), .int (b), .int (c), .int (u), .int (e), .int (g)] 956 g_S0 M sz (qZ R) := by
  refine gPg.of (ls := [(0, .ref (464)), (1, .int (a)), (2, .int (b)), (3, .int (c)), (4, .int (u)), (5, .int (e)), (6, .int (g))]) (by decide +kernel) (Nat.le_of_ble_eq_true rfl) rfl ?_
  unfold FM_takes at hr
  refine gb_run 7 (pc2 := 10) (ls2 := [(0, .ref (464)), (1, .int (a)), (2, .int (b)), (3, .int (c)), (4, .int (u)), (5, .int (e)), (6, .int (g))]) (st2 := [.int (g), .int (e), .int (u), .int (c), .int (b), .int (a), .ref (464)]) (M2 := M) hC hqX12_takes rfl ?_
  obtain ⟨s1, es1, hr⟩ := g_bd hr
  refine gz_cV (z := qX12_isWord) (a := 464) (av := [.int (a), .int (b), .int (c), .int (u), .int (e), .int (g)]) (rest := []) (pl := 1575) hC hqX12_takes rfl kX12_isWord sX12_isWord (by decide +kernel) (c_FM_isWord hC a b c u e g  M sz (d - 1) (by omega) s1 es1) (by omega) ⟨rfl, rfl⟩ rfl (Nat.le_of_ble_eq_true rfl) (Nat.le_of_ble_eq_true rfl) rfl rfl rfl (Nat.le_of_ble_eq_true rfl) ⟨Nat.le_of_ble_eq_true rfl, Nat.le_of_ble_eq_true rfl⟩ (gs_Z fun z2 => ?_)
  refine gb_run 2 (pc2 := 17) (ls2 := [(7, .int (s1.1)), (0, .ref (464)), (1, .int (a)), (2, .int (b)), (3, .int (c)), (4, .int (u)), (5, .int (e)), (6, .int (g))]) (st2 := [.int (s1.1)]) (M2 := s1.2) hC hqX12_takes rfl ?_
  refine gb_if_eq hqX12_takes rfl (fun h3 => ?_) (fun h3 => ?_)
  ·
    have hr := g_if1 h3 hr
    refine gb_run 1 (pc2 := 26) (ls2 := [(7, .int (s1.1)), (0, .ref (464)), (1, .int (a)), (2, .int (b)), (3, .int (c)), (4, .int (u)), (5, .int (e)), (6, .int (g))]) (st2 := [.int (s1.1)]) (M2 := s1.2) hC hqX12_takes rfl ?_
    refine gb_zret hqX12_takes rfl rfl (Nat.le_of_ble_eq_true rfl) (Nat.le_of_ble_eq_true rfl) (z2) ?_
    exact gl_Z (z2) hr
  ·
    have hr := g_if0 h3 hr
    refine gb_run 1 (pc2 := 21) (ls2 := [(7, .int (s1.1)), (0, .ref (464)), (1, .int (a)), (2, .int (b)), (3, .int (c)), (4, .int (u)), (5, .int (e)), (6, .int (g))]) (st2 := [.ref (464)]) (M2 := s1.2) hC hqX12_takes rfl ?_
    obtain ⟨s4, es4, hr⟩ := g_bd hr
    refine gz_cV (z := qX12_skipWord) (a := 464) (av := []) (rest := []) (pl := 1593) hC hqX12_takes rfl kX12_skipWord sX12_skipWord (by decide +kernel) (c_FM_skipWord hC   (s1.2) sz (d - 1) (by omega) s4 es4) (by omega) ⟨rfl, rfl⟩ rfl (Nat.le_of_ble_eq_true rfl) (Nat.le_of_ble_eq_true rfl) rfl rfl rfl (Nat.le_of_ble_eq_true rfl) ⟨Nat.le_of_ble_eq_true rfl, Nat.le_of_ble_eq_true rfl⟩ (gs_V ?_)
    refine gb_run 1 (pc2 := 26) (ls2 := [(7, .int (s1.1)), (0, .ref (464)), (1, .int (a)), (2, .int (b)), (3, .int (c)), (4, .int (u)), (5, .int (e)), (6, .int (g))]) (st2 := [.int (s1.1)]) (M2 := s4) hC hqX12_takes rfl ?_
    refine gb_zret hqX12_takes rfl rfl (Nat.le_of_ble_eq_true rfl) (Nat.le_of_ble_eq_true rfl) (z2) ?_
    exact gl_Z (z2) hr
def FM_sign (c : Int32) (M : gM) : Option (gM) :=
  if (M 464 5) = (0 : Int32) then ((FM_blanks M).bind fun s2 => (FM_byteAt (s2 464 4) s2).bind fun s3 => if s3 = c then (some (g_set s2 464 4 ((s2 464 4) + (1 : Int32)))) else ((FM_wrong (1 : Int32) (s2 464 4) s2).bind fun s5 => some s5)) else (some M)
set_option maxRecDepth 20000 in
theorem c_FM_sign {l : Launch} {C : gC} (hC : g_ctx l C) (c : Int32)  (M : gM) (sz d : Nat) (hd : 3 ≤ d) (R : gM) (hr : FM_sign c M = some R) : gPg l C qX12_sign d [.ref (464), .int (c)] 956 g_S0 M sz (qV R) := by
  refine gPg.of (ls := [(0, .ref (464)), (1, .int (c))]) (by decide +kernel) (Nat.le_of_ble_eq_true rfl) rfl ?_
  unfold FM_sign at hr
  refine gb_run 2 (pc2 := 4) (ls2 := [(0, .ref (464)), (1, .int (c))]) (st2 := [.int (M 464 5)]) (M2 := M) hC hqX12_sign rfl ?_
  refine gb_if_eq hqX12_sign rfl (fun h1 => ?_) (fun h1 => ?_)
  ·
    have hr := g_if1 h1 hr
    refine gb_run 1 (pc2 := 9) (ls2 := [(0, .ref (464)), (1, .int (c))]) (st2 := [.ref (464)]) (M2 := M) hC hqX12_sign rfl ?_
    obtain ⟨s2, es2, hr⟩ := g_bd hr
    refine gz_cV (z := qX12_blanks) (a := 464) (av := []) (rest := []) (pl := 1559) hC hqX12_sign rfl kX12_blanks sX12_blanks (by decide +kernel) (c_FM_blanks hC   M sz (d - 1) (by omega) s2 es2) (by omega) ⟨rfl, rfl⟩ rfl (Nat.le_of_ble_eq_true rfl) (Nat.le_of_ble_eq_true rfl) rfl rfl rfl (Nat.le_of_ble_eq_true rfl) ⟨Nat.le_of_ble_eq_true rfl, Nat.le_of_ble_eq_true rfl⟩ (gs_V ?_)
    refine gb_run 3 (pc2 := 17) (ls2 := [(0, .ref (464)), (1, .int (c))]) (st2 := [.int (s2 464 4), .ref (464)]) (M2 := s2) hC hqX12_sign rfl ?_
    obtain ⟨s3, es3, hr⟩ := g_bd hr
    refine gz_cV (z := qX12_byteAt) (a := 464) (av := [.int (s2 464 4)]) (rest := []) (pl := 1563) hC hqX12_sign rfl kX12_byteAt sX12_byteAt (by decide +kernel) (c_FM_byteAt hC (s2 464 4)  s2 sz (d - 1) (by omega) s3 es3) (by omega) ⟨rfl, rfl⟩ rfl (Nat.le_of_ble_eq_true rfl) (Nat.le_of_ble_eq_true rfl) rfl rfl rfl (Nat.le_of_ble_eq_true rfl) ⟨Nat.le_of_ble_eq_true rfl, Nat.le_of_ble_eq_true rfl⟩ (gs_Ip ?_)
    refine gb_run 1 (pc2 := 21) (ls2 := [(0, .ref (464)), (1, .int (c))]) (st2 := [.int (c), .int (s3)]) (M2 := s2) hC hqX12_sign rfl ?_
    refine gb_icmp_ne hqX12_sign rfl (fun h4 => ?_) (fun h4 => ?_)
    ·
      have hr := g_if0 h4 hr
      refine gb_run 4 (pc2 := 43) (ls2 := [(0, .ref (464)), (1, .int (c))]) (st2 := [.int (s2 464 4), .int (1), .ref (464)]) (M2 := s2) hC hqX12_sign rfl ?_
      obtain ⟨s5, es5, hr⟩ := g_bd hr
      refine gz_cV (z := qX12_wrong) (a := 464) (av := [.int (1), .int (s2 464 4)]) (rest := []) (pl := 1589) hC hqX12_sign rfl kX12_wrong sX12_wrong (by decide +kernel) (c_FM_wrong hC (1 : Int32) (s2 464 4)  s2 sz (d - 1) (by omega) s5 es5) (by omega) ⟨rfl, rfl⟩ rfl (Nat.le_of_ble_eq_true rfl) (Nat.le_of_ble_eq_true rfl) rfl rfl rfl (Nat.le_of_ble_eq_true rfl) ⟨Nat.le_of_ble_eq_true rfl, Nat.le_of_ble_eq_true rfl⟩ (gs_V ?_)
      refine gb_vret hqX12_sign rfl rfl (Nat.le_of_ble_eq_true rfl) (Nat.le_of_ble_eq_true rfl) ?_
      exact gl_V hr
    ·
      have hr := g_if1 h4 hr
      refine gb_run 7 (pc2 := 46) (ls2 := [(0, .ref (464)), (1, .int (c))]) (st2 := []) (M2 := g_set s2 464 4 ((s2 464 4) + (1 : Int32))) hC hqX12_sign rfl ?_
      refine gb_vret hqX12_sign rfl rfl (Nat.le_of_ble_eq_true rfl) (Nat.le_of_ble_eq_true rfl) ?_
      exact gl_V hr
  ·
    have hr := g_if0 h1 hr
    refine gb_vret hqX12_sign rfl rfl (Nat.le_of_ble_eq_true rfl) (Nat.le_of_ble_eq_true rfl) ?_
    exact gl_V hr
def FM_takesSign_J30 (c : Int32) (y0 : Int32) (M : gM) : Option (Int32 × gM) :=
  if y0 = (0 : Int32) then (some (y0, M)) else (some (y0, g_set M 464 4 ((M 464 4) + (1 : Int32))))
set_option maxRecDepth 20000 in
theorem c_FM_takesSign_J30 {l : Launch} {C : gC} (hC : g_ctx l C) (c : Int32) (sz d : Nat) (hd : 3 ≤ d) (R : Int32 × gM) (y0 : Int32) (hzy0 : y0 = 0 ∨ y0 = 1) (M : gM) (hr : FM_takesSign_J30 c y0 M = some R) : GW l C qX12_takesSign d (gQg 956 g_S0 (qZ R) sz) gN 0 0 30 [(0, .ref (464))] [.int (y0)] (956, g_S0, M, sz) := by
  unfold FM_takesSign_J30 at hr
  refine gb_run 2 (pc2 := 32) (ls2 := [(2, .int (y0)), (0, .ref (464))]) (st2 := [.int (y0)]) (M2 := M) hC hqX12_takesSign rfl ?_
  refine gb_if_eq hqX12_takesSign rfl (fun h1 => ?_) (fun h1 => ?_)
  ·
    have hr := g_if1 h1 hr
    refine gb_run 1 (pc2 := 46) (ls2 := [(2, .int (y0)), (0, .ref (464))]) (st2 := [.int (y0)]) (M2 := M) hC hqX12_takesSign rfl ?_
    refine gb_zret hqX12_takesSign rfl rfl (Nat.le_of_ble_eq_true rfl) (Nat.le_of_ble_eq_true rfl) (hzy0) ?_
    exact gl_Z (hzy0) hr
  ·
    have hr := g_if0 h1 hr
    refine gb_run 7 (pc2 := 46) (ls2 := [(2, .int (y0)), (0, .ref (464))]) (st2 := [.int (y0)]) (M2 := g_set M 464 4 ((M 464 4) + (1 : Int32))) hC hqX12_takesSign rfl ?_
    refine gb_zret hqX12_takesSign rfl rfl (Nat.le_of_ble_eq_true rfl) (Nat.le_of_ble_eq_true rfl) (hzy0) ?_
    exact gl_Z (hzy0) hr
def FM_takesSign (c : Int32) (M : gM) : Option (Int32 × gM) :=
  if (M 464 5) = (0 : Int32) then ((FM_blanks M).bind fun s2 => (FM_byteAt (s2 464 4) s2).bind fun s3 => if s3 = c then (FM_takesSign_J30 c (1 : Int32) s2) else (FM_takesSign_J30 c (0 : Int32) s2)) else (some (0, M))
set_option maxRecDepth 20000 in
theorem c_FM_takesSign {l : Launch} {C : gC} (hC : g_ctx l C) (c : Int32)  (M : gM) (sz d : Nat) (hd : 3 ≤ d) (R : Int32 × gM) (hr : FM_takesSign c M = some R) : gPg l C qX12_takesSign d [.ref (464), .int (c)] 956 g_S0 M sz (qZ R) := by
  refine gPg.of (ls := [(0, .ref (464)), (1, .int (c))]) (by decide +kernel) (Nat.le_of_ble_eq_true rfl) rfl ?_
  unfold FM_takesSign at hr
  refine gb_run 2 (pc2 := 4) (ls2 := [(0, .ref (464)), (1, .int (c))]) (st2 := [.int (M 464 5)]) (M2 := M) hC hqX12_takesSign rfl ?_
  refine gb_if_eq hqX12_takesSign rfl (fun h1 => ?_) (fun h1 => ?_)
  ·
    have hr := g_if1 h1 hr
    refine gb_run 1 (pc2 := 10) (ls2 := [(0, .ref (464)), (1, .int (c))]) (st2 := [.ref (464)]) (M2 := M) hC hqX12_takesSign rfl ?_
    obtain ⟨s2, es2, hr⟩ := g_bd hr
    refine gz_cV (z := qX12_blanks) (a := 464) (av := []) (rest := []) (pl := 1559) hC hqX12_takesSign rfl kX12_blanks sX12_blanks (by decide +kernel) (c_FM_blanks hC   M sz (d - 1) (by omega) s2 es2) (by omega) ⟨rfl, rfl⟩ rfl (Nat.le_of_ble_eq_true rfl) (Nat.le_of_ble_eq_true rfl) rfl rfl rfl (Nat.le_of_ble_eq_true rfl) ⟨Nat.le_of_ble_eq_true rfl, Nat.le_of_ble_eq_true rfl⟩ (gs_V ?_)
    refine gb_run 3 (pc2 := 18) (ls2 := [(0, .ref (464)), (1, .int (c))]) (st2 := [.int (s2 464 4), .ref (464)]) (M2 := s2) hC hqX12_takesSign rfl ?_
    obtain ⟨s3, es3, hr⟩ := g_bd hr
    refine gz_cV (z := qX12_byteAt) (a := 464) (av := [.int (s2 464 4)]) (rest := []) (pl := 1563) hC hqX12_takesSign rfl kX12_byteAt sX12_byteAt (by decide +kernel) (c_FM_byteAt hC (s2 464 4)  s2 sz (d - 1) (by omega) s3 es3) (by omega) ⟨rfl, rfl⟩ rfl (Nat.le_of_ble_eq_true rfl) (Nat.le_of_ble_eq_true rfl) rfl rfl rfl (Nat.le_of_ble_eq_true rfl) ⟨Nat.le_of_ble_eq_true rfl, Nat.le_of_ble_eq_true rfl⟩ (gs_Ip ?_)
    refine gb_run 1 (pc2 := 22) (ls2 := [(0, .ref (464)), (1, .int (c))]) (st2 := [.int (c), .int (s3)]) (M2 := s2) hC hqX12_takesSign rfl ?_
    refine gb_icmp_ne hqX12_takesSign rfl (fun h4 => ?_) (fun h4 => ?_)
    ·
      have hr := g_if0 h4 hr
      refine gb_run 1 (pc2 := 30) (ls2 := [(0, .ref (464)), (1, .int (c))]) (st2 := [.int (0)]) (M2 := s2) hC hqX12_takesSign rfl ?_
      refine gw_pick [0] (ls2 := [(0, .ref (464))]) rfl ?_
      exact c_FM_takesSign_J30 hC c sz d (by omega) R (0 : Int32) (Or.inl rfl) s2 hr
    ·
      have hr := g_if1 h4 hr
      refine gb_run 2 (pc2 := 30) (ls2 := [(0, .ref (464)), (1, .int (c))]) (st2 := [.int (1)]) (M2 := s2) hC hqX12_takesSign rfl ?_
      refine gw_pick [0] (ls2 := [(0, .ref (464))]) rfl ?_
      exact c_FM_takesSign_J30 hC c sz d (by omega) R (1 : Int32) (Or.inr rfl) s2 hr
  ·
    have hr := g_if0 h1 hr
    refine gb_run 1 (pc2 := 8) (ls2 := [(0, .ref (464)), (1, .int (c))]) (st2 := [.int (0)]) (M2 := M) hC hqX12_takesSign rfl ?_
    refine gb_zret hqX12_takesSign rfl rfl (Nat.le_of_ble_eq_true rfl) (Nat.le_of_ble_eq_true rfl) (Or.inl rfl) ?_
    exact gl_Z (Or.inl rfl) hr
def FM_starts (e : Int32) (M : gM) : Option (gM) :=
  (FM_blanks (g_set (g_set (g_set (g_set (g_set (g_set (g_set M 464 1 (0 : Int32)) 464 2 e) 464 4 (0 : Int32)) 464 5 (0 : Int32)) 464 6 (-1 : Int32)) 464 7 (0 : Int32)) 464 8 (0 : Int32))).bind fun s1 => some s1
set_option maxRecDepth 20000 in
theorem c_FM_starts {l : Launch} {C : gC} (hC : g_ctx l C) (e : Int32)  (M : gM) (sz d : Nat) (hd : 3 ≤ d) (R : gM) (hr : FM_starts e M = some R) : gPg l C qX12_starts d [.ref (464), .int (e)] 956 g_S0 M sz (qV R) := by
  refine gPg.of (ls := [(0, .ref (464)), (1, .int (e))]) (by decide +kernel) (Nat.le_of_ble_eq_true rfl) rfl ?_
  unfold FM_starts at hr
  refine gb_run 22 (pc2 := 36) (ls2 := [(0, .ref (464)), (1, .int (e))]) (st2 := [.ref (464)]) (M2 := g_set (g_set (g_set (g_set (g_set (g_set (g_set M 464 1 (0 : Int32)) 464 2 e) 464 4 (0 : Int32)) 464 5 (0 : Int32)) 464 6 (-1 : Int32)) 464 7 (0 : Int32)) 464 8 (0 : Int32)) hC hqX12_starts rfl ?_
  obtain ⟨s1, es1, hr⟩ := g_bd hr
  refine gz_cV (z := qX12_blanks) (a := 464) (av := []) (rest := []) (pl := 1559) hC hqX12_starts rfl kX12_blanks sX12_blanks (by decide +kernel) (c_FM_blanks hC   (g_set (g_set (g_set (g_set (g_set (g_set (g_set M 464 1 (0 : Int32)) 464 2 e) 464 4 (0 : Int32)) 464 5 (0 : Int32)) 464 6 (-1 : Int32)) 464 7 (0 : Int32)) 464 8 (0 : Int32)) sz (d - 1) (by omega) s1 es1) (by omega) ⟨rfl, rfl⟩ rfl (Nat.le_of_ble_eq_true rfl) (Nat.le_of_ble_eq_true rfl) rfl rfl rfl (Nat.le_of_ble_eq_true rfl) ⟨Nat.le_of_ble_eq_true rfl, Nat.le_of_ble_eq_true rfl⟩ (gs_V ?_)
  refine gb_vret hqX12_starts rfl rfl (Nat.le_of_ble_eq_true rfl) (Nat.le_of_ble_eq_true rfl) ?_
  exact gl_V hr
def FM_ends  (M : gM) : Option (Int32 × gM) :=
  some ((M 464 5) - (10 : Int32), g_set M 464 3 (M 464 6))
set_option maxRecDepth 20000 in
theorem c_FM_ends {l : Launch} {C : gC} (hC : g_ctx l C)   (M : gM) (sz d : Nat) (hd : 1 ≤ d) (R : Int32 × gM) (hr : FM_ends M = some R) : gPg l C qX12_ends d [.ref (464)] 956 g_S0 M sz (qI R) := by
  refine gPg.of (ls := [(0, .ref (464))]) (by decide +kernel) (Nat.le_of_ble_eq_true rfl) rfl ?_
  unfold FM_ends at hr
  refine gb_run 8 (pc2 := 15) (ls2 := [(0, .ref (464))]) (st2 := [.int ((M 464 5) - (10 : Int32))]) (M2 := g_set M 464 3 (M 464 6)) hC hqX12_ends rfl ?_
  refine gb_iret hqX12_ends rfl rfl (Nat.le_of_ble_eq_true rfl) (Nat.le_of_ble_eq_true rfl) ?_
  exact gl_I hr
def FM_kindHere  (M : gM) : Option (Int32 × gM) :=
  (FM_isWord (23 : Int32) (1 : Int32) (12 : Int32) (11 : Int32) (0 : Int32) (0 : Int32) M).bind fun s1 => if s1.1 = (0 : Int32) then ((FM_isWord (3 : Int32) (8 : Int32) (9 : Int32) (12 : Int32) (4 : Int32) (0 : Int32) (s1.2)).bind fun s4 => if s4.1 = (0 : Int32) then ((FM_isWord (8 : Int32) (15 : Int32) (15 : Int32) (16 : Int32) (0 : Int32) (0 : Int32) (s4.2)).bind fun s7 => if s7.1 = (0 : Int32) then ((FM_isWord (12 : Int32) (15 : Int32) (14 : Int32) (7 : Int32) (0 : Int32) (0 : Int32) (s7.2)).bind fun s10 => if s10.1 = (0 : Int32) then ((FM_isWord (6 : Int32) (9 : Int32) (14 : Int32) (5 : Int32) (0 : Int32) (0 : Int32) (s10.2)).bind fun s13 => if s13.1 = (0 : Int32) then (some (-1, s13.2)) else (some (4, s13.2))) else (some (3, s10.2))) else (some (2, s7.2))) else (some (1, s4.2))) else (some (0, s1.2))
set_option maxRecDepth 20000 in
theorem c_FM_kindHere {l : Launch} {C : gC} (hC : g_ctx l C)   (M : gM) (sz d : Nat) (hd : 5 ≤ d) (R : Int32 × gM) (hr : FM_kindHere M = some R) : gPg l C qX12_kindHere d [.ref (464)] 956 g_S0 M sz (qI R) := by
  refine gPg.of (ls := [(0, .ref (464))]) (by decide +kernel) (Nat.le_of_ble_eq_true rfl) rfl ?_
  unfold FM_kindHere at hr
  refine gb_run 7 (pc2 := 10) (ls2 := [(0, .ref (464))]) (st2 := [.int (0), .int (0), .int (11), .int (12), .int (1), .int (23), .ref (464)]) (M2 := M) hC hqX12_kindHere rfl ?_
  obtain ⟨s1, es1, hr⟩ := g_bd hr
  refine gz_cV (z := qX12_isWord) (a := 464) (av := [.int (23), .int (1), .int (12), .int (11), .int (0), .int (0)]) (rest := []) (pl := 1575) hC hqX12_kindHere rfl kX12_isWord sX12_isWord (by decide +kernel) (c_FM_isWord hC (23 : Int32) (1 : Int32) (12 : Int32) (11 : Int32) (0 : Int32) (0 : Int32)  M sz (d - 1) (by omega) s1 es1) (by omega) ⟨rfl, rfl⟩ rfl (Nat.le_of_ble_eq_true rfl) (Nat.le_of_ble_eq_true rfl) rfl rfl rfl (Nat.le_of_ble_eq_true rfl) ⟨Nat.le_of_ble_eq_true rfl, Nat.le_of_ble_eq_true rfl⟩ (gs_Z fun z2 => ?_)
  refine gb_if_eq hqX12_kindHere rfl (fun h3 => ?_) (fun h3 => ?_)
  ·
    have hr := g_if1 h3 hr
    refine gb_run 7 (pc2 := 28) (ls2 := [(0, .ref (464))]) (st2 := [.int (0), .int (4), .int (12), .int (9), .int (8), .int (3), .ref (464)]) (M2 := s1.2) hC hqX12_kindHere rfl ?_
    obtain ⟨s4, es4, hr⟩ := g_bd hr
    refine gz_cV (z := qX12_isWord) (a := 464) (av := [.int (3), .int (8), .int (9), .int (12), .int (4), .int (0)]) (rest := []) (pl := 1575) hC hqX12_kindHere rfl kX12_isWord sX12_isWord (by decide +kernel) (c_FM_isWord hC (3 : Int32) (8 : Int32) (9 : Int32) (12 : Int32) (4 : Int32) (0 : Int32)  (s1.2) sz (d - 1) (by omega) s4 es4) (by omega) ⟨rfl, rfl⟩ rfl (Nat.le_of_ble_eq_true rfl) (Nat.le_of_ble_eq_true rfl) rfl rfl rfl (Nat.le_of_ble_eq_true rfl) ⟨Nat.le_of_ble_eq_true rfl, Nat.le_of_ble_eq_true rfl⟩ (gs_Z fun z5 => ?_)
    refine gb_if_eq hqX12_kindHere rfl (fun h6 => ?_) (fun h6 => ?_)
    ·
      have hr := g_if1 h6 hr
      refine gb_run 7 (pc2 := 47) (ls2 := [(0, .ref (464))]) (st2 := [.int (0), .int (0), .int (16), .int (15), .int (15), .int (8), .ref (464)]) (M2 := s4.2) hC hqX12_kindHere rfl ?_
      obtain ⟨s7, es7, hr⟩ := g_bd hr
      refine gz_cV (z := qX12_isWord) (a := 464) (av := [.int (8), .int (15), .int (15), .int (16), .int (0), .int (0)]) (rest := []) (pl := 1575) hC hqX12_kindHere rfl kX12_isWord sX12_isWord (by decide +kernel) (c_FM_isWord hC (8 : Int32) (15 : Int32) (15 : Int32) (16 : Int32) (0 : Int32) (0 : Int32)  (s4.2) sz (d - 1) (by omega) s7 es7) (by omega) ⟨rfl, rfl⟩ rfl (Nat.le_of_ble_eq_true rfl) (Nat.le_of_ble_eq_true rfl) rfl rfl rfl (Nat.le_of_ble_eq_true rfl) ⟨Nat.le_of_ble_eq_true rfl, Nat.le_of_ble_eq_true rfl⟩ (gs_Z fun z8 => ?_)
      refine gb_if_eq hqX12_kindHere rfl (fun h9 => ?_) (fun h9 => ?_)
      ·
        have hr := g_if1 h9 hr
        refine gb_run 7 (pc2 := 66) (ls2 := [(0, .ref (464))]) (st2 := [.int (0), .int (0), .int (7), .int (14), .int (15), .int (12), .ref (464)]) (M2 := s7.2) hC hqX12_kindHere rfl ?_
        obtain ⟨s10, es10, hr⟩ := g_bd hr
        refine gz_cV (z := qX12_isWord) (a := 464) (av := [.int (12), .int (15), .int (14), .int (7), .int (0), .int (0)]) (rest := []) (pl := 1575) hC hqX12_kindHere rfl kX12_isWord sX12_isWord (by decide +kernel) (c_FM_isWord hC (12 : Int32) (15 : Int32) (14 : Int32) (7 : Int32) (0 : Int32) (0 : Int32)  (s7.2) sz (d - 1) (by omega) s10 es10) (by omega) ⟨rfl, rfl⟩ rfl (Nat.le_of_ble_eq_true rfl) (Nat.le_of_ble_eq_true rfl) rfl rfl rfl (Nat.le_of_ble_eq_true rfl) ⟨Nat.le_of_ble_eq_true rfl, Nat.le_of_ble_eq_true rfl⟩ (gs_Z fun z11 => ?_)
        refine gb_if_eq hqX12_kindHere rfl (fun h12 => ?_) (fun h12 => ?_)
        ·
          have hr := g_if1 h12 hr
          refine gb_run 7 (pc2 := 84) (ls2 := [(0, .ref (464))]) (st2 := [.int (0), .int (0), .int (5), .int (14), .int (9), .int (6), .ref (464)]) (M2 := s10.2) hC hqX12_kindHere rfl ?_
          obtain ⟨s13, es13, hr⟩ := g_bd hr
          refine gz_cV (z := qX12_isWord) (a := 464) (av := [.int (6), .int (9), .int (14), .int (5), .int (0), .int (0)]) (rest := []) (pl := 1575) hC hqX12_kindHere rfl kX12_isWord sX12_isWord (by decide +kernel) (c_FM_isWord hC (6 : Int32) (9 : Int32) (14 : Int32) (5 : Int32) (0 : Int32) (0 : Int32)  (s10.2) sz (d - 1) (by omega) s13 es13) (by omega) ⟨rfl, rfl⟩ rfl (Nat.le_of_ble_eq_true rfl) (Nat.le_of_ble_eq_true rfl) rfl rfl rfl (Nat.le_of_ble_eq_true rfl) ⟨Nat.le_of_ble_eq_true rfl, Nat.le_of_ble_eq_true rfl⟩ (gs_Z fun z14 => ?_)
          refine gb_if_eq hqX12_kindHere rfl (fun h15 => ?_) (fun h15 => ?_)
          ·
            have hr := g_if1 h15 hr
            refine gb_run 1 (pc2 := 95) (ls2 := [(0, .ref (464))]) (st2 := [.int (-1)]) (M2 := s13.2) hC hqX12_kindHere rfl ?_
            refine gb_iret hqX12_kindHere rfl rfl (Nat.le_of_ble_eq_true rfl) (Nat.le_of_ble_eq_true rfl) ?_
            exact gl_I hr
          ·
            have hr := g_if0 h15 hr
            refine gb_run 2 (pc2 := 95) (ls2 := [(0, .ref (464))]) (st2 := [.int (4)]) (M2 := s13.2) hC hqX12_kindHere rfl ?_
            refine gb_iret hqX12_kindHere rfl rfl (Nat.le_of_ble_eq_true rfl) (Nat.le_of_ble_eq_true rfl) ?_
            exact gl_I hr
        ·
          have hr := g_if0 h12 hr
          refine gb_run 1 (pc2 := 73) (ls2 := [(0, .ref (464))]) (st2 := [.int (3)]) (M2 := s10.2) hC hqX12_kindHere rfl ?_
          refine gb_iret hqX12_kindHere rfl rfl (Nat.le_of_ble_eq_true rfl) (Nat.le_of_ble_eq_true rfl) ?_
          exact gl_I hr
      ·
        have hr := g_if0 h9 hr
        refine gb_run 1 (pc2 := 54) (ls2 := [(0, .ref (464))]) (st2 := [.int (2)]) (M2 := s7.2) hC hqX12_kindHere rfl ?_
        refine gb_iret hqX12_kindHere rfl rfl (Nat.le_of_ble_eq_true rfl) (Nat.le_of_ble_eq_true rfl) ?_
        exact gl_I hr
    ·
      have hr := g_if0 h6 hr
      refine gb_run 1 (pc2 := 35) (ls2 := [(0, .ref (464))]) (st2 := [.int (1)]) (M2 := s4.2) hC hqX12_kindHere rfl ?_
      refine gb_iret hqX12_kindHere rfl rfl (Nat.le_of_ble_eq_true rfl) (Nat.le_of_ble_eq_true rfl) ?_
      exact gl_I hr
  ·
    have hr := g_if0 h3 hr
    refine gb_run 1 (pc2 := 17) (ls2 := [(0, .ref (464))]) (st2 := [.int (0)]) (M2 := s1.2) hC hqX12_kindHere rfl ?_
    refine gb_iret hqX12_kindHere rfl rfl (Nat.le_of_ble_eq_true rfl) (Nat.le_of_ble_eq_true rfl) ?_
    exact gl_I hr
def FM_clause_J265 (M : gM) : Option (gM) :=
  (FM_sign (59 : Int32) M).bind fun s1 => some s1
set_option maxRecDepth 20000 in
theorem c_FM_clause_J265 {l : Launch} {C : gC} (hC : g_ctx l C) (sz d : Nat) (hd : 6 ≤ d) (R : gM) (M : gM) (hr : FM_clause_J265 M = some R) : GW l C qX12_clause d (gQg 956 g_S0 (qV R) sz) gN 0 0 265 [(0, .ref (464))] [] (956, g_S0, M, sz) := by
  unfold FM_clause_J265 at hr
  refine gb_run 2 (pc2 := 268) (ls2 := [(0, .ref (464))]) (st2 := [.int (59), .ref (464)]) (M2 := M) hC hqX12_clause rfl ?_
  obtain ⟨s1, es1, hr⟩ := g_bd hr
  refine gz_cV (z := qX12_sign) (a := 464) (av := [.int (59)]) (rest := []) (pl := 1605) hC hqX12_clause rfl kX12_sign sX12_sign (by decide +kernel) (c_FM_sign hC (59 : Int32)  M sz (d - 1) (by omega) s1 es1) (by omega) ⟨rfl, rfl⟩ rfl (Nat.le_of_ble_eq_true rfl) (Nat.le_of_ble_eq_true rfl) rfl rfl rfl (Nat.le_of_ble_eq_true rfl) ⟨Nat.le_of_ble_eq_true rfl, Nat.le_of_ble_eq_true rfl⟩ (gs_V ?_)
  refine gb_vret hqX12_clause rfl rfl (Nat.le_of_ble_eq_true rfl) (Nat.le_of_ble_eq_true rfl) ?_
  exact gl_V hr
def FM_clause_J263 (y0 : Int32) (y1 : Int32) (y2 : Int32) (M : gM) : Option (gM) :=
  g_ix y2 5 fun j1 => g_let (g_set M 467 j1 (y1 + y0)) fun M2 => FM_clause_J265 M2
set_option maxRecDepth 20000 in
theorem c_FM_clause_J263 {l : Launch} {C : gC} (hC : g_ctx l C) (sz d : Nat) (hd : 6 ≤ d) (R : gM) (y0 : Int32) (y1 : Int32) (y2 : Int32) (M : gM) (hr : FM_clause_J263 y0 y1 y2 M = some R) : GW l C qX12_clause d (gQg 956 g_S0 (qV R) sz) gN 0 0 263 [(0, .ref (464))] [.int (y0), .int (y1), .int (y2), .ref (467)] (956, g_S0, M, sz) := by
  unfold FM_clause_J263 at hr
  refine gb_run 1 (pc2 := 264) (ls2 := [(0, .ref (464))]) (st2 := [.int (y1 + y0), .int (y2), .ref (467)]) (M2 := M) hC hqX12_clause rfl ?_
  obtain ⟨j1, ej1, ij1, lj1, hr⟩ := g_ixo hr
  refine gz_iastore hC hqX12_clause rfl (Nat.le_of_ble_eq_true rfl) rfl ij1 ej1 ?_
  refine g_letP (P := fun M2 => GW l C qX12_clause d (gQg 956 g_S0 (qV R) sz) gN 0 0 265 [(0, .ref (464))] [] (956, g_S0, M2, sz)) hr (fun M2 hr => ?_)
  exact c_FM_clause_J265 hC sz d (by omega) R M2 hr
def FM_clause_J239 (x1 : Int32) (M : gM) : Option (gM) :=
  if (3 : Int32) ≤ x1 then (FM_clause_J265 M) else (g_ix x1 5 fun j2 => if (M 464 5) = (0 : Int32) then (FM_clause_J263 (1 : Int32) (M 467 j2) x1 M) else (FM_clause_J263 (0 : Int32) (M 467 j2) x1 M))
set_option maxRecDepth 20000 in
theorem c_FM_clause_J239 {l : Launch} {C : gC} (hC : g_ctx l C) (sz d : Nat) (hd : 6 ≤ d) (R : gM) (x1 : Int32) (M : gM) (hr : FM_clause_J239 x1 M = some R) : GW l C qX12_clause d (gQg 956 g_S0 (qV R) sz) gN 0 0 239 [(0, .ref (464)), (1, .int (x1))] [] (956, g_S0, M, sz) := by
  unfold FM_clause_J239 at hr
  refine gb_run 2 (pc2 := 241) (ls2 := [(0, .ref (464)), (1, .int (x1))]) (st2 := [.int (3), .int (x1)]) (M2 := M) hC hqX12_clause rfl ?_
  refine gb_icmp_ge hqX12_clause rfl (fun h1 => ?_) (fun h1 => ?_)
  ·
    have hr := g_if1 h1 hr
    refine gw_pick [0] (ls2 := [(0, .ref (464))]) rfl ?_
    exact c_FM_clause_J265 hC sz d (by omega) R M hr
  ·
    have hr := g_if0 h1 hr
    refine gb_run 4 (pc2 := 250) (ls2 := [(0, .ref (464)), (1, .int (x1))]) (st2 := [.int (x1), .ref (467), .int (x1), .ref (467)]) (M2 := M) hC hqX12_clause rfl ?_
    obtain ⟨j2, ej2, ij2, lj2, hr⟩ := g_ixo hr
    refine gz_iaload hC hqX12_clause rfl (Nat.le_of_ble_eq_true rfl) rfl ij2 ej2 ?_
    refine gb_run 2 (pc2 := 255) (ls2 := [(0, .ref (464)), (1, .int (x1))]) (st2 := [.int (M 464 5), .int (M 467 j2), .int (x1), .ref (467)]) (M2 := M) hC hqX12_clause rfl ?_
    refine gb_if_ne hqX12_clause rfl (fun h3 => ?_) (fun h3 => ?_)
    ·
      have hr := g_if0 h3 hr
      refine gb_run 1 (pc2 := 263) (ls2 := [(0, .ref (464)), (1, .int (x1))]) (st2 := [.int (0), .int (M 467 j2), .int (x1), .ref (467)]) (M2 := M) hC hqX12_clause rfl ?_
      refine gw_pick [0] (ls2 := [(0, .ref (464))]) rfl ?_
      exact c_FM_clause_J263 hC sz d (by omega) R (0 : Int32) (M 467 j2) x1 M hr
    ·
      have hr := g_if1 h3 hr
      refine gb_run 2 (pc2 := 263) (ls2 := [(0, .ref (464)), (1, .int (x1))]) (st2 := [.int (1), .int (M 467 j2), .int (x1), .ref (467)]) (M2 := M) hC hqX12_clause rfl ?_
      refine gw_pick [0] (ls2 := [(0, .ref (464))]) rfl ?_
      exact c_FM_clause_J263 hC sz d (by omega) R (1 : Int32) (M 467 j2) x1 M hr
def FM_clause_J218 (x1 : Int32) (y0 : Int32) (y1 : Int32) (M : gM) : Option (gM) :=
  (FM_number y1 y0 M).bind fun s1 => if ((s1.2) 464 5) = (0 : Int32) then (g_ix x1 5 fun j3 => g_let (g_set (s1.2) 467 j3 s1.1) fun M4 => FM_clause_J239 x1 M4) else (FM_clause_J239 x1 (s1.2))
set_option maxRecDepth 20000 in
theorem c_FM_clause_J218 {l : Launch} {C : gC} (hC : g_ctx l C) (sz d : Nat) (hd : 6 ≤ d) (R : gM) (x1 : Int32) (y0 : Int32) (y1 : Int32) (M : gM) (hr : FM_clause_J218 x1 y0 y1 M = some R) : GW l C qX12_clause d (gQg 956 g_S0 (qV R) sz) gN 0 0 218 [(0, .ref (464)), (1, .int (x1))] [.int (y0), .int (y1), .ref (464)] (956, g_S0, M, sz) := by
  unfold FM_clause_J218 at hr
  obtain ⟨s1, es1, hr⟩ := g_bd hr
  refine gz_cV (z := qX12_number) (a := 464) (av := [.int (y1), .int (y0)]) (rest := []) (pl := 1597) hC hqX12_clause rfl kX12_number sX12_number (by decide +kernel) (c_FM_number hC y1 y0  M sz (d - 1) (by omega) s1 es1) (by omega) ⟨rfl, rfl⟩ rfl (Nat.le_of_ble_eq_true rfl) (Nat.le_of_ble_eq_true rfl) rfl rfl rfl (Nat.le_of_ble_eq_true rfl) ⟨Nat.le_of_ble_eq_true rfl, Nat.le_of_ble_eq_true rfl⟩ (gs_I ?_)
  refine gb_run 3 (pc2 := 226) (ls2 := [(3, .int (s1.1)), (0, .ref (464)), (1, .int (x1))]) (st2 := [.int ((s1.2) 464 5)]) (M2 := s1.2) hC hqX12_clause rfl ?_
  refine gb_if_ne hqX12_clause rfl (fun h2 => ?_) (fun h2 => ?_)
  ·
    have hr := g_if0 h2 hr
    refine gw_pick [1, 2] (ls2 := [(0, .ref (464)), (1, .int (x1))]) rfl ?_
    exact c_FM_clause_J239 hC sz d (by omega) R x1 (s1.2) hr
  ·
    have hr := g_if1 h2 hr
    refine gb_run 4 (pc2 := 235) (ls2 := [(3, .int (s1.1)), (0, .ref (464)), (1, .int (x1))]) (st2 := [.int (s1.1), .int (x1), .ref (467)]) (M2 := s1.2) hC hqX12_clause rfl ?_
    obtain ⟨j3, ej3, ij3, lj3, hr⟩ := g_ixo hr
    refine gz_iastore hC hqX12_clause rfl (Nat.le_of_ble_eq_true rfl) rfl ij3 ej3 ?_
    refine g_letP (P := fun M4 => GW l C qX12_clause d (gQg 956 g_S0 (qV R) sz) gN 0 0 236 [(3, .int (s1.1)), (0, .ref (464)), (1, .int (x1))] [] (956, g_S0, M4, sz)) hr (fun M4 hr => ?_)
    refine gb_run 1 (pc2 := 239) (ls2 := [(3, .int (s1.1)), (0, .ref (464)), (1, .int (x1))]) (st2 := []) (M2 := M4) hC hqX12_clause rfl ?_
    refine gw_pick [1, 2] (ls2 := [(0, .ref (464)), (1, .int (x1))]) rfl ?_
    exact c_FM_clause_J239 hC sz d (by omega) R x1 M4 hr
def FM_clause_J205 (x1 : Int32) (y0 : Int32) (M : gM) : Option (gM) :=
  if x1 = (3 : Int32) then (FM_clause_J218 x1 (500 : Int32) y0 M) else (FM_clause_J218 x1 (20 : Int32) y0 M)
set_option maxRecDepth 20000 in
theorem c_FM_clause_J205 {l : Launch} {C : gC} (hC : g_ctx l C) (sz d : Nat) (hd : 6 ≤ d) (R : gM) (x1 : Int32) (y0 : Int32) (M : gM) (hr : FM_clause_J205 x1 y0 M = some R) : GW l C qX12_clause d (gQg 956 g_S0 (qV R) sz) gN 0 0 205 [(0, .ref (464)), (1, .int (x1))] [.int (y0), .ref (464)] (956, g_S0, M, sz) := by
  unfold FM_clause_J205 at hr
  refine gb_run 2 (pc2 := 207) (ls2 := [(0, .ref (464)), (1, .int (x1))]) (st2 := [.int (3), .int (x1), .int (y0), .ref (464)]) (M2 := M) hC hqX12_clause rfl ?_
  refine gb_icmp_ne hqX12_clause rfl (fun h1 => ?_) (fun h1 => ?_)
  ·
    have hr := g_if0 h1 hr
    refine gb_run 1 (pc2 := 218) (ls2 := [(0, .ref (464)), (1, .int (x1))]) (st2 := [.int (20), .int (y0), .ref (464)]) (M2 := M) hC hqX12_clause rfl ?_
    exact c_FM_clause_J218 hC sz d (by omega) R x1 (20 : Int32) y0 M hr
  ·
    have hr := g_if1 h1 hr
    refine gb_run 2 (pc2 := 218) (ls2 := [(0, .ref (464)), (1, .int (x1))]) (st2 := [.int (500), .int (y0), .ref (464)]) (M2 := M) hC hqX12_clause rfl ?_
    exact c_FM_clause_J218 hC sz d (by omega) R x1 (500 : Int32) y0 M hr
def FM_clause_J56 (x1 : Int32) (M : gM) : Option (gM) :=
  if (M 464 5) = (0 : Int32) then ((FM_skipWord M).bind fun s2 => g_ix x1 5 fun j3 => if x1 = (0 : Int32) then (g_ix (s2 467 j3) 8 fun j5 => (FM_number (1 : Int32) (20 : Int32) (g_set s2 464 7 ((s2 464 7) + (1 : Int32)))).bind fun s6 => g_let (g_set (s6.2) (472 + j5) 0 s6.1) fun M7 => g_ix (s2 467 j3) 8 fun j8 => (FM_number (0 : Int32) (16 : Int32) M7).bind fun s9 => g_let (g_set (s9.2) (472 + j8) 1 s9.1) fun M10 => FM_clause_J239 x1 M10) else if x1 = (1 : Int32) then (g_ix (s2 467 j3) 8 fun j12 => (FM_number (1 : Int32) (9 : Int32) (g_set s2 464 7 ((s2 464 7) + (1 : Int32)))).bind fun s13 => g_let (g_set (s13.2) (490 + j12) 0 s13.1) fun M14 => g_ix (s2 467 j3) 8 fun j15 => (FM_number (3 : Int32) (14 : Int32) M14).bind fun s16 => g_let (g_set (s16.2) (490 + j15) 1 s16.1) fun M17 => FM_clause_J239 x1 M17) else if x1 = (2 : Int32) then ((FM_number (1 : Int32) (9 : Int32) (g_set s2 464 7 ((s2 464 7) + (1 : Int32)))).bind fun s19 => g_ix (s2 467 j3) 8 fun j20 => g_let (g_set (s19.2) 469 j20 s19.1) fun M21 => FM_clause_J239 x1 M21) else (if x1 = (3 : Int32) then (FM_clause_J205 x1 (1 : Int32) (g_set s2 464 7 ((s2 464 7) + (1 : Int32)))) else (FM_clause_J205 x1 (0 : Int32) (g_set s2 464 7 ((s2 464 7) + (1 : Int32)))))) else (some M)
set_option maxRecDepth 20000 in
theorem c_FM_clause_J56 {l : Launch} {C : gC} (hC : g_ctx l C) (sz d : Nat) (hd : 6 ≤ d) (R : gM) (x1 : Int32) (M : gM) (hr : FM_clause_J56 x1 M = some R) : GW l C qX12_clause d (gQg 956 g_S0 (qV R) sz) gN 0 0 56 [(0, .ref (464)), (1, .int (x1))] [] (956, g_S0, M, sz) := by
  unfold FM_clause_J56 at hr
  refine gb_run 2 (pc2 := 60) (ls2 := [(0, .ref (464)), (1, .int (x1))]) (st2 := [.int (M 464 5)]) (M2 := M) hC hqX12_clause rfl ?_
  refine gb_if_eq hqX12_clause rfl (fun h1 => ?_) (fun h1 => ?_)
  ·
    have hr := g_if1 h1 hr
    refine gb_run 1 (pc2 := 65) (ls2 := [(0, .ref (464)), (1, .int (x1))]) (st2 := [.ref (464)]) (M2 := M) hC hqX12_clause rfl ?_
    obtain ⟨s2, es2, hr⟩ := g_bd hr
    refine gz_cV (z := qX12_skipWord) (a := 464) (av := []) (rest := []) (pl := 1593) hC hqX12_clause rfl kX12_skipWord sX12_skipWord (by decide +kernel) (c_FM_skipWord hC   M sz (d - 1) (by omega) s2 es2) (by omega) ⟨rfl, rfl⟩ rfl (Nat.le_of_ble_eq_true rfl) (Nat.le_of_ble_eq_true rfl) rfl rfl rfl (Nat.le_of_ble_eq_true rfl) ⟨Nat.le_of_ble_eq_true rfl, Nat.le_of_ble_eq_true rfl⟩ (gs_V ?_)
    refine gb_run 9 (pc2 := 83) (ls2 := [(0, .ref (464)), (1, .int (x1))]) (st2 := [.int (x1), .ref (467)]) (M2 := g_set s2 464 7 ((s2 464 7) + (1 : Int32))) hC hqX12_clause rfl ?_
    obtain ⟨j3, ej3, ij3, lj3, hr⟩ := g_ixo hr
    refine gz_iaload hC hqX12_clause rfl (Nat.le_of_ble_eq_true rfl) rfl ij3 ej3 ?_
    refine gb_run 2 (pc2 := 86) (ls2 := [(2, .int (s2 467 j3)), (0, .ref (464)), (1, .int (x1))]) (st2 := [.int (x1)]) (M2 := g_set s2 464 7 ((s2 464 7) + (1 : Int32))) hC hqX12_clause rfl ?_
    by_cases h4 : x1 = (0 : Int32)
    ·
      have hr := g_if1 h4 hr
      refine gb_tblIn (tgt := 112) hqX12_clause rfl (by rw [h4]; first | done | decide) (by rw [h4]; first | done | decide) (by rw [h4]; first | done | rfl) (by decide) ?_
      refine gb_run 3 (pc2 := 117) (ls2 := [(2, .int (s2 467 j3)), (0, .ref (464)), (1, .int (x1))]) (st2 := [.int (s2 467 j3), .ref (471)]) (M2 := g_set s2 464 7 ((s2 464 7) + (1 : Int32))) hC hqX12_clause rfl ?_
      obtain ⟨j5, ej5, ij5, lj5, hr⟩ := g_ixo hr
      have tj5 := g_t471 j5 lj5
      refine gz_aaload (k0 := 2) (q := 472 + j5) hC hqX12_clause rfl (Nat.le_of_ble_eq_true rfl) rfl (Nat.le_of_ble_eq_true rfl) ij5 ej5 tj5.1 ?_
      refine gb_run 4 (pc2 := 123) (ls2 := [(2, .int (s2 467 j3)), (0, .ref (464)), (1, .int (x1))]) (st2 := [.int (20), .int (1), .ref (464), .int (0), .ref (472 + j5)]) (M2 := g_set s2 464 7 ((s2 464 7) + (1 : Int32))) hC hqX12_clause rfl ?_
      obtain ⟨s6, es6, hr⟩ := g_bd hr
      refine gz_cV (z := qX12_number) (a := 464) (av := [.int (1), .int (20)]) (rest := [.int (0), .ref (472 + j5)]) (pl := 1597) hC hqX12_clause rfl kX12_number sX12_number (by decide +kernel) (c_FM_number hC (1 : Int32) (20 : Int32)  (g_set s2 464 7 ((s2 464 7) + (1 : Int32))) sz (d - 1) (by omega) s6 es6) (by omega) ⟨rfl, rfl⟩ rfl (Nat.le_of_ble_eq_true rfl) (Nat.le_of_ble_eq_true rfl) rfl rfl rfl (Nat.le_of_ble_eq_true rfl) ⟨Nat.le_of_ble_eq_true rfl, Nat.le_of_ble_eq_true rfl⟩ (gs_I ?_)
      refine gb_iastore hC hqX12_clause rfl tj5.2.1 (g_S3 tj5.2.2.1 tj5.2.2.2) (by unfold vp_in; decide) ?_
      rw [show (0 : Int32).toNatClampNeg = 0 from rfl]
      refine g_letP (P := fun M7 => GW l C qX12_clause d (gQg 956 g_S0 (qV R) sz) gN 0 0 127 [(2, .int (s2 467 j3)), (0, .ref (464)), (1, .int (x1))] [] (956, g_S0, M7, sz)) hr (fun M7 hr => ?_)
      refine gb_run 3 (pc2 := 132) (ls2 := [(2, .int (s2 467 j3)), (0, .ref (464)), (1, .int (x1))]) (st2 := [.int (s2 467 j3), .ref (471)]) (M2 := M7) hC hqX12_clause rfl ?_
      obtain ⟨j8, ej8, ij8, lj8, hr⟩ := g_ixo hr
      have tj8 := g_t471 j8 lj8
      refine gz_aaload (k0 := 2) (q := 472 + j8) hC hqX12_clause rfl (Nat.le_of_ble_eq_true rfl) rfl (Nat.le_of_ble_eq_true rfl) ij8 ej8 tj8.1 ?_
      refine gb_run 4 (pc2 := 138) (ls2 := [(2, .int (s2 467 j3)), (0, .ref (464)), (1, .int (x1))]) (st2 := [.int (16), .int (0), .ref (464), .int (1), .ref (472 + j8)]) (M2 := M7) hC hqX12_clause rfl ?_
      obtain ⟨s9, es9, hr⟩ := g_bd hr
      refine gz_cV (z := qX12_number) (a := 464) (av := [.int (0), .int (16)]) (rest := [.int (1), .ref (472 + j8)]) (pl := 1597) hC hqX12_clause rfl kX12_number sX12_number (by decide +kernel) (c_FM_number hC (0 : Int32) (16 : Int32)  M7 sz (d - 1) (by omega) s9 es9) (by omega) ⟨rfl, rfl⟩ rfl (Nat.le_of_ble_eq_true rfl) (Nat.le_of_ble_eq_true rfl) rfl rfl rfl (Nat.le_of_ble_eq_true rfl) ⟨Nat.le_of_ble_eq_true rfl, Nat.le_of_ble_eq_true rfl⟩ (gs_I ?_)
      refine gb_iastore hC hqX12_clause rfl tj8.2.1 (g_S3 tj8.2.2.1 tj8.2.2.2) (by unfold vp_in; decide) ?_
      rw [show (1 : Int32).toNatClampNeg = 1 from rfl]
      refine g_letP (P := fun M10 => GW l C qX12_clause d (gQg 956 g_S0 (qV R) sz) gN 0 0 142 [(2, .int (s2 467 j3)), (0, .ref (464)), (1, .int (x1))] [] (956, g_S0, M10, sz)) hr (fun M10 hr => ?_)
      refine gb_run 1 (pc2 := 239) (ls2 := [(2, .int (s2 467 j3)), (0, .ref (464)), (1, .int (x1))]) (st2 := []) (M2 := M10) hC hqX12_clause rfl ?_
      refine gw_pick [1, 2] (ls2 := [(0, .ref (464)), (1, .int (x1))]) rfl ?_
      exact c_FM_clause_J239 hC sz d (by omega) R x1 M10 hr
    have hr := g_if0 h4 hr
    by_cases h11 : x1 = (1 : Int32)
    ·
      have hr := g_if1 h11 hr
      refine gb_tblIn (tgt := 145) hqX12_clause rfl (by rw [h11]; first | done | decide) (by rw [h11]; first | done | decide) (by rw [h11]; first | done | rfl) (by decide) ?_
      refine gb_run 3 (pc2 := 150) (ls2 := [(2, .int (s2 467 j3)), (0, .ref (464)), (1, .int (x1))]) (st2 := [.int (s2 467 j3), .ref (489)]) (M2 := g_set s2 464 7 ((s2 464 7) + (1 : Int32))) hC hqX12_clause rfl ?_
      obtain ⟨j12, ej12, ij12, lj12, hr⟩ := g_ixo hr
      have tj12 := g_t489 j12 lj12
      refine gz_aaload (k0 := 2) (q := 490 + j12) hC hqX12_clause rfl (Nat.le_of_ble_eq_true rfl) rfl (Nat.le_of_ble_eq_true rfl) ij12 ej12 tj12.1 ?_
      refine gb_run 4 (pc2 := 156) (ls2 := [(2, .int (s2 467 j3)), (0, .ref (464)), (1, .int (x1))]) (st2 := [.int (9), .int (1), .ref (464), .int (0), .ref (490 + j12)]) (M2 := g_set s2 464 7 ((s2 464 7) + (1 : Int32))) hC hqX12_clause rfl ?_
      obtain ⟨s13, es13, hr⟩ := g_bd hr
      refine gz_cV (z := qX12_number) (a := 464) (av := [.int (1), .int (9)]) (rest := [.int (0), .ref (490 + j12)]) (pl := 1597) hC hqX12_clause rfl kX12_number sX12_number (by decide +kernel) (c_FM_number hC (1 : Int32) (9 : Int32)  (g_set s2 464 7 ((s2 464 7) + (1 : Int32))) sz (d - 1) (by omega) s13 es13) (by omega) ⟨rfl, rfl⟩ rfl (Nat.le_of_ble_eq_true rfl) (Nat.le_of_ble_eq_true rfl) rfl rfl rfl (Nat.le_of_ble_eq_true rfl) ⟨Nat.le_of_ble_eq_true rfl, Nat.le_of_ble_eq_true rfl⟩ (gs_I ?_)
      refine gb_iastore hC hqX12_clause rfl tj12.2.1 (g_S3 tj12.2.2.1 tj12.2.2.2) (by unfold vp_in; decide) ?_
      rw [show (0 : Int32).toNatClampNeg = 0 from rfl]
      refine g_letP (P := fun M14 => GW l C qX12_clause d (gQg 956 g_S0 (qV R) sz) gN 0 0 160 [(2, .int (s2 467 j3)), (0, .ref (464)), (1, .int (x1))] [] (956, g_S0, M14, sz)) hr (fun M14 hr => ?_)
      refine gb_run 3 (pc2 := 165) (ls2 := [(2, .int (s2 467 j3)), (0, .ref (464)), (1, .int (x1))]) (st2 := [.int (s2 467 j3), .ref (489)]) (M2 := M14) hC hqX12_clause rfl ?_
      obtain ⟨j15, ej15, ij15, lj15, hr⟩ := g_ixo hr
      have tj15 := g_t489 j15 lj15
      refine gz_aaload (k0 := 2) (q := 490 + j15) hC hqX12_clause rfl (Nat.le_of_ble_eq_true rfl) rfl (Nat.le_of_ble_eq_true rfl) ij15 ej15 tj15.1 ?_
      refine gb_run 4 (pc2 := 171) (ls2 := [(2, .int (s2 467 j3)), (0, .ref (464)), (1, .int (x1))]) (st2 := [.int (14), .int (3), .ref (464), .int (1), .ref (490 + j15)]) (M2 := M14) hC hqX12_clause rfl ?_
      obtain ⟨s16, es16, hr⟩ := g_bd hr
      refine gz_cV (z := qX12_number) (a := 464) (av := [.int (3), .int (14)]) (rest := [.int (1), .ref (490 + j15)]) (pl := 1597) hC hqX12_clause rfl kX12_number sX12_number (by decide +kernel) (c_FM_number hC (3 : Int32) (14 : Int32)  M14 sz (d - 1) (by omega) s16 es16) (by omega) ⟨rfl, rfl⟩ rfl (Nat.le_of_ble_eq_true rfl) (Nat.le_of_ble_eq_true rfl) rfl rfl rfl (Nat.le_of_ble_eq_true rfl) ⟨Nat.le_of_ble_eq_true rfl, Nat.le_of_ble_eq_true rfl⟩ (gs_I ?_)
      refine gb_iastore hC hqX12_clause rfl tj15.2.1 (g_S3 tj15.2.2.1 tj15.2.2.2) (by unfold vp_in; decide) ?_
      rw [show (1 : Int32).toNatClampNeg = 1 from rfl]
      refine g_letP (P := fun M17 => GW l C qX12_clause d (gQg 956 g_S0 (qV R) sz) gN 0 0 175 [(2, .int (s2 467 j3)), (0, .ref (464)), (1, .int (x1))] [] (956, g_S0, M17, sz)) hr (fun M17 hr => ?_)
      refine gb_run 1 (pc2 := 239) (ls2 := [(2, .int (s2 467 j3)), (0, .ref (464)), (1, .int (x1))]) (st2 := []) (M2 := M17) hC hqX12_clause rfl ?_
      refine gw_pick [1, 2] (ls2 := [(0, .ref (464)), (1, .int (x1))]) rfl ?_
      exact c_FM_clause_J239 hC sz d (by omega) R x1 M17 hr
    have hr := g_if0 h11 hr
    by_cases h18 : x1 = (2 : Int32)
    ·
      have hr := g_if1 h18 hr
      refine gb_tblIn (tgt := 178) hqX12_clause rfl (by rw [h18]; first | done | decide) (by rw [h18]; first | done | decide) (by rw [h18]; first | done | rfl) (by decide) ?_
      refine gb_run 6 (pc2 := 187) (ls2 := [(2, .int (s2 467 j3)), (0, .ref (464)), (1, .int (x1))]) (st2 := [.int (9), .int (1), .ref (464), .int (s2 467 j3), .ref (469)]) (M2 := g_set s2 464 7 ((s2 464 7) + (1 : Int32))) hC hqX12_clause rfl ?_
      obtain ⟨s19, es19, hr⟩ := g_bd hr
      refine gz_cV (z := qX12_number) (a := 464) (av := [.int (1), .int (9)]) (rest := [.int (s2 467 j3), .ref (469)]) (pl := 1597) hC hqX12_clause rfl kX12_number sX12_number (by decide +kernel) (c_FM_number hC (1 : Int32) (9 : Int32)  (g_set s2 464 7 ((s2 464 7) + (1 : Int32))) sz (d - 1) (by omega) s19 es19) (by omega) ⟨rfl, rfl⟩ rfl (Nat.le_of_ble_eq_true rfl) (Nat.le_of_ble_eq_true rfl) rfl rfl rfl (Nat.le_of_ble_eq_true rfl) ⟨Nat.le_of_ble_eq_true rfl, Nat.le_of_ble_eq_true rfl⟩ (gs_I ?_)
      obtain ⟨j20, ej20, ij20, lj20, hr⟩ := g_ixo hr
      refine gz_iastore hC hqX12_clause rfl (Nat.le_of_ble_eq_true rfl) rfl ij20 ej20 ?_
      refine g_letP (P := fun M21 => GW l C qX12_clause d (gQg 956 g_S0 (qV R) sz) gN 0 0 191 [(2, .int (s2 467 j3)), (0, .ref (464)), (1, .int (x1))] [] (956, g_S0, M21, sz)) hr (fun M21 hr => ?_)
      refine gb_run 1 (pc2 := 239) (ls2 := [(2, .int (s2 467 j3)), (0, .ref (464)), (1, .int (x1))]) (st2 := []) (M2 := M21) hC hqX12_clause rfl ?_
      refine gw_pick [1, 2] (ls2 := [(0, .ref (464)), (1, .int (x1))]) rfl ?_
      exact c_FM_clause_J239 hC sz d (by omega) R x1 M21 hr
    have hr := g_if0 h18 hr
    refine gb_tblOut (tgt := 194) hqX12_clause rfl (by have q0 := gd_ne (z := 0) rfl h4; have q1 := gd_ne (z := 1) rfl h11; have q2 := gd_ne (z := 2) rfl h18; omega) (by decide) ?_
    refine gb_run 3 (pc2 := 197) (ls2 := [(2, .int (s2 467 j3)), (0, .ref (464)), (1, .int (x1))]) (st2 := [.int (3), .int (x1), .ref (464)]) (M2 := g_set s2 464 7 ((s2 464 7) + (1 : Int32))) hC hqX12_clause rfl ?_
    refine gb_icmp_ne hqX12_clause rfl (fun h22 => ?_) (fun h22 => ?_)
    ·
      have hr := g_if0 h22 hr
      refine gb_run 1 (pc2 := 205) (ls2 := [(2, .int (s2 467 j3)), (0, .ref (464)), (1, .int (x1))]) (st2 := [.int (0), .ref (464)]) (M2 := g_set s2 464 7 ((s2 464 7) + (1 : Int32))) hC hqX12_clause rfl ?_
      refine gw_pick [1, 2] (ls2 := [(0, .ref (464)), (1, .int (x1))]) rfl ?_
      exact c_FM_clause_J205 hC sz d (by omega) R x1 (0 : Int32) (g_set s2 464 7 ((s2 464 7) + (1 : Int32))) hr
    ·
      have hr := g_if1 h22 hr
      refine gb_run 2 (pc2 := 205) (ls2 := [(2, .int (s2 467 j3)), (0, .ref (464)), (1, .int (x1))]) (st2 := [.int (1), .ref (464)]) (M2 := g_set s2 464 7 ((s2 464 7) + (1 : Int32))) hC hqX12_clause rfl ?_
      refine gw_pick [1, 2] (ls2 := [(0, .ref (464)), (1, .int (x1))]) rfl ?_
      exact c_FM_clause_J205 hC sz d (by omega) R x1 (1 : Int32) (g_set s2 464 7 ((s2 464 7) + (1 : Int32))) hr
  ·
    have hr := g_if0 h1 hr
    refine gb_vret hqX12_clause rfl rfl (Nat.le_of_ble_eq_true rfl) (Nat.le_of_ble_eq_true rfl) ?_
    exact gl_V hr
def FM_clause_J47 (x1 : Int32) (M : gM) : Option (gM) :=
  (FM_wrong (3 : Int32) (M 464 4) M).bind fun s1 => FM_clause_J56 x1 s1
set_option maxRecDepth 20000 in
theorem c_FM_clause_J47 {l : Launch} {C : gC} (hC : g_ctx l C) (sz d : Nat) (hd : 6 ≤ d) (R : gM) (x1 : Int32) (M : gM) (hr : FM_clause_J47 x1 M = some R) : GW l C qX12_clause d (gQg 956 g_S0 (qV R) sz) gN 0 0 47 [(0, .ref (464)), (1, .int (x1))] [] (956, g_S0, M, sz) := by
  unfold FM_clause_J47 at hr
  refine gb_run 4 (pc2 := 53) (ls2 := [(0, .ref (464)), (1, .int (x1))]) (st2 := [.int (M 464 4), .int (3), .ref (464)]) (M2 := M) hC hqX12_clause rfl ?_
  obtain ⟨s1, es1, hr⟩ := g_bd hr
  refine gz_cV (z := qX12_wrong) (a := 464) (av := [.int (3), .int (M 464 4)]) (rest := []) (pl := 1589) hC hqX12_clause rfl kX12_wrong sX12_wrong (by decide +kernel) (c_FM_wrong hC (3 : Int32) (M 464 4)  M sz (d - 1) (by omega) s1 es1) (by omega) ⟨rfl, rfl⟩ rfl (Nat.le_of_ble_eq_true rfl) (Nat.le_of_ble_eq_true rfl) rfl rfl rfl (Nat.le_of_ble_eq_true rfl) ⟨Nat.le_of_ble_eq_true rfl, Nat.le_of_ble_eq_true rfl⟩ (gs_V ?_)
  exact c_FM_clause_J56 hC sz d (by omega) R x1 s1 hr
def FM_clause  (M : gM) : Option (gM) :=
  (FM_kindHere M).bind fun s1 => if s1.1 = (-1 : Int32) then ((FM_wrong (1 : Int32) ((s1.2) 464 4) (s1.2)).bind fun s7 => FM_clause_J56 s1.1 s7) else (if ((s1.2) 464 7) = (60 : Int32) then (FM_clause_J47 s1.1 (s1.2)) else (if (3 : Int32) ≤ s1.1 then (FM_clause_J56 s1.1 (s1.2)) else (g_ix s1.1 5 fun j5 => if ((s1.2) 467 j5) = (8 : Int32) then (FM_clause_J47 s1.1 (s1.2)) else (FM_clause_J56 s1.1 (s1.2)))))
set_option maxRecDepth 20000 in
theorem c_FM_clause {l : Launch} {C : gC} (hC : g_ctx l C)   (M : gM) (sz d : Nat) (hd : 6 ≤ d) (R : gM) (hr : FM_clause M = some R) : gPg l C qX12_clause d [.ref (464)] 956 g_S0 M sz (qV R) := by
  refine gPg.of (ls := [(0, .ref (464))]) (by decide +kernel) (Nat.le_of_ble_eq_true rfl) rfl ?_
  unfold FM_clause at hr
  refine gb_run 1 (pc2 := 1) (ls2 := [(0, .ref (464))]) (st2 := [.ref (464)]) (M2 := M) hC hqX12_clause rfl ?_
  obtain ⟨s1, es1, hr⟩ := g_bd hr
  refine gz_cV (z := qX12_kindHere) (a := 464) (av := []) (rest := []) (pl := 1571) hC hqX12_clause rfl kX12_kindHere sX12_kindHere (by decide +kernel) (c_FM_kindHere hC   M sz (d - 1) (by omega) s1 es1) (by omega) ⟨rfl, rfl⟩ rfl (Nat.le_of_ble_eq_true rfl) (Nat.le_of_ble_eq_true rfl) rfl rfl rfl (Nat.le_of_ble_eq_true rfl) ⟨Nat.le_of_ble_eq_true rfl, Nat.le_of_ble_eq_true rfl⟩ (gs_I ?_)
  refine gb_run 3 (pc2 := 7) (ls2 := [(1, .int (s1.1)), (0, .ref (464))]) (st2 := [.int (-1), .int (s1.1)]) (M2 := s1.2) hC hqX12_clause rfl ?_
  refine gb_icmp_ne hqX12_clause rfl (fun h2 => ?_) (fun h2 => ?_)
  ·
    have hr := g_if0 h2 hr
    refine gb_run 3 (pc2 := 28) (ls2 := [(1, .int (s1.1)), (0, .ref (464))]) (st2 := [.int (60), .int ((s1.2) 464 7)]) (M2 := s1.2) hC hqX12_clause rfl ?_
    refine gb_icmp_eq hqX12_clause rfl (fun h3 => ?_) (fun h3 => ?_)
    ·
      have hr := g_if1 h3 hr
      refine gw_pick [1, 0] (ls2 := [(0, .ref (464)), (1, .int (s1.1))]) rfl ?_
      exact c_FM_clause_J47 hC sz d (by omega) R s1.1 (s1.2) hr
    ·
      have hr := g_if0 h3 hr
      refine gb_run 2 (pc2 := 33) (ls2 := [(1, .int (s1.1)), (0, .ref (464))]) (st2 := [.int (3), .int (s1.1)]) (M2 := s1.2) hC hqX12_clause rfl ?_
      refine gb_icmp_ge hqX12_clause rfl (fun h4 => ?_) (fun h4 => ?_)
      ·
        have hr := g_if1 h4 hr
        refine gw_pick [1, 0] (ls2 := [(0, .ref (464)), (1, .int (s1.1))]) rfl ?_
        exact c_FM_clause_J56 hC sz d (by omega) R s1.1 (s1.2) hr
      ·
        have hr := g_if0 h4 hr
        refine gb_run 3 (pc2 := 41) (ls2 := [(1, .int (s1.1)), (0, .ref (464))]) (st2 := [.int (s1.1), .ref (467)]) (M2 := s1.2) hC hqX12_clause rfl ?_
        obtain ⟨j5, ej5, ij5, lj5, hr⟩ := g_ixo hr
        refine gz_iaload hC hqX12_clause rfl (Nat.le_of_ble_eq_true rfl) rfl ij5 ej5 ?_
        refine gb_run 1 (pc2 := 44) (ls2 := [(1, .int (s1.1)), (0, .ref (464))]) (st2 := [.int (8), .int ((s1.2) 467 j5)]) (M2 := s1.2) hC hqX12_clause rfl ?_
        refine gb_icmp_ne hqX12_clause rfl (fun h6 => ?_) (fun h6 => ?_)
        ·
          have hr := g_if0 h6 hr
          refine gw_pick [1, 0] (ls2 := [(0, .ref (464)), (1, .int (s1.1))]) rfl ?_
          exact c_FM_clause_J56 hC sz d (by omega) R s1.1 (s1.2) hr
        ·
          have hr := g_if1 h6 hr
          refine gw_pick [1, 0] (ls2 := [(0, .ref (464)), (1, .int (s1.1))]) rfl ?_
          exact c_FM_clause_J47 hC sz d (by omega) R s1.1 (s1.2) hr
  ·
    have hr := g_if1 h2 hr
    refine gb_run 4 (pc2 := 16) (ls2 := [(1, .int (s1.1)), (0, .ref (464))]) (st2 := [.int ((s1.2) 464 4), .int (1), .ref (464)]) (M2 := s1.2) hC hqX12_clause rfl ?_
    obtain ⟨s7, es7, hr⟩ := g_bd hr
    refine gz_cV (z := qX12_wrong) (a := 464) (av := [.int (1), .int ((s1.2) 464 4)]) (rest := []) (pl := 1589) hC hqX12_clause rfl kX12_wrong sX12_wrong (by decide +kernel) (c_FM_wrong hC (1 : Int32) ((s1.2) 464 4)  (s1.2) sz (d - 1) (by omega) s7 es7) (by omega) ⟨rfl, rfl⟩ rfl (Nat.le_of_ble_eq_true rfl) (Nat.le_of_ble_eq_true rfl) rfl rfl rfl (Nat.le_of_ble_eq_true rfl) ⟨Nat.le_of_ble_eq_true rfl, Nat.le_of_ble_eq_true rfl⟩ (gs_V ?_)
    refine gb_run 1 (pc2 := 56) (ls2 := [(1, .int (s1.1)), (0, .ref (464))]) (st2 := []) (M2 := s7) hC hqX12_clause rfl ?_
    refine gw_pick [1, 0] (ls2 := [(0, .ref (464)), (1, .int (s1.1))]) rfl ?_
    exact c_FM_clause_J56 hC sz d (by omega) R s1.1 s7 hr
