/-! mpark, decompiled. -/
def FM_laysW_L10 (many : Int32) (c2 : Int32 → gM → Option (gM)) : Nat → Int32 → Int32 → gM → Option (gM)
  | 0, _, _, _ => none
  | k + 1, x3, x4, M =>
  g_ix x3 8 fun j1 => if (nI 2) ≤ x4 then (c2 (x3 + (1 : Int32)) M) else (g_ix x3 8 fun j3 => g_ix x3 8 fun j4 => g_ix x4 2 fun j5 => g_ix x4 2 fun j6 => g_let (g_set M (481 + j3) j6 (M (472 + j4) j5)) fun M7 => FM_laysW_L10 many c2 k x3 (x4 + (1 : Int32)) M7)
set_option maxRecDepth 20000 in
theorem c_FM_laysW_L10 {l : Launch} {C : gC} (hC : g_ctx l C) (many : Int32) (sz d : Nat) (hd : 1 ≤ d) (R : gM) (c2 : Int32 → gM → Option (gM)) (hc2 : ∀ (x3 : Int32) (M : gM), c2 x3 M = some R → GW l C qX12_lays d (gQg 956 g_S0 (qV R) sz) gN 0 0 2 [(0, .ref (471)), (1, .ref (480)), (2, .int (many)), (3, .int (x3))] [] (956, g_S0, M, sz)) : ∀ (k : Nat) (x3 : Int32) (x4 : Int32) (M : gM), FM_laysW_L10 many c2 k x3 x4 M = some R → GW l C qX12_lays d (gQg 956 g_S0 (qV R) sz) gN 0 0 10 [(0, .ref (471)), (1, .ref (480)), (2, .int (many)), (3, .int (x3)), (4, .int (x4))] [] (956, g_S0, M, sz) := by
  intro k
  induction k with
  | zero => intro x3 x4 M hr; exact nomatch (show (none : Option (gM)) = some R from hr)
  | succ k ih =>
    intro x3 x4 M hr
    unfold FM_laysW_L10 at hr
    refine gb_run 3 (pc2 := 14) (ls2 := [(0, .ref (471)), (1, .ref (480)), (2, .int (many)), (3, .int (x3)), (4, .int (x4))]) (st2 := [.int (x3), .ref (480), .int (x4)]) (M2 := M) hC hqX12_lays rfl ?_
    obtain ⟨j1, ej1, ij1, lj1, hr⟩ := g_ixo hr
    have tj1 := g_t480 j1 lj1
    refine gz_aaload (k0 := 2) (q := 481 + j1) hC hqX12_lays rfl (Nat.le_of_ble_eq_true rfl) rfl (Nat.le_of_ble_eq_true rfl) ij1 ej1 tj1.1 ?_
    refine gb_alen hC hqX12_lays rfl tj1.2.1 (g_S3 tj1.2.2.1 tj1.2.2.2) ?_
    refine gb_icmp_ge hqX12_lays rfl (fun h2 => ?_) (fun h2 => ?_)
    ·
      have hr := g_if1 h2 hr
      refine gb_run 2 (pc2 := 2) (ls2 := [(3, .int (x3 + (1 : Int32))), (0, .ref (471)), (1, .ref (480)), (2, .int (many)), (4, .int (x4))]) (st2 := []) (M2 := M) hC hqX12_lays rfl ?_
      refine gw_pick [1, 2, 3, 0] (ls2 := [(0, .ref (471)), (1, .ref (480)), (2, .int (many)), (3, .int (x3 + (1 : Int32)))]) rfl ?_
      exact hc2 (x3 + (1 : Int32)) M hr
    ·
      have hr := g_if0 h2 hr
      refine gb_run 2 (pc2 := 21) (ls2 := [(0, .ref (471)), (1, .ref (480)), (2, .int (many)), (3, .int (x3)), (4, .int (x4))]) (st2 := [.int (x3), .ref (480)]) (M2 := M) hC hqX12_lays rfl ?_
      obtain ⟨j3, ej3, ij3, lj3, hr⟩ := g_ixo hr
      have tj3 := g_t480 j3 lj3
      refine gz_aaload (k0 := 2) (q := 481 + j3) hC hqX12_lays rfl (Nat.le_of_ble_eq_true rfl) rfl (Nat.le_of_ble_eq_true rfl) ij3 ej3 tj3.1 ?_
      refine gb_run 3 (pc2 := 26) (ls2 := [(0, .ref (471)), (1, .ref (480)), (2, .int (many)), (3, .int (x3)), (4, .int (x4))]) (st2 := [.int (x3), .ref (471), .int (x4), .ref (481 + j3)]) (M2 := M) hC hqX12_lays rfl ?_
      obtain ⟨j4, ej4, ij4, lj4, hr⟩ := g_ixo hr
      have tj4 := g_t471 j4 lj4
      refine gz_aaload (k0 := 2) (q := 472 + j4) hC hqX12_lays rfl (Nat.le_of_ble_eq_true rfl) rfl (Nat.le_of_ble_eq_true rfl) ij4 ej4 tj4.1 ?_
      refine gb_run 1 (pc2 := 29) (ls2 := [(0, .ref (471)), (1, .ref (480)), (2, .int (many)), (3, .int (x3)), (4, .int (x4))]) (st2 := [.int (x4), .ref (472 + j4), .int (x4), .ref (481 + j3)]) (M2 := M) hC hqX12_lays rfl ?_
      obtain ⟨j5, ej5, ij5, lj5, hr⟩ := g_ixo hr
      refine gz_iaload hC hqX12_lays rfl tj4.2.1 (g_S3 tj4.2.2.1 tj4.2.2.2) ij5 ej5 ?_
      obtain ⟨j6, ej6, ij6, lj6, hr⟩ := g_ixo hr
      refine gz_iastore hC hqX12_lays rfl tj3.2.1 (g_S3 tj3.2.2.1 tj3.2.2.2) ij6 ej6 ?_
      refine g_letP (P := fun M7 => GW l C qX12_lays d (gQg 956 g_S0 (qV R) sz) gN 0 0 31 [(0, .ref (471)), (1, .ref (480)), (2, .int (many)), (3, .int (x3)), (4, .int (x4))] [] (956, g_S0, M7, sz)) hr (fun M7 hr => ?_)
      refine gb_run 2 (pc2 := 10) (ls2 := [(4, .int (x4 + (1 : Int32))), (0, .ref (471)), (1, .ref (480)), (2, .int (many)), (3, .int (x3))]) (st2 := []) (M2 := M7) hC hqX12_lays rfl ?_
      refine gw_pick [1, 2, 3, 4, 0] (ls2 := [(0, .ref (471)), (1, .ref (480)), (2, .int (many)), (3, .int (x3)), (4, .int (x4 + (1 : Int32)))]) rfl ?_
      exact ih x3 (x4 + (1 : Int32)) M7 hr
def FM_laysW_L2 (many : Int32) : Nat → Int32 → gM → Option (gM)
  | 0, _, _ => none
  | k + 1, x3, M =>
  if many ≤ x3 then (some M) else (FM_laysW_L10 many (FM_laysW_L2 many k) 1000 x3 (0 : Int32) M)
set_option maxRecDepth 20000 in
theorem c_FM_laysW_L2 {l : Launch} {C : gC} (hC : g_ctx l C) (many : Int32) (sz d : Nat) (hd : 1 ≤ d) (R : gM) : ∀ (k : Nat) (x3 : Int32) (M : gM), FM_laysW_L2 many k x3 M = some R → GW l C qX12_lays d (gQg 956 g_S0 (qV R) sz) gN 0 0 2 [(0, .ref (471)), (1, .ref (480)), (2, .int (many)), (3, .int (x3))] [] (956, g_S0, M, sz) := by
  intro k
  induction k with
  | zero => intro x3 M hr; exact nomatch (show (none : Option (gM)) = some R from hr)
  | succ k ih =>
    intro x3 M hr
    unfold FM_laysW_L2 at hr
    refine gb_run 2 (pc2 := 4) (ls2 := [(0, .ref (471)), (1, .ref (480)), (2, .int (many)), (3, .int (x3))]) (st2 := [.int (many), .int (x3)]) (M2 := M) hC hqX12_lays rfl ?_
    refine gb_icmp_ge hqX12_lays rfl (fun h1 => ?_) (fun h1 => ?_)
    ·
      have hr := g_if1 h1 hr
      refine gb_vret hqX12_lays rfl rfl (Nat.le_of_ble_eq_true rfl) (Nat.le_of_ble_eq_true rfl) ?_
      exact gl_V hr
    ·
      have hr := g_if0 h1 hr
      refine gb_run 2 (pc2 := 10) (ls2 := [(4, .int (0)), (0, .ref (471)), (1, .ref (480)), (2, .int (many)), (3, .int (x3))]) (st2 := []) (M2 := M) hC hqX12_lays rfl ?_
      refine gw_pick [1, 2, 3, 4, 0] (ls2 := [(0, .ref (471)), (1, .ref (480)), (2, .int (many)), (3, .int (x3)), (4, .int (0))]) rfl ?_
      exact c_FM_laysW_L10 hC many sz d (by omega) R (FM_laysW_L2 many k) ih 1000 x3 (0 : Int32) M hr
def FM_laysW (many : Int32) (M : gM) : Option (gM) :=
  FM_laysW_L2 many 1000 (0 : Int32) M
set_option maxRecDepth 20000 in
theorem c_FM_laysW {l : Launch} {C : gC} (hC : g_ctx l C) (many : Int32)  (M : gM) (sz d : Nat) (hd : 1 ≤ d) (R : gM) (hr : FM_laysW many M = some R) : gPg l C qX12_lays d [.ref (471), .ref (480), .int (many)] 956 g_S0 M sz (qV R) := by
  refine gPg.of (ls := [(0, .ref (471)), (1, .ref (480)), (2, .int (many))]) (by decide +kernel) (Nat.le_of_ble_eq_true rfl) rfl ?_
  unfold FM_laysW at hr
  refine gb_run 2 (pc2 := 2) (ls2 := [(3, .int (0)), (0, .ref (471)), (1, .ref (480)), (2, .int (many))]) (st2 := []) (M2 := M) hC hqX12_lays rfl ?_
  refine gw_pick [1, 2, 3, 0] (ls2 := [(0, .ref (471)), (1, .ref (480)), (2, .int (many)), (3, .int (0))]) rfl ?_
  exact c_FM_laysW_L2 hC many sz d (by omega) R 1000 (0 : Int32) M hr
def FM_laysC_L10 (many : Int32) (c2 : Int32 → gM → Option (gM)) : Nat → Int32 → Int32 → gM → Option (gM)
  | 0, _, _, _ => none
  | k + 1, x3, x4, M =>
  g_ix x3 8 fun j1 => if (nI 2) ≤ x4 then (c2 (x3 + (1 : Int32)) M) else (g_ix x3 8 fun j3 => g_ix x3 8 fun j4 => g_ix x4 2 fun j5 => g_ix x4 2 fun j6 => g_let (g_set M (499 + j3) j6 (M (490 + j4) j5)) fun M7 => FM_laysC_L10 many c2 k x3 (x4 + (1 : Int32)) M7)
set_option maxRecDepth 20000 in
theorem c_FM_laysC_L10 {l : Launch} {C : gC} (hC : g_ctx l C) (many : Int32) (sz d : Nat) (hd : 1 ≤ d) (R : gM) (c2 : Int32 → gM → Option (gM)) (hc2 : ∀ (x3 : Int32) (M : gM), c2 x3 M = some R → GW l C qX12_lays d (gQg 956 g_S0 (qV R) sz) gN 0 0 2 [(0, .ref (489)), (1, .ref (498)), (2, .int (many)), (3, .int (x3))] [] (956, g_S0, M, sz)) : ∀ (k : Nat) (x3 : Int32) (x4 : Int32) (M : gM), FM_laysC_L10 many c2 k x3 x4 M = some R → GW l C qX12_lays d (gQg 956 g_S0 (qV R) sz) gN 0 0 10 [(0, .ref (489)), (1, .ref (498)), (2, .int (many)), (3, .int (x3)), (4, .int (x4))] [] (956, g_S0, M, sz) := by
  intro k
  induction k with
  | zero => intro x3 x4 M hr; exact nomatch (show (none : Option (gM)) = some R from hr)
  | succ k ih =>
    intro x3 x4 M hr
    unfold FM_laysC_L10 at hr
    refine gb_run 3 (pc2 := 14) (ls2 := [(0, .ref (489)), (1, .ref (498)), (2, .int (many)), (3, .int (x3)), (4, .int (x4))]) (st2 := [.int (x3), .ref (498), .int (x4)]) (M2 := M) hC hqX12_lays rfl ?_
    obtain ⟨j1, ej1, ij1, lj1, hr⟩ := g_ixo hr
    have tj1 := g_t498 j1 lj1
    refine gz_aaload (k0 := 2) (q := 499 + j1) hC hqX12_lays rfl (Nat.le_of_ble_eq_true rfl) rfl (Nat.le_of_ble_eq_true rfl) ij1 ej1 tj1.1 ?_
    refine gb_alen hC hqX12_lays rfl tj1.2.1 (g_S3 tj1.2.2.1 tj1.2.2.2) ?_
    refine gb_icmp_ge hqX12_lays rfl (fun h2 => ?_) (fun h2 => ?_)
    ·
      have hr := g_if1 h2 hr
      refine gb_run 2 (pc2 := 2) (ls2 := [(3, .int (x3 + (1 : Int32))), (0, .ref (489)), (1, .ref (498)), (2, .int (many)), (4, .int (x4))]) (st2 := []) (M2 := M) hC hqX12_lays rfl ?_
      refine gw_pick [1, 2, 3, 0] (ls2 := [(0, .ref (489)), (1, .ref (498)), (2, .int (many)), (3, .int (x3 + (1 : Int32)))]) rfl ?_
      exact hc2 (x3 + (1 : Int32)) M hr
    ·
      have hr := g_if0 h2 hr
      refine gb_run 2 (pc2 := 21) (ls2 := [(0, .ref (489)), (1, .ref (498)), (2, .int (many)), (3, .int (x3)), (4, .int (x4))]) (st2 := [.int (x3), .ref (498)]) (M2 := M) hC hqX12_lays rfl ?_
      obtain ⟨j3, ej3, ij3, lj3, hr⟩ := g_ixo hr
      have tj3 := g_t498 j3 lj3
      refine gz_aaload (k0 := 2) (q := 499 + j3) hC hqX12_lays rfl (Nat.le_of_ble_eq_true rfl) rfl (Nat.le_of_ble_eq_true rfl) ij3 ej3 tj3.1 ?_
      refine gb_run 3 (pc2 := 26) (ls2 := [(0, .ref (489)), (1, .ref (498)), (2, .int (many)), (3, .int (x3)), (4, .int (x4))]) (st2 := [.int (x3), .ref (489), .int (x4), .ref (499 + j3)]) (M2 := M) hC hqX12_lays rfl ?_
      obtain ⟨j4, ej4, ij4, lj4, hr⟩ := g_ixo hr
      have tj4 := g_t489 j4 lj4
      refine gz_aaload (k0 := 2) (q := 490 + j4) hC hqX12_lays rfl (Nat.le_of_ble_eq_true rfl) rfl (Nat.le_of_ble_eq_true rfl) ij4 ej4 tj4.1 ?_
      refine gb_run 1 (pc2 := 29) (ls2 := [(0, .ref (489)), (1, .ref (498)), (2, .int (many)), (3, .int (x3)), (4, .int (x4))]) (st2 := [.int (x4), .ref (490 + j4), .int (x4), .ref (499 + j3)]) (M2 := M) hC hqX12_lays rfl ?_
      obtain ⟨j5, ej5, ij5, lj5, hr⟩ := g_ixo hr
      refine gz_iaload hC hqX12_lays rfl tj4.2.1 (g_S3 tj4.2.2.1 tj4.2.2.2) ij5 ej5 ?_
      obtain ⟨j6, ej6, ij6, lj6, hr⟩ := g_ixo hr
      refine gz_iastore hC hqX12_lays rfl tj3.2.1 (g_S3 tj3.2.2.1 tj3.2.2.2) ij6 ej6 ?_
      refine g_letP (P := fun M7 => GW l C qX12_lays d (gQg 956 g_S0 (qV R) sz) gN 0 0 31 [(0, .ref (489)), (1, .ref (498)), (2, .int (many)), (3, .int (x3)), (4, .int (x4))] [] (956, g_S0, M7, sz)) hr (fun M7 hr => ?_)
      refine gb_run 2 (pc2 := 10) (ls2 := [(4, .int (x4 + (1 : Int32))), (0, .ref (489)), (1, .ref (498)), (2, .int (many)), (3, .int (x3))]) (st2 := []) (M2 := M7) hC hqX12_lays rfl ?_
      refine gw_pick [1, 2, 3, 4, 0] (ls2 := [(0, .ref (489)), (1, .ref (498)), (2, .int (many)), (3, .int (x3)), (4, .int (x4 + (1 : Int32)))]) rfl ?_
      exact ih x3 (x4 + (1 : Int32)) M7 hr
def FM_laysC_L2 (many : Int32) : Nat → Int32 → gM → Option (gM)
  | 0, _, _ => none
  | k + 1, x3, M =>
  if many ≤ x3 then (some M) else (FM_laysC_L10 many (FM_laysC_L2 many k) 1000 x3 (0 : Int32) M)
set_option maxRecDepth 20000 in
theorem c_FM_laysC_L2 {l : Launch} {C : gC} (hC : g_ctx l C) (many : Int32) (sz d : Nat) (hd : 1 ≤ d) (R : gM) : ∀ (k : Nat) (x3 : Int32) (M : gM), FM_laysC_L2 many k x3 M = some R → GW l C qX12_lays d (gQg 956 g_S0 (qV R) sz) gN 0 0 2 [(0, .ref (489)), (1, .ref (498)), (2, .int (many)), (3, .int (x3))] [] (956, g_S0, M, sz) := by
  intro k
  induction k with
  | zero => intro x3 M hr; exact nomatch (show (none : Option (gM)) = some R from hr)
  | succ k ih =>
    intro x3 M hr
    unfold FM_laysC_L2 at hr
    refine gb_run 2 (pc2 := 4) (ls2 := [(0, .ref (489)), (1, .ref (498)), (2, .int (many)), (3, .int (x3))]) (st2 := [.int (many), .int (x3)]) (M2 := M) hC hqX12_lays rfl ?_
    refine gb_icmp_ge hqX12_lays rfl (fun h1 => ?_) (fun h1 => ?_)
    ·
      have hr := g_if1 h1 hr
      refine gb_vret hqX12_lays rfl rfl (Nat.le_of_ble_eq_true rfl) (Nat.le_of_ble_eq_true rfl) ?_
      exact gl_V hr
    ·
      have hr := g_if0 h1 hr
      refine gb_run 2 (pc2 := 10) (ls2 := [(4, .int (0)), (0, .ref (489)), (1, .ref (498)), (2, .int (many)), (3, .int (x3))]) (st2 := []) (M2 := M) hC hqX12_lays rfl ?_
      refine gw_pick [1, 2, 3, 4, 0] (ls2 := [(0, .ref (489)), (1, .ref (498)), (2, .int (many)), (3, .int (x3)), (4, .int (0))]) rfl ?_
      exact c_FM_laysC_L10 hC many sz d (by omega) R (FM_laysC_L2 many k) ih 1000 x3 (0 : Int32) M hr
def FM_laysC (many : Int32) (M : gM) : Option (gM) :=
  FM_laysC_L2 many 1000 (0 : Int32) M
set_option maxRecDepth 20000 in
theorem c_FM_laysC {l : Launch} {C : gC} (hC : g_ctx l C) (many : Int32)  (M : gM) (sz d : Nat) (hd : 1 ≤ d) (R : gM) (hr : FM_laysC many M = some R) : gPg l C qX12_lays d [.ref (489), .ref (498), .int (many)] 956 g_S0 M sz (qV R) := by
  refine gPg.of (ls := [(0, .ref (489)), (1, .ref (498)), (2, .int (many))]) (by decide +kernel) (Nat.le_of_ble_eq_true rfl) rfl ?_
  unfold FM_laysC at hr
  refine gb_run 2 (pc2 := 2) (ls2 := [(3, .int (0)), (0, .ref (489)), (1, .ref (498)), (2, .int (many))]) (st2 := []) (M2 := M) hC hqX12_lays rfl ?_
  refine gw_pick [1, 2, 3, 0] (ls2 := [(0, .ref (489)), (1, .ref (498)), (2, .int (many)), (3, .int (0))]) rfl ?_
  exact c_FM_laysC_L2 hC many sz d (by omega) R 1000 (0 : Int32) M hr
def FM_laysL_L10 (many : Int32) (c2 : Int32 → gM → Option (gM)) : Nat → Int32 → Int32 → gM → Option (gM)
  | 0, _, _, _ => none
  | k + 1, x3, x4, M =>
  g_ix x3 160 fun j1 => if (nI 2) ≤ x4 then (c2 (x3 + (1 : Int32)) M) else (g_ix x3 160 fun j3 => g_ix x3 160 fun j4 => g_ix x4 2 fun j5 => g_ix x4 2 fun j6 => g_let (g_set M (508 + j3) j6 (M (669 + j4) j5)) fun M7 => FM_laysL_L10 many c2 k x3 (x4 + (1 : Int32)) M7)
set_option maxRecDepth 20000 in
theorem c_FM_laysL_L10 {l : Launch} {C : gC} (hC : g_ctx l C) (many : Int32) (sz d : Nat) (hd : 1 ≤ d) (R : gM) (c2 : Int32 → gM → Option (gM)) (hc2 : ∀ (x3 : Int32) (M : gM), c2 x3 M = some R → GW l C qX12_lays d (gQg 956 g_S0 (qV R) sz) gN 0 0 2 [(0, .ref (668)), (1, .ref (507)), (2, .int (many)), (3, .int (x3))] [] (956, g_S0, M, sz)) : ∀ (k : Nat) (x3 : Int32) (x4 : Int32) (M : gM), FM_laysL_L10 many c2 k x3 x4 M = some R → GW l C qX12_lays d (gQg 956 g_S0 (qV R) sz) gN 0 0 10 [(0, .ref (668)), (1, .ref (507)), (2, .int (many)), (3, .int (x3)), (4, .int (x4))] [] (956, g_S0, M, sz) := by
  intro k
  induction k with
  | zero => intro x3 x4 M hr; exact nomatch (show (none : Option (gM)) = some R from hr)
  | succ k ih =>
    intro x3 x4 M hr
    unfold FM_laysL_L10 at hr
    refine gb_run 3 (pc2 := 14) (ls2 := [(0, .ref (668)), (1, .ref (507)), (2, .int (many)), (3, .int (x3)), (4, .int (x4))]) (st2 := [.int (x3), .ref (507), .int (x4)]) (M2 := M) hC hqX12_lays rfl ?_
    obtain ⟨j1, ej1, ij1, lj1, hr⟩ := g_ixo hr
    have tj1 := g_t507 j1 lj1
    refine gz_aaload (k0 := 2) (q := 508 + j1) hC hqX12_lays rfl (Nat.le_of_ble_eq_true rfl) rfl (Nat.le_of_ble_eq_true rfl) ij1 ej1 tj1.1 ?_
    refine gb_alen hC hqX12_lays rfl tj1.2.1 (g_S3 tj1.2.2.1 tj1.2.2.2) ?_
    refine gb_icmp_ge hqX12_lays rfl (fun h2 => ?_) (fun h2 => ?_)
    ·
      have hr := g_if1 h2 hr
      refine gb_run 2 (pc2 := 2) (ls2 := [(3, .int (x3 + (1 : Int32))), (0, .ref (668)), (1, .ref (507)), (2, .int (many)), (4, .int (x4))]) (st2 := []) (M2 := M) hC hqX12_lays rfl ?_
      refine gw_pick [1, 2, 3, 0] (ls2 := [(0, .ref (668)), (1, .ref (507)), (2, .int (many)), (3, .int (x3 + (1 : Int32)))]) rfl ?_
      exact hc2 (x3 + (1 : Int32)) M hr
    ·
      have hr := g_if0 h2 hr
      refine gb_run 2 (pc2 := 21) (ls2 := [(0, .ref (668)), (1, .ref (507)), (2, .int (many)), (3, .int (x3)), (4, .int (x4))]) (st2 := [.int (x3), .ref (507)]) (M2 := M) hC hqX12_lays rfl ?_
      obtain ⟨j3, ej3, ij3, lj3, hr⟩ := g_ixo hr
      have tj3 := g_t507 j3 lj3
      refine gz_aaload (k0 := 2) (q := 508 + j3) hC hqX12_lays rfl (Nat.le_of_ble_eq_true rfl) rfl (Nat.le_of_ble_eq_true rfl) ij3 ej3 tj3.1 ?_
      refine gb_run 3 (pc2 := 26) (ls2 := [(0, .ref (668)), (1, .ref (507)), (2, .int (many)), (3, .int (x3)), (4, .int (x4))]) (st2 := [.int (x3), .ref (668), .int (x4), .ref (508 + j3)]) (M2 := M) hC hqX12_lays rfl ?_
      obtain ⟨j4, ej4, ij4, lj4, hr⟩ := g_ixo hr
      have tj4 := g_t668 j4 lj4
      refine gz_aaload (k0 := 2) (q := 669 + j4) hC hqX12_lays rfl (Nat.le_of_ble_eq_true rfl) rfl (Nat.le_of_ble_eq_true rfl) ij4 ej4 tj4.1 ?_
      refine gb_run 1 (pc2 := 29) (ls2 := [(0, .ref (668)), (1, .ref (507)), (2, .int (many)), (3, .int (x3)), (4, .int (x4))]) (st2 := [.int (x4), .ref (669 + j4), .int (x4), .ref (508 + j3)]) (M2 := M) hC hqX12_lays rfl ?_
      obtain ⟨j5, ej5, ij5, lj5, hr⟩ := g_ixo hr
      refine gz_iaload hC hqX12_lays rfl tj4.2.1 (g_S3 tj4.2.2.1 tj4.2.2.2) ij5 ej5 ?_
      obtain ⟨j6, ej6, ij6, lj6, hr⟩ := g_ixo hr
      refine gz_iastore hC hqX12_lays rfl tj3.2.1 (g_S3 tj3.2.2.1 tj3.2.2.2) ij6 ej6 ?_
      refine g_letP (P := fun M7 => GW l C qX12_lays d (gQg 956 g_S0 (qV R) sz) gN 0 0 31 [(0, .ref (668)), (1, .ref (507)), (2, .int (many)), (3, .int (x3)), (4, .int (x4))] [] (956, g_S0, M7, sz)) hr (fun M7 hr => ?_)
      refine gb_run 2 (pc2 := 10) (ls2 := [(4, .int (x4 + (1 : Int32))), (0, .ref (668)), (1, .ref (507)), (2, .int (many)), (3, .int (x3))]) (st2 := []) (M2 := M7) hC hqX12_lays rfl ?_
      refine gw_pick [1, 2, 3, 4, 0] (ls2 := [(0, .ref (668)), (1, .ref (507)), (2, .int (many)), (3, .int (x3)), (4, .int (x4 + (1 : Int32)))]) rfl ?_
      exact ih x3 (x4 + (1 : Int32)) M7 hr
def FM_laysL_L2 (many : Int32) : Nat → Int32 → gM → Option (gM)
  | 0, _, _ => none
  | k + 1, x3, M =>
  if many ≤ x3 then (some M) else (FM_laysL_L10 many (FM_laysL_L2 many k) 1000 x3 (0 : Int32) M)
set_option maxRecDepth 20000 in
theorem c_FM_laysL_L2 {l : Launch} {C : gC} (hC : g_ctx l C) (many : Int32) (sz d : Nat) (hd : 1 ≤ d) (R : gM) : ∀ (k : Nat) (x3 : Int32) (M : gM), FM_laysL_L2 many k x3 M = some R → GW l C qX12_lays d (gQg 956 g_S0 (qV R) sz) gN 0 0 2 [(0, .ref (668)), (1, .ref (507)), (2, .int (many)), (3, .int (x3))] [] (956, g_S0, M, sz) := by
  intro k
  induction k with
  | zero => intro x3 M hr; exact nomatch (show (none : Option (gM)) = some R from hr)
  | succ k ih =>
    intro x3 M hr
    unfold FM_laysL_L2 at hr
    refine gb_run 2 (pc2 := 4) (ls2 := [(0, .ref (668)), (1, .ref (507)), (2, .int (many)), (3, .int (x3))]) (st2 := [.int (many), .int (x3)]) (M2 := M) hC hqX12_lays rfl ?_
    refine gb_icmp_ge hqX12_lays rfl (fun h1 => ?_) (fun h1 => ?_)
    ·
      have hr := g_if1 h1 hr
      refine gb_vret hqX12_lays rfl rfl (Nat.le_of_ble_eq_true rfl) (Nat.le_of_ble_eq_true rfl) ?_
      exact gl_V hr
    ·
      have hr := g_if0 h1 hr
      refine gb_run 2 (pc2 := 10) (ls2 := [(4, .int (0)), (0, .ref (668)), (1, .ref (507)), (2, .int (many)), (3, .int (x3))]) (st2 := []) (M2 := M) hC hqX12_lays rfl ?_
      refine gw_pick [1, 2, 3, 4, 0] (ls2 := [(0, .ref (668)), (1, .ref (507)), (2, .int (many)), (3, .int (x3)), (4, .int (0))]) rfl ?_
      exact c_FM_laysL_L10 hC many sz d (by omega) R (FM_laysL_L2 many k) ih 1000 x3 (0 : Int32) M hr
def FM_laysL (many : Int32) (M : gM) : Option (gM) :=
  FM_laysL_L2 many 1000 (0 : Int32) M
set_option maxRecDepth 20000 in
theorem c_FM_laysL {l : Launch} {C : gC} (hC : g_ctx l C) (many : Int32)  (M : gM) (sz d : Nat) (hd : 1 ≤ d) (R : gM) (hr : FM_laysL many M = some R) : gPg l C qX12_lays d [.ref (668), .ref (507), .int (many)] 956 g_S0 M sz (qV R) := by
  refine gPg.of (ls := [(0, .ref (668)), (1, .ref (507)), (2, .int (many))]) (by decide +kernel) (Nat.le_of_ble_eq_true rfl) rfl ?_
  unfold FM_laysL at hr
  refine gb_run 2 (pc2 := 2) (ls2 := [(3, .int (0)), (0, .ref (668)), (1, .ref (507)), (2, .int (many))]) (st2 := []) (M2 := M) hC hqX12_lays rfl ?_
  refine gw_pick [1, 2, 3, 0] (ls2 := [(0, .ref (668)), (1, .ref (507)), (2, .int (many)), (3, .int (0))]) rfl ?_
  exact c_FM_laysL_L2 hC many sz d (by omega) R 1000 (0 : Int32) M hr
def FM_laysS_L10 (many : Int32) (c2 : Int32 → gM → Option (gM)) : Nat → Int32 → Int32 → gM → Option (gM)
  | 0, _, _, _ => none
  | k + 1, x3, x4, M =>
  g_ix x3 8 fun j1 => if (nI 2) ≤ x4 then (c2 (x3 + (1 : Int32)) M) else (g_ix x3 8 fun j3 => g_ix x3 8 fun j4 => g_ix x4 2 fun j5 => g_ix x4 2 fun j6 => g_let (g_set M (830 + j3) j6 (M (839 + j4) j5)) fun M7 => FM_laysS_L10 many c2 k x3 (x4 + (1 : Int32)) M7)
set_option maxRecDepth 20000 in
theorem c_FM_laysS_L10 {l : Launch} {C : gC} (hC : g_ctx l C) (many : Int32) (sz d : Nat) (hd : 1 ≤ d) (R : gM) (c2 : Int32 → gM → Option (gM)) (hc2 : ∀ (x3 : Int32) (M : gM), c2 x3 M = some R → GW l C qX12_lays d (gQg 956 g_S0 (qV R) sz) gN 0 0 2 [(0, .ref (838)), (1, .ref (829)), (2, .int (many)), (3, .int (x3))] [] (956, g_S0, M, sz)) : ∀ (k : Nat) (x3 : Int32) (x4 : Int32) (M : gM), FM_laysS_L10 many c2 k x3 x4 M = some R → GW l C qX12_lays d (gQg 956 g_S0 (qV R) sz) gN 0 0 10 [(0, .ref (838)), (1, .ref (829)), (2, .int (many)), (3, .int (x3)), (4, .int (x4))] [] (956, g_S0, M, sz) := by
  intro k
  induction k with
  | zero => intro x3 x4 M hr; exact nomatch (show (none : Option (gM)) = some R from hr)
  | succ k ih =>
    intro x3 x4 M hr
    unfold FM_laysS_L10 at hr
    refine gb_run 3 (pc2 := 14) (ls2 := [(0, .ref (838)), (1, .ref (829)), (2, .int (many)), (3, .int (x3)), (4, .int (x4))]) (st2 := [.int (x3), .ref (829), .int (x4)]) (M2 := M) hC hqX12_lays rfl ?_
    obtain ⟨j1, ej1, ij1, lj1, hr⟩ := g_ixo hr
    have tj1 := g_t829 j1 lj1
    refine gz_aaload (k0 := 2) (q := 830 + j1) hC hqX12_lays rfl (Nat.le_of_ble_eq_true rfl) rfl (Nat.le_of_ble_eq_true rfl) ij1 ej1 tj1.1 ?_
    refine gb_alen hC hqX12_lays rfl tj1.2.1 (g_S3 tj1.2.2.1 tj1.2.2.2) ?_
    refine gb_icmp_ge hqX12_lays rfl (fun h2 => ?_) (fun h2 => ?_)
    ·
      have hr := g_if1 h2 hr
      refine gb_run 2 (pc2 := 2) (ls2 := [(3, .int (x3 + (1 : Int32))), (0, .ref (838)), (1, .ref (829)), (2, .int (many)), (4, .int (x4))]) (st2 := []) (M2 := M) hC hqX12_lays rfl ?_
      refine gw_pick [1, 2, 3, 0] (ls2 := [(0, .ref (838)), (1, .ref (829)), (2, .int (many)), (3, .int (x3 + (1 : Int32)))]) rfl ?_
      exact hc2 (x3 + (1 : Int32)) M hr
    ·
      have hr := g_if0 h2 hr
      refine gb_run 2 (pc2 := 21) (ls2 := [(0, .ref (838)), (1, .ref (829)), (2, .int (many)), (3, .int (x3)), (4, .int (x4))]) (st2 := [.int (x3), .ref (829)]) (M2 := M) hC hqX12_lays rfl ?_
      obtain ⟨j3, ej3, ij3, lj3, hr⟩ := g_ixo hr
      have tj3 := g_t829 j3 lj3
      refine gz_aaload (k0 := 2) (q := 830 + j3) hC hqX12_lays rfl (Nat.le_of_ble_eq_true rfl) rfl (Nat.le_of_ble_eq_true rfl) ij3 ej3 tj3.1 ?_
      refine gb_run 3 (pc2 := 26) (ls2 := [(0, .ref (838)), (1, .ref (829)), (2, .int (many)), (3, .int (x3)), (4, .int (x4))]) (st2 := [.int (x3), .ref (838), .int (x4), .ref (830 + j3)]) (M2 := M) hC hqX12_lays rfl ?_
      obtain ⟨j4, ej4, ij4, lj4, hr⟩ := g_ixo hr
      have tj4 := g_t838 j4 lj4
      refine gz_aaload (k0 := 2) (q := 839 + j4) hC hqX12_lays rfl (Nat.le_of_ble_eq_true rfl) rfl (Nat.le_of_ble_eq_true rfl) ij4 ej4 tj4.1 ?_
      refine gb_run 1 (pc2 := 29) (ls2 := [(0, .ref (838)), (1, .ref (829)), (2, .int (many)), (3, .int (x3)), (4, .int (x4))]) (st2 := [.int (x4), .ref (839 + j4), .int (x4), .ref (830 + j3)]) (M2 := M) hC hqX12_lays rfl ?_
      obtain ⟨j5, ej5, ij5, lj5, hr⟩ := g_ixo hr
      refine gz_iaload hC hqX12_lays rfl tj4.2.1 (g_S3 tj4.2.2.1 tj4.2.2.2) ij5 ej5 ?_
      obtain ⟨j6, ej6, ij6, lj6, hr⟩ := g_ixo hr
      refine gz_iastore hC hqX12_lays rfl tj3.2.1 (g_S3 tj3.2.2.1 tj3.2.2.2) ij6 ej6 ?_
      refine g_letP (P := fun M7 => GW l C qX12_lays d (gQg 956 g_S0 (qV R) sz) gN 0 0 31 [(0, .ref (838)), (1, .ref (829)), (2, .int (many)), (3, .int (x3)), (4, .int (x4))] [] (956, g_S0, M7, sz)) hr (fun M7 hr => ?_)
      refine gb_run 2 (pc2 := 10) (ls2 := [(4, .int (x4 + (1 : Int32))), (0, .ref (838)), (1, .ref (829)), (2, .int (many)), (3, .int (x3))]) (st2 := []) (M2 := M7) hC hqX12_lays rfl ?_
      refine gw_pick [1, 2, 3, 4, 0] (ls2 := [(0, .ref (838)), (1, .ref (829)), (2, .int (many)), (3, .int (x3)), (4, .int (x4 + (1 : Int32)))]) rfl ?_
      exact ih x3 (x4 + (1 : Int32)) M7 hr
def FM_laysS_L2 (many : Int32) : Nat → Int32 → gM → Option (gM)
  | 0, _, _ => none
  | k + 1, x3, M =>
  if many ≤ x3 then (some M) else (FM_laysS_L10 many (FM_laysS_L2 many k) 1000 x3 (0 : Int32) M)
set_option maxRecDepth 20000 in
theorem c_FM_laysS_L2 {l : Launch} {C : gC} (hC : g_ctx l C) (many : Int32) (sz d : Nat) (hd : 1 ≤ d) (R : gM) : ∀ (k : Nat) (x3 : Int32) (M : gM), FM_laysS_L2 many k x3 M = some R → GW l C qX12_lays d (gQg 956 g_S0 (qV R) sz) gN 0 0 2 [(0, .ref (838)), (1, .ref (829)), (2, .int (many)), (3, .int (x3))] [] (956, g_S0, M, sz) := by
  intro k
  induction k with
  | zero => intro x3 M hr; exact nomatch (show (none : Option (gM)) = some R from hr)
  | succ k ih =>
    intro x3 M hr
    unfold FM_laysS_L2 at hr
    refine gb_run 2 (pc2 := 4) (ls2 := [(0, .ref (838)), (1, .ref (829)), (2, .int (many)), (3, .int (x3))]) (st2 := [.int (many), .int (x3)]) (M2 := M) hC hqX12_lays rfl ?_
    refine gb_icmp_ge hqX12_lays rfl (fun h1 => ?_) (fun h1 => ?_)
    ·
      have hr := g_if1 h1 hr
      refine gb_vret hqX12_lays rfl rfl (Nat.le_of_ble_eq_true rfl) (Nat.le_of_ble_eq_true rfl) ?_
      exact gl_V hr
    ·
      have hr := g_if0 h1 hr
      refine gb_run 2 (pc2 := 10) (ls2 := [(4, .int (0)), (0, .ref (838)), (1, .ref (829)), (2, .int (many)), (3, .int (x3))]) (st2 := []) (M2 := M) hC hqX12_lays rfl ?_
      refine gw_pick [1, 2, 3, 4, 0] (ls2 := [(0, .ref (838)), (1, .ref (829)), (2, .int (many)), (3, .int (x3)), (4, .int (0))]) rfl ?_
      exact c_FM_laysS_L10 hC many sz d (by omega) R (FM_laysS_L2 many k) ih 1000 x3 (0 : Int32) M hr
def FM_laysS (many : Int32) (M : gM) : Option (gM) :=
  FM_laysS_L2 many 1000 (0 : Int32) M
set_option maxRecDepth 20000 in
theorem c_FM_laysS {l : Launch} {C : gC} (hC : g_ctx l C) (many : Int32)  (M : gM) (sz d : Nat) (hd : 1 ≤ d) (R : gM) (hr : FM_laysS many M = some R) : gPg l C qX12_lays d [.ref (838), .ref (829), .int (many)] 956 g_S0 M sz (qV R) := by
  refine gPg.of (ls := [(0, .ref (838)), (1, .ref (829)), (2, .int (many))]) (by decide +kernel) (Nat.le_of_ble_eq_true rfl) rfl ?_
  unfold FM_laysS at hr
  refine gb_run 2 (pc2 := 2) (ls2 := [(3, .int (0)), (0, .ref (838)), (1, .ref (829)), (2, .int (many))]) (st2 := []) (M2 := M) hC hqX12_lays rfl ?_
  refine gw_pick [1, 2, 3, 0] (ls2 := [(0, .ref (838)), (1, .ref (829)), (2, .int (many)), (3, .int (0))]) rfl ?_
  exact c_FM_laysS_L2 hC many sz d (by omega) R 1000 (0 : Int32) M hr
def FM_copies_L2 (a : Nat) (b : Nat) : Nat → Int32 → gM → Option (gM)
  | 0, _, _ => none
  | k + 1, x2, M =>
  if (48 : Int32) ≤ x2 then (some M) else (g_ix x2 48 fun j2 => g_ix x2 48 fun j3 => g_let (g_set M b j3 (M a j2)) fun M4 => FM_copies_L2 a b k (x2 + (1 : Int32)) M4)
set_option maxRecDepth 20000 in
theorem c_FM_copies_L2 {l : Launch} {C : gC} (hC : g_ctx l C) (a : Nat) (b : Nat) (ha : g_ia 956 g_S0 a 48) (hb : g_ia 956 g_S0 b 48) (sz d : Nat) (hd : 1 ≤ d) (R : gM) : ∀ (k : Nat) (x2 : Int32) (M : gM), FM_copies_L2 a b k x2 M = some R → GW l C qX12_copies d (gQg 956 g_S0 (qV R) sz) gN 0 0 2 [(0, .ref (a)), (1, .ref (b)), (2, .int (x2))] [] (956, g_S0, M, sz) := by
  intro k
  induction k with
  | zero => intro x2 M hr; exact nomatch (show (none : Option (gM)) = some R from hr)
  | succ k ih =>
    intro x2 M hr
    unfold FM_copies_L2 at hr
    refine gb_run 2 (pc2 := 5) (ls2 := [(0, .ref (a)), (1, .ref (b)), (2, .int (x2))]) (st2 := [.int (48), .int (x2)]) (M2 := M) hC hqX12_copies rfl ?_
    refine gb_icmp_ge hqX12_copies rfl (fun h1 => ?_) (fun h1 => ?_)
    ·
      have hr := g_if1 h1 hr
      refine gb_vret hqX12_copies rfl rfl (Nat.le_of_ble_eq_true rfl) (Nat.le_of_ble_eq_true rfl) ?_
      exact gl_V hr
    ·
      have hr := g_if0 h1 hr
      refine gb_run 4 (pc2 := 12) (ls2 := [(0, .ref (a)), (1, .ref (b)), (2, .int (x2))]) (st2 := [.int (x2), .ref (a), .int (x2), .ref (b)]) (M2 := M) hC hqX12_copies rfl ?_
      obtain ⟨j2, ej2, ij2, lj2, hr⟩ := g_ixo hr
      refine gz_iaload hC hqX12_copies rfl ha.1 (g_S3 ha.2.1 ha.2.2) ij2 ej2 ?_
      obtain ⟨j3, ej3, ij3, lj3, hr⟩ := g_ixo hr
      refine gz_iastore hC hqX12_copies rfl hb.1 (g_S3 hb.2.1 hb.2.2) ij3 ej3 ?_
      refine g_letP (P := fun M4 => GW l C qX12_copies d (gQg 956 g_S0 (qV R) sz) gN 0 0 14 [(0, .ref (a)), (1, .ref (b)), (2, .int (x2))] [] (956, g_S0, M4, sz)) hr (fun M4 hr => ?_)
      refine gb_run 2 (pc2 := 2) (ls2 := [(2, .int (x2 + (1 : Int32))), (0, .ref (a)), (1, .ref (b))]) (st2 := []) (M2 := M4) hC hqX12_copies rfl ?_
      refine gw_pick [1, 2, 0] (ls2 := [(0, .ref (a)), (1, .ref (b)), (2, .int (x2 + (1 : Int32)))]) rfl ?_
      exact ih (x2 + (1 : Int32)) M4 hr
def FM_copies (a : Nat) (b : Nat) (M : gM) : Option (gM) :=
  FM_copies_L2 a b 1000 (0 : Int32) M
set_option maxRecDepth 20000 in
theorem c_FM_copies {l : Launch} {C : gC} (hC : g_ctx l C) (a : Nat) (b : Nat) (ha : g_ia 956 g_S0 a 48) (hb : g_ia 956 g_S0 b 48) (M : gM) (sz d : Nat) (hd : 1 ≤ d) (R : gM) (hr : FM_copies a b M = some R) : gPg l C qX12_copies d [.ref (a), .ref (b)] 956 g_S0 M sz (qV R) := by
  refine gPg.of (ls := [(0, .ref (a)), (1, .ref (b))]) (by decide +kernel) (Nat.le_of_ble_eq_true rfl) rfl ?_
  unfold FM_copies at hr
  refine gb_run 2 (pc2 := 2) (ls2 := [(2, .int (0)), (0, .ref (a)), (1, .ref (b))]) (st2 := []) (M2 := M) hC hqX12_copies rfl ?_
  refine gw_pick [1, 2, 0] (ls2 := [(0, .ref (a)), (1, .ref (b)), (2, .int (0))]) rfl ?_
  exact c_FM_copies_L2 hC a b ha hb sz d (by omega) R 1000 (0 : Int32) M hr
def FM_beginsAnew_L91 : Nat → Int32 → gM → Option (gM)
  | 0, _, _ => none
  | k + 1, x1, M =>
  if (48 : Int32) ≤ x1 then (some (g_set (g_set (g_set (g_set (g_set M 464 19 (0 : Int32)) 464 33 (0 : Int32)) 464 34 (0 : Int32)) 464 35 (0 : Int32)) 464 36 (0 : Int32))) else (if (8 : Int32) ≤ x1 then (g_ix x1 48 fun j3 => g_let (g_set M 930 j3 (0 : Int32)) fun M4 => FM_beginsAnew_L91 k (x1 + (1 : Int32)) M4) else (g_ix x1 48 fun j5 => g_let (g_set M 930 j5 (-1 : Int32)) fun M6 => FM_beginsAnew_L91 k (x1 + (1 : Int32)) M6))
set_option maxRecDepth 20000 in
theorem c_FM_beginsAnew_L91 {l : Launch} {C : gC} (hC : g_ctx l C) (sz d : Nat) (hd : 2 ≤ d) (R : gM) : ∀ (k : Nat) (x1 : Int32) (M : gM), FM_beginsAnew_L91 k x1 M = some R → GW l C qX12_beginsAnew d (gQg 956 g_S0 (qV R) sz) gN 0 0 91 [(0, .ref (464)), (1, .int (x1))] [] (956, g_S0, M, sz) := by
  intro k
  induction k with
  | zero => intro x1 M hr; exact nomatch (show (none : Option (gM)) = some R from hr)
  | succ k ih =>
    intro x1 M hr
    unfold FM_beginsAnew_L91 at hr
    refine gb_run 2 (pc2 := 94) (ls2 := [(0, .ref (464)), (1, .int (x1))]) (st2 := [.int (48), .int (x1)]) (M2 := M) hC hqX12_beginsAnew rfl ?_
    refine gb_icmp_ge hqX12_beginsAnew rfl (fun h1 => ?_) (fun h1 => ?_)
    ·
      have hr := g_if1 h1 hr
      refine gb_run 15 (pc2 := 145) (ls2 := [(0, .ref (464)), (1, .int (x1))]) (st2 := []) (M2 := g_set (g_set (g_set (g_set (g_set M 464 19 (0 : Int32)) 464 33 (0 : Int32)) 464 34 (0 : Int32)) 464 35 (0 : Int32)) 464 36 (0 : Int32)) hC hqX12_beginsAnew rfl ?_
      refine gb_vret hqX12_beginsAnew rfl rfl (Nat.le_of_ble_eq_true rfl) (Nat.le_of_ble_eq_true rfl) ?_
      exact gl_V hr
    ·
      have hr := g_if0 h1 hr
      refine gb_run 5 (pc2 := 105) (ls2 := [(0, .ref (464)), (1, .int (x1))]) (st2 := [.int (8), .int (x1), .int (x1), .ref (930)]) (M2 := M) hC hqX12_beginsAnew rfl ?_
      refine gb_icmp_ge hqX12_beginsAnew rfl (fun h2 => ?_) (fun h2 => ?_)
      ·
        have hr := g_if1 h2 hr
        refine gb_run 1 (pc2 := 113) (ls2 := [(0, .ref (464)), (1, .int (x1))]) (st2 := [.int (0), .int (x1), .ref (930)]) (M2 := M) hC hqX12_beginsAnew rfl ?_
        obtain ⟨j3, ej3, ij3, lj3, hr⟩ := g_ixo hr
        refine gz_iastore hC hqX12_beginsAnew rfl (Nat.le_of_ble_eq_true rfl) rfl ij3 ej3 ?_
        refine g_letP (P := fun M4 => GW l C qX12_beginsAnew d (gQg 956 g_S0 (qV R) sz) gN 0 0 114 [(0, .ref (464)), (1, .int (x1))] [] (956, g_S0, M4, sz)) hr (fun M4 hr => ?_)
        refine gb_run 2 (pc2 := 91) (ls2 := [(1, .int (x1 + (1 : Int32))), (0, .ref (464))]) (st2 := []) (M2 := M4) hC hqX12_beginsAnew rfl ?_
        refine gw_pick [1, 0] (ls2 := [(0, .ref (464)), (1, .int (x1 + (1 : Int32)))]) rfl ?_
        exact ih (x1 + (1 : Int32)) M4 hr
      ·
        have hr := g_if0 h2 hr
        refine gb_run 2 (pc2 := 113) (ls2 := [(0, .ref (464)), (1, .int (x1))]) (st2 := [.int (-1), .int (x1), .ref (930)]) (M2 := M) hC hqX12_beginsAnew rfl ?_
        obtain ⟨j5, ej5, ij5, lj5, hr⟩ := g_ixo hr
        refine gz_iastore hC hqX12_beginsAnew rfl (Nat.le_of_ble_eq_true rfl) rfl ij5 ej5 ?_
        refine g_letP (P := fun M6 => GW l C qX12_beginsAnew d (gQg 956 g_S0 (qV R) sz) gN 0 0 114 [(0, .ref (464)), (1, .int (x1))] [] (956, g_S0, M6, sz)) hr (fun M6 hr => ?_)
        refine gb_run 2 (pc2 := 91) (ls2 := [(1, .int (x1 + (1 : Int32))), (0, .ref (464))]) (st2 := []) (M2 := M6) hC hqX12_beginsAnew rfl ?_
        refine gw_pick [1, 0] (ls2 := [(0, .ref (464)), (1, .int (x1 + (1 : Int32)))]) rfl ?_
        exact ih (x1 + (1 : Int32)) M6 hr
def FM_beginsAnew_L61 : Nat → Int32 → gM → Option (gM)
  | 0, _, _ => none
  | k + 1, x1, M =>
  if (M 468 2) ≤ x1 then (FM_beginsAnew_L91 1000 (0 : Int32) M) else (g_ix x1 8 fun j2 => g_ix x1 8 fun j3 => g_let (g_set M 470 j3 (M 469 j2)) fun M4 => FM_beginsAnew_L61 k (x1 + (1 : Int32)) M4)
set_option maxRecDepth 20000 in
theorem c_FM_beginsAnew_L61 {l : Launch} {C : gC} (hC : g_ctx l C) (sz d : Nat) (hd : 2 ≤ d) (R : gM) : ∀ (k : Nat) (x1 : Int32) (M : gM), FM_beginsAnew_L61 k x1 M = some R → GW l C qX12_beginsAnew d (gQg 956 g_S0 (qV R) sz) gN 0 0 61 [(0, .ref (464)), (1, .int (x1))] [] (956, g_S0, M, sz) := by
  intro k
  induction k with
  | zero => intro x1 M hr; exact nomatch (show (none : Option (gM)) = some R from hr)
  | succ k ih =>
    intro x1 M hr
    unfold FM_beginsAnew_L61 at hr
    refine gb_run 4 (pc2 := 67) (ls2 := [(0, .ref (464)), (1, .int (x1))]) (st2 := [.int (2), .ref (468), .int (x1)]) (M2 := M) hC hqX12_beginsAnew rfl ?_
    refine gb_iaload hC hqX12_beginsAnew rfl (Nat.le_of_ble_eq_true rfl) rfl (by unfold vp_in; decide) ?_
    rw [show (2 : Int32).toNatClampNeg = 2 from rfl]
    refine gb_icmp_ge hqX12_beginsAnew rfl (fun h1 => ?_) (fun h1 => ?_)
    ·
      have hr := g_if1 h1 hr
      refine gb_run 2 (pc2 := 91) (ls2 := [(1, .int (0)), (0, .ref (464))]) (st2 := []) (M2 := M) hC hqX12_beginsAnew rfl ?_
      refine gw_pick [1, 0] (ls2 := [(0, .ref (464)), (1, .int (0))]) rfl ?_
      exact c_FM_beginsAnew_L91 hC sz d (by omega) R 1000 (0 : Int32) M hr
    ·
      have hr := g_if0 h1 hr
      refine gb_run 6 (pc2 := 81) (ls2 := [(0, .ref (464)), (1, .int (x1))]) (st2 := [.int (x1), .ref (469), .int (x1), .ref (470)]) (M2 := M) hC hqX12_beginsAnew rfl ?_
      obtain ⟨j2, ej2, ij2, lj2, hr⟩ := g_ixo hr
      refine gz_iaload hC hqX12_beginsAnew rfl (Nat.le_of_ble_eq_true rfl) rfl ij2 ej2 ?_
      obtain ⟨j3, ej3, ij3, lj3, hr⟩ := g_ixo hr
      refine gz_iastore hC hqX12_beginsAnew rfl (Nat.le_of_ble_eq_true rfl) rfl ij3 ej3 ?_
      refine g_letP (P := fun M4 => GW l C qX12_beginsAnew d (gQg 956 g_S0 (qV R) sz) gN 0 0 83 [(0, .ref (464)), (1, .int (x1))] [] (956, g_S0, M4, sz)) hr (fun M4 hr => ?_)
      refine gb_run 2 (pc2 := 61) (ls2 := [(1, .int (x1 + (1 : Int32))), (0, .ref (464))]) (st2 := []) (M2 := M4) hC hqX12_beginsAnew rfl ?_
      refine gw_pick [1, 0] (ls2 := [(0, .ref (464)), (1, .int (x1 + (1 : Int32)))]) rfl ?_
      exact ih (x1 + (1 : Int32)) M4 hr
def FM_beginsAnew_L2 : Nat → Int32 → gM → Option (gM)
  | 0, _, _ => none
  | k + 1, x1, M =>
  if (5 : Int32) ≤ x1 then ((FM_laysW (M 468 0) M).bind fun s2 => (FM_laysC (s2 468 1) s2).bind fun s3 => FM_beginsAnew_L61 1000 (0 : Int32) s3) else (g_ix x1 5 fun j4 => g_ix x1 5 fun j5 => g_let (g_set M 468 j5 (M 467 j4)) fun M6 => FM_beginsAnew_L2 k (x1 + (1 : Int32)) M6)
set_option maxRecDepth 20000 in
theorem c_FM_beginsAnew_L2 {l : Launch} {C : gC} (hC : g_ctx l C) (sz d : Nat) (hd : 2 ≤ d) (R : gM) : ∀ (k : Nat) (x1 : Int32) (M : gM), FM_beginsAnew_L2 k x1 M = some R → GW l C qX12_beginsAnew d (gQg 956 g_S0 (qV R) sz) gN 0 0 2 [(0, .ref (464)), (1, .int (x1))] [] (956, g_S0, M, sz) := by
  intro k
  induction k with
  | zero => intro x1 M hr; exact nomatch (show (none : Option (gM)) = some R from hr)
  | succ k ih =>
    intro x1 M hr
    unfold FM_beginsAnew_L2 at hr
    refine gb_run 2 (pc2 := 4) (ls2 := [(0, .ref (464)), (1, .int (x1))]) (st2 := [.int (5), .int (x1)]) (M2 := M) hC hqX12_beginsAnew rfl ?_
    refine gb_icmp_ge hqX12_beginsAnew rfl (fun h1 => ?_) (fun h1 => ?_)
    ·
      have hr := g_if1 h1 hr
      refine gb_run 7 (pc2 := 38) (ls2 := [(0, .ref (464)), (1, .int (x1))]) (st2 := [.int (0), .ref (468), .ref (480), .ref (471)]) (M2 := M) hC hqX12_beginsAnew rfl ?_
      refine gb_iaload hC hqX12_beginsAnew rfl (Nat.le_of_ble_eq_true rfl) rfl (by unfold vp_in; decide) ?_
      rw [show (0 : Int32).toNatClampNeg = 0 from rfl]
      obtain ⟨s2, es2, hr⟩ := g_bd hr
      refine gz_cS (z := qX12_lays) (av := [.ref (471), .ref (480), .int (M 468 0)]) (rest := []) (pl := 1391) hC hqX12_beginsAnew rfl kX12_lays (by decide +kernel) (c_FM_laysW hC (M 468 0)  M sz (d - 1) (by omega) s2 es2) (by omega) ⟨rfl, rfl⟩ rfl rfl (Nat.le_of_ble_eq_true rfl) ⟨Nat.le_of_ble_eq_true rfl, Nat.le_of_ble_eq_true rfl⟩ (gs_V ?_)
      refine gb_run 7 (pc2 := 55) (ls2 := [(0, .ref (464)), (1, .int (x1))]) (st2 := [.int (1), .ref (468), .ref (498), .ref (489)]) (M2 := s2) hC hqX12_beginsAnew rfl ?_
      refine gb_iaload hC hqX12_beginsAnew rfl (Nat.le_of_ble_eq_true rfl) rfl (by unfold vp_in; decide) ?_
      rw [show (1 : Int32).toNatClampNeg = 1 from rfl]
      obtain ⟨s3, es3, hr⟩ := g_bd hr
      refine gz_cS (z := qX12_lays) (av := [.ref (489), .ref (498), .int (s2 468 1)]) (rest := []) (pl := 1391) hC hqX12_beginsAnew rfl kX12_lays (by decide +kernel) (c_FM_laysC hC (s2 468 1)  s2 sz (d - 1) (by omega) s3 es3) (by omega) ⟨rfl, rfl⟩ rfl rfl (Nat.le_of_ble_eq_true rfl) ⟨Nat.le_of_ble_eq_true rfl, Nat.le_of_ble_eq_true rfl⟩ (gs_V ?_)
      refine gb_run 2 (pc2 := 61) (ls2 := [(1, .int (0)), (0, .ref (464))]) (st2 := []) (M2 := s3) hC hqX12_beginsAnew rfl ?_
      refine gw_pick [1, 0] (ls2 := [(0, .ref (464)), (1, .int (0))]) rfl ?_
      exact c_FM_beginsAnew_L61 hC sz d (by omega) R 1000 (0 : Int32) s3 hr
    ·
      have hr := g_if0 h1 hr
      refine gb_run 6 (pc2 := 17) (ls2 := [(0, .ref (464)), (1, .int (x1))]) (st2 := [.int (x1), .ref (467), .int (x1), .ref (468)]) (M2 := M) hC hqX12_beginsAnew rfl ?_
      obtain ⟨j4, ej4, ij4, lj4, hr⟩ := g_ixo hr
      refine gz_iaload hC hqX12_beginsAnew rfl (Nat.le_of_ble_eq_true rfl) rfl ij4 ej4 ?_
      obtain ⟨j5, ej5, ij5, lj5, hr⟩ := g_ixo hr
      refine gz_iastore hC hqX12_beginsAnew rfl (Nat.le_of_ble_eq_true rfl) rfl ij5 ej5 ?_
      refine g_letP (P := fun M6 => GW l C qX12_beginsAnew d (gQg 956 g_S0 (qV R) sz) gN 0 0 19 [(0, .ref (464)), (1, .int (x1))] [] (956, g_S0, M6, sz)) hr (fun M6 hr => ?_)
      refine gb_run 2 (pc2 := 2) (ls2 := [(1, .int (x1 + (1 : Int32))), (0, .ref (464))]) (st2 := []) (M2 := M6) hC hqX12_beginsAnew rfl ?_
      refine gw_pick [1, 0] (ls2 := [(0, .ref (464)), (1, .int (x1 + (1 : Int32)))]) rfl ?_
      exact ih (x1 + (1 : Int32)) M6 hr
def FM_beginsAnew  (M : gM) : Option (gM) :=
  FM_beginsAnew_L2 1000 (0 : Int32) M
set_option maxRecDepth 20000 in
theorem c_FM_beginsAnew {l : Launch} {C : gC} (hC : g_ctx l C)   (M : gM) (sz d : Nat) (hd : 2 ≤ d) (R : gM) (hr : FM_beginsAnew M = some R) : gPg l C qX12_beginsAnew d [.ref (464)] 956 g_S0 M sz (qV R) := by
  refine gPg.of (ls := [(0, .ref (464))]) (by decide +kernel) (Nat.le_of_ble_eq_true rfl) rfl ?_
  unfold FM_beginsAnew at hr
  refine gb_run 2 (pc2 := 2) (ls2 := [(1, .int (0)), (0, .ref (464))]) (st2 := []) (M2 := M) hC hqX12_beginsAnew rfl ?_
  refine gw_pick [1, 0] (ls2 := [(0, .ref (464)), (1, .int (0))]) rfl ?_
  exact c_FM_beginsAnew_L2 hC sz d (by omega) R 1000 (0 : Int32) M hr
def FM_park_J71 (n : Int32) (M : gM) : Option (Int32 × gM) :=
  if (M 464 5) = (0 : Int32) then ((FM_beginsAnew (g_set M 464 3 (-1 : Int32))).bind fun s2 => some (s2 468 2, s2)) else ((FM_ends M).bind fun s3 => some (s3.1, s3.2))
set_option maxRecDepth 20000 in
theorem c_FM_park_J71 {l : Launch} {C : gC} (hC : g_ctx l C) (n : Int32) (sz d : Nat) (hd : 7 ≤ d) (R : Int32 × gM) (M : gM) (hr : FM_park_J71 n M = some R) : GW l C qX12_park d (gQg 956 g_S0 (qI R) sz) gN 0 0 71 [(0, .ref (464))] [] (956, g_S0, M, sz) := by
  unfold FM_park_J71 at hr
  refine gb_run 2 (pc2 := 75) (ls2 := [(0, .ref (464))]) (st2 := [.int (M 464 5)]) (M2 := M) hC hqX12_park rfl ?_
  refine gb_if_eq hqX12_park rfl (fun h1 => ?_) (fun h1 => ?_)
  ·
    have hr := g_if1 h1 hr
    refine gb_run 4 (pc2 := 89) (ls2 := [(0, .ref (464))]) (st2 := [.ref (464)]) (M2 := g_set M 464 3 (-1 : Int32)) hC hqX12_park rfl ?_
    obtain ⟨s2, es2, hr⟩ := g_bd hr
    refine gz_cV (z := qX12_beginsAnew) (a := 464) (av := []) (rest := []) (pl := 1387) hC hqX12_park rfl kX12_beginsAnew sX12_beginsAnew (by decide +kernel) (c_FM_beginsAnew hC   (g_set M 464 3 (-1 : Int32)) sz (d - 1) (by omega) s2 es2) (by omega) ⟨rfl, rfl⟩ rfl (Nat.le_of_ble_eq_true rfl) (Nat.le_of_ble_eq_true rfl) rfl rfl rfl (Nat.le_of_ble_eq_true rfl) ⟨Nat.le_of_ble_eq_true rfl, Nat.le_of_ble_eq_true rfl⟩ (gs_V ?_)
    refine gb_run 3 (pc2 := 97) (ls2 := [(0, .ref (464))]) (st2 := [.int (2), .ref (468)]) (M2 := s2) hC hqX12_park rfl ?_
    refine gb_iaload hC hqX12_park rfl (Nat.le_of_ble_eq_true rfl) rfl (by unfold vp_in; decide) ?_
    rw [show (2 : Int32).toNatClampNeg = 2 from rfl]
    refine gb_iret hqX12_park rfl rfl (Nat.le_of_ble_eq_true rfl) (Nat.le_of_ble_eq_true rfl) ?_
    exact gl_I hr
  ·
    have hr := g_if0 h1 hr
    refine gb_run 1 (pc2 := 79) (ls2 := [(0, .ref (464))]) (st2 := [.ref (464)]) (M2 := M) hC hqX12_park rfl ?_
    obtain ⟨s3, es3, hr⟩ := g_bd hr
    refine gz_cV (z := qX12_ends) (a := 464) (av := []) (rest := []) (pl := 1609) hC hqX12_park rfl kX12_ends sX12_ends (by decide +kernel) (c_FM_ends hC   M sz (d - 1) (by omega) s3 es3) (by omega) ⟨rfl, rfl⟩ rfl (Nat.le_of_ble_eq_true rfl) (Nat.le_of_ble_eq_true rfl) rfl rfl rfl (Nat.le_of_ble_eq_true rfl) ⟨Nat.le_of_ble_eq_true rfl, Nat.le_of_ble_eq_true rfl⟩ (gs_I ?_)
    refine gb_iret hqX12_park rfl rfl (Nat.le_of_ble_eq_true rfl) (Nat.le_of_ble_eq_true rfl) ?_
    exact gl_I hr
def FM_park_L42 (n : Int32) : Nat → gM → Option (Int32 × gM)
  | 0, _ => none
  | k + 1, M =>
  if (M 464 5) = (0 : Int32) then (if (M 464 2) ≤ (M 464 4) then (FM_park_J71 n M) else ((FM_clause M).bind fun s3 => (FM_blanks s3).bind fun s4 => FM_park_L42 n k s4)) else (FM_park_J71 n M)
set_option maxRecDepth 20000 in
theorem c_FM_park_L42 {l : Launch} {C : gC} (hC : g_ctx l C) (n : Int32) (sz d : Nat) (hd : 7 ≤ d) (R : Int32 × gM) : ∀ (k : Nat) (M : gM), FM_park_L42 n k M = some R → GW l C qX12_park d (gQg 956 g_S0 (qI R) sz) gN 0 0 42 [(0, .ref (464))] [] (956, g_S0, M, sz) := by
  intro k
  induction k with
  | zero => intro M hr; exact nomatch (show (none : Option (Int32 × gM)) = some R from hr)
  | succ k ih =>
    intro M hr
    unfold FM_park_L42 at hr
    refine gb_run 2 (pc2 := 46) (ls2 := [(0, .ref (464))]) (st2 := [.int (M 464 5)]) (M2 := M) hC hqX12_park rfl ?_
    refine gb_if_ne hqX12_park rfl (fun h1 => ?_) (fun h1 => ?_)
    ·
      have hr := g_if0 h1 hr
      exact c_FM_park_J71 hC n sz d (by omega) R M hr
    ·
      have hr := g_if1 h1 hr
      refine gb_run 4 (pc2 := 57) (ls2 := [(0, .ref (464))]) (st2 := [.int (M 464 2), .int (M 464 4)]) (M2 := M) hC hqX12_park rfl ?_
      refine gb_icmp_ge hqX12_park rfl (fun h2 => ?_) (fun h2 => ?_)
      ·
        have hr := g_if1 h2 hr
        exact c_FM_park_J71 hC n sz d (by omega) R M hr
      ·
        have hr := g_if0 h2 hr
        refine gb_run 1 (pc2 := 61) (ls2 := [(0, .ref (464))]) (st2 := [.ref (464)]) (M2 := M) hC hqX12_park rfl ?_
        obtain ⟨s3, es3, hr⟩ := g_bd hr
        refine gz_cV (z := qX12_clause) (a := 464) (av := []) (rest := []) (pl := 1567) hC hqX12_park rfl kX12_clause sX12_clause (by decide +kernel) (c_FM_clause hC   M sz (d - 1) (by omega) s3 es3) (by omega) ⟨rfl, rfl⟩ rfl (Nat.le_of_ble_eq_true rfl) (Nat.le_of_ble_eq_true rfl) rfl rfl rfl (Nat.le_of_ble_eq_true rfl) ⟨Nat.le_of_ble_eq_true rfl, Nat.le_of_ble_eq_true rfl⟩ (gs_V ?_)
        refine gb_run 1 (pc2 := 65) (ls2 := [(0, .ref (464))]) (st2 := [.ref (464)]) (M2 := s3) hC hqX12_park rfl ?_
        obtain ⟨s4, es4, hr⟩ := g_bd hr
        refine gz_cV (z := qX12_blanks) (a := 464) (av := []) (rest := []) (pl := 1559) hC hqX12_park rfl kX12_blanks sX12_blanks (by decide +kernel) (c_FM_blanks hC   s3 sz (d - 1) (by omega) s4 es4) (by omega) ⟨rfl, rfl⟩ rfl (Nat.le_of_ble_eq_true rfl) (Nat.le_of_ble_eq_true rfl) rfl rfl rfl (Nat.le_of_ble_eq_true rfl) ⟨Nat.le_of_ble_eq_true rfl, Nat.le_of_ble_eq_true rfl⟩ (gs_V ?_)
        refine gb_run 1 (pc2 := 42) (ls2 := [(0, .ref (464))]) (st2 := []) (M2 := s4) hC hqX12_park rfl ?_
        exact ih s4 hr
def FM_park_J23 (n : Int32) (y0 : Int32) (M : gM) : Option (Int32 × gM) :=
  (FM_bad y0 (1 : Int32) (1 : Int32) M).bind fun s1 => if s1.1 = (0 : Int32) then ((FM_starts n (s1.2)).bind fun s4 => (FM_tellsNothing s4).bind fun s5 => FM_park_L42 n 1000 s5) else (some (0, s1.2))
set_option maxRecDepth 20000 in
theorem c_FM_park_J23 {l : Launch} {C : gC} (hC : g_ctx l C) (n : Int32) (sz d : Nat) (hd : 7 ≤ d) (R : Int32 × gM) (y0 : Int32) (M : gM) (hr : FM_park_J23 n y0 M = some R) : GW l C qX12_park d (gQg 956 g_S0 (qI R) sz) gN 0 0 23 [(0, .ref (464)), (1, .int (n))] [.int (y0), .ref (464)] (956, g_S0, M, sz) := by
  unfold FM_park_J23 at hr
  refine gb_run 2 (pc2 := 25) (ls2 := [(0, .ref (464)), (1, .int (n))]) (st2 := [.int (1), .int (1), .int (y0), .ref (464)]) (M2 := M) hC hqX12_park rfl ?_
  obtain ⟨s1, es1, hr⟩ := g_bd hr
  refine gz_cV (z := qX12_bad) (a := 464) (av := [.int (y0), .int (1), .int (1)]) (rest := []) (pl := 1551) hC hqX12_park rfl kX12_bad sX12_bad (by decide +kernel) (c_FM_bad hC y0 (1 : Int32) (1 : Int32)  M sz (d - 1) (by omega) s1 es1) (by omega) ⟨rfl, rfl⟩ rfl (Nat.le_of_ble_eq_true rfl) (Nat.le_of_ble_eq_true rfl) rfl rfl rfl (Nat.le_of_ble_eq_true rfl) ⟨Nat.le_of_ble_eq_true rfl, Nat.le_of_ble_eq_true rfl⟩ (gs_Z fun z2 => ?_)
  refine gb_if_eq hqX12_park rfl (fun h3 => ?_) (fun h3 => ?_)
  ·
    have hr := g_if1 h3 hr
    refine gb_run 2 (pc2 := 35) (ls2 := [(0, .ref (464)), (1, .int (n))]) (st2 := [.int (n), .ref (464)]) (M2 := s1.2) hC hqX12_park rfl ?_
    obtain ⟨s4, es4, hr⟩ := g_bd hr
    refine gz_cV (z := qX12_starts) (a := 464) (av := [.int (n)]) (rest := []) (pl := 1555) hC hqX12_park rfl kX12_starts sX12_starts (by decide +kernel) (c_FM_starts hC n  (s1.2) sz (d - 1) (by omega) s4 es4) (by omega) ⟨rfl, rfl⟩ rfl (Nat.le_of_ble_eq_true rfl) (Nat.le_of_ble_eq_true rfl) rfl rfl rfl (Nat.le_of_ble_eq_true rfl) ⟨Nat.le_of_ble_eq_true rfl, Nat.le_of_ble_eq_true rfl⟩ (gs_V ?_)
    refine gb_run 1 (pc2 := 39) (ls2 := [(0, .ref (464)), (1, .int (n))]) (st2 := [.ref (464)]) (M2 := s4) hC hqX12_park rfl ?_
    obtain ⟨s5, es5, hr⟩ := g_bd hr
    refine gz_cV (z := qX12_tellsNothing) (a := 464) (av := []) (rest := []) (pl := 1383) hC hqX12_park rfl kX12_tellsNothing sX12_tellsNothing (by decide +kernel) (c_FM_tellsNothing hC   s4 sz (d - 1) (by omega) s5 es5) (by omega) ⟨rfl, rfl⟩ rfl (Nat.le_of_ble_eq_true rfl) (Nat.le_of_ble_eq_true rfl) rfl rfl rfl (Nat.le_of_ble_eq_true rfl) ⟨Nat.le_of_ble_eq_true rfl, Nat.le_of_ble_eq_true rfl⟩ (gs_V ?_)
    refine gw_pick [0] (ls2 := [(0, .ref (464))]) rfl ?_
    exact c_FM_park_L42 hC n sz d (by omega) R 1000 s5 hr
  ·
    have hr := g_if0 h3 hr
    refine gb_run 1 (pc2 := 32) (ls2 := [(0, .ref (464)), (1, .int (n))]) (st2 := [.int (0)]) (M2 := s1.2) hC hqX12_park rfl ?_
    refine gb_iret hqX12_park rfl rfl (Nat.le_of_ble_eq_true rfl) (Nat.le_of_ble_eq_true rfl) ?_
    exact gl_I hr
def FM_park (n : Int32) (M : gM) : Option (Int32 × gM) :=
  if (FM_in n (0 : Int32) (M 464 1)) = (0 : Int32) then (FM_park_J23 n (1 : Int32) (g_set M 464 0 (0 : Int32))) else (FM_park_J23 n (0 : Int32) (g_set M 464 0 (0 : Int32)))
set_option maxRecDepth 20000 in
theorem c_FM_park {l : Launch} {C : gC} (hC : g_ctx l C) (n : Int32)  (M : gM) (sz d : Nat) (hd : 7 ≤ d) (R : Int32 × gM) (hr : FM_park n M = some R) : gPg l C qX12_park d [.ref (464), .int (n)] 956 g_S0 M sz (qI R) := by
  refine gPg.of (ls := [(0, .ref (464)), (1, .int (n))]) (by decide +kernel) (Nat.le_of_ble_eq_true rfl) rfl ?_
  unfold FM_park at hr
  refine gb_run 8 (pc2 := 12) (ls2 := [(0, .ref (464)), (1, .int (n))]) (st2 := [.int (M 464 1), .int (0), .int (n), .ref (464)]) (M2 := g_set M 464 0 (0 : Int32)) hC hqX12_park rfl ?_
  refine gz_cS (z := qX12_in) (av := [.int (n), .int (0), .int (M 464 1)]) (rest := [.ref (464)]) (pl := 1548) hC hqX12_park rfl kX12_in (by decide +kernel) (c_FM_in hC n (0 : Int32) (M 464 1)  (g_set M 464 0 (0 : Int32)) sz (d - 1) (by omega)) (by omega) ⟨rfl, rfl⟩ rfl rfl (Nat.le_of_ble_eq_true rfl) ⟨Nat.le_of_ble_eq_true rfl, Nat.le_of_ble_eq_true rfl⟩ (gs_Zp fun z2 => ?_)
  refine gb_if_ne hqX12_park rfl (fun h3 => ?_) (fun h3 => ?_)
  ·
    have hr := g_if0 h3 hr
    refine gb_run 1 (pc2 := 23) (ls2 := [(0, .ref (464)), (1, .int (n))]) (st2 := [.int (0), .ref (464)]) (M2 := g_set M 464 0 (0 : Int32)) hC hqX12_park rfl ?_
    exact c_FM_park_J23 hC n sz d (by omega) R (0 : Int32) (g_set M 464 0 (0 : Int32)) hr
  ·
    have hr := g_if1 h3 hr
    refine gb_run 2 (pc2 := 23) (ls2 := [(0, .ref (464)), (1, .int (n))]) (st2 := [.int (1), .ref (464)]) (M2 := g_set M 464 0 (0 : Int32)) hC hqX12_park rfl ?_
    exact c_FM_park_J23 hC n sz d (by omega) R (1 : Int32) (g_set M 464 0 (0 : Int32)) hr
