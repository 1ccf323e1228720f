/-! Constructors: a State, Songs, a Going, a History. -/
set_option maxRecDepth 20000 in
theorem cg_FZ_clear {l : Launch} {C : gC} {n : Nat} {S : Nat → gT} (hC : g_ctx l C) (a : Nat) (ha : g_St n S a) (M : gM) (sz d : Nat) (hd : 2 ≤ d) (R : gM) (hr : FZ_clear a M = some R) : gPg l C qX8_clear d [.ref (a)] n S M sz (qV R) := by
  refine gPg.of (ls := [(0, .ref (a))]) (by decide +kernel) (Nat.le_of_ble_eq_true rfl) rfl ?_
  unfold FZ_clear at hr
  refine gb_run 1 (pc2 := 1) (ls2 := [(0, .ref (a))]) (st2 := [.ref (a)]) (M2 := M) hC hqX8_clear rfl ?_
  refine gz_getr (q := a + 1) hC hqX8_clear rfl ha.1.1 (g_S3 ha.1.2.1 ha.1.2.2) rfl ((ha.2.1 0 (by decide)).trans rfl) ?_
  refine gb_run 1 (pc2 := 5) (ls2 := [(0, .ref (a))]) (st2 := [.int (0), .ref (a + 1)]) (M2 := M) hC hqX8_clear rfl ?_
  refine gz_cSN (host := "HoopHours") (z := qX11_fill) (av := [.ref (a + 1), .int (0)]) (rest := []) (pl := 286) hC hqX8_clear rfl kX11_fill (by decide +kernel) (c_fill hC n S (a + 1) 8 _ (0 : Int32) M sz (d - 1) (by omega) (ha.2.2 0 (by decide)).1 (g_S3 (ha.2.2 0 (by decide)).2.1 (ha.2.2 0 (by decide)).2.2) (Nat.le_of_ble_eq_true rfl)) (by omega) ⟨rfl, rfl⟩ rfl rfl (Nat.le_of_ble_eq_true rfl) ⟨Nat.le_of_ble_eq_true rfl, Nat.le_of_ble_eq_true rfl⟩ (gs_V ?_)
  refine g_letP (P := fun M1 => GW l C qX8_clear d (gQg n S (qV R) sz) gN 0 0 8 [(0, .ref (a))] [] (n, S, M1, sz)) hr (fun M1 hr => ?_)
  refine gb_run 1 (pc2 := 9) (ls2 := [(0, .ref (a))]) (st2 := [.ref (a)]) (M2 := M1) hC hqX8_clear rfl ?_
  refine gz_getr (q := a + 2) hC hqX8_clear rfl ha.1.1 (g_S3 ha.1.2.1 ha.1.2.2) rfl ((ha.2.1 1 (by decide)).trans rfl) ?_
  refine gb_run 1 (pc2 := 13) (ls2 := [(0, .ref (a))]) (st2 := [.int (0), .ref (a + 2)]) (M2 := M1) hC hqX8_clear rfl ?_
  refine gz_cSN (host := "HoopHours") (z := qX11_fill) (av := [.ref (a + 2), .int (0)]) (rest := []) (pl := 286) hC hqX8_clear rfl kX11_fill (by decide +kernel) (c_fill hC n S (a + 2) 8 _ (0 : Int32) M1 sz (d - 1) (by omega) (ha.2.2 1 (by decide)).1 (g_S3 (ha.2.2 1 (by decide)).2.1 (ha.2.2 1 (by decide)).2.2) (Nat.le_of_ble_eq_true rfl)) (by omega) ⟨rfl, rfl⟩ rfl rfl (Nat.le_of_ble_eq_true rfl) ⟨Nat.le_of_ble_eq_true rfl, Nat.le_of_ble_eq_true rfl⟩ (gs_V ?_)
  refine g_letP (P := fun M2 => GW l C qX8_clear d (gQg n S (qV R) sz) gN 0 0 16 [(0, .ref (a))] [] (n, S, M2, sz)) hr (fun M2 hr => ?_)
  refine gb_run 1 (pc2 := 17) (ls2 := [(0, .ref (a))]) (st2 := [.ref (a)]) (M2 := M2) hC hqX8_clear rfl ?_
  refine gz_getr (q := a + 3) hC hqX8_clear rfl ha.1.1 (g_S3 ha.1.2.1 ha.1.2.2) rfl ((ha.2.1 2 (by decide)).trans rfl) ?_
  refine gb_run 1 (pc2 := 21) (ls2 := [(0, .ref (a))]) (st2 := [.int (0), .ref (a + 3)]) (M2 := M2) hC hqX8_clear rfl ?_
  refine gz_cSN (host := "HoopHours") (z := qX11_fill) (av := [.ref (a + 3), .int (0)]) (rest := []) (pl := 286) hC hqX8_clear rfl kX11_fill (by decide +kernel) (c_fill hC n S (a + 3) 8 _ (0 : Int32) M2 sz (d - 1) (by omega) (ha.2.2 2 (by decide)).1 (g_S3 (ha.2.2 2 (by decide)).2.1 (ha.2.2 2 (by decide)).2.2) (Nat.le_of_ble_eq_true rfl)) (by omega) ⟨rfl, rfl⟩ rfl rfl (Nat.le_of_ble_eq_true rfl) ⟨Nat.le_of_ble_eq_true rfl, Nat.le_of_ble_eq_true rfl⟩ (gs_V ?_)
  refine g_letP (P := fun M3 => GW l C qX8_clear d (gQg n S (qV R) sz) gN 0 0 24 [(0, .ref (a))] [] (n, S, M3, sz)) hr (fun M3 hr => ?_)
  refine gb_run 1 (pc2 := 25) (ls2 := [(0, .ref (a))]) (st2 := [.ref (a)]) (M2 := M3) hC hqX8_clear rfl ?_
  refine gz_getr (q := a + 4) hC hqX8_clear rfl ha.1.1 (g_S3 ha.1.2.1 ha.1.2.2) rfl ((ha.2.1 3 (by decide)).trans rfl) ?_
  refine gb_run 1 (pc2 := 29) (ls2 := [(0, .ref (a))]) (st2 := [.int (-1), .ref (a + 4)]) (M2 := M3) hC hqX8_clear rfl ?_
  refine gz_cSN (host := "HoopHours") (z := qX11_fill) (av := [.ref (a + 4), .int (-1)]) (rest := []) (pl := 286) hC hqX8_clear rfl kX11_fill (by decide +kernel) (c_fill hC n S (a + 4) 8 _ (-1 : Int32) M3 sz (d - 1) (by omega) (ha.2.2 3 (by decide)).1 (g_S3 (ha.2.2 3 (by decide)).2.1 (ha.2.2 3 (by decide)).2.2) (Nat.le_of_ble_eq_true rfl)) (by omega) ⟨rfl, rfl⟩ rfl rfl (Nat.le_of_ble_eq_true rfl) ⟨Nat.le_of_ble_eq_true rfl, Nat.le_of_ble_eq_true rfl⟩ (gs_V ?_)
  refine g_letP (P := fun M4 => GW l C qX8_clear d (gQg n S (qV R) sz) gN 0 0 32 [(0, .ref (a))] [] (n, S, M4, sz)) hr (fun M4 hr => ?_)
  refine gb_run 1 (pc2 := 33) (ls2 := [(0, .ref (a))]) (st2 := [.ref (a)]) (M2 := M4) hC hqX8_clear rfl ?_
  refine gz_getr (q := a + 5) hC hqX8_clear rfl ha.1.1 (g_S3 ha.1.2.1 ha.1.2.2) rfl ((ha.2.1 4 (by decide)).trans rfl) ?_
  refine gb_run 1 (pc2 := 37) (ls2 := [(0, .ref (a))]) (st2 := [.int (0), .ref (a + 5)]) (M2 := M4) hC hqX8_clear rfl ?_
  refine gz_cSN (host := "HoopHours") (z := qX11_fill) (av := [.ref (a + 5), .int (0)]) (rest := []) (pl := 286) hC hqX8_clear rfl kX11_fill (by decide +kernel) (c_fill hC n S (a + 5) 8 _ (0 : Int32) M4 sz (d - 1) (by omega) (ha.2.2 4 (by decide)).1 (g_S3 (ha.2.2 4 (by decide)).2.1 (ha.2.2 4 (by decide)).2.2) (Nat.le_of_ble_eq_true rfl)) (by omega) ⟨rfl, rfl⟩ rfl rfl (Nat.le_of_ble_eq_true rfl) ⟨Nat.le_of_ble_eq_true rfl, Nat.le_of_ble_eq_true rfl⟩ (gs_V ?_)
  refine g_letP (P := fun M5 => GW l C qX8_clear d (gQg n S (qV R) sz) gN 0 0 40 [(0, .ref (a))] [] (n, S, M5, sz)) hr (fun M5 hr => ?_)
  refine gb_run 2 (pc2 := 42) (ls2 := [(0, .ref (a))]) (st2 := [.int (0), .ref (a)]) (M2 := M5) hC hqX8_clear rfl ?_
  refine gb_putf hC hqX8_clear rfl ha.1.1 (g_S3 ha.1.2.1 ha.1.2.2) rfl ((ha.2.1 5 (by decide)).trans rfl) rfl ?_
  refine g_letP (P := fun M6 => GW l C qX8_clear d (gQg n S (qV R) sz) gN 0 0 45 [(0, .ref (a))] [] (n, S, M6, sz)) hr (fun M6 hr => ?_)
  refine gb_run 2 (pc2 := 47) (ls2 := [(0, .ref (a))]) (st2 := [.int (0), .ref (a)]) (M2 := M6) hC hqX8_clear rfl ?_
  refine gb_putf hC hqX8_clear rfl ha.1.1 (g_S3 ha.1.2.1 ha.1.2.2) rfl ((ha.2.1 6 (by decide)).trans rfl) rfl ?_
  refine g_letP (P := fun M7 => GW l C qX8_clear d (gQg n S (qV R) sz) gN 0 0 50 [(0, .ref (a))] [] (n, S, M7, sz)) hr (fun M7 hr => ?_)
  refine gb_run 2 (pc2 := 52) (ls2 := [(0, .ref (a))]) (st2 := [.int (0), .ref (a)]) (M2 := M7) hC hqX8_clear rfl ?_
  refine gb_putf hC hqX8_clear rfl ha.1.1 (g_S3 ha.1.2.1 ha.1.2.2) rfl ((ha.2.1 7 (by decide)).trans rfl) rfl ?_
  refine g_letP (P := fun M8 => GW l C qX8_clear d (gQg n S (qV R) sz) gN 0 0 55 [(0, .ref (a))] [] (n, S, M8, sz)) hr (fun M8 hr => ?_)
  refine gb_run 2 (pc2 := 57) (ls2 := [(0, .ref (a))]) (st2 := [.int (0), .ref (a)]) (M2 := M8) hC hqX8_clear rfl ?_
  refine gb_putf hC hqX8_clear rfl ha.1.1 (g_S3 ha.1.2.1 ha.1.2.2) rfl ((ha.2.1 8 (by decide)).trans rfl) rfl ?_
  refine g_letP (P := fun M9 => GW l C qX8_clear d (gQg n S (qV R) sz) gN 0 0 60 [(0, .ref (a))] [] (n, S, M9, sz)) hr (fun M9 hr => ?_)
  refine gb_run 2 (pc2 := 62) (ls2 := [(0, .ref (a))]) (st2 := [.int (0), .ref (a)]) (M2 := M9) hC hqX8_clear rfl ?_
  refine gb_putf hC hqX8_clear rfl ha.1.1 (g_S3 ha.1.2.1 ha.1.2.2) rfl ((ha.2.1 9 (by decide)).trans rfl) rfl ?_
  refine g_letP (P := fun M10 => GW l C qX8_clear d (gQg n S (qV R) sz) gN 0 0 65 [(0, .ref (a))] [] (n, S, M10, sz)) hr (fun M10 hr => ?_)
  refine gb_run 2 (pc2 := 67) (ls2 := [(0, .ref (a))]) (st2 := [.int (0), .ref (a)]) (M2 := M10) hC hqX8_clear rfl ?_
  refine gb_putf hC hqX8_clear rfl ha.1.1 (g_S3 ha.1.2.1 ha.1.2.2) rfl ((ha.2.1 10 (by decide)).trans rfl) rfl ?_
  refine g_letP (P := fun M11 => GW l C qX8_clear d (gQg n S (qV R) sz) gN 0 0 70 [(0, .ref (a))] [] (n, S, M11, sz)) hr (fun M11 hr => ?_)
  refine gb_run 2 (pc2 := 72) (ls2 := [(0, .ref (a))]) (st2 := [.int (0), .ref (a)]) (M2 := M11) hC hqX8_clear rfl ?_
  refine gb_putf hC hqX8_clear rfl ha.1.1 (g_S3 ha.1.2.1 ha.1.2.2) rfl ((ha.2.1 11 (by decide)).trans rfl) rfl ?_
  refine g_letP (P := fun M12 => GW l C qX8_clear d (gQg n S (qV R) sz) gN 0 0 75 [(0, .ref (a))] [] (n, S, M12, sz)) hr (fun M12 hr => ?_)
  refine gb_vret hqX8_clear rfl rfl (Nat.le_of_ble_eq_true rfl) (Nat.le_of_ble_eq_true rfl) ?_
  exact gl_V hr

theorem z_clear (a : Nat) (M : gM) : okk (FZ_clear a M) (fun t => (∀ k, k < 8 → t (a + 4) k = -1 ∧ t (a + 1) k = 0 ∧ t (a + 2) k = 0 ∧ t (a + 3) k = 0 ∧ t (a + 5) k = 0) ∧ (∀ k, 5 ≤ k → k ≤ 11 → t a k = 0) ∧ ∀ b, ¬ (a ≤ b ∧ b ≤ a + 5) → t b = M b) := by
  have key : okk (FZ_clear a M) (fun t => (∀ k, k < 8 → t (a + 4) k = -1 ∧ t (a + 1) k = 0 ∧ t (a + 2) k = 0 ∧ t (a + 3) k = 0 ∧ t (a + 5) k = 0) ∧ (∀ k, 5 ≤ k → k ≤ 11 → t a k = 0)) := by
    unfold FZ_clear g_let
    refine okk_some ⟨fun k hk => ⟨?_, ?_, ?_, ?_, ?_⟩, fun k h5 h11 => ?_⟩
    · iterate 7 rw [g_set_ne (show a + 4 ≠ a by omega)]
      rw [r_fill_ne (show a + 4 ≠ a + 5 by omega), r_fill_in hk]
    · iterate 7 rw [g_set_ne (show a + 1 ≠ a by omega)]
      rw [r_fill_ne (show a + 1 ≠ a + 5 by omega), r_fill_ne (show a + 1 ≠ a + 4 by omega), r_fill_ne (show a + 1 ≠ a + 3 by omega), r_fill_ne (show a + 1 ≠ a + 2 by omega), r_fill_in hk]
    · iterate 7 rw [g_set_ne (show a + 2 ≠ a by omega)]
      rw [r_fill_ne (show a + 2 ≠ a + 5 by omega), r_fill_ne (show a + 2 ≠ a + 4 by omega), r_fill_ne (show a + 2 ≠ a + 3 by omega), r_fill_in hk]
    · iterate 7 rw [g_set_ne (show a + 3 ≠ a by omega)]
      rw [r_fill_ne (show a + 3 ≠ a + 5 by omega), r_fill_ne (show a + 3 ≠ a + 4 by omega), r_fill_in hk]
    · iterate 7 rw [g_set_ne (show a + 5 ≠ a by omega)]
      rw [r_fill_in hk]
    · rcases (show k = 5 ∨ k = 6 ∨ k = 7 ∨ k = 8 ∨ k = 9 ∨ k = 10 ∨ k = 11 by omega) with rfl | rfl | rfl | rfl | rfl | rfl | rfl <;> (repeat rw [g_set_k (by decide)]) <;> rw [g_set_eq]
  exact okk_fr key (fun R hR => w_FZ_clear a M R hR) |> fun h => okk_w h (fun t ht => ⟨ht.1.1, ht.1.2, ht.2⟩)
theorem i_State {l : Launch} {C : gC} (hC : g_ctx l C) (a : Nat) (S0 : Nat → gT) (M : gM) (sz d : Nat) (hd : 3 ≤ d) (hz : sz = g_b C + (a + 1)) (h9 : a + 6 ≤ 956) (hM : ∀ b, a ≤ b → M b = fun _ => 0) (hS : ∀ q, q < 6 → S0 (a + q) = g_state a q) : gMet l C qX8_init d [.ref a] (a + 1, g_up1 S0 a (8, 12, g_fs TX8), M, sz) (gQ0 a (a + 6) M (fun M2 => (∀ k, k < 8 → M2 (a + 4) k = -1 ∧ M2 (a + 1) k = 0 ∧ M2 (a + 2) k = 0 ∧ M2 (a + 3) k = 0 ∧ M2 (a + 5) k = 0) ∧ ∀ k, 5 ≤ k → k ≤ 11 → M2 a k = 0) S0 (sz + 5)) gN := by
  have hR1 : S0 (a + 1) = (20, 8, fun _ => 0) := hS 1 (by decide)
  have hR2 : S0 (a + 2) = (20, 8, fun _ => 0) := hS 2 (by decide)
  have hR3 : S0 (a + 3) = (20, 8, fun _ => 0) := hS 3 (by decide)
  have hR4 : S0 (a + 4) = (20, 8, fun _ => 0) := hS 4 (by decide)
  have hR5 : S0 (a + 5) = (20, 8, fun _ => 0) := hS 5 (by decide)
  have hS0 : S0 a = (8, 12, fun j => if j < 5 then a + j + 3 else 0) := hS 0 (by decide)
  refine gMet.of (ls := [(0, .ref a)]) (by decide +kernel) (Nat.le_of_ble_eq_true rfl) rfl ?_
  refine gb_run 1 (pc2 := 1) (ls2 := [(0, .ref a)]) (st2 := [.ref a]) (M2 := M) hC hqX8_init rfl ?_
  refine gw_objInit hC (g_dec hqX8_init (q := (.invokespecial 3, 0, 0, 0)) rfl).1 (g_mem_tb (i := 281) (by decide +kernel)) (g_mem_tb (i := 31) (by decide +kernel)) (g_mem_tb (i := 32) (by decide +kernel)) (Nat.le_of_ble_eq_true rfl) (by omega) ?_
  refine gb_run 2 (pc2 := 7) (ls2 := [(0, .ref a)]) (st2 := [.int 8, .ref a]) (M2 := M) hC hqX8_init rfl ?_
  refine gw_newint (N := 8) hC (g_dec hqX8_init (q := (.newarray .int, 0, 0, 0)) rfl).1 (g_mem_tb (i := 69) (by decide +kernel)) (by decide) (by decide) (by decide) (by omega) (by omega) (Nat.le_of_ble_eq_true rfl) (Nat.le_of_ble_eq_true rfl) ?_
  rw [g_up1_row (a := a) (by omega) hR1, g_up1_zero (hM _ (by omega))]
  refine gw_putref (a := a) (ci := 8) (k := 0) (N := 12) (r := (a + 1)) (Cn := RX8) (T := TX8) hC (g_dec hqX8_init (q := (.putfield 9, 8, 0, 1150)) rfl).1 rfl (by decide) (by decide) (g_mem_tb (i := 287) (by decide +kernel)) rfl rfl rfl rfl (fun _ => rfl) (fun _ => rfl) (by omega) (g_up1_at S0 a _) ?_
  rw [g_setS_up1]
  refine gb_run 2 (pc2 := 15) (ls2 := [(0, .ref a)]) (st2 := [.int 8, .ref a]) (M2 := M) hC hqX8_init rfl ?_
  refine gw_newint (N := 8) hC (g_dec hqX8_init (q := (.newarray .int, 0, 0, 0)) rfl).1 (g_mem_tb (i := 69) (by decide +kernel)) (by decide) (by decide) (by decide) (by omega) (by omega) (Nat.le_of_ble_eq_true rfl) (Nat.le_of_ble_eq_true rfl) ?_
  rw [g_up1_row (a := a) (by omega) hR2, g_up1_zero (hM _ (by omega))]
  refine gw_putref (a := a) (ci := 8) (k := 1) (N := 12) (r := (a + 2)) (Cn := RX8) (T := TX8) hC (g_dec hqX8_init (q := (.putfield 15, 8, 1, 1166)) rfl).1 rfl (by decide) (by decide) (g_mem_tb (i := 291) (by decide +kernel)) rfl rfl rfl rfl (fun _ => rfl) (fun _ => rfl) (by omega) (g_up1_at S0 a _) ?_
  rw [g_setS_up1]
  refine gb_run 2 (pc2 := 23) (ls2 := [(0, .ref a)]) (st2 := [.int 8, .ref a]) (M2 := M) hC hqX8_init rfl ?_
  refine gw_newint (N := 8) hC (g_dec hqX8_init (q := (.newarray .int, 0, 0, 0)) rfl).1 (g_mem_tb (i := 69) (by decide +kernel)) (by decide) (by decide) (by decide) (by omega) (by omega) (Nat.le_of_ble_eq_true rfl) (Nat.le_of_ble_eq_true rfl) ?_
  rw [g_up1_row (a := a) (by omega) hR3, g_up1_zero (hM _ (by omega))]
  refine gw_putref (a := a) (ci := 8) (k := 2) (N := 12) (r := (a + 3)) (Cn := RX8) (T := TX8) hC (g_dec hqX8_init (q := (.putfield 18, 8, 2, 1182)) rfl).1 rfl (by decide) (by decide) (g_mem_tb (i := 295) (by decide +kernel)) rfl rfl rfl rfl (fun _ => rfl) (fun _ => rfl) (by omega) (g_up1_at S0 a _) ?_
  rw [g_setS_up1]
  refine gb_run 2 (pc2 := 31) (ls2 := [(0, .ref a)]) (st2 := [.int 8, .ref a]) (M2 := M) hC hqX8_init rfl ?_
  refine gw_newint (N := 8) hC (g_dec hqX8_init (q := (.newarray .int, 0, 0, 0)) rfl).1 (g_mem_tb (i := 69) (by decide +kernel)) (by decide) (by decide) (by decide) (by omega) (by omega) (Nat.le_of_ble_eq_true rfl) (Nat.le_of_ble_eq_true rfl) ?_
  rw [g_up1_row (a := a) (by omega) hR4, g_up1_zero (hM _ (by omega))]
  refine gw_putref (a := a) (ci := 8) (k := 3) (N := 12) (r := (a + 4)) (Cn := RX8) (T := TX8) hC (g_dec hqX8_init (q := (.putfield 21, 8, 3, 1194)) rfl).1 rfl (by decide) (by decide) (g_mem_tb (i := 298) (by decide +kernel)) rfl rfl rfl rfl (fun _ => rfl) (fun _ => rfl) (by omega) (g_up1_at S0 a _) ?_
  rw [g_setS_up1]
  refine gb_run 2 (pc2 := 39) (ls2 := [(0, .ref a)]) (st2 := [.int 8, .ref a]) (M2 := M) hC hqX8_init rfl ?_
  refine gw_newint (N := 8) hC (g_dec hqX8_init (q := (.newarray .int, 0, 0, 0)) rfl).1 (g_mem_tb (i := 69) (by decide +kernel)) (by decide) (by decide) (by decide) (by omega) (by omega) (Nat.le_of_ble_eq_true rfl) (Nat.le_of_ble_eq_true rfl) ?_
  rw [g_up1_row (a := a) (by omega) hR5, g_up1_zero (hM _ (by omega))]
  refine gw_putref (a := a) (ci := 8) (k := 4) (N := 12) (r := (a + 5)) (Cn := RX8) (T := TX8) hC (g_dec hqX8_init (q := (.putfield 24, 8, 4, 1210)) rfl).1 rfl (by decide) (by decide) (g_mem_tb (i := 302) (by decide +kernel)) rfl rfl rfl rfl (fun _ => rfl) (fun _ => rfl) (by omega) (g_up1_at S0 a _) ?_
  rw [g_setS_up1]
  refine GW_made (S0 := S0) ?_ ?_
  · rw [hS0]
    refine ⟨rfl, rfl, fun j hj => ?_⟩
    have hj : j < 12 := hj
    rcases (show j = 0 ∨ j = 1 ∨ j = 2 ∨ j = 3 ∨ j = 4 ∨ j = 5 ∨ j = 6 ∨ j = 7 ∨ j = 8 ∨ j = 9 ∨ j = 10 ∨ j = 11 by omega) with rfl | rfl | rfl | rfl | rfl | rfl | rfl | rfl | rfl | rfl | rfl | rfl <;> rfl
  obtain ⟨M2, y1, y2, y3, y4⟩ := z_clear a M
  have hG : g_St (a + 5 + 1) S0 a := by
    refine ⟨⟨by omega, by rw [hS0], by rw [hS0]⟩, fun k hk => ?_, fun k hk => ?_⟩
    · rw [hS0]
      show (if k < 5 then a + k + 3 else 0) = _
      by_cases z : k < 5
      · rw [if_pos z, if_pos z]; omega
      · rw [if_neg z, if_neg z]
    · have := hS (1 + k) (by omega)
      refine ⟨by omega, ?_, ?_⟩
      · rw [this]; unfold g_state; rw [if_neg (by omega)]; rfl
      · rw [this]; unfold g_state; rw [if_neg (by omega)]; rfl
  refine gb_run 1 (pc2 := 45) (ls2 := [(0, .ref a)]) (st2 := [.ref a]) (M2 := M) hC hqX8_init rfl ?_
  refine gz_cV (z := qX8_clear) (a := a) (av := []) (rest := []) (pl := 282) hC hqX8_init rfl kX8_clear sX8_clear (by decide +kernel) (cg_FZ_clear hC a hG M _ (d - 1) (by omega) M2 y1) (by omega) ⟨rfl, rfl⟩ rfl (Nat.le_of_ble_eq_true rfl) (by omega) (g_S3 hG.1.2.1 hG.1.2.2) rfl rfl (Nat.le_of_ble_eq_true rfl) ⟨Nat.le_of_ble_eq_true rfl, Nat.le_of_ble_eq_true rfl⟩ (gs_V ?_)
  refine gb_vret hqX8_init rfl rfl (Nat.le_of_ble_eq_true rfl) (Nat.le_of_ble_eq_true rfl) ⟨rfl, _, ⟨fun b hb => y4 b (by omega), fun b hb => ?_, y2, y3⟩, rfl⟩
  rw [y4 b (by omega)]
  exact hM b (by omega)

theorem i_Songs {l : Launch} {C : gC} (hC : g_ctx l C) (a : Nat) (S0 : Nat → gT) (M : gM) (sz d : Nat) (hd : 3 ≤ d) (hz : sz = g_b C + (a + 1)) (h9 : a + 2 ≤ 956) (hM : ∀ b, a ≤ b → M b = fun _ => 0) (hR1 : S0 (a + 1) = (20, 8, fun _ => 0)) (hA : 7 = (S0 a).1 ∧ 2 = (S0 a).2.1 ∧ ∀ j, j < 2 → (if j = 0 then a + 1 + 2 else (g_fs TX7 j)) = (S0 a).2.2 j) : gMet l C qX7_init d [.ref a] (a + 1, g_up1 S0 a (7, 2, g_fs TX7), M, sz) (gQ0 a (a + 2) M (fun M2 => M2 a 1 = 0 ∧ ∀ g, g < 8 → M2 (a + 1) g = -1) S0 (sz + 1)) gN := by
  refine gMet.of (ls := [(0, .ref a)]) (by decide +kernel) (Nat.le_of_ble_eq_true rfl) rfl ?_
  refine gb_run 1 (pc2 := 1) (ls2 := [(0, .ref a)]) (st2 := [.ref a]) (M2 := M) hC hqX7_init rfl ?_
  refine gw_objInit hC (g_dec hqX7_init (q := (.invokespecial 3, 0, 0, 0)) rfl).1 (g_mem_tb (i := 203) (by decide +kernel)) (g_mem_tb (i := 31) (by decide +kernel)) (g_mem_tb (i := 32) (by decide +kernel)) (Nat.le_of_ble_eq_true rfl) (by omega) ?_
  refine gb_run 2 (pc2 := 7) (ls2 := [(0, .ref a)]) (st2 := [.int 8, .ref a]) (M2 := M) hC hqX7_init rfl ?_
  refine gw_newint (N := 8) hC (g_dec hqX7_init (q := (.newarray .int, 0, 0, 0)) rfl).1 (g_mem_tb (i := 69) (by decide +kernel)) (by decide) (by decide) (by decide) (by omega) (by omega) (Nat.le_of_ble_eq_true rfl) (Nat.le_of_ble_eq_true rfl) ?_
  rw [g_up1_row (a := a) (by omega) hR1, g_up1_zero (hM _ (by omega))]
  refine gw_putref (a := a) (ci := 7) (k := 0) (N := 2) (r := (a + 1)) (Cn := RX7) (T := TX7) hC (g_dec hqX7_init (q := (.putfield 9, 7, 0, 846)) rfl).1 rfl (by decide) (by decide) (g_mem_tb (i := 211) (by decide +kernel)) rfl rfl rfl rfl (fun _ => rfl) (fun _ => rfl) (by omega) (g_up1_at S0 a _) ?_
  rw [g_setS_up1]
  refine GW_made hA ?_
  have hS3 : S0 a = (7, 2, (S0 a).2.2) := g_S3 hA.1.symm hA.2.1.symm
  have hr0 : (S0 a).2.2 0 = a + 1 + 2 := (hA.2.2 0 (by decide)).symm
  have hr1 : (S0 a).2.2 1 = 0 := (hA.2.2 1 (by decide)).symm
  have clear : gPg l C qX7_clear (d - 1) [.ref a] (a + 1 + 1) S0 M (sz + 1) (qV (g_set (r_fill M (a + 1) 8 (-1)) a 1 0)) := by
    refine gPg.of (ls := [(0, .ref a)]) (by decide +kernel) (Nat.le_of_ble_eq_true rfl) rfl ?_
    refine gb_run 1 (pc2 := 1) (ls2 := [(0, .ref a)]) (st2 := [.ref a]) (M2 := M) hC hqX7_clear rfl ?_
    refine gz_getr (q := a + 1) hC hqX7_clear rfl (by omega) hS3 rfl hr0 ?_
    refine gb_run 1 (pc2 := 5) (ls2 := [(0, .ref a)]) (st2 := [.int (-1), .ref (a + 1)]) (M2 := M) hC hqX7_clear rfl ?_
    refine gz_cSN (host := "HoopHours") (z := qX11_fill) (av := [.ref (a + 1), .int (-1)]) (rest := []) (pl := 208) hC hqX7_clear rfl kX11_fill (by decide +kernel) (c_fill hC (a + 1 + 1) S0 (a + 1) 8 _ (-1 : Int32) M (sz + 1) (d - 1 - 1) (by omega) (by omega) hR1 (Nat.le_of_ble_eq_true rfl)) (by omega) ⟨rfl, rfl⟩ rfl rfl (Nat.le_of_ble_eq_true rfl) ⟨Nat.le_of_ble_eq_true rfl, Nat.le_of_ble_eq_true rfl⟩ (gs_V ?_)
    refine gb_run 2 (pc2 := 10) (ls2 := [(0, .ref a)]) (st2 := [.int 0, .ref a]) (M2 := r_fill M (a + 1) 8 (-1)) hC hqX7_clear rfl ?_
    refine gb_putf hC hqX7_clear rfl (by omega) hS3 rfl hr1 rfl ?_
    exact gb_vret hqX7_clear rfl rfl (Nat.le_of_ble_eq_true rfl) (Nat.le_of_ble_eq_true rfl) ⟨_, rfl, rfl, rfl⟩
  refine gb_run 1 (pc2 := 13) (ls2 := [(0, .ref a)]) (st2 := [.ref a]) (M2 := M) hC hqX7_init rfl ?_
  refine gz_cV (z := qX7_clear) (a := a) (av := []) (rest := []) (pl := 204) hC hqX7_init rfl kX7_clear sX7_clear (by decide +kernel) clear (by omega) ⟨rfl, rfl⟩ rfl (Nat.le_of_ble_eq_true rfl) (by omega) hS3 rfl rfl (Nat.le_of_ble_eq_true rfl) ⟨Nat.le_of_ble_eq_true rfl, Nat.le_of_ble_eq_true rfl⟩ (gs_V ?_)
  refine gb_vret hqX7_init rfl rfl (Nat.le_of_ble_eq_true rfl) (Nat.le_of_ble_eq_true rfl) ⟨rfl, _, ⟨fun b hb => ?_, fun b hb => ?_, ?_, fun g hg => ?_⟩, rfl⟩
  · rw [g_set_ne (by omega), r_fill_ne (by omega)]
  · rw [g_set_ne (by omega), r_fill_ne (by omega)]; exact hM b (by omega)
  · rw [g_set_eq]
  · rw [g_set_ne (by omega), r_fill_in hg]

theorem i_Going {l : Launch} {C : gC} (hC : g_ctx l C) (a x1 x2 : Nat) (S0 : Nat → gT) (M : gM) (sz d : Nat) (hd : 4 ≤ d) (hz : sz = g_b C + (a + 1)) (h9 : a + 7 ≤ 956) (hM : ∀ b, a ≤ b → M b = fun _ => 0) (hS : ∀ q, q < 6 → S0 (a + 1 + q) = g_state (a + 1) q) (hA : 1 = (S0 a).1 ∧ 8 = (S0 a).2.1 ∧ ∀ j, j < 8 → (if j = 1 then x2 + 2 else if j = 0 then x1 + 2 else if j = 2 then a + 1 + 2 else (g_fs TX1 j)) = (S0 a).2.2 j) : gMet l C qX1_init d [.ref a, .ref x1, .ref x2] (a + 1, g_up1 S0 a (1, 8, g_fs TX1), M, sz) (gQ0 a (a + 7) M (fun _ => True) S0 (sz + 6)) gN := by
  refine gMet.of (ls := [(0, .ref a), (1, .ref x1), (2, .ref x2)]) (by decide +kernel) (Nat.le_of_ble_eq_true rfl) rfl ?_
  refine gb_run 1 (pc2 := 1) (ls2 := [(0, .ref a), (1, .ref x1), (2, .ref x2)]) (st2 := [.ref a]) (M2 := M) hC hqX1_init rfl ?_
  refine gw_objInit hC (g_dec hqX1_init (q := (.invokespecial 3, 0, 0, 0)) rfl).1 (g_mem_tb (i := 275) (by decide +kernel)) (g_mem_tb (i := 31) (by decide +kernel)) (g_mem_tb (i := 32) (by decide +kernel)) (Nat.le_of_ble_eq_true rfl) (by omega) ?_
  refine gb_run 1 (pc2 := 5) (ls2 := [(0, .ref a), (1, .ref x1), (2, .ref x2)]) (st2 := [.ref a]) (M2 := M) hC hqX1_init rfl ?_
  refine gw_new (ci := 8) (Cn := RX8) (T := TX8) (N := 12) hC (g_dec hqX1_init (q := (.new 9, 0, 0, 0)) rfl).1 rfl (by decide) (g_mem_tb (i := 276) (by decide +kernel)) (g_mem_tb (i := 277) (by decide +kernel)) (g_mem_tb (i := 9) (by decide +kernel)) (by omega) (by omega) (Nat.le_of_ble_eq_true rfl) (Nat.le_of_ble_eq_true rfl) ?_
  rw [g_up1_zero (hM _ (by omega))]
  refine gb_run 1 (pc2 := 9) (ls2 := [(0, .ref a), (1, .ref x1), (2, .ref x2)]) (st2 := [.ref (a + 1), .ref (a + 1), .ref a]) (M2 := M) hC hqX1_init rfl ?_
  refine gw_invI (z := qX8_init) (a := a + 1) (av := []) (rest := [.ref (a + 1), .ref a]) hC (i_State hC (a + 1) (g_up1 S0 a (1, 8, g_fs TX1)) M (sz + 1) (d - 1) (by omega) (by omega) (by omega) (fun b hb => hM b (by omega)) (fun q hq => by rw [g_up1_ne (by omega)]; exact hS q hq)) (fun _ _ h => h) (g_dec hqX1_init (q := (.invokespecial 11, 0, 0, 0)) rfl).1 (g_mem_tb (i := 278) (by decide +kernel)) rfl rfl (g_mem_tb kX8_init.1) (g_mem_tb kX8_init.2.1) (g_mem_tb kX8_init.2.2.1) kX8_init.2.2.2.1 (by omega) kX8_init.2.2.2.2 rfl rfl (Nat.le_of_ble_eq_true rfl) ⟨Nat.le_of_ble_eq_true rfl, Nat.le_of_ble_eq_true rfl⟩ ?_
  rintro r X' ⟨rfl, M2, ⟨p1, p2, -⟩, rfl⟩
  refine gw_putref (a := a) (ci := 1) (k := 2) (N := 8) (r := a + 1) (Cn := RX1) (T := TX1) hC (g_dec hqX1_init (q := (.putfield 12, 1, 2, 1434)) rfl).1 rfl (by decide) (by decide) (g_mem_tb (i := 358) (by decide +kernel)) rfl rfl rfl rfl (fun _ => rfl) (fun _ => rfl) (by omega) (g_up1_at S0 a _) ?_
  rw [g_setS_up1]
  refine gb_run 2 (pc2 := 17) (ls2 := [(0, .ref a), (1, .ref x1), (2, .ref x2)]) (st2 := [.ref x1, .ref a]) (M2 := M2) hC hqX1_init rfl ?_
  refine gw_putref (a := a) (ci := 1) (k := 0) (N := 8) (r := x1) (Cn := RX1) (T := TX1) hC (g_dec hqX1_init (q := (.putfield 18, 1, 0, 1426)) rfl).1 rfl (by decide) (by decide) (g_mem_tb (i := 356) (by decide +kernel)) rfl rfl rfl rfl (fun _ => rfl) (fun _ => rfl) (by omega) (g_up1_at S0 a _) ?_
  rw [g_setS_up1]
  refine gb_run 2 (pc2 := 22) (ls2 := [(0, .ref a), (1, .ref x1), (2, .ref x2)]) (st2 := [.ref x2, .ref a]) (M2 := M2) hC hqX1_init rfl ?_
  refine gw_putref (a := a) (ci := 1) (k := 1) (N := 8) (r := x2) (Cn := RX1) (T := TX1) hC (g_dec hqX1_init (q := (.putfield 22, 1, 1, 1430)) rfl).1 rfl (by decide) (by decide) (g_mem_tb (i := 357) (by decide +kernel)) rfl rfl rfl rfl (fun _ => rfl) (fun _ => rfl) (by omega) (g_up1_at S0 a _) ?_
  rw [g_setS_up1]
  refine GW_made hA ?_
  refine gb_vret hqX1_init rfl rfl (Nat.le_of_ble_eq_true rfl) (Nat.le_of_ble_eq_true rfl) ⟨rfl, M2, ⟨fun b hb => p1 b (by omega), fun b hb => p2 b (by omega), trivial⟩, by rw [show sz + 1 + 5 = sz + 6 by omega]⟩
