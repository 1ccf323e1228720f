/-! Constructors of the class, the small ones. -/
theorem i_Tape {l : Launch} {C : gC} (hC : g_ctx l C) (a : Nat) (S0 : Nat → gT) (M : gM) (sz d : Nat) (hd : 1 ≤ d) (hz : sz = g_b C + (a + 1)) (h9 : a + 2 ≤ 956) (hM : ∀ b, a ≤ b → M b = fun _ => 0) (hR1 : S0 (a + 1) = (20, 600, fun _ => 0)) (hA : 10 = (S0 a).1 ∧ 7 = (S0 a).2.1 ∧ ∀ j, j < 7 → (if j = 0 then a + 1 + 2 else (g_fs TX10 j)) = (S0 a).2.2 j) : gMet l C qX10_init d [.ref a] (a + 1, g_up1 S0 a (10, 7, g_fs TX10), M, sz) (gQ0 a (a + 2) M (fun M2 => M2 a 6 = -1 ∧ M2 a 1 = 0) S0 (sz + 1)) gN := by
  refine gMet.of (ls := [(0, .ref a)]) (by decide +kernel) (Nat.le_of_ble_eq_true rfl) rfl ?_
  refine gb_run 1 (pc2 := 1) (ls2 := [(0, .ref a)]) (st2 := [.ref a]) (M2 := M) hC hqX10_init rfl ?_
  refine gw_objInit hC (g_dec hqX10_init (q := (.invokespecial 3, 0, 0, 0)) rfl).1 (g_mem_tb (i := 38) (by decide +kernel)) (g_mem_tb (i := 31) (by decide +kernel)) (g_mem_tb (i := 32) (by decide +kernel)) (Nat.le_of_ble_eq_true rfl) (by omega) ?_
  refine gb_run 2 (pc2 := 8) (ls2 := [(0, .ref a)]) (st2 := [.int 600, .ref a]) (M2 := M) hC hqX10_init rfl ?_
  refine gw_newint (N := 600) hC (g_dec hqX10_init (q := (.newarray .int, 0, 0, 0)) rfl).1 (g_mem_tb (i := 69) (by decide +kernel)) (by decide) (by decide) (by decide) (by omega) (by omega) (Nat.le_of_ble_eq_true rfl) (Nat.le_of_ble_eq_true rfl) ?_
  rw [g_up1_row (a := a) (by omega) hR1, g_up1_zero (hM _ (by omega))]
  refine gw_putref (a := a) (ci := 10) (k := 0) (N := 7) (r := (a + 1)) (Cn := RX10) (T := TX10) hC (g_dec hqX10_init (q := (.putfield 9, 10, 0, 158)) rfl).1 rfl (by decide) (by decide) (g_mem_tb (i := 39) (by decide +kernel)) rfl rfl rfl rfl (fun _ => rfl) (fun _ => rfl) (by omega) (g_up1_at S0 a _) ?_
  rw [g_setS_up1]
  refine gb_run 2 (pc2 := 15) (ls2 := [(0, .ref a)]) (st2 := [.int (-1), .ref a]) (M2 := M) hC hqX10_init rfl ?_
  refine gb_putf hC hqX10_init rfl (by omega) (g_up1_at S0 a _) rfl rfl rfl ?_
  refine GW_made hA ?_
  refine gb_vret hqX10_init rfl rfl (Nat.le_of_ble_eq_true rfl) (Nat.le_of_ble_eq_true rfl) ⟨rfl, _, ⟨fun b hb => ?_, fun b hb => ?_, ?_⟩, rfl⟩
  · repeat rw [g_set_ne (by omega)]
  · repeat rw [g_set_ne (by omega)]
    exact hM b (by omega)
  · exact ⟨by rw [g_set_eq], by rw [g_set_k (by decide), hM a (Nat.le_refl a)]⟩

theorem i_Park {l : Launch} {C : gC} (hC : g_ctx l C) (a : Nat) (S0 : Nat → gT) (M : gM) (sz d : Nat) (hd : 1 ≤ d) (hz : sz = g_b C + (a + 1)) (h9 : a + 6 ≤ 956) (hM : ∀ b, a ≤ b → M b = fun _ => 0) (hR1 : S0 (a + 1) = (20, 8, fun _ => 0)) (hR2 : S0 (a + 2) = (20, 8, fun _ => 0)) (hR3 : S0 (a + 3) = (20, 8, fun _ => 0)) (hR4 : S0 (a + 4) = (20, 8, fun _ => 0)) (hR5 : S0 (a + 5) = (20, 8, fun _ => 0)) (hA : 6 = (S0 a).1 ∧ 10 = (S0 a).2.1 ∧ ∀ j, j < 10 → (if j = 4 then a + 5 + 2 else (if j = 3 then a + 4 + 2 else (if j = 2 then a + 3 + 2 else (if j = 1 then a + 2 + 2 else (if j = 0 then a + 1 + 2 else (g_fs TX6 j)))))) = (S0 a).2.2 j) : gMet l C qX6_init d [.ref a] (a + 1, g_up1 S0 a (6, 10, g_fs TX6), M, sz) (gQ0 a (a + 6) M (fun M2 => M2 a 8 = 60 ∧ M2 a 9 = 5 ∧ ∀ k, k < 8 → M2 a k = 0) S0 (sz + 5)) gN := by
  refine gMet.of (ls := [(0, .ref a)]) (by decide +kernel) (Nat.le_of_ble_eq_true rfl) rfl ?_
  refine gb_run 1 (pc2 := 1) (ls2 := [(0, .ref a)]) (st2 := [.ref a]) (M2 := M) hC hqX6_init rfl ?_
  refine gw_objInit hC (g_dec hqX6_init (q := (.invokespecial 3, 0, 0, 0)) rfl).1 (g_mem_tb (i := 75) (by decide +kernel)) (g_mem_tb (i := 31) (by decide +kernel)) (g_mem_tb (i := 32) (by decide +kernel)) (Nat.le_of_ble_eq_true rfl) (by omega) ?_
  refine gb_run 2 (pc2 := 7) (ls2 := [(0, .ref a)]) (st2 := [.int 8, .ref a]) (M2 := M) hC hqX6_init rfl ?_
  refine gw_newint (N := 8) hC (g_dec hqX6_init (q := (.newarray .int, 0, 0, 0)) rfl).1 (g_mem_tb (i := 69) (by decide +kernel)) (by decide) (by decide) (by decide) (by omega) (by omega) (Nat.le_of_ble_eq_true rfl) (Nat.le_of_ble_eq_true rfl) ?_
  rw [g_up1_row (a := a) (by omega) hR1, g_up1_zero (hM _ (by omega))]
  refine gw_putref (a := a) (ci := 6) (k := 0) (N := 10) (r := (a + 1)) (Cn := RX6) (T := TX6) hC (g_dec hqX6_init (q := (.putfield 9, 6, 0, 306)) rfl).1 rfl (by decide) (by decide) (g_mem_tb (i := 76) (by decide +kernel)) rfl rfl rfl rfl (fun _ => rfl) (fun _ => rfl) (by omega) (g_up1_at S0 a _) ?_
  rw [g_setS_up1]
  refine gb_run 2 (pc2 := 15) (ls2 := [(0, .ref a)]) (st2 := [.int 8, .ref a]) (M2 := M) hC hqX6_init rfl ?_
  refine gw_newint (N := 8) hC (g_dec hqX6_init (q := (.newarray .int, 0, 0, 0)) rfl).1 (g_mem_tb (i := 69) (by decide +kernel)) (by decide) (by decide) (by decide) (by omega) (by omega) (Nat.le_of_ble_eq_true rfl) (Nat.le_of_ble_eq_true rfl) ?_
  rw [g_up1_row (a := a) (by omega) hR2, g_up1_zero (hM _ (by omega))]
  refine gw_putref (a := a) (ci := 6) (k := 1) (N := 10) (r := (a + 2)) (Cn := RX6) (T := TX6) hC (g_dec hqX6_init (q := (.putfield 15, 6, 1, 318)) rfl).1 rfl (by decide) (by decide) (g_mem_tb (i := 79) (by decide +kernel)) rfl rfl rfl rfl (fun _ => rfl) (fun _ => rfl) (by omega) (g_up1_at S0 a _) ?_
  rw [g_setS_up1]
  refine gb_run 2 (pc2 := 23) (ls2 := [(0, .ref a)]) (st2 := [.int 8, .ref a]) (M2 := M) hC hqX6_init rfl ?_
  refine gw_newint (N := 8) hC (g_dec hqX6_init (q := (.newarray .int, 0, 0, 0)) rfl).1 (g_mem_tb (i := 69) (by decide +kernel)) (by decide) (by decide) (by decide) (by omega) (by omega) (Nat.le_of_ble_eq_true rfl) (Nat.le_of_ble_eq_true rfl) ?_
  rw [g_up1_row (a := a) (by omega) hR3, g_up1_zero (hM _ (by omega))]
  refine gw_putref (a := a) (ci := 6) (k := 2) (N := 10) (r := (a + 3)) (Cn := RX6) (T := TX6) hC (g_dec hqX6_init (q := (.putfield 18, 6, 2, 330)) rfl).1 rfl (by decide) (by decide) (g_mem_tb (i := 82) (by decide +kernel)) rfl rfl rfl rfl (fun _ => rfl) (fun _ => rfl) (by omega) (g_up1_at S0 a _) ?_
  rw [g_setS_up1]
  refine gb_run 2 (pc2 := 31) (ls2 := [(0, .ref a)]) (st2 := [.int 8, .ref a]) (M2 := M) hC hqX6_init rfl ?_
  refine gw_newint (N := 8) hC (g_dec hqX6_init (q := (.newarray .int, 0, 0, 0)) rfl).1 (g_mem_tb (i := 69) (by decide +kernel)) (by decide) (by decide) (by decide) (by omega) (by omega) (Nat.le_of_ble_eq_true rfl) (Nat.le_of_ble_eq_true rfl) ?_
  rw [g_up1_row (a := a) (by omega) hR4, g_up1_zero (hM _ (by omega))]
  refine gw_putref (a := a) (ci := 6) (k := 3) (N := 10) (r := (a + 4)) (Cn := RX6) (T := TX6) hC (g_dec hqX6_init (q := (.putfield 21, 6, 3, 342)) rfl).1 rfl (by decide) (by decide) (g_mem_tb (i := 85) (by decide +kernel)) rfl rfl rfl rfl (fun _ => rfl) (fun _ => rfl) (by omega) (g_up1_at S0 a _) ?_
  rw [g_setS_up1]
  refine gb_run 2 (pc2 := 39) (ls2 := [(0, .ref a)]) (st2 := [.int 8, .ref a]) (M2 := M) hC hqX6_init rfl ?_
  refine gw_newint (N := 8) hC (g_dec hqX6_init (q := (.newarray .int, 0, 0, 0)) rfl).1 (g_mem_tb (i := 69) (by decide +kernel)) (by decide) (by decide) (by decide) (by omega) (by omega) (Nat.le_of_ble_eq_true rfl) (Nat.le_of_ble_eq_true rfl) ?_
  rw [g_up1_row (a := a) (by omega) hR5, g_up1_zero (hM _ (by omega))]
  refine gw_putref (a := a) (ci := 6) (k := 4) (N := 10) (r := (a + 5)) (Cn := RX6) (T := TX6) hC (g_dec hqX6_init (q := (.putfield 24, 6, 4, 354)) rfl).1 rfl (by decide) (by decide) (g_mem_tb (i := 88) (by decide +kernel)) rfl rfl rfl rfl (fun _ => rfl) (fun _ => rfl) (by omega) (g_up1_at S0 a _) ?_
  rw [g_setS_up1]
  refine gb_run 2 (pc2 := 47) (ls2 := [(0, .ref a)]) (st2 := [.int 60, .ref a]) (M2 := M) hC hqX6_init rfl ?_
  refine gb_putf hC hqX6_init rfl (by omega) (g_up1_at S0 a _) rfl rfl rfl ?_
  refine gb_run 2 (pc2 := 52) (ls2 := [(0, .ref a)]) (st2 := [.int 5, .ref a]) (M2 := g_set (M) a 8 (60)) hC hqX6_init rfl ?_
  refine gb_putf hC hqX6_init rfl (by omega) (g_up1_at S0 a _) rfl rfl rfl ?_
  refine GW_made hA ?_
  refine gb_vret hqX6_init rfl rfl (Nat.le_of_ble_eq_true rfl) (Nat.le_of_ble_eq_true rfl) ⟨rfl, _, ⟨fun b hb => ?_, fun b hb => ?_, ?_⟩, rfl⟩
  · repeat rw [g_set_ne (by omega)]
  · repeat rw [g_set_ne (by omega)]
    exact hM b (by omega)
  · exact ⟨by rw [g_set_k (by decide), g_set_eq], by rw [g_set_eq], fun k hk => by rw [g_set_k (by omega), g_set_k (by omega), hM a (Nat.le_refl a)]⟩

theorem i_Law {l : Launch} {C : gC} (hC : g_ctx l C) (a : Nat) (S0 : Nat → gT) (M : gM) (sz d : Nat) (hd : 1 ≤ d) (hz : sz = g_b C + (a + 1)) (h9 : a + 4 ≤ 956) (hM : ∀ b, a ≤ b → M b = fun _ => 0) (hR1 : S0 (a + 1) = (20, 150, fun _ => 0)) (hR2 : S0 (a + 2) = (20, 150, fun _ => 0)) (hR3 : S0 (a + 3) = (20, 64, fun _ => 0)) (hA : 4 = (S0 a).1 ∧ 14 = (S0 a).2.1 ∧ ∀ j, j < 14 → (if j = 2 then a + 3 + 2 else (if j = 1 then a + 2 + 2 else (if j = 0 then a + 1 + 2 else (g_fs TX4 j)))) = (S0 a).2.2 j) : gMet l C qX4_init d [.ref a] (a + 1, g_up1 S0 a (4, 14, g_fs TX4), M, sz) (gQ0 a (a + 4) M (fun M2 => M2 a = fun _ => 0) S0 (sz + 3)) gN := by
  refine gMet.of (ls := [(0, .ref a)]) (by decide +kernel) (Nat.le_of_ble_eq_true rfl) rfl ?_
  refine gb_run 1 (pc2 := 1) (ls2 := [(0, .ref a)]) (st2 := [.ref a]) (M2 := M) hC hqX4_init rfl ?_
  refine gw_objInit hC (g_dec hqX4_init (q := (.invokespecial 3, 0, 0, 0)) rfl).1 (g_mem_tb (i := 136) (by decide +kernel)) (g_mem_tb (i := 31) (by decide +kernel)) (g_mem_tb (i := 32) (by decide +kernel)) (Nat.le_of_ble_eq_true rfl) (by omega) ?_
  refine gb_run 2 (pc2 := 8) (ls2 := [(0, .ref a)]) (st2 := [.int 150, .ref a]) (M2 := M) hC hqX4_init rfl ?_
  refine gw_newint (N := 150) hC (g_dec hqX4_init (q := (.newarray .int, 0, 0, 0)) rfl).1 (g_mem_tb (i := 69) (by decide +kernel)) (by decide) (by decide) (by decide) (by omega) (by omega) (Nat.le_of_ble_eq_true rfl) (Nat.le_of_ble_eq_true rfl) ?_
  rw [g_up1_row (a := a) (by omega) hR1, g_up1_zero (hM _ (by omega))]
  refine gw_putref (a := a) (ci := 4) (k := 0) (N := 14) (r := (a + 1)) (Cn := RX4) (T := TX4) hC (g_dec hqX4_init (q := (.putfield 9, 4, 0, 550)) rfl).1 rfl (by decide) (by decide) (g_mem_tb (i := 137) (by decide +kernel)) rfl rfl rfl rfl (fun _ => rfl) (fun _ => rfl) (by omega) (g_up1_at S0 a _) ?_
  rw [g_setS_up1]
  refine gb_run 2 (pc2 := 17) (ls2 := [(0, .ref a)]) (st2 := [.int 150, .ref a]) (M2 := M) hC hqX4_init rfl ?_
  refine gw_newint (N := 150) hC (g_dec hqX4_init (q := (.newarray .int, 0, 0, 0)) rfl).1 (g_mem_tb (i := 69) (by decide +kernel)) (by decide) (by decide) (by decide) (by omega) (by omega) (Nat.le_of_ble_eq_true rfl) (Nat.le_of_ble_eq_true rfl) ?_
  rw [g_up1_row (a := a) (by omega) hR2, g_up1_zero (hM _ (by omega))]
  refine gw_putref (a := a) (ci := 4) (k := 1) (N := 14) (r := (a + 2)) (Cn := RX4) (T := TX4) hC (g_dec hqX4_init (q := (.putfield 15, 4, 1, 554)) rfl).1 rfl (by decide) (by decide) (g_mem_tb (i := 138) (by decide +kernel)) rfl rfl rfl rfl (fun _ => rfl) (fun _ => rfl) (by omega) (g_up1_at S0 a _) ?_
  rw [g_setS_up1]
  refine gb_run 2 (pc2 := 25) (ls2 := [(0, .ref a)]) (st2 := [.int 64, .ref a]) (M2 := M) hC hqX4_init rfl ?_
  refine gw_newint (N := 64) hC (g_dec hqX4_init (q := (.newarray .int, 0, 0, 0)) rfl).1 (g_mem_tb (i := 69) (by decide +kernel)) (by decide) (by decide) (by decide) (by omega) (by omega) (Nat.le_of_ble_eq_true rfl) (Nat.le_of_ble_eq_true rfl) ?_
  rw [g_up1_row (a := a) (by omega) hR3, g_up1_zero (hM _ (by omega))]
  refine gw_putref (a := a) (ci := 4) (k := 2) (N := 14) (r := (a + 3)) (Cn := RX4) (T := TX4) hC (g_dec hqX4_init (q := (.putfield 18, 4, 2, 558)) rfl).1 rfl (by decide) (by decide) (g_mem_tb (i := 139) (by decide +kernel)) rfl rfl rfl rfl (fun _ => rfl) (fun _ => rfl) (by omega) (g_up1_at S0 a _) ?_
  rw [g_setS_up1]
  refine GW_made hA ?_
  refine gb_vret hqX4_init rfl rfl (Nat.le_of_ble_eq_true rfl) (Nat.le_of_ble_eq_true rfl) ⟨rfl, _, ⟨fun b hb => ?_, fun b hb => ?_, ?_⟩, rfl⟩
  · rfl
  · exact hM b (by omega)
  · exact hM a (Nat.le_refl a)

theorem i_Bowling {l : Launch} {C : gC} (hC : g_ctx l C) (a : Nat) (x1 : Nat) (x2 : Nat) (S0 : Nat → gT) (M : gM) (sz d : Nat) (hd : 1 ≤ d) (hz : sz = g_b C + (a + 1)) (h9 : a + 1 ≤ 956) (hM : ∀ b, a ≤ b → M b = fun _ => 0)  (hA : 0 = (S0 a).1 ∧ 2 = (S0 a).2.1 ∧ ∀ j, j < 2 → (if j = 1 then x2 + 2 else (if j = 0 then x1 + 2 else (g_fs TX0 j))) = (S0 a).2.2 j) : gMet l C qX0_init d [.ref a, .ref x1, .ref x2] (a + 1, g_up1 S0 a (0, 2, g_fs TX0), M, sz) (gQ0 a (a + 1) M (fun M2 => True) S0 (sz + 0)) gN := by
  refine gMet.of (ls := [(0, .ref a), (1, .ref x1), (2, .ref x2)]) (by decide +kernel) (Nat.le_of_ble_eq_true rfl) rfl ?_
  refine gb_run 1 (pc2 := 1) (ls2 := [(0, .ref a), (1, .ref x1), (2, .ref x2)]) (st2 := [.ref a]) (M2 := M) hC hqX0_init rfl ?_
  refine gw_objInit hC (g_dec hqX0_init (q := (.invokespecial 3, 0, 0, 0)) rfl).1 (g_mem_tb (i := 225) (by decide +kernel)) (g_mem_tb (i := 31) (by decide +kernel)) (g_mem_tb (i := 32) (by decide +kernel)) (Nat.le_of_ble_eq_true rfl) (by omega) ?_
  refine gb_run 2 (pc2 := 6) (ls2 := [(0, .ref a), (1, .ref x1), (2, .ref x2)]) (st2 := [.ref x1, .ref a]) (M2 := M) hC hqX0_init rfl ?_
  refine gw_putref (a := a) (ci := 0) (k := 0) (N := 2) (r := x1) (Cn := RX0) (T := TX0) hC (g_dec hqX0_init (q := (.putfield 9, 0, 0, 906)) rfl).1 rfl (by decide) (by decide) (g_mem_tb (i := 226) (by decide +kernel)) rfl rfl rfl rfl (fun _ => rfl) (fun _ => rfl) (by omega) (g_up1_at S0 a _) ?_
  rw [g_setS_up1]
  refine gb_run 2 (pc2 := 11) (ls2 := [(0, .ref a), (1, .ref x1), (2, .ref x2)]) (st2 := [.ref x2, .ref a]) (M2 := M) hC hqX0_init rfl ?_
  refine gw_putref (a := a) (ci := 0) (k := 1) (N := 2) (r := x2) (Cn := RX0) (T := TX0) hC (g_dec hqX0_init (q := (.putfield 15, 0, 1, 910)) rfl).1 rfl (by decide) (by decide) (g_mem_tb (i := 227) (by decide +kernel)) rfl rfl rfl rfl (fun _ => rfl) (fun _ => rfl) (by omega) (g_up1_at S0 a _) ?_
  rw [g_setS_up1]
  refine GW_made hA ?_
  refine gb_vret hqX0_init rfl rfl (Nat.le_of_ble_eq_true rfl) (Nat.le_of_ble_eq_true rfl) ⟨rfl, _, ⟨fun b hb => ?_, fun b hb => ?_, ?_⟩, rfl⟩
  · rfl
  · exact hM b (by omega)
  · trivial

theorem i_Steps {l : Launch} {C : gC} (hC : g_ctx l C) (a : Nat) (x1 : Nat) (x2 : Nat) (S0 : Nat → gT) (M : gM) (sz d : Nat) (hd : 1 ≤ d) (hz : sz = g_b C + (a + 1)) (h9 : a + 4 ≤ 956) (hM : ∀ b, a ≤ b → M b = fun _ => 0) (hR1 : S0 (a + 1) = (20, 150, fun _ => 0)) (hR2 : S0 (a + 2) = (20, 150, fun _ => 0)) (hR3 : S0 (a + 3) = (20, 150, fun _ => 0)) (hA : 9 = (S0 a).1 ∧ 9 = (S0 a).2.1 ∧ ∀ j, j < 9 → (if j = 1 then x2 + 2 else (if j = 0 then x1 + 2 else (if j = 4 then a + 3 + 2 else (if j = 3 then a + 2 + 2 else (if j = 2 then a + 1 + 2 else (g_fs TX9 j)))))) = (S0 a).2.2 j) : gMet l C qX9_init d [.ref a, .ref x1, .ref x2] (a + 1, g_up1 S0 a (9, 9, g_fs TX9), M, sz) (gQ0 a (a + 4) M (fun M2 => True) S0 (sz + 3)) gN := by
  refine gMet.of (ls := [(0, .ref a), (1, .ref x1), (2, .ref x2)]) (by decide +kernel) (Nat.le_of_ble_eq_true rfl) rfl ?_
  refine gb_run 1 (pc2 := 1) (ls2 := [(0, .ref a), (1, .ref x1), (2, .ref x2)]) (st2 := [.ref a]) (M2 := M) hC hqX9_init rfl ?_
  refine gw_objInit hC (g_dec hqX9_init (q := (.invokespecial 3, 0, 0, 0)) rfl).1 (g_mem_tb (i := 238) (by decide +kernel)) (g_mem_tb (i := 31) (by decide +kernel)) (g_mem_tb (i := 32) (by decide +kernel)) (Nat.le_of_ble_eq_true rfl) (by omega) ?_
  refine gb_run 2 (pc2 := 8) (ls2 := [(0, .ref a), (1, .ref x1), (2, .ref x2)]) (st2 := [.int 150, .ref a]) (M2 := M) hC hqX9_init rfl ?_
  refine gw_newint (N := 150) hC (g_dec hqX9_init (q := (.newarray .int, 0, 0, 0)) rfl).1 (g_mem_tb (i := 69) (by decide +kernel)) (by decide) (by decide) (by decide) (by omega) (by omega) (Nat.le_of_ble_eq_true rfl) (Nat.le_of_ble_eq_true rfl) ?_
  rw [g_up1_row (a := a) (by omega) hR1, g_up1_zero (hM _ (by omega))]
  refine gw_putref (a := a) (ci := 9) (k := 2) (N := 9) (r := (a + 1)) (Cn := RX9) (T := TX9) hC (g_dec hqX9_init (q := (.putfield 9, 9, 2, 966)) rfl).1 rfl (by decide) (by decide) (g_mem_tb (i := 241) (by decide +kernel)) rfl rfl rfl rfl (fun _ => rfl) (fun _ => rfl) (by omega) (g_up1_at S0 a _) ?_
  rw [g_setS_up1]
  refine gb_run 2 (pc2 := 17) (ls2 := [(0, .ref a), (1, .ref x1), (2, .ref x2)]) (st2 := [.int 150, .ref a]) (M2 := M) hC hqX9_init rfl ?_
  refine gw_newint (N := 150) hC (g_dec hqX9_init (q := (.newarray .int, 0, 0, 0)) rfl).1 (g_mem_tb (i := 69) (by decide +kernel)) (by decide) (by decide) (by decide) (by omega) (by omega) (Nat.le_of_ble_eq_true rfl) (Nat.le_of_ble_eq_true rfl) ?_
  rw [g_up1_row (a := a) (by omega) hR2, g_up1_zero (hM _ (by omega))]
  refine gw_putref (a := a) (ci := 9) (k := 3) (N := 9) (r := (a + 2)) (Cn := RX9) (T := TX9) hC (g_dec hqX9_init (q := (.putfield 15, 9, 3, 970)) rfl).1 rfl (by decide) (by decide) (g_mem_tb (i := 242) (by decide +kernel)) rfl rfl rfl rfl (fun _ => rfl) (fun _ => rfl) (by omega) (g_up1_at S0 a _) ?_
  rw [g_setS_up1]
  refine gb_run 2 (pc2 := 26) (ls2 := [(0, .ref a), (1, .ref x1), (2, .ref x2)]) (st2 := [.int 150, .ref a]) (M2 := M) hC hqX9_init rfl ?_
  refine gw_newint (N := 150) hC (g_dec hqX9_init (q := (.newarray .int, 0, 0, 0)) rfl).1 (g_mem_tb (i := 69) (by decide +kernel)) (by decide) (by decide) (by decide) (by omega) (by omega) (Nat.le_of_ble_eq_true rfl) (Nat.le_of_ble_eq_true rfl) ?_
  rw [g_up1_row (a := a) (by omega) hR3, g_up1_zero (hM _ (by omega))]
  refine gw_putref (a := a) (ci := 9) (k := 4) (N := 9) (r := (a + 3)) (Cn := RX9) (T := TX9) hC (g_dec hqX9_init (q := (.putfield 18, 9, 4, 974)) rfl).1 rfl (by decide) (by decide) (g_mem_tb (i := 243) (by decide +kernel)) rfl rfl rfl rfl (fun _ => rfl) (fun _ => rfl) (by omega) (g_up1_at S0 a _) ?_
  rw [g_setS_up1]
  refine gb_run 2 (pc2 := 33) (ls2 := [(0, .ref a), (1, .ref x1), (2, .ref x2)]) (st2 := [.ref x1, .ref a]) (M2 := M) hC hqX9_init rfl ?_
  refine gw_putref (a := a) (ci := 9) (k := 0) (N := 9) (r := x1) (Cn := RX9) (T := TX9) hC (g_dec hqX9_init (q := (.putfield 21, 9, 0, 958)) rfl).1 rfl (by decide) (by decide) (g_mem_tb (i := 239) (by decide +kernel)) rfl rfl rfl rfl (fun _ => rfl) (fun _ => rfl) (by omega) (g_up1_at S0 a _) ?_
  rw [g_setS_up1]
  refine gb_run 2 (pc2 := 38) (ls2 := [(0, .ref a), (1, .ref x1), (2, .ref x2)]) (st2 := [.ref x2, .ref a]) (M2 := M) hC hqX9_init rfl ?_
  refine gw_putref (a := a) (ci := 9) (k := 1) (N := 9) (r := x2) (Cn := RX9) (T := TX9) hC (g_dec hqX9_init (q := (.putfield 25, 9, 1, 962)) rfl).1 rfl (by decide) (by decide) (g_mem_tb (i := 240) (by decide +kernel)) rfl rfl rfl rfl (fun _ => rfl) (fun _ => rfl) (by omega) (g_up1_at S0 a _) ?_
  rw [g_setS_up1]
  refine GW_made hA ?_
  refine gb_vret hqX9_init rfl rfl (Nat.le_of_ble_eq_true rfl) (Nat.le_of_ble_eq_true rfl) ⟨rfl, _, ⟨fun b hb => ?_, fun b hb => ?_, ?_⟩, rfl⟩
  · rfl
  · exact hM b (by omega)
  · trivial

theorem i_Matching {l : Launch} {C : gC} (hC : g_ctx l C) (a : Nat) (x1 : Nat) (x2 : Nat) (S0 : Nat → gT) (M : gM) (sz d : Nat) (hd : 1 ≤ d) (hz : sz = g_b C + (a + 1)) (h9 : a + 5 ≤ 956) (hM : ∀ b, a ≤ b → M b = fun _ => 0) (hR1 : S0 (a + 1) = (20, 8, fun _ => 0)) (hR2 : S0 (a + 2) = (20, 8, fun _ => 0)) (hR3 : S0 (a + 3) = (20, 64, fun _ => 0)) (hR4 : S0 (a + 4) = (20, 256, fun _ => 0)) (hA : 5 = (S0 a).1 ∧ 8 = (S0 a).2.1 ∧ ∀ j, j < 8 → (if j = 1 then x2 + 2 else (if j = 0 then x1 + 2 else (if j = 5 then a + 4 + 2 else (if j = 4 then a + 3 + 2 else (if j = 3 then a + 2 + 2 else (if j = 2 then a + 1 + 2 else (g_fs TX5 j))))))) = (S0 a).2.2 j) : gMet l C qX5_init d [.ref a, .ref x1, .ref x2] (a + 1, g_up1 S0 a (5, 8, g_fs TX5), M, sz) (gQ0 a (a + 5) M (fun M2 => True) S0 (sz + 4)) gN := by
  refine gMet.of (ls := [(0, .ref a), (1, .ref x1), (2, .ref x2)]) (by decide +kernel) (Nat.le_of_ble_eq_true rfl) rfl ?_
  refine gb_run 1 (pc2 := 1) (ls2 := [(0, .ref a), (1, .ref x1), (2, .ref x2)]) (st2 := [.ref a]) (M2 := M) hC hqX5_init rfl ?_
  refine gw_objInit hC (g_dec hqX5_init (q := (.invokespecial 3, 0, 0, 0)) rfl).1 (g_mem_tb (i := 391) (by decide +kernel)) (g_mem_tb (i := 31) (by decide +kernel)) (g_mem_tb (i := 32) (by decide +kernel)) (Nat.le_of_ble_eq_true rfl) (by omega) ?_
  refine gb_run 2 (pc2 := 7) (ls2 := [(0, .ref a), (1, .ref x1), (2, .ref x2)]) (st2 := [.int 8, .ref a]) (M2 := M) hC hqX5_init rfl ?_
  refine gw_newint (N := 8) hC (g_dec hqX5_init (q := (.newarray .int, 0, 0, 0)) rfl).1 (g_mem_tb (i := 69) (by decide +kernel)) (by decide) (by decide) (by decide) (by omega) (by omega) (Nat.le_of_ble_eq_true rfl) (Nat.le_of_ble_eq_true rfl) ?_
  rw [g_up1_row (a := a) (by omega) hR1, g_up1_zero (hM _ (by omega))]
  refine gw_putref (a := a) (ci := 5) (k := 2) (N := 8) (r := (a + 1)) (Cn := RX5) (T := TX5) hC (g_dec hqX5_init (q := (.putfield 9, 5, 2, 1578)) rfl).1 rfl (by decide) (by decide) (g_mem_tb (i := 394) (by decide +kernel)) rfl rfl rfl rfl (fun _ => rfl) (fun _ => rfl) (by omega) (g_up1_at S0 a _) ?_
  rw [g_setS_up1]
  refine gb_run 2 (pc2 := 15) (ls2 := [(0, .ref a), (1, .ref x1), (2, .ref x2)]) (st2 := [.int 8, .ref a]) (M2 := M) hC hqX5_init rfl ?_
  refine gw_newint (N := 8) hC (g_dec hqX5_init (q := (.newarray .int, 0, 0, 0)) rfl).1 (g_mem_tb (i := 69) (by decide +kernel)) (by decide) (by decide) (by decide) (by omega) (by omega) (Nat.le_of_ble_eq_true rfl) (Nat.le_of_ble_eq_true rfl) ?_
  rw [g_up1_row (a := a) (by omega) hR2, g_up1_zero (hM _ (by omega))]
  refine gw_putref (a := a) (ci := 5) (k := 3) (N := 8) (r := (a + 2)) (Cn := RX5) (T := TX5) hC (g_dec hqX5_init (q := (.putfield 15, 5, 3, 1586)) rfl).1 rfl (by decide) (by decide) (g_mem_tb (i := 396) (by decide +kernel)) rfl rfl rfl rfl (fun _ => rfl) (fun _ => rfl) (by omega) (g_up1_at S0 a _) ?_
  rw [g_setS_up1]
  refine gb_run 2 (pc2 := 23) (ls2 := [(0, .ref a), (1, .ref x1), (2, .ref x2)]) (st2 := [.int 64, .ref a]) (M2 := M) hC hqX5_init rfl ?_
  refine gw_newint (N := 64) hC (g_dec hqX5_init (q := (.newarray .int, 0, 0, 0)) rfl).1 (g_mem_tb (i := 69) (by decide +kernel)) (by decide) (by decide) (by decide) (by omega) (by omega) (Nat.le_of_ble_eq_true rfl) (Nat.le_of_ble_eq_true rfl) ?_
  rw [g_up1_row (a := a) (by omega) hR3, g_up1_zero (hM _ (by omega))]
  refine gw_putref (a := a) (ci := 5) (k := 4) (N := 8) (r := (a + 3)) (Cn := RX5) (T := TX5) hC (g_dec hqX5_init (q := (.putfield 18, 5, 4, 1590)) rfl).1 rfl (by decide) (by decide) (g_mem_tb (i := 397) (by decide +kernel)) rfl rfl rfl rfl (fun _ => rfl) (fun _ => rfl) (by omega) (g_up1_at S0 a _) ?_
  rw [g_setS_up1]
  refine gb_run 2 (pc2 := 32) (ls2 := [(0, .ref a), (1, .ref x1), (2, .ref x2)]) (st2 := [.int 256, .ref a]) (M2 := M) hC hqX5_init rfl ?_
  refine gw_newint (N := 256) hC (g_dec hqX5_init (q := (.newarray .int, 0, 0, 0)) rfl).1 (g_mem_tb (i := 69) (by decide +kernel)) (by decide) (by decide) (by decide) (by omega) (by omega) (Nat.le_of_ble_eq_true rfl) (Nat.le_of_ble_eq_true rfl) ?_
  rw [g_up1_row (a := a) (by omega) hR4, g_up1_zero (hM _ (by omega))]
  refine gw_putref (a := a) (ci := 5) (k := 5) (N := 8) (r := (a + 4)) (Cn := RX5) (T := TX5) hC (g_dec hqX5_init (q := (.putfield 21, 5, 5, 1594)) rfl).1 rfl (by decide) (by decide) (g_mem_tb (i := 398) (by decide +kernel)) rfl rfl rfl rfl (fun _ => rfl) (fun _ => rfl) (by omega) (g_up1_at S0 a _) ?_
  rw [g_setS_up1]
  refine gb_run 2 (pc2 := 39) (ls2 := [(0, .ref a), (1, .ref x1), (2, .ref x2)]) (st2 := [.ref x1, .ref a]) (M2 := M) hC hqX5_init rfl ?_
  refine gw_putref (a := a) (ci := 5) (k := 0) (N := 8) (r := x1) (Cn := RX5) (T := TX5) hC (g_dec hqX5_init (q := (.putfield 24, 5, 0, 1570)) rfl).1 rfl (by decide) (by decide) (g_mem_tb (i := 392) (by decide +kernel)) rfl rfl rfl rfl (fun _ => rfl) (fun _ => rfl) (by omega) (g_up1_at S0 a _) ?_
  rw [g_setS_up1]
  refine gb_run 2 (pc2 := 44) (ls2 := [(0, .ref a), (1, .ref x1), (2, .ref x2)]) (st2 := [.ref x2, .ref a]) (M2 := M) hC hqX5_init rfl ?_
  refine gw_putref (a := a) (ci := 5) (k := 1) (N := 8) (r := x2) (Cn := RX5) (T := TX5) hC (g_dec hqX5_init (q := (.putfield 28, 5, 1, 1574)) rfl).1 rfl (by decide) (by decide) (g_mem_tb (i := 393) (by decide +kernel)) rfl rfl rfl rfl (fun _ => rfl) (fun _ => rfl) (by omega) (g_up1_at S0 a _) ?_
  rw [g_setS_up1]
  refine GW_made hA ?_
  refine gb_vret hqX5_init rfl rfl (Nat.le_of_ble_eq_true rfl) (Nat.le_of_ble_eq_true rfl) ⟨rfl, _, ⟨fun b hb => ?_, fun b hb => ?_, ?_⟩, rfl⟩
  · rfl
  · exact hM b (by omega)
  · trivial

theorem i_Guessing {l : Launch} {C : gC} (hC : g_ctx l C) (a : Nat) (x1 : Nat) (x2 : Nat) (x3 : Nat) (S0 : Nat → gT) (M : gM) (sz d : Nat) (hd : 1 ≤ d) (hz : sz = g_b C + (a + 1)) (h9 : a + 3 ≤ 956) (hM : ∀ b, a ≤ b → M b = fun _ => 0) (hR1 : S0 (a + 1) = (20, 64, fun _ => 0)) (hR2 : S0 (a + 2) = (20, 1000, fun _ => 0)) (hA : 2 = (S0 a).1 ∧ 9 = (S0 a).2.1 ∧ ∀ j, j < 9 → (if j = 2 then x3 + 2 else (if j = 1 then x2 + 2 else (if j = 0 then x1 + 2 else (if j = 4 then a + 2 + 2 else (if j = 3 then a + 1 + 2 else (g_fs TX2 j)))))) = (S0 a).2.2 j) : gMet l C qX2_init d [.ref a, .ref x1, .ref x2, .ref x3] (a + 1, g_up1 S0 a (2, 9, g_fs TX2), M, sz) (gQ0 a (a + 3) M (fun M2 => True) S0 (sz + 2)) gN := by
  refine gMet.of (ls := [(0, .ref a), (1, .ref x1), (2, .ref x2), (3, .ref x3)]) (by decide +kernel) (Nat.le_of_ble_eq_true rfl) rfl ?_
  refine gb_run 1 (pc2 := 1) (ls2 := [(0, .ref a), (1, .ref x1), (2, .ref x2), (3, .ref x3)]) (st2 := [.ref a]) (M2 := M) hC hqX2_init rfl ?_
  refine gw_objInit hC (g_dec hqX2_init (q := (.invokespecial 3, 0, 0, 0)) rfl).1 (g_mem_tb (i := 424) (by decide +kernel)) (g_mem_tb (i := 31) (by decide +kernel)) (g_mem_tb (i := 32) (by decide +kernel)) (Nat.le_of_ble_eq_true rfl) (by omega) ?_
  refine gb_run 2 (pc2 := 7) (ls2 := [(0, .ref a), (1, .ref x1), (2, .ref x2), (3, .ref x3)]) (st2 := [.int 64, .ref a]) (M2 := M) hC hqX2_init rfl ?_
  refine gw_newint (N := 64) hC (g_dec hqX2_init (q := (.newarray .int, 0, 0, 0)) rfl).1 (g_mem_tb (i := 69) (by decide +kernel)) (by decide) (by decide) (by decide) (by omega) (by omega) (Nat.le_of_ble_eq_true rfl) (Nat.le_of_ble_eq_true rfl) ?_
  rw [g_up1_row (a := a) (by omega) hR1, g_up1_zero (hM _ (by omega))]
  refine gw_putref (a := a) (ci := 2) (k := 3) (N := 9) (r := (a + 1)) (Cn := RX2) (T := TX2) hC (g_dec hqX2_init (q := (.putfield 9, 2, 3, 1714)) rfl).1 rfl (by decide) (by decide) (g_mem_tb (i := 428) (by decide +kernel)) rfl rfl rfl rfl (fun _ => rfl) (fun _ => rfl) (by omega) (g_up1_at S0 a _) ?_
  rw [g_setS_up1]
  refine gb_run 2 (pc2 := 16) (ls2 := [(0, .ref a), (1, .ref x1), (2, .ref x2), (3, .ref x3)]) (st2 := [.int 1000, .ref a]) (M2 := M) hC hqX2_init rfl ?_
  refine gw_newint (N := 1000) hC (g_dec hqX2_init (q := (.newarray .int, 0, 0, 0)) rfl).1 (g_mem_tb (i := 69) (by decide +kernel)) (by decide) (by decide) (by decide) (by omega) (by omega) (Nat.le_of_ble_eq_true rfl) (Nat.le_of_ble_eq_true rfl) ?_
  rw [g_up1_row (a := a) (by omega) hR2, g_up1_zero (hM _ (by omega))]
  refine gw_putref (a := a) (ci := 2) (k := 4) (N := 9) (r := (a + 2)) (Cn := RX2) (T := TX2) hC (g_dec hqX2_init (q := (.putfield 15, 2, 4, 1718)) rfl).1 rfl (by decide) (by decide) (g_mem_tb (i := 429) (by decide +kernel)) rfl rfl rfl rfl (fun _ => rfl) (fun _ => rfl) (by omega) (g_up1_at S0 a _) ?_
  rw [g_setS_up1]
  refine gb_run 2 (pc2 := 23) (ls2 := [(0, .ref a), (1, .ref x1), (2, .ref x2), (3, .ref x3)]) (st2 := [.ref x1, .ref a]) (M2 := M) hC hqX2_init rfl ?_
  refine gw_putref (a := a) (ci := 2) (k := 0) (N := 9) (r := x1) (Cn := RX2) (T := TX2) hC (g_dec hqX2_init (q := (.putfield 18, 2, 0, 1702)) rfl).1 rfl (by decide) (by decide) (g_mem_tb (i := 425) (by decide +kernel)) rfl rfl rfl rfl (fun _ => rfl) (fun _ => rfl) (by omega) (g_up1_at S0 a _) ?_
  rw [g_setS_up1]
  refine gb_run 2 (pc2 := 28) (ls2 := [(0, .ref a), (1, .ref x1), (2, .ref x2), (3, .ref x3)]) (st2 := [.ref x2, .ref a]) (M2 := M) hC hqX2_init rfl ?_
  refine gw_putref (a := a) (ci := 2) (k := 1) (N := 9) (r := x2) (Cn := RX2) (T := TX2) hC (g_dec hqX2_init (q := (.putfield 22, 2, 1, 1706)) rfl).1 rfl (by decide) (by decide) (g_mem_tb (i := 426) (by decide +kernel)) rfl rfl rfl rfl (fun _ => rfl) (fun _ => rfl) (by omega) (g_up1_at S0 a _) ?_
  rw [g_setS_up1]
  refine gb_run 2 (pc2 := 33) (ls2 := [(0, .ref a), (1, .ref x1), (2, .ref x2), (3, .ref x3)]) (st2 := [.ref x3, .ref a]) (M2 := M) hC hqX2_init rfl ?_
  refine gw_putref (a := a) (ci := 2) (k := 2) (N := 9) (r := x3) (Cn := RX2) (T := TX2) hC (g_dec hqX2_init (q := (.putfield 26, 2, 2, 1710)) rfl).1 rfl (by decide) (by decide) (g_mem_tb (i := 427) (by decide +kernel)) rfl rfl rfl rfl (fun _ => rfl) (fun _ => rfl) (by omega) (g_up1_at S0 a _) ?_
  rw [g_setS_up1]
  refine GW_made hA ?_
  refine gb_vret hqX2_init rfl rfl (Nat.le_of_ble_eq_true rfl) (Nat.le_of_ble_eq_true rfl) ⟨rfl, _, ⟨fun b hb => ?_, fun b hb => ?_, ?_⟩, rfl⟩
  · rfl
  · exact hM b (by omega)
  · trivial
