/-! Constructors: the model. -/
theorem g_upS_same {S : Nat → gT} {n N K : Nat} (h0 : S n = (23, N, fun j => n + j + 3)) (h1 : ∀ q, 1 ≤ q → q ≤ N → S (n + q) = (20, K, fun _ => 0)) : g_upS S n N K = S := by
  funext b
  unfold g_upS
  by_cases e : b = n
  · rw [if_pos e, e, h0]
    have : (fun j => n + 1 + j + 2) = fun j => n + j + 3 := by funext j; omega
    rw [this]
  · rw [if_neg e]
    by_cases e2 : n < b ∧ b ≤ n + N
    · rw [if_pos e2]
      have := h1 (b - n) (by omega) (by omega)
      rw [show n + (b - n) = b by omega] at this
      exact this.symm
    · rw [if_neg e2]
theorem g_upM_zero {M : gM} {n N : Nat} (h : ∀ b, n ≤ b → M b = fun _ => 0) : g_upM M n N = M := by
  funext b
  unfold g_upM
  by_cases e : n ≤ b ∧ b ≤ n + N
  · rw [if_pos e, h b e.1]
  · rw [if_neg e]

theorem s0_r471 (q : Nat) (q1 : 1 ≤ q) (q2 : q ≤ 8) : g_S0 (471 + q) = (20, 2, fun _ => 0) := by
  unfold g_S0
  repeat' split
  all_goals first | omega | skip
  all_goals (unfold g_rows; rw [if_neg (by omega)]; rfl)

theorem s0_r480 (q : Nat) (q1 : 1 ≤ q) (q2 : q ≤ 8) : g_S0 (480 + q) = (20, 2, fun _ => 0) := by
  unfold g_S0
  repeat' split
  all_goals first | omega | skip
  all_goals (unfold g_rows; rw [if_neg (by omega)]; rfl)

theorem s0_r489 (q : Nat) (q1 : 1 ≤ q) (q2 : q ≤ 8) : g_S0 (489 + q) = (20, 2, fun _ => 0) := by
  unfold g_S0
  repeat' split
  all_goals first | omega | skip
  all_goals (unfold g_rows; rw [if_neg (by omega)]; rfl)

theorem s0_r498 (q : Nat) (q1 : 1 ≤ q) (q2 : q ≤ 8) : g_S0 (498 + q) = (20, 2, fun _ => 0) := by
  unfold g_S0
  repeat' split
  all_goals first | omega | skip
  all_goals (unfold g_rows; rw [if_neg (by omega)]; rfl)

theorem s0_r507 (q : Nat) (q1 : 1 ≤ q) (q2 : q ≤ 160) : g_S0 (507 + q) = (20, 2, fun _ => 0) := by
  unfold g_S0
  repeat' split
  all_goals first | omega | skip
  all_goals (unfold g_rows; rw [if_neg (by omega)]; rfl)

theorem s0_r668 (q : Nat) (q1 : 1 ≤ q) (q2 : q ≤ 160) : g_S0 (668 + q) = (20, 2, fun _ => 0) := by
  unfold g_S0
  repeat' split
  all_goals first | omega | skip
  all_goals (unfold g_rows; rw [if_neg (by omega)]; rfl)

theorem s0_r829 (q : Nat) (q1 : 1 ≤ q) (q2 : q ≤ 8) : g_S0 (829 + q) = (20, 2, fun _ => 0) := by
  unfold g_S0
  repeat' split
  all_goals first | omega | skip
  all_goals (unfold g_rows; rw [if_neg (by omega)]; rfl)

theorem s0_r838 (q : Nat) (q1 : 1 ≤ q) (q2 : q ≤ 8) : g_S0 (838 + q) = (20, 2, fun _ => 0) := by
  unfold g_S0
  repeat' split
  all_goals first | omega | skip
  all_goals (unfold g_rows; rw [if_neg (by omega)]; rfl)

theorem s0_r849 (q : Nat) (q1 : 1 ≤ q) (q2 : q ≤ 80) : g_S0 (849 + q) = (20, 4, fun _ => 0) := by
  unfold g_S0
  repeat' split
  all_goals first | omega | skip
  all_goals (unfold g_rows; rw [if_neg (by omega)]; rfl)

theorem s0_r932 (q : Nat) (q1 : 1 ≤ q) (q2 : q ≤ 16) : g_S0 (932 + q) = (20, 48, fun _ => 0) := by
  unfold g_S0
  repeat' split
  all_goals first | omega | skip
  all_goals (unfold g_rows; rw [if_neg (by omega)]; rfl)

theorem s0_r949 (q : Nat) (q1 : 1 ≤ q) (q2 : q ≤ 3) : g_S0 (949 + q) = (20, 817, fun _ => 0) := by
  unfold g_S0
  repeat' split
  all_goals first | omega | skip
  all_goals (unfold g_rows; rw [if_neg (by omega)]; rfl)

/-- what a new model holds -/
def im0 (m : gM) : Prop := (∀ k, k < 48 → m 930 k = if k < 8 then -1 else 0) ∧ (m 464 19 = 0 ∧ m 464 33 = 0 ∧ m 464 34 = 0 ∧ m 464 35 = 0 ∧ m 464 36 = 0) ∧ (m 464 0 = 0 ∧ m 464 1 = 0 ∧ m 464 3 = -1) ∧ (m 468 0 = nI 0 ∧ m 468 1 = nI 0 ∧ m 468 2 = nI 0 ∧ m 468 3 = 60 ∧ m 468 4 = 5) ∧ m 466 = (fun _ => 0) ∧ m 956 = (fun _ => 0)
set_option maxRecDepth 20000 in
theorem i_model {l : Launch} {C : gC} {d : Nat} (hC : g_ctx l C) (M0 : gM) (sz : Nat) (hd : 6 ≤ d) (hz : sz = g_b C + 464) (h0 : ∀ b, 464 ≤ b → M0 b = fun _ => 0) : gMet l C qX12_init d [.ref 464] (465, g_up1 g_S0 464 (12, 47, g_fs TX12), M0, sz + 1) (fun r X => r = none ∧ ∃ M2, (im0 M2 ∧ ∀ b, b < 464 → M2 b = M0 b) ∧ X = (956, g_S0, M2, g_b C + 956)) gN := by
  refine gMet.of (ls := [(0, .ref 464)]) (by decide +kernel) (Nat.le_of_ble_eq_true rfl) rfl ?_
  refine gb_run 1 (pc2 := 1) (ls2 := [(0, .ref 464)]) (st2 := [.ref 464]) (M2 := M0) hC hqX12_init rfl ?_
  refine gw_objInit hC (g_dec hqX12_init (q := (.invokespecial 1, 0, 0, 0)) rfl).1 (g_mem_tb (i := 1380) (by decide +kernel)) (g_mem_tb (i := 31) (by decide +kernel)) (g_mem_tb (i := 32) (by decide +kernel)) (Nat.le_of_ble_eq_true rfl) (by omega) ?_
  refine gb_run 2 (pc2 := 6) (ls2 := [(0, .ref 464)]) (st2 := [.int (-1), .ref 464]) (M2 := M0) hC hqX12_init rfl ?_
  refine gb_putf hC hqX12_init rfl (by decide) (g_up1_at g_S0 464 _) rfl rfl rfl ?_
  obtain ⟨M1, e1⟩ : ∃ y, y = g_set M0 464 3 ((-1)) := ⟨_, rfl⟩
  rw [← e1]
  have hM : ∀ b, 465 ≤ b → M1 b = fun _ => 0 := fun b hb => by rw [e1, g_set_ne (by omega)]; exact h0 b (by omega)
  refine gb_run 2 (pc2 := 13) (ls2 := [(0, .ref 464)]) (st2 := [.int 600, .ref 464]) (M2 := M1) hC hqX12_init rfl ?_
  refine gw_newint (N := 600) hC (g_dec hqX12_init (q := (.newarray .int, 0, 0, 0)) rfl).1 (g_mem_tb (i := 69) (by decide +kernel)) (by decide) (by decide) (by decide) (by decide) (by omega) (Nat.le_of_ble_eq_true rfl) (Nat.le_of_ble_eq_true rfl) ?_
  rw [g_up1_row (a := 464) (t := (20, 600, fun _ => 0)) (by decide) rfl, g_up1_zero (hM 465 (by decide))]
  refine gw_putref (a := 464) (ci := 12) (k := 9) (N := 47) (r := 465) (Cn := RX12) (T := TX12) hC (g_dec hqX12_init (q := (.putfield 13, 12, 9, 5614)) rfl).1 rfl (by decide) (by decide) (g_mem_tb (i := 1403) (by decide +kernel)) rfl rfl rfl rfl (fun _ => rfl) (fun _ => rfl) (by decide) (g_up1_at g_S0 464 _) ?_
  rw [g_setS_up1]
  refine gb_run 2 (pc2 := 20) (ls2 := [(0, .ref 464)]) (st2 := [.int 2, .ref 464]) (M2 := M1) hC hqX12_init rfl ?_
  refine gw_newint (N := 2) hC (g_dec hqX12_init (q := (.newarray .int, 0, 0, 0)) rfl).1 (g_mem_tb (i := 69) (by decide +kernel)) (by decide) (by decide) (by decide) (by decide) (by omega) (Nat.le_of_ble_eq_true rfl) (Nat.le_of_ble_eq_true rfl) ?_
  rw [g_up1_row (a := 464) (t := (20, 2, fun _ => 0)) (by decide) rfl, g_up1_zero (hM 466 (by decide))]
  refine gw_putref (a := 464) (ci := 12) (k := 10) (N := 47) (r := 466) (Cn := RX12) (T := TX12) hC (g_dec hqX12_init (q := (.putfield 17, 12, 10, 5618)) rfl).1 rfl (by decide) (by decide) (g_mem_tb (i := 1404) (by decide +kernel)) rfl rfl rfl rfl (fun _ => rfl) (fun _ => rfl) (by decide) (g_up1_at g_S0 464 _) ?_
  rw [g_setS_up1]
  refine gb_run 2 (pc2 := 27) (ls2 := [(0, .ref 464)]) (st2 := [.int 5, .ref 464]) (M2 := M1) hC hqX12_init rfl ?_
  refine gw_newint (N := 5) hC (g_dec hqX12_init (q := (.newarray .int, 0, 0, 0)) rfl).1 (g_mem_tb (i := 69) (by decide +kernel)) (by decide) (by decide) (by decide) (by decide) (by omega) (Nat.le_of_ble_eq_true rfl) (Nat.le_of_ble_eq_true rfl) ?_
  rw [g_up1_row (a := 464) (t := (20, 5, fun _ => 0)) (by decide) rfl, g_up1_zero (hM 467 (by decide))]
  refine gw_putref (a := 464) (ci := 12) (k := 11) (N := 47) (r := 467) (Cn := RX12) (T := TX12) hC (g_dec hqX12_init (q := (.putfield 20, 12, 11, 5622)) rfl).1 rfl (by decide) (by decide) (g_mem_tb (i := 1405) (by decide +kernel)) rfl rfl rfl rfl (fun _ => rfl) (fun _ => rfl) (by decide) (g_up1_at g_S0 464 _) ?_
  rw [g_setS_up1]
  refine gb_run 2 (pc2 := 34) (ls2 := [(0, .ref 464)]) (st2 := [.int 5, .ref 464]) (M2 := M1) hC hqX12_init rfl ?_
  refine gw_newint (N := 5) hC (g_dec hqX12_init (q := (.newarray .int, 0, 0, 0)) rfl).1 (g_mem_tb (i := 69) (by decide +kernel)) (by decide) (by decide) (by decide) (by decide) (by omega) (Nat.le_of_ble_eq_true rfl) (Nat.le_of_ble_eq_true rfl) ?_
  rw [g_up1_row (a := 464) (t := (20, 5, fun _ => 0)) (by decide) rfl, g_up1_zero (hM 468 (by decide))]
  refine gw_putref (a := 464) (ci := 12) (k := 12) (N := 47) (r := 468) (Cn := RX12) (T := TX12) hC (g_dec hqX12_init (q := (.putfield 23, 12, 12, 5626)) rfl).1 rfl (by decide) (by decide) (g_mem_tb (i := 1406) (by decide +kernel)) rfl rfl rfl rfl (fun _ => rfl) (fun _ => rfl) (by decide) (g_up1_at g_S0 464 _) ?_
  rw [g_setS_up1]
  refine gb_run 2 (pc2 := 42) (ls2 := [(0, .ref 464)]) (st2 := [.int 8, .ref 464]) (M2 := M1) hC hqX12_init rfl ?_
  refine gw_newint (N := 8) hC (g_dec hqX12_init (q := (.newarray .int, 0, 0, 0)) rfl).1 (g_mem_tb (i := 69) (by decide +kernel)) (by decide) (by decide) (by decide) (by decide) (by omega) (Nat.le_of_ble_eq_true rfl) (Nat.le_of_ble_eq_true rfl) ?_
  rw [g_up1_row (a := 464) (t := (20, 8, fun _ => 0)) (by decide) rfl, g_up1_zero (hM 469 (by decide))]
  refine gw_putref (a := 464) (ci := 12) (k := 13) (N := 47) (r := 469) (Cn := RX12) (T := TX12) hC (g_dec hqX12_init (q := (.putfield 26, 12, 13, 5630)) rfl).1 rfl (by decide) (by decide) (g_mem_tb (i := 1407) (by decide +kernel)) rfl rfl rfl rfl (fun _ => rfl) (fun _ => rfl) (by decide) (g_up1_at g_S0 464 _) ?_
  rw [g_setS_up1]
  refine gb_run 2 (pc2 := 50) (ls2 := [(0, .ref 464)]) (st2 := [.int 8, .ref 464]) (M2 := M1) hC hqX12_init rfl ?_
  refine gw_newint (N := 8) hC (g_dec hqX12_init (q := (.newarray .int, 0, 0, 0)) rfl).1 (g_mem_tb (i := 69) (by decide +kernel)) (by decide) (by decide) (by decide) (by decide) (by omega) (Nat.le_of_ble_eq_true rfl) (Nat.le_of_ble_eq_true rfl) ?_
  rw [g_up1_row (a := 464) (t := (20, 8, fun _ => 0)) (by decide) rfl, g_up1_zero (hM 470 (by decide))]
  refine gw_putref (a := 464) (ci := 12) (k := 14) (N := 47) (r := 470) (Cn := RX12) (T := TX12) hC (g_dec hqX12_init (q := (.putfield 29, 12, 14, 5634)) rfl).1 rfl (by decide) (by decide) (g_mem_tb (i := 1408) (by decide +kernel)) rfl rfl rfl rfl (fun _ => rfl) (fun _ => rfl) (by decide) (g_up1_at g_S0 464 _) ?_
  rw [g_setS_up1]
  refine gb_run 3 (pc2 := 59) (ls2 := [(0, .ref 464)]) (st2 := [.int 2, .int 8, .ref 464]) (M2 := M1) hC hqX12_init rfl ?_
  refine gw_mna (N := 8) (K := 2) hC (g_dec hqX12_init (q := (.multianewarray 32 2, 0, 0, 0)) rfl).1 (g_mem_tb (i := 1381) (by decide +kernel)) (g_mem_tb (i := 69) (by decide +kernel)) (by decide) (by decide) (by decide) (by decide) (by decide) (by decide) (by decide) (by omega) (Nat.le_of_ble_eq_true rfl) (Nat.le_of_ble_eq_true rfl) ?_
  rw [g_upS_same (S := g_up1 g_S0 464 _) (n := 471) (N := 8) (K := 2) ((g_up1_ne (by decide)).trans rfl) (fun q q1 q2 => (g_up1_ne (by omega)).trans (s0_r471 q q1 q2)), g_upM_zero (n := 471) (N := 8) (fun b hb => hM b (by omega))]
  refine gw_putref (a := 464) (ci := 12) (k := 15) (N := 47) (r := 471) (Cn := RX12) (T := TX12) hC (g_dec hqX12_init (q := (.putfield 34, 12, 15, 5638)) rfl).1 rfl (by decide) (by decide) (g_mem_tb (i := 1409) (by decide +kernel)) rfl rfl rfl rfl (fun _ => rfl) (fun _ => rfl) (by decide) (g_up1_at g_S0 464 _) ?_
  rw [g_setS_up1]
  refine gb_run 3 (pc2 := 70) (ls2 := [(0, .ref 464)]) (st2 := [.int 2, .int 8, .ref 464]) (M2 := M1) hC hqX12_init rfl ?_
  refine gw_mna (N := 8) (K := 2) hC (g_dec hqX12_init (q := (.multianewarray 32 2, 0, 0, 0)) rfl).1 (g_mem_tb (i := 1381) (by decide +kernel)) (g_mem_tb (i := 69) (by decide +kernel)) (by decide) (by decide) (by decide) (by decide) (by decide) (by decide) (by decide) (by omega) (Nat.le_of_ble_eq_true rfl) (Nat.le_of_ble_eq_true rfl) ?_
  rw [g_upS_same (S := g_up1 g_S0 464 _) (n := 480) (N := 8) (K := 2) ((g_up1_ne (by decide)).trans rfl) (fun q q1 q2 => (g_up1_ne (by omega)).trans (s0_r480 q q1 q2)), g_upM_zero (n := 480) (N := 8) (fun b hb => hM b (by omega))]
  refine gw_putref (a := 464) (ci := 12) (k := 16) (N := 47) (r := 480) (Cn := RX12) (T := TX12) hC (g_dec hqX12_init (q := (.putfield 37, 12, 16, 5642)) rfl).1 rfl (by decide) (by decide) (g_mem_tb (i := 1410) (by decide +kernel)) rfl rfl rfl rfl (fun _ => rfl) (fun _ => rfl) (by decide) (g_up1_at g_S0 464 _) ?_
  rw [g_setS_up1]
  refine gb_run 3 (pc2 := 81) (ls2 := [(0, .ref 464)]) (st2 := [.int 2, .int 8, .ref 464]) (M2 := M1) hC hqX12_init rfl ?_
  refine gw_mna (N := 8) (K := 2) hC (g_dec hqX12_init (q := (.multianewarray 32 2, 0, 0, 0)) rfl).1 (g_mem_tb (i := 1381) (by decide +kernel)) (g_mem_tb (i := 69) (by decide +kernel)) (by decide) (by decide) (by decide) (by decide) (by decide) (by decide) (by decide) (by omega) (Nat.le_of_ble_eq_true rfl) (Nat.le_of_ble_eq_true rfl) ?_
  rw [g_upS_same (S := g_up1 g_S0 464 _) (n := 489) (N := 8) (K := 2) ((g_up1_ne (by decide)).trans rfl) (fun q q1 q2 => (g_up1_ne (by omega)).trans (s0_r489 q q1 q2)), g_upM_zero (n := 489) (N := 8) (fun b hb => hM b (by omega))]
  refine gw_putref (a := 464) (ci := 12) (k := 17) (N := 47) (r := 489) (Cn := RX12) (T := TX12) hC (g_dec hqX12_init (q := (.putfield 40, 12, 17, 5646)) rfl).1 rfl (by decide) (by decide) (g_mem_tb (i := 1411) (by decide +kernel)) rfl rfl rfl rfl (fun _ => rfl) (fun _ => rfl) (by decide) (g_up1_at g_S0 464 _) ?_
  rw [g_setS_up1]
  refine gb_run 3 (pc2 := 92) (ls2 := [(0, .ref 464)]) (st2 := [.int 2, .int 8, .ref 464]) (M2 := M1) hC hqX12_init rfl ?_
  refine gw_mna (N := 8) (K := 2) hC (g_dec hqX12_init (q := (.multianewarray 32 2, 0, 0, 0)) rfl).1 (g_mem_tb (i := 1381) (by decide +kernel)) (g_mem_tb (i := 69) (by decide +kernel)) (by decide) (by decide) (by decide) (by decide) (by decide) (by decide) (by decide) (by omega) (Nat.le_of_ble_eq_true rfl) (Nat.le_of_ble_eq_true rfl) ?_
  rw [g_upS_same (S := g_up1 g_S0 464 _) (n := 498) (N := 8) (K := 2) ((g_up1_ne (by decide)).trans rfl) (fun q q1 q2 => (g_up1_ne (by omega)).trans (s0_r498 q q1 q2)), g_upM_zero (n := 498) (N := 8) (fun b hb => hM b (by omega))]
  refine gw_putref (a := 464) (ci := 12) (k := 18) (N := 47) (r := 498) (Cn := RX12) (T := TX12) hC (g_dec hqX12_init (q := (.putfield 43, 12, 18, 5650)) rfl).1 rfl (by decide) (by decide) (g_mem_tb (i := 1412) (by decide +kernel)) rfl rfl rfl rfl (fun _ => rfl) (fun _ => rfl) (by decide) (g_up1_at g_S0 464 _) ?_
  rw [g_setS_up1]
  refine gb_run 3 (pc2 := 104) (ls2 := [(0, .ref 464)]) (st2 := [.int 2, .int 160, .ref 464]) (M2 := M1) hC hqX12_init rfl ?_
  refine gw_mna (N := 160) (K := 2) hC (g_dec hqX12_init (q := (.multianewarray 32 2, 0, 0, 0)) rfl).1 (g_mem_tb (i := 1381) (by decide +kernel)) (g_mem_tb (i := 69) (by decide +kernel)) (by decide) (by decide) (by decide) (by decide) (by decide) (by decide) (by decide) (by omega) (Nat.le_of_ble_eq_true rfl) (Nat.le_of_ble_eq_true rfl) ?_
  rw [g_upS_same (S := g_up1 g_S0 464 _) (n := 507) (N := 160) (K := 2) ((g_up1_ne (by decide)).trans rfl) (fun q q1 q2 => (g_up1_ne (by omega)).trans (s0_r507 q q1 q2)), g_upM_zero (n := 507) (N := 160) (fun b hb => hM b (by omega))]
  refine gw_putref (a := 464) (ci := 12) (k := 21) (N := 47) (r := 507) (Cn := RX12) (T := TX12) hC (g_dec hqX12_init (q := (.putfield 46, 12, 21, 5662)) rfl).1 rfl (by decide) (by decide) (g_mem_tb (i := 1415) (by decide +kernel)) rfl rfl rfl rfl (fun _ => rfl) (fun _ => rfl) (by decide) (g_up1_at g_S0 464 _) ?_
  rw [g_setS_up1]
  refine gb_run 3 (pc2 := 116) (ls2 := [(0, .ref 464)]) (st2 := [.int 2, .int 160, .ref 464]) (M2 := M1) hC hqX12_init rfl ?_
  refine gw_mna (N := 160) (K := 2) hC (g_dec hqX12_init (q := (.multianewarray 32 2, 0, 0, 0)) rfl).1 (g_mem_tb (i := 1381) (by decide +kernel)) (g_mem_tb (i := 69) (by decide +kernel)) (by decide) (by decide) (by decide) (by decide) (by decide) (by decide) (by decide) (by omega) (Nat.le_of_ble_eq_true rfl) (Nat.le_of_ble_eq_true rfl) ?_
  rw [g_upS_same (S := g_up1 g_S0 464 _) (n := 668) (N := 160) (K := 2) ((g_up1_ne (by decide)).trans rfl) (fun q q1 q2 => (g_up1_ne (by omega)).trans (s0_r668 q q1 q2)), g_upM_zero (n := 668) (N := 160) (fun b hb => hM b (by omega))]
  refine gw_putref (a := 464) (ci := 12) (k := 22) (N := 47) (r := 668) (Cn := RX12) (T := TX12) hC (g_dec hqX12_init (q := (.putfield 49, 12, 22, 5666)) rfl).1 rfl (by decide) (by decide) (g_mem_tb (i := 1416) (by decide +kernel)) rfl rfl rfl rfl (fun _ => rfl) (fun _ => rfl) (by decide) (g_up1_at g_S0 464 _) ?_
  rw [g_setS_up1]
  refine gb_run 3 (pc2 := 127) (ls2 := [(0, .ref 464)]) (st2 := [.int 2, .int 8, .ref 464]) (M2 := M1) hC hqX12_init rfl ?_
  refine gw_mna (N := 8) (K := 2) hC (g_dec hqX12_init (q := (.multianewarray 32 2, 0, 0, 0)) rfl).1 (g_mem_tb (i := 1381) (by decide +kernel)) (g_mem_tb (i := 69) (by decide +kernel)) (by decide) (by decide) (by decide) (by decide) (by decide) (by decide) (by decide) (by omega) (Nat.le_of_ble_eq_true rfl) (Nat.le_of_ble_eq_true rfl) ?_
  rw [g_upS_same (S := g_up1 g_S0 464 _) (n := 829) (N := 8) (K := 2) ((g_up1_ne (by decide)).trans rfl) (fun q q1 q2 => (g_up1_ne (by omega)).trans (s0_r829 q q1 q2)), g_upM_zero (n := 829) (N := 8) (fun b hb => hM b (by omega))]
  refine gw_putref (a := 464) (ci := 12) (k := 23) (N := 47) (r := 829) (Cn := RX12) (T := TX12) hC (g_dec hqX12_init (q := (.putfield 52, 12, 23, 5670)) rfl).1 rfl (by decide) (by decide) (g_mem_tb (i := 1417) (by decide +kernel)) rfl rfl rfl rfl (fun _ => rfl) (fun _ => rfl) (by decide) (g_up1_at g_S0 464 _) ?_
  rw [g_setS_up1]
  refine gb_run 3 (pc2 := 138) (ls2 := [(0, .ref 464)]) (st2 := [.int 2, .int 8, .ref 464]) (M2 := M1) hC hqX12_init rfl ?_
  refine gw_mna (N := 8) (K := 2) hC (g_dec hqX12_init (q := (.multianewarray 32 2, 0, 0, 0)) rfl).1 (g_mem_tb (i := 1381) (by decide +kernel)) (g_mem_tb (i := 69) (by decide +kernel)) (by decide) (by decide) (by decide) (by decide) (by decide) (by decide) (by decide) (by omega) (Nat.le_of_ble_eq_true rfl) (Nat.le_of_ble_eq_true rfl) ?_
  rw [g_upS_same (S := g_up1 g_S0 464 _) (n := 838) (N := 8) (K := 2) ((g_up1_ne (by decide)).trans rfl) (fun q q1 q2 => (g_up1_ne (by omega)).trans (s0_r838 q q1 q2)), g_upM_zero (n := 838) (N := 8) (fun b hb => hM b (by omega))]
  refine gw_putref (a := 464) (ci := 12) (k := 24) (N := 47) (r := 838) (Cn := RX12) (T := TX12) hC (g_dec hqX12_init (q := (.putfield 55, 12, 24, 5674)) rfl).1 rfl (by decide) (by decide) (g_mem_tb (i := 1418) (by decide +kernel)) rfl rfl rfl rfl (fun _ => rfl) (fun _ => rfl) (by decide) (g_up1_at g_S0 464 _) ?_
  rw [g_setS_up1]
  refine gb_run 2 (pc2 := 149) (ls2 := [(0, .ref 464)]) (st2 := [.int 160, .ref 464]) (M2 := M1) hC hqX12_init rfl ?_
  refine gw_newint (N := 160) hC (g_dec hqX12_init (q := (.newarray .int, 0, 0, 0)) rfl).1 (g_mem_tb (i := 69) (by decide +kernel)) (by decide) (by decide) (by decide) (by decide) (by omega) (Nat.le_of_ble_eq_true rfl) (Nat.le_of_ble_eq_true rfl) ?_
  rw [g_up1_row (a := 464) (t := (20, 160, fun _ => 0)) (by decide) rfl, g_up1_zero (hM 847 (by decide))]
  refine gw_putref (a := 464) (ci := 12) (k := 25) (N := 47) (r := 847) (Cn := RX12) (T := TX12) hC (g_dec hqX12_init (q := (.putfield 58, 12, 25, 5678)) rfl).1 rfl (by decide) (by decide) (g_mem_tb (i := 1419) (by decide +kernel)) rfl rfl rfl rfl (fun _ => rfl) (fun _ => rfl) (by decide) (g_up1_at g_S0 464 _) ?_
  rw [g_setS_up1]
  refine gb_run 2 (pc2 := 157) (ls2 := [(0, .ref 464)]) (st2 := [.int 9, .ref 464]) (M2 := M1) hC hqX12_init rfl ?_
  refine gw_newint (N := 9) hC (g_dec hqX12_init (q := (.newarray .int, 0, 0, 0)) rfl).1 (g_mem_tb (i := 69) (by decide +kernel)) (by decide) (by decide) (by decide) (by decide) (by omega) (Nat.le_of_ble_eq_true rfl) (Nat.le_of_ble_eq_true rfl) ?_
  rw [g_up1_row (a := 464) (t := (20, 9, fun _ => 0)) (by decide) rfl, g_up1_zero (hM 848 (by decide))]
  refine gw_putref (a := 464) (ci := 12) (k := 26) (N := 47) (r := 848) (Cn := RX12) (T := TX12) hC (g_dec hqX12_init (q := (.putfield 61, 12, 26, 5682)) rfl).1 rfl (by decide) (by decide) (g_mem_tb (i := 1420) (by decide +kernel)) rfl rfl rfl rfl (fun _ => rfl) (fun _ => rfl) (by decide) (g_up1_at g_S0 464 _) ?_
  rw [g_setS_up1]
  refine gb_run 3 (pc2 := 166) (ls2 := [(0, .ref 464)]) (st2 := [.int 4, .int 80, .ref 464]) (M2 := M1) hC hqX12_init rfl ?_
  refine gw_mna (N := 80) (K := 4) hC (g_dec hqX12_init (q := (.multianewarray 32 2, 0, 0, 0)) rfl).1 (g_mem_tb (i := 1381) (by decide +kernel)) (g_mem_tb (i := 69) (by decide +kernel)) (by decide) (by decide) (by decide) (by decide) (by decide) (by decide) (by decide) (by omega) (Nat.le_of_ble_eq_true rfl) (Nat.le_of_ble_eq_true rfl) ?_
  rw [g_upS_same (S := g_up1 g_S0 464 _) (n := 849) (N := 80) (K := 4) ((g_up1_ne (by decide)).trans rfl) (fun q q1 q2 => (g_up1_ne (by omega)).trans (s0_r849 q q1 q2)), g_upM_zero (n := 849) (N := 80) (fun b hb => hM b (by omega))]
  refine gw_putref (a := 464) (ci := 12) (k := 27) (N := 47) (r := 849) (Cn := RX12) (T := TX12) hC (g_dec hqX12_init (q := (.putfield 64, 12, 27, 5686)) rfl).1 rfl (by decide) (by decide) (g_mem_tb (i := 1421) (by decide +kernel)) rfl rfl rfl rfl (fun _ => rfl) (fun _ => rfl) (by decide) (g_up1_at g_S0 464 _) ?_
  rw [g_setS_up1]
  refine gb_run 2 (pc2 := 176) (ls2 := [(0, .ref 464)]) (st2 := [.int 48, .ref 464]) (M2 := M1) hC hqX12_init rfl ?_
  refine gw_newint (N := 48) hC (g_dec hqX12_init (q := (.newarray .int, 0, 0, 0)) rfl).1 (g_mem_tb (i := 69) (by decide +kernel)) (by decide) (by decide) (by decide) (by decide) (by omega) (Nat.le_of_ble_eq_true rfl) (Nat.le_of_ble_eq_true rfl) ?_
  rw [g_up1_row (a := 464) (t := (20, 48, fun _ => 0)) (by decide) rfl, g_up1_zero (hM 930 (by decide))]
  refine gw_putref (a := 464) (ci := 12) (k := 29) (N := 47) (r := 930) (Cn := RX12) (T := TX12) hC (g_dec hqX12_init (q := (.putfield 67, 12, 29, 5694)) rfl).1 rfl (by decide) (by decide) (g_mem_tb (i := 1423) (by decide +kernel)) rfl rfl rfl rfl (fun _ => rfl) (fun _ => rfl) (by decide) (g_up1_at g_S0 464 _) ?_
  rw [g_setS_up1]
  refine gb_run 2 (pc2 := 184) (ls2 := [(0, .ref 464)]) (st2 := [.int 48, .ref 464]) (M2 := M1) hC hqX12_init rfl ?_
  refine gw_newint (N := 48) hC (g_dec hqX12_init (q := (.newarray .int, 0, 0, 0)) rfl).1 (g_mem_tb (i := 69) (by decide +kernel)) (by decide) (by decide) (by decide) (by decide) (by omega) (Nat.le_of_ble_eq_true rfl) (Nat.le_of_ble_eq_true rfl) ?_
  rw [g_up1_row (a := 464) (t := (20, 48, fun _ => 0)) (by decide) rfl, g_up1_zero (hM 931 (by decide))]
  refine gw_putref (a := 464) (ci := 12) (k := 30) (N := 47) (r := 931) (Cn := RX12) (T := TX12) hC (g_dec hqX12_init (q := (.putfield 70, 12, 30, 5698)) rfl).1 rfl (by decide) (by decide) (g_mem_tb (i := 1424) (by decide +kernel)) rfl rfl rfl rfl (fun _ => rfl) (fun _ => rfl) (by decide) (g_up1_at g_S0 464 _) ?_
  rw [g_setS_up1]
  refine gb_run 3 (pc2 := 194) (ls2 := [(0, .ref 464)]) (st2 := [.int 48, .int 16, .ref 464]) (M2 := M1) hC hqX12_init rfl ?_
  refine gw_mna (N := 16) (K := 48) hC (g_dec hqX12_init (q := (.multianewarray 32 2, 0, 0, 0)) rfl).1 (g_mem_tb (i := 1381) (by decide +kernel)) (g_mem_tb (i := 69) (by decide +kernel)) (by decide) (by decide) (by decide) (by decide) (by decide) (by decide) (by decide) (by omega) (Nat.le_of_ble_eq_true rfl) (Nat.le_of_ble_eq_true rfl) ?_
  rw [g_upS_same (S := g_up1 g_S0 464 _) (n := 932) (N := 16) (K := 48) ((g_up1_ne (by decide)).trans rfl) (fun q q1 q2 => (g_up1_ne (by omega)).trans (s0_r932 q q1 q2)), g_upM_zero (n := 932) (N := 16) (fun b hb => hM b (by omega))]
  refine gw_putref (a := 464) (ci := 12) (k := 31) (N := 47) (r := 932) (Cn := RX12) (T := TX12) hC (g_dec hqX12_init (q := (.putfield 73, 12, 31, 5702)) rfl).1 rfl (by decide) (by decide) (g_mem_tb (i := 1425) (by decide +kernel)) rfl rfl rfl rfl (fun _ => rfl) (fun _ => rfl) (by decide) (g_up1_at g_S0 464 _) ?_
  rw [g_setS_up1]
  refine gb_run 3 (pc2 := 206) (ls2 := [(0, .ref 464)]) (st2 := [.int 817, .int 3, .ref 464]) (M2 := M1) hC hqX12_init rfl ?_
  refine gw_mna (N := 3) (K := 817) hC (g_dec hqX12_init (q := (.multianewarray 32 2, 0, 0, 0)) rfl).1 (g_mem_tb (i := 1381) (by decide +kernel)) (g_mem_tb (i := 69) (by decide +kernel)) (by decide) (by decide) (by decide) (by decide) (by decide) (by decide) (by decide) (by omega) (Nat.le_of_ble_eq_true rfl) (Nat.le_of_ble_eq_true rfl) ?_
  rw [g_upS_same (S := g_up1 g_S0 464 _) (n := 949) (N := 3) (K := 817) ((g_up1_ne (by decide)).trans rfl) (fun q q1 q2 => (g_up1_ne (by omega)).trans (s0_r949 q q1 q2)), g_upM_zero (n := 949) (N := 3) (fun b hb => hM b (by omega))]
  refine gw_putref (a := 464) (ci := 12) (k := 32) (N := 47) (r := 949) (Cn := RX12) (T := TX12) hC (g_dec hqX12_init (q := (.putfield 76, 12, 32, 5706)) rfl).1 rfl (by decide) (by decide) (g_mem_tb (i := 1426) (by decide +kernel)) rfl rfl rfl rfl (fun _ => rfl) (fun _ => rfl) (by decide) (g_up1_at g_S0 464 _) ?_
  rw [g_setS_up1]
  refine gb_run 2 (pc2 := 216) (ls2 := [(0, .ref 464)]) (st2 := [.int 8, .ref 464]) (M2 := M1) hC hqX12_init rfl ?_
  refine gw_newint (N := 8) hC (g_dec hqX12_init (q := (.newarray .int, 0, 0, 0)) rfl).1 (g_mem_tb (i := 69) (by decide +kernel)) (by decide) (by decide) (by decide) (by decide) (by omega) (Nat.le_of_ble_eq_true rfl) (Nat.le_of_ble_eq_true rfl) ?_
  rw [g_up1_row (a := 464) (t := (20, 8, fun _ => 0)) (by decide) rfl, g_up1_zero (hM 953 (by decide))]
  refine gw_putref (a := 464) (ci := 12) (k := 41) (N := 47) (r := 953) (Cn := RX12) (T := TX12) hC (g_dec hqX12_init (q := (.putfield 79, 12, 41, 5742)) rfl).1 rfl (by decide) (by decide) (g_mem_tb (i := 1435) (by decide +kernel)) rfl rfl rfl rfl (fun _ => rfl) (fun _ => rfl) (by decide) (g_up1_at g_S0 464 _) ?_
  rw [g_setS_up1]
  refine gb_run 2 (pc2 := 224) (ls2 := [(0, .ref 464)]) (st2 := [.int 8, .ref 464]) (M2 := M1) hC hqX12_init rfl ?_
  refine gw_newint (N := 8) hC (g_dec hqX12_init (q := (.newarray .int, 0, 0, 0)) rfl).1 (g_mem_tb (i := 69) (by decide +kernel)) (by decide) (by decide) (by decide) (by decide) (by omega) (Nat.le_of_ble_eq_true rfl) (Nat.le_of_ble_eq_true rfl) ?_
  rw [g_up1_row (a := 464) (t := (20, 8, fun _ => 0)) (by decide) rfl, g_up1_zero (hM 954 (by decide))]
  refine gw_putref (a := 464) (ci := 12) (k := 42) (N := 47) (r := 954) (Cn := RX12) (T := TX12) hC (g_dec hqX12_init (q := (.putfield 82, 12, 42, 5746)) rfl).1 rfl (by decide) (by decide) (g_mem_tb (i := 1436) (by decide +kernel)) rfl rfl rfl rfl (fun _ => rfl) (fun _ => rfl) (by decide) (g_up1_at g_S0 464 _) ?_
  rw [g_setS_up1]
  refine gb_run 2 (pc2 := 233) (ls2 := [(0, .ref 464)]) (st2 := [.int 800, .ref 464]) (M2 := M1) hC hqX12_init rfl ?_
  refine gw_newint (N := 800) hC (g_dec hqX12_init (q := (.newarray .int, 0, 0, 0)) rfl).1 (g_mem_tb (i := 69) (by decide +kernel)) (by decide) (by decide) (by decide) (by decide) (by omega) (Nat.le_of_ble_eq_true rfl) (Nat.le_of_ble_eq_true rfl) ?_
  rw [g_up1_row (a := 464) (t := (20, 800, fun _ => 0)) (by decide) rfl, g_up1_zero (hM 955 (by decide))]
  refine gw_putref (a := 464) (ci := 12) (k := 44) (N := 47) (r := 955) (Cn := RX12) (T := TX12) hC (g_dec hqX12_init (q := (.putfield 85, 12, 44, 5754)) rfl).1 rfl (by decide) (by decide) (g_mem_tb (i := 1438) (by decide +kernel)) rfl rfl rfl rfl (fun _ => rfl) (fun _ => rfl) (by decide) (g_up1_at g_S0 464 _) ?_
  rw [g_setS_up1]
  refine GW_made (S0 := g_S0) (by decide +kernel) ?_
  obtain ⟨M2, y2, ⟨t1, t2, t3, t4, t5⟩, t6⟩ := m_tells M1
  obtain ⟨M3, y3, v1, ⟨v2, v3, v4, v5, v6⟩, v7, ⟨v8, v9, v10, v11, v12⟩, v13, v14, v15, v16⟩ := m_begins (m := M2) (W := 0) (C := 0) (H := 0) (by decide) (by decide) (by decide) t1 t2 t3
  refine gb_run 1 (pc2 := 239) (ls2 := [(0, .ref 464)]) (st2 := [.ref 464]) (M2 := M1) hC hqX12_init rfl ?_
  refine gz_cV (z := qX12_tellsNothing) (a := 464) (av := []) (rest := []) (pl := 1383) hC hqX12_init rfl kX12_tellsNothing sX12_tellsNothing (by decide +kernel) (c_FM_tellsNothing hC M1 _ (d - 1) (by omega) M2 y2) (by omega) ⟨rfl, rfl⟩ rfl (Nat.le_of_ble_eq_true rfl) (by decide) rfl rfl rfl (Nat.le_of_ble_eq_true rfl) ⟨(Nat.le_of_ble_eq_true rfl), (Nat.le_of_ble_eq_true rfl)⟩ (gs_V ?_)
  refine gb_run 1 (pc2 := 243) (ls2 := [(0, .ref 464)]) (st2 := [.ref 464]) (M2 := M2) hC hqX12_init rfl ?_
  refine gz_cV (z := qX12_beginsAnew) (a := 464) (av := []) (rest := []) (pl := 1387) hC hqX12_init rfl kX12_beginsAnew sX12_beginsAnew (by decide +kernel) (c_FM_beginsAnew hC M2 _ (d - 1) (by omega) M3 y3) (by omega) ⟨rfl, rfl⟩ rfl (Nat.le_of_ble_eq_true rfl) (by decide) rfl rfl rfl (Nat.le_of_ble_eq_true rfl) ⟨(Nat.le_of_ble_eq_true rfl), (Nat.le_of_ble_eq_true rfl)⟩ (gs_V ?_)
  have e464 : ∀ k, k ≠ 19 → k ≠ 33 → k ≠ 34 → k ≠ 35 → k ≠ 36 → M3 464 k = M1 464 k := fun k a1 a2 a3 a4 a5 => by rw [v7 k a1 a2 a3 a4 a5, t6 464 (by decide)]
  refine gb_vret hqX12_init rfl rfl (Nat.le_of_ble_eq_true rfl) (Nat.le_of_ble_eq_true rfl) ⟨rfl, M3, ⟨⟨v1, ⟨v2, v3, v4, v5, v6⟩, ⟨?_, ?_, ?_⟩, ⟨v8, v9, v10, by rw [v11]; exact t4, by rw [v12]; exact t5⟩, ?_, ?_⟩, fun b hb => ?_⟩, by rw [show sz + 492 = g_b C + 956 by omega]⟩
  · rw [e464 0 (by decide) (by decide) (by decide) (by decide) (by decide), e1, g_set_k (by decide), h0 464 (by decide)]
  · rw [e464 1 (by decide) (by decide) (by decide) (by decide) (by decide), e1, g_set_k (by decide), h0 464 (by decide)]
  · rw [e464 3 (by decide) (by decide) (by decide) (by decide) (by decide), e1, g_set_eq]
  · rw [v16, t6 466 (by decide)]; exact hM 466 (by decide)
  · have := w_FM_beginsAnew M2 M3 y3 956 (by omega)
    rw [this, t6 956 (by decide)]; exact hM 956 (by decide)
  · have := w_FM_beginsAnew M2 M3 y3 b (by omega)
    rw [this, t6 b (by omega), e1, g_set_ne (by omega)]
