/-! Constructors: a History. -/
theorem h_hist {S0 : Nat → gT} {a : Nat} (hS : ∀ q, q < 104 → S0 (a + q) = g_hist a q) : (S0 a = (3, 3, fun j => if j = 0 then a + 3 else if j = 1 then a + 9 else 0)) ∧ (∀ q, q < 6 → S0 (a + 1 + q) = g_state (a + 1) q) ∧ S0 (a + 7) = (22, 16, fun j => a + 10 + 6 * j) ∧ ∀ i, i < 16 → ∀ q, q < 6 → S0 (a + 8 + 6 * i + q) = g_state (a + 8 + 6 * i) q := by
  refine ⟨hS 0 (by decide), fun q hq => ?_, hS 7 (by decide), fun i hi q hq => ?_⟩
  · rw [show a + 1 + q = a + (1 + q) by omega, hS _ (by omega)]
    unfold g_hist
    rw [if_neg (by omega), if_pos (by omega), show 1 + q - 1 = q by omega]
  · rw [show a + 8 + 6 * i + q = a + (8 + 6 * i + q) by omega, hS _ (by omega)]
    unfold g_hist
    rw [if_neg (by omega), if_neg (by omega), if_neg (by omega), show (8 + 6 * i + q - 8) % 6 = q by omega, show a + (8 + 6 * i + q) - q = a + 8 + 6 * i by omega]
/-- the row of the past, as far as filled -/
def g_pastU (a i : Nat) : gT := (22, 16, fun j => if j < i then a + 10 + 6 * j else 1)
section IH
variable {l : Launch} {C : gC} {d : Nat}

theorem i_Hist_L (hC : g_ctx l C) (a : Nat) (S0 : Nat → gT) (hd : 4 ≤ d) (h9 : a + 104 ≤ 956) (hS : ∀ q, q < 104 → S0 (a + q) = g_hist a q) {Q : Option Value → gX → Prop} (M0 : gM) (hQ : ∀ M, (∀ b, b < a + 8 → M b = M0 b) → (∀ b, a + 104 ≤ b → M b = fun _ => 0) → Q none (a + 104, S0, M, g_b C + (a + 104))) : ∀ (k i : Nat) (M : gM) (sz : Nat), i + k = 16 → sz = g_b C + (a + 8 + 6 * i) → (∀ b, b < a + 8 → M b = M0 b) → (∀ b, a + 8 + 6 * i ≤ b → M b = fun _ => 0) → GW l C qX3_init d Q gN (7 + 6 * i) (68 + 52 * i) 26 [(1, .int (nI i)), (0, .ref a)] [] (a + 8 + 6 * i, g_up1 S0 (a + 7) (g_pastU a i), M, sz) := by
  obtain ⟨e0, e1, e7, e8⟩ := h_hist hS
  intro k
  induction k with
  | zero =>
    intro i M sz hi hz h1 h2
    have hi : i = 16 := by omega
    subst hi
    refine GW_made (S0 := S0) ?_ ?_
    · rw [e7]
      refine ⟨rfl, rfl, fun j hj => ?_⟩
      exact if_pos hj
    refine gb_run 2 (pc2 := 28) (ls2 := [(1, .int (nI 16)), (0, .ref a)]) (st2 := [.ref a, .int (nI 16)]) (M2 := M) hC hqX3_init rfl ?_
    refine gz_getr (q := a + 7) hC hqX3_init rfl (by omega) e0 rfl rfl ?_
    refine gb_alenq (k0 := 1) hC hqX3_init rfl (by omega) e7 (by decide) ?_
    refine gb_icmp_ge hqX3_init rfl (fun _ => ?_) (fun h => absurd (show nI 16 ≤ nI 16 from Int32.le_refl _) h)
    refine gb_vret hqX3_init rfl rfl (by show 7 + 6 * 16 ≤ 103; decide) (by show 68 + 52 * 16 ≤ 900; decide) ?_
    have := hQ M h1 h2
    rw [hz]
    exact this
  | succ k ih =>
    intro i M sz hi hz h1 h2
    have i16 : i < 16 := by omega
    refine gb_run 2 (pc2 := 28) (ls2 := [(1, .int (nI i)), (0, .ref a)]) (st2 := [.ref a, .int (nI i)]) (M2 := M) hC hqX3_init rfl ?_
    refine gz_getr (q := a + 7) hC hqX3_init rfl (by omega) ((g_up1_ne (by omega)).trans e0) rfl rfl ?_
    refine gb_alenq (k0 := 1) hC hqX3_init rfl (by omega) (g_up1_at S0 (a + 7) _) (by decide) ?_
    refine gb_icmp_ge hqX3_init rfl (fun h => absurd h (nI_ge i16 (by decide))) (fun _ => ?_)
    refine gb_run 1 (pc2 := 36) (ls2 := [(1, .int (nI i)), (0, .ref a)]) (st2 := [.ref a]) (M2 := M) hC hqX3_init rfl ?_
    refine gz_getr (q := a + 7) hC hqX3_init rfl (by omega) ((g_up1_ne (by omega)).trans e0) rfl rfl ?_
    refine gb_run 1 (pc2 := 40) (ls2 := [(1, .int (nI i)), (0, .ref a)]) (st2 := [.int (nI i), .ref (a + 7)]) (M2 := M) hC hqX3_init rfl ?_
    refine gw_new (ci := 8) (Cn := RX8) (T := TX8) (N := 12) hC (g_dec hqX3_init (q := (.new 9, 0, 0, 0)) rfl).1 rfl (by decide) (g_mem_tb (i := 463) (by decide +kernel)) (g_mem_tb (i := 277) (by decide +kernel)) (g_mem_tb (i := 9) (by decide +kernel)) (by omega) hz (by show 7 + 6 * i + 1 ≤ 103; omega) (by show 68 + 52 * i + 12 ≤ 900; omega) ?_
    rw [g_up1_zero (h2 _ (Nat.le_refl _))]
    refine gb_run 1 (pc2 := 44) (ls2 := [(1, .int (nI i)), (0, .ref a)]) (st2 := [.ref (a + 8 + 6 * i), .ref (a + 8 + 6 * i), .int (nI i), .ref (a + 7)]) (M2 := M) hC hqX3_init rfl ?_
    refine gw_invI (z := qX8_init) (a := a + 8 + 6 * i) (av := []) (rest := [.ref (a + 8 + 6 * i), .int (nI i), .ref (a + 7)]) hC (i_State hC (a + 8 + 6 * i) (g_up1 S0 (a + 7) (g_pastU a i)) M (sz + 1) (d - 1) (by omega) (by omega) (by omega) h2 (fun q hq => by rw [g_up1_ne (by omega)]; exact e8 i i16 q hq)) (fun _ _ h => h) (g_dec hqX3_init (q := (.invokespecial 11, 0, 0, 0)) rfl).1 (g_mem_tb (i := 464) (by decide +kernel)) rfl rfl (g_mem_tb kX8_init.1) (g_mem_tb kX8_init.2.1) (g_mem_tb kX8_init.2.2.1) kX8_init.2.2.2.1 (by omega) kX8_init.2.2.2.2 rfl rfl (Nat.le_of_ble_eq_true rfl) ⟨by show 7 + 6 * i + 1 + 5 ≤ 103; omega, by show 68 + 52 * i + 12 + 40 ≤ 900; omega⟩ ?_
    rintro r X' ⟨rfl, M2, ⟨p1, p2, -⟩, rfl⟩
    have eS : g_up1 S0 (a + 7) (g_pastU a i) (a + 8 + 6 * i) = (8, 12, fun j => if j < 5 then a + 8 + 6 * i + j + 3 else 0) := by
      rw [g_up1_ne (by omega)]
      exact e8 i i16 0 (by decide)
    refine gw_aastore (a := a + 7) (k := 1) (Cn := RX8) (T := TX8) (r := a + 8 + 6 * i) hC (g_dec hqX3_init (q := (.aastore, 0, 0, 0)) rfl).1 (by omega) (g_up1_at S0 (a + 7) _) (Or.inr ⟨rfl, rfl⟩) (by omega) eS (by decide) rfl (vp_in_nI i16 (by decide)) ?_
    rw [nI_clamp (by omega)]
    unfold g_pastU
    rw [g_setS_up1]
    refine GW_shape (S2 := g_up1 S0 (a + 7) (g_pastU a (i + 1))) (fun b hb => ?_) ?_
    · by_cases e : b = a + 7
      · rw [e, g_up1_at, g_up1_at]
        refine ⟨rfl, rfl, fun j hj => ?_⟩
        show (if j = i then a + 8 + 6 * i + 2 else if j < i then a + 10 + 6 * j else 1) = if j < i + 1 then a + 10 + 6 * j else 1
        by_cases z : j = i
        · rw [if_pos z, if_pos (by omega), z]; omega
        · rw [if_neg z]
          by_cases z2 : j < i
          · rw [if_pos z2, if_pos (by omega)]
          · rw [if_neg z2, if_neg (by omega)]
      · rw [g_up1_ne e, g_up1_ne e]
        exact ⟨rfl, rfl, fun _ _ => rfl⟩
    refine gb_run 2 (pc2 := 26) (ls2 := [(1, .int (nI i + 1)), (0, .ref a)]) (st2 := []) (M2 := M2) hC hqX3_init rfl ?_
    rw [nI_1 i]
    have := ih (i + 1) M2 (sz + 1 + 5) (by omega) (by omega) (fun b hb => (p1 b (by omega)).trans (h1 b hb)) (fun b hb => p2 b (by omega))
    rw [show 7 + 6 * (i + 1) = 7 + 6 * i + 1 + 5 by omega, show 68 + 52 * (i + 1) = 68 + 52 * i + 12 + 40 by omega, show a + 8 + 6 * (i + 1) = a + 8 + 6 * i + 6 by omega] at this
    exact this

theorem i_Hist (hC : g_ctx l C) (a : Nat) (S0 : Nat → gT) (M : gM) (sz : Nat) (hd : 4 ≤ d) (hz : sz = g_b C + (a + 1)) (h9 : a + 104 ≤ 956) (hM : ∀ b, a ≤ b → M b = fun _ => 0) (hS : ∀ q, q < 104 → S0 (a + q) = g_hist a q) : gMet l C qX3_init d [.ref a] (a + 1, g_up1 S0 a (3, 3, g_fs TX3), M, sz) (gQ0 a (a + 104) M (fun M2 => (∀ k, k < 8 → M2 (a + 5) k = -1 ∧ M2 (a + 2) k = 0 ∧ M2 (a + 3) k = 0 ∧ M2 (a + 4) k = 0 ∧ M2 (a + 6) k = 0) ∧ (∀ k, 5 ≤ k → k ≤ 11 → M2 (a + 1) k = 0) ∧ M2 a 2 = 0) S0 (sz + 103)) gN := by
  obtain ⟨e0, e1, e7, e8⟩ := h_hist hS
  refine gMet.of (ls := [(0, .ref a)]) (by decide +kernel) (Nat.le_of_ble_eq_true rfl) rfl ?_
  refine gb_run 1 (pc2 := 1) (ls2 := [(0, .ref a)]) (st2 := [.ref a]) (M2 := M) hC hqX3_init rfl ?_
  refine gw_objInit hC (g_dec hqX3_init (q := (.invokespecial 3, 0, 0, 0)) rfl).1 (g_mem_tb (i := 462) (by decide +kernel)) (g_mem_tb (i := 31) (by decide +kernel)) (g_mem_tb (i := 32) (by decide +kernel)) (Nat.le_of_ble_eq_true rfl) (by omega) ?_
  refine gb_run 1 (pc2 := 5) (ls2 := [(0, .ref a)]) (st2 := [.ref a]) (M2 := M) hC hqX3_init rfl ?_
  refine gw_new (ci := 8) (Cn := RX8) (T := TX8) (N := 12) hC (g_dec hqX3_init (q := (.new 9, 0, 0, 0)) rfl).1 rfl (by decide) (g_mem_tb (i := 463) (by decide +kernel)) (g_mem_tb (i := 277) (by decide +kernel)) (g_mem_tb (i := 9) (by decide +kernel)) (by omega) (by omega) (Nat.le_of_ble_eq_true rfl) (Nat.le_of_ble_eq_true rfl) ?_
  rw [g_up1_zero (hM _ (by omega))]
  refine gb_run 1 (pc2 := 9) (ls2 := [(0, .ref a)]) (st2 := [.ref (a + 1), .ref (a + 1), .ref a]) (M2 := M) hC hqX3_init rfl ?_
  refine gw_invI (z := qX8_init) (a := a + 1) (av := []) (rest := [.ref (a + 1), .ref a]) hC (i_State hC (a + 1) (g_up1 S0 a (3, 3, g_fs TX3)) M (sz + 1) (d - 1) (by omega) (by omega) (by omega) (fun b hb => hM b (by omega)) (fun q hq => by rw [g_up1_ne (by omega)]; exact e1 q hq)) (fun _ _ h => h) (g_dec hqX3_init (q := (.invokespecial 11, 0, 0, 0)) rfl).1 (g_mem_tb (i := 464) (by decide +kernel)) rfl rfl (g_mem_tb kX8_init.1) (g_mem_tb kX8_init.2.1) (g_mem_tb kX8_init.2.2.1) kX8_init.2.2.2.1 (by omega) kX8_init.2.2.2.2 rfl rfl (Nat.le_of_ble_eq_true rfl) ⟨(Nat.le_of_ble_eq_true rfl), (Nat.le_of_ble_eq_true rfl)⟩ ?_
  rintro r X' ⟨rfl, M1, ⟨p1, p2, p3, p4⟩, rfl⟩
  refine gw_putref (a := a) (ci := 3) (k := 0) (N := 3) (r := a + 1) (Cn := RX3) (T := TX3) hC (g_dec hqX3_init (q := (.putfield 12, 3, 0, 1866)) rfl).1 rfl (by decide) (by decide) (g_mem_tb (i := 466) (by decide +kernel)) rfl rfl rfl rfl (fun _ => rfl) (fun _ => rfl) (by omega) (g_up1_at S0 a _) ?_
  rw [g_setS_up1]
  refine gb_run 2 (pc2 := 18) (ls2 := [(0, .ref a)]) (st2 := [.int 16, .ref a]) (M2 := M1) hC hqX3_init rfl ?_
  refine gw_newref (N := 16) (k := 1) (Cn := RX8) hC (g_dec hqX3_init (q := (.anewarray 9, 0, 0, 0)) rfl).1 (Or.inr ⟨rfl, rfl⟩) (g_mem_tb (i := 463) (by decide +kernel)) (by decide) (by decide) (by decide) (by omega) (by omega) (Nat.le_of_ble_eq_true rfl) (Nat.le_of_ble_eq_true rfl) ?_
  rw [g_up1_zero (p2 _ (by omega))]
  refine gw_putref (a := a) (ci := 3) (k := 1) (N := 3) (r := a + 1 + 6) (Cn := RX3) (T := TX3) hC (g_dec hqX3_init (q := (.putfield 18, 3, 1, 1874)) rfl).1 rfl (by decide) (by decide) (g_mem_tb (i := 468) (by decide +kernel)) rfl rfl rfl rfl (fun _ => rfl) (fun _ => rfl) (by omega) ((g_up1_ne (by omega)).trans (g_up1_at S0 a _)) ?_
  refine GW_shape (S2 := g_up1 S0 (a + 7) (g_pastU a 0)) (fun b hb => ?_) ?_
  · by_cases e : b = a + 7
    · rw [e, g_up1_at, g_setS_ne (by omega), show a + 1 + 6 = a + 7 by omega, g_up1_at]
      exact ⟨rfl, rfl, fun j hj => (if_neg (t := a + 10 + 6 * j) (Nat.not_lt_zero j)).symm⟩
    · rw [g_up1_ne e]
      by_cases e2 : b = a
      · unfold g_setS
        rw [if_pos e2, g_up1_ne (by omega), g_up1_at, e2, e0]
        refine ⟨rfl, rfl, fun j hj => ?_⟩
        have hj : j < 3 := hj
        rcases (show j = 0 ∨ j = 1 ∨ j = 2 by omega) with rfl | rfl | rfl
        · rfl
        · rfl
        · rfl
      · rw [g_setS_ne e2, g_up1_ne (by omega), g_up1_ne e2]
        exact ⟨rfl, rfl, fun _ _ => rfl⟩
  refine gb_run 2 (pc2 := 26) (ls2 := [(1, .int 0), (0, .ref a)]) (st2 := []) (M2 := M1) hC hqX3_init rfl ?_
  have := i_Hist_L hC a S0 hd h9 hS (Q := gQ0 a (a + 104) M (fun M2 => (∀ k, k < 8 → M2 (a + 5) k = -1 ∧ M2 (a + 2) k = 0 ∧ M2 (a + 3) k = 0 ∧ M2 (a + 4) k = 0 ∧ M2 (a + 6) k = 0) ∧ (∀ k, 5 ≤ k → k ≤ 11 → M2 (a + 1) k = 0) ∧ M2 a 2 = 0) S0 (sz + 103)) M1 (fun M2 h1 h2 => ⟨rfl, M2, ⟨fun b hb => (h1 b (by omega)).trans (p1 b (by omega)), h2, fun k hk => ?_, fun k q1 q2 => ?_, ?_⟩, by rw [show sz + 103 = g_b C + (a + 104) by omega]⟩) 16 0 M1 (sz + 1 + 5 + 1) (by decide) (by omega) (fun _ _ => rfl) (fun b hb => p2 b (by omega))
  · exact this
  · rw [h1 _ (by omega), h1 _ (by omega), h1 _ (by omega), h1 _ (by omega), h1 _ (by omega)]
    exact p3 k hk
  · rw [h1 _ (by omega)]; exact p4 k q1 q2
  · rw [h1 _ (by omega), p1 a (by omega), hM a (Nat.le_refl a)]
end IH
