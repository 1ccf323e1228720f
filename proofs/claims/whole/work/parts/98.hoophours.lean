/-! Constructors: HoopHours itself. -/
theorem s0_47 (q : Nat) (hq : q < 104) : g_S0 (47 + q) = g_hist 47 q := by
  unfold g_S0
  repeat' split
  all_goals first | omega | skip
  all_goals rw [show 47 + q - 47 = q by omega]
theorem s0_img (i : Nat) (hi : i < 3) (q : Nat) (hq : q < 104) : g_S0 (152 + 104 * i + q) = g_hist (152 + 104 * i) q := by
  unfold g_S0
  repeat' split
  all_goals first | omega | skip
  all_goals rw [show (152 + 104 * i + q - 152) % 104 = q by omega, show 152 + 104 * i + q - q = 152 + 104 * i by omega]
def g_imgU (i : Nat) : gT := (21, 3, fun j => if j < i then 104 * j + 154 else 1)
/-- what a new object of the class holds -/
def ic0 (M : gM) : Prop := (∀ k, M 0 k = 0) ∧ (M 1 6 = -1 ∧ M 1 1 = 0) ∧ (M 3 8 = 60 ∧ M 3 9 = 5 ∧ ∀ k, k < 8 → M 3 k = 0) ∧ M 15 = (fun _ => 0) ∧ (M 23 1 = 0 ∧ ∀ g, g < 8 → M 24 g = -1) ∧ (∀ k, k < 8 → M 52 k = -1 ∧ M 49 k = 0 ∧ M 50 k = 0 ∧ M 51 k = 0 ∧ M 53 k = 0) ∧ (∀ k, 5 ≤ k → k ≤ 11 → M 48 k = 0) ∧ M 47 2 = 0
section IHH
variable {l : Launch} {C : gC} {d : Nat}
theorem i_HH_L (hC : g_ctx l C) (hd : 6 ≤ d) {Q : Option Value → gX → Prop} (M0 : gM) (hQ : ∀ M, (∀ b, b < 152 → M b = M0 b) → (∀ b, 464 ≤ b → M b = fun _ => 0) → Q none (464, g_S0, M, g_b C + 464)) : ∀ (k i : Nat) (M : gM) (sz : Nat), i + k = 3 → sz = g_b C + (152 + 104 * i) → (∀ b, b < 152 → M b = M0 b) → (∀ b, 152 + 104 * i ≤ b → M b = fun _ => 0) → GW l C qX11_init d Q gN (151 + 104 * i) (4327 + 903 * i) 201 [(1, .int (nI i)), (0, .ref 0)] [] (152 + 104 * i, g_up1 g_S0 151 (g_imgU i), M, sz) := by
  have e0 : g_S0 0 = (11, 18, (g_S0 0).2.2) := rfl
  intro k
  induction k with
  | zero =>
    intro i M sz hi hz h1 h2
    have hi : i = 3 := by omega
    subst hi
    refine GW_made (S0 := g_S0) ⟨rfl, rfl, fun j hj => if_pos hj⟩ ?_
    refine gb_run 2 (pc2 := 203) (ls2 := [(1, .int (nI 3)), (0, .ref 0)]) (st2 := [.ref 0, .int (nI 3)]) (M2 := M) hC hqX11_init rfl ?_
    refine gz_getr (q := 151) hC hqX11_init rfl (by omega) e0 rfl rfl ?_
    refine gb_alenq (nn := 3) (rf := fun j => 104 * j + 154) (k0 := 0) hC hqX11_init rfl (by omega) rfl (by decide) ?_
    refine gb_icmp_ge hqX11_init rfl (fun _ => ?_) (fun h => absurd (show nI 3 ≤ nI 3 from Int32.le_refl _) h)
    refine gb_vret hqX11_init rfl rfl (by decide) (by decide) ?_
    have := hQ M h1 h2
    rw [hz]
    exact this
  | succ k ih =>
    intro i M sz hi hz h1 h2
    have i16 : i < 3 := by omega
    have e1 : g_up1 g_S0 151 (g_imgU i) 0 = (11, 18, (g_S0 0).2.2) := g_up1_ne (by decide)
    refine gb_run 2 (pc2 := 203) (ls2 := [(1, .int (nI i)), (0, .ref 0)]) (st2 := [.ref 0, .int (nI i)]) (M2 := M) hC hqX11_init rfl ?_
    refine gz_getr (q := 151) hC hqX11_init rfl (by omega) e1 rfl rfl ?_
    refine gb_alenq (k0 := 0) hC hqX11_init rfl (by omega) (g_up1_at g_S0 151 _) (by decide) ?_
    refine gb_icmp_ge hqX11_init rfl (fun h => absurd h (nI_ge i16 (by decide))) (fun _ => ?_)
    refine gb_run 1 (pc2 := 211) (ls2 := [(1, .int (nI i)), (0, .ref 0)]) (st2 := [.ref 0]) (M2 := M) hC hqX11_init rfl ?_
    refine gz_getr (q := 151) hC hqX11_init rfl (by omega) e1 rfl rfl ?_
    refine gb_run 1 (pc2 := 215) (ls2 := [(1, .int (nI i)), (0, .ref 0)]) (st2 := [.int (nI i), .ref 151]) (M2 := M) hC hqX11_init rfl ?_
    refine gw_new (ci := 3) (Cn := RX3) (T := TX3) (N := 3) hC (g_dec hqX11_init (q := (.new 87, 0, 0, 0)) rfl).1 rfl (by decide) (g_mem_tb (i := 457) (by decide +kernel)) (g_mem_tb (i := 458) (by decide +kernel)) (g_mem_tb (i := 12) (by decide +kernel)) (by omega) hz (by show 151 + 104 * i + 1 ≤ 463; omega) (by show 4327 + 903 * i + 3 ≤ 7036; omega) ?_
    rw [g_up1_zero (h2 _ (Nat.le_refl _))]
    refine gb_run 1 (pc2 := 219) (ls2 := [(1, .int (nI i)), (0, .ref 0)]) (st2 := [.ref (152 + 104 * i), .ref (152 + 104 * i), .int (nI i), .ref 151]) (M2 := M) hC hqX11_init rfl ?_
    refine gw_invI (z := qX3_init) (a := 152 + 104 * i) (av := []) (rest := [.ref (152 + 104 * i), .int (nI i), .ref 151]) hC (i_Hist (d := d - 1) hC (152 + 104 * i) (g_up1 g_S0 151 (g_imgU i)) M (sz + 1) (by omega) (by omega) (by omega) h2 (fun q hq => by rw [g_up1_ne (by omega)]; exact s0_img i i16 q hq)) (fun _ _ h => h) (g_dec hqX11_init (q := (.invokespecial 89, 0, 0, 0)) rfl).1 (g_mem_tb (i := 459) (by decide +kernel)) rfl rfl (g_mem_tb kX3_init.1) (g_mem_tb kX3_init.2.1) (g_mem_tb kX3_init.2.2.1) kX3_init.2.2.2.1 (by omega) kX3_init.2.2.2.2 rfl rfl (Nat.le_of_ble_eq_true rfl) ⟨by show 151 + 104 * i + 1 + 103 ≤ 463; omega, by show 4327 + 903 * i + 3 + 900 ≤ 7036; omega⟩ ?_
    rintro r X' ⟨rfl, M2, ⟨p1, p2, -⟩, rfl⟩
    have eS : g_up1 g_S0 151 (g_imgU i) (152 + 104 * i) = (3, 3, fun j => if j = 0 then 152 + 104 * i + 3 else if j = 1 then 152 + 104 * i + 9 else 0) := by
      rw [g_up1_ne (by omega)]
      exact s0_img i i16 0 (by decide)
    refine gw_aastore (a := 151) (k := 0) (Cn := RX3) (T := TX3) (r := 152 + 104 * i) hC (g_dec hqX11_init (q := (.aastore, 0, 0, 0)) rfl).1 (by omega) (g_up1_at g_S0 151 _) (Or.inl ⟨rfl, rfl⟩) (by omega) eS (by decide) rfl (vp_in_nI i16 (by decide)) ?_
    rw [nI_clamp (by omega)]
    unfold g_imgU
    rw [g_setS_up1]
    refine GW_shape (S2 := g_up1 g_S0 151 (g_imgU (i + 1))) (fun b hb => ?_) ?_
    · by_cases e : b = 151
      · rw [e, g_up1_at, g_up1_at]
        refine ⟨rfl, rfl, fun j hj => ?_⟩
        show (if j = i then 152 + 104 * i + 2 else if j < i then 104 * j + 154 else 1) = if j < i + 1 then 104 * j + 154 else 1
        by_cases z : j = i
        · rw [if_pos z, if_pos (by omega), z]; omega
        · rw [if_neg z]
          by_cases z2 : j < i
          · rw [if_pos z2, if_pos (by omega)]
          · rw [if_neg z2, if_neg (by omega)]
      · rw [g_up1_ne e, g_up1_ne e]
        exact ⟨rfl, rfl, fun _ _ => rfl⟩
    refine gb_run 2 (pc2 := 201) (ls2 := [(1, .int (nI i + 1)), (0, .ref 0)]) (st2 := []) (M2 := M2) hC hqX11_init rfl ?_
    rw [nI_1 i]
    have := ih (i + 1) M2 (sz + 1 + 103) (by omega) (by omega) (fun b hb => (p1 b (by omega)).trans (h1 b hb)) (fun b hb => p2 b (by omega))
    rw [show 151 + 104 * (i + 1) = 151 + 104 * i + 1 + 103 by omega, show 4327 + 903 * (i + 1) = 4327 + 903 * i + 3 + 900 by omega, show 152 + 104 * (i + 1) = 152 + 104 * i + 104 by omega] at this
    exact this

set_option maxRecDepth 20000 in
theorem i_HH (hC : g_ctx l C) (M0 : gM) (sz : Nat) (hd : 7 ≤ d) (hz : sz = g_b C) (h0 : ∀ b, 0 ≤ b → M0 b = fun _ => 0) : gMet l C qX11_init d [.ref 0] (1, g_up1 g_S0 0 (11, 18, g_fs TX11), M0, sz + 1) (fun r X => r = none ∧ ∃ M2, (ic0 M2 ∧ ∀ b, 464 ≤ b → M2 b = fun _ => 0) ∧ X = (464, g_S0, M2, g_b C + 464)) gN := by
  refine gMet.of (ls := [(0, .ref 0)]) (by decide +kernel) (Nat.le_of_ble_eq_true rfl) rfl ?_
  refine gb_run 1 (pc2 := 1) (ls2 := [(0, .ref 0)]) (st2 := [.ref 0]) (M2 := M0) hC hqX11_init rfl ?_
  refine gw_objInit hC (g_dec hqX11_init (q := (.invokespecial 1, 0, 0, 0)) rfl).1 (g_mem_tb (i := 30) (by decide +kernel)) (g_mem_tb (i := 31) (by decide +kernel)) (g_mem_tb (i := 32) (by decide +kernel)) (Nat.le_of_ble_eq_true rfl) (by omega) ?_
  refine gb_run 1 (pc2 := 5) (ls2 := [(0, .ref 0)]) (st2 := [.ref 0]) (M2 := M0) hC hqX11_init rfl ?_
  refine gw_new (ci := 10) (Cn := RX10) (T := TX10) (N := 7) hC (g_dec hqX11_init (q := (.new 7, 0, 0, 0)) rfl).1 rfl (by decide) (g_mem_tb (i := 33) (by decide +kernel)) (g_mem_tb (i := 34) (by decide +kernel)) (g_mem_tb (i := 2) (by decide +kernel)) (by decide) (by omega) (Nat.le_of_ble_eq_true rfl) (Nat.le_of_ble_eq_true rfl) ?_
  rw [g_up1_zero (h0 1 (by decide))]
  refine gb_run 1 (pc2 := 9) (ls2 := [(0, .ref 0)]) (st2 := [.ref 1, .ref 1, .ref 0]) (M2 := M0) hC hqX11_init rfl ?_
  refine gw_invIN (host := "HoopHours") (z := qX10_init) (a := 1) (av := []) (rest := [.ref 1, .ref 0]) hC (i_Tape hC 1 (g_up1 g_S0 0 (11, 18, g_fs TX11)) M0 _ (d - 1) (by omega) (by omega) (by decide) (fun b hb => h0 b (by omega)) rfl (by decide +kernel)) (fun _ _ h => h) (g_dec hqX11_init (q := (.invokespecial 9, 0, 0, 0)) rfl).1 (g_mem_tb (i := 35) (by decide +kernel)) rfl rfl (g_mem_tb kX10_init.1) (g_mem_tb kX10_init.2.1) (g_mem_tb kX10_init.2.2.1) kX10_init.2.2.2.1 (by omega) kX10_init.2.2.2.2 rfl rfl (Nat.le_of_ble_eq_true rfl) ⟨(Nat.le_of_ble_eq_true rfl), (Nat.le_of_ble_eq_true rfl)⟩ ?_
  rintro r X' ⟨rfl, M1, ⟨p1, z1, f1⟩, rfl⟩
  have h1 : ∀ b, 3 ≤ b → M1 b = fun _ => 0 := z1
  refine gw_putref (a := 0) (ci := 11) (k := 0) (N := 18) (r := 1) (Cn := RX11) (T := TX11) hC (g_dec hqX11_init (q := (.putfield 10, 11, 0, 1918)) rfl).1 rfl (by decide) (by decide) (g_mem_tb (i := 479) (by decide +kernel)) rfl rfl rfl rfl (fun _ => rfl) (fun _ => rfl) (by decide) (g_up1_at g_S0 0 _) ?_
  rw [g_setS_up1]
  refine gb_run 1 (pc2 := 16) (ls2 := [(0, .ref 0)]) (st2 := [.ref 0]) (M2 := M1) hC hqX11_init rfl ?_
  refine gw_new (ci := 6) (Cn := RX6) (T := TX6) (N := 10) hC (g_dec hqX11_init (q := (.new 16, 0, 0, 0)) rfl).1 rfl (by decide) (g_mem_tb (i := 70) (by decide +kernel)) (g_mem_tb (i := 71) (by decide +kernel)) (g_mem_tb (i := 3) (by decide +kernel)) (by decide) (by omega) (Nat.le_of_ble_eq_true rfl) (Nat.le_of_ble_eq_true rfl) ?_
  rw [g_up1_zero (h1 3 (by decide))]
  refine gb_run 1 (pc2 := 20) (ls2 := [(0, .ref 0)]) (st2 := [.ref 3, .ref 3, .ref 0]) (M2 := M1) hC hqX11_init rfl ?_
  refine gw_invIN (host := "HoopHours") (z := qX6_init) (a := 3) (av := []) (rest := [.ref 3, .ref 0]) hC (i_Park hC 3 (g_up1 g_S0 0 (11, 18, fun j => if j = 0 then 1 + 2 else g_fs TX11 j)) M1 _ (d - 1) (by omega) (by omega) (by decide) (fun b hb => h1 b (by omega)) rfl rfl rfl rfl rfl (by decide +kernel)) (fun _ _ h => h) (g_dec hqX11_init (q := (.invokespecial 18, 0, 0, 0)) rfl).1 (g_mem_tb (i := 72) (by decide +kernel)) rfl rfl (g_mem_tb kX6_init.1) (g_mem_tb kX6_init.2.1) (g_mem_tb kX6_init.2.2.1) kX6_init.2.2.2.1 (by omega) kX6_init.2.2.2.2 rfl rfl (Nat.le_of_ble_eq_true rfl) ⟨(Nat.le_of_ble_eq_true rfl), (Nat.le_of_ble_eq_true rfl)⟩ ?_
  rintro r X' ⟨rfl, M2, ⟨p2, z2, f2⟩, rfl⟩
  have h2 : ∀ b, 9 ≤ b → M2 b = fun _ => 0 := z2
  refine gw_putref (a := 0) (ci := 11) (k := 1) (N := 18) (r := 3) (Cn := RX11) (T := TX11) hC (g_dec hqX11_init (q := (.putfield 19, 11, 1, 1922)) rfl).1 rfl (by decide) (by decide) (g_mem_tb (i := 480) (by decide +kernel)) rfl rfl rfl rfl (fun _ => rfl) (fun _ => rfl) (by decide) (g_up1_at g_S0 0 _) ?_
  rw [g_setS_up1]
  refine gb_run 1 (pc2 := 27) (ls2 := [(0, .ref 0)]) (st2 := [.ref 0]) (M2 := M2) hC hqX11_init rfl ?_
  refine gw_new (ci := 6) (Cn := RX6) (T := TX6) (N := 10) hC (g_dec hqX11_init (q := (.new 16, 0, 0, 0)) rfl).1 rfl (by decide) (g_mem_tb (i := 70) (by decide +kernel)) (g_mem_tb (i := 71) (by decide +kernel)) (g_mem_tb (i := 3) (by decide +kernel)) (by decide) (by omega) (Nat.le_of_ble_eq_true rfl) (Nat.le_of_ble_eq_true rfl) ?_
  rw [g_up1_zero (h2 9 (by decide))]
  refine gb_run 1 (pc2 := 31) (ls2 := [(0, .ref 0)]) (st2 := [.ref 9, .ref 9, .ref 0]) (M2 := M2) hC hqX11_init rfl ?_
  refine gw_invIN (host := "HoopHours") (z := qX6_init) (a := 9) (av := []) (rest := [.ref 9, .ref 0]) hC (i_Park hC 9 (g_up1 g_S0 0 (11, 18, fun j => if j = 1 then 3 + 2 else if j = 0 then 1 + 2 else g_fs TX11 j)) M2 _ (d - 1) (by omega) (by omega) (by decide) (fun b hb => h2 b (by omega)) rfl rfl rfl rfl rfl (by decide +kernel)) (fun _ _ h => h) (g_dec hqX11_init (q := (.invokespecial 18, 0, 0, 0)) rfl).1 (g_mem_tb (i := 72) (by decide +kernel)) rfl rfl (g_mem_tb kX6_init.1) (g_mem_tb kX6_init.2.1) (g_mem_tb kX6_init.2.2.1) kX6_init.2.2.2.1 (by omega) kX6_init.2.2.2.2 rfl rfl (Nat.le_of_ble_eq_true rfl) ⟨(Nat.le_of_ble_eq_true rfl), (Nat.le_of_ble_eq_true rfl)⟩ ?_
  rintro r X' ⟨rfl, M3, ⟨p3, z3, f3⟩, rfl⟩
  have h3 : ∀ b, 15 ≤ b → M3 b = fun _ => 0 := z3
  refine gw_putref (a := 0) (ci := 11) (k := 2) (N := 18) (r := 9) (Cn := RX11) (T := TX11) hC (g_dec hqX11_init (q := (.putfield 23, 11, 2, 1926)) rfl).1 rfl (by decide) (by decide) (g_mem_tb (i := 481) (by decide +kernel)) rfl rfl rfl rfl (fun _ => rfl) (fun _ => rfl) (by decide) (g_up1_at g_S0 0 _) ?_
  rw [g_setS_up1]
  refine gb_run 1 (pc2 := 38) (ls2 := [(0, .ref 0)]) (st2 := [.ref 0]) (M2 := M3) hC hqX11_init rfl ?_
  refine gw_new (ci := 4) (Cn := RX4) (T := TX4) (N := 14) hC (g_dec hqX11_init (q := (.new 26, 0, 0, 0)) rfl).1 rfl (by decide) (g_mem_tb (i := 131) (by decide +kernel)) (g_mem_tb (i := 132) (by decide +kernel)) (g_mem_tb (i := 4) (by decide +kernel)) (by decide) (by omega) (Nat.le_of_ble_eq_true rfl) (Nat.le_of_ble_eq_true rfl) ?_
  rw [g_up1_zero (h3 15 (by decide))]
  refine gb_run 1 (pc2 := 42) (ls2 := [(0, .ref 0)]) (st2 := [.ref 15, .ref 15, .ref 0]) (M2 := M3) hC hqX11_init rfl ?_
  refine gw_invIN (host := "HoopHours") (z := qX4_init) (a := 15) (av := []) (rest := [.ref 15, .ref 0]) hC (i_Law hC 15 (g_up1 g_S0 0 (11, 18, fun j => if j = 2 then 9 + 2 else if j = 1 then 3 + 2 else if j = 0 then 1 + 2 else g_fs TX11 j)) M3 _ (d - 1) (by omega) (by omega) (by decide) (fun b hb => h3 b (by omega)) rfl rfl rfl (by decide +kernel)) (fun _ _ h => h) (g_dec hqX11_init (q := (.invokespecial 28, 0, 0, 0)) rfl).1 (g_mem_tb (i := 133) (by decide +kernel)) rfl rfl (g_mem_tb kX4_init.1) (g_mem_tb kX4_init.2.1) (g_mem_tb kX4_init.2.2.1) kX4_init.2.2.2.1 (by omega) kX4_init.2.2.2.2 rfl rfl (Nat.le_of_ble_eq_true rfl) ⟨(Nat.le_of_ble_eq_true rfl), (Nat.le_of_ble_eq_true rfl)⟩ ?_
  rintro r X' ⟨rfl, M4, ⟨p4, z4, f4⟩, rfl⟩
  have h4 : ∀ b, 19 ≤ b → M4 b = fun _ => 0 := z4
  refine gw_putref (a := 0) (ci := 11) (k := 3) (N := 18) (r := 15) (Cn := RX11) (T := TX11) hC (g_dec hqX11_init (q := (.putfield 29, 11, 3, 1930)) rfl).1 rfl (by decide) (by decide) (g_mem_tb (i := 482) (by decide +kernel)) rfl rfl rfl rfl (fun _ => rfl) (fun _ => rfl) (by decide) (g_up1_at g_S0 0 _) ?_
  rw [g_setS_up1]
  refine gb_run 1 (pc2 := 49) (ls2 := [(0, .ref 0)]) (st2 := [.ref 0]) (M2 := M4) hC hqX11_init rfl ?_
  refine gw_new (ci := 4) (Cn := RX4) (T := TX4) (N := 14) hC (g_dec hqX11_init (q := (.new 26, 0, 0, 0)) rfl).1 rfl (by decide) (g_mem_tb (i := 131) (by decide +kernel)) (g_mem_tb (i := 132) (by decide +kernel)) (g_mem_tb (i := 4) (by decide +kernel)) (by decide) (by omega) (Nat.le_of_ble_eq_true rfl) (Nat.le_of_ble_eq_true rfl) ?_
  rw [g_up1_zero (h4 19 (by decide))]
  refine gb_run 1 (pc2 := 53) (ls2 := [(0, .ref 0)]) (st2 := [.ref 19, .ref 19, .ref 0]) (M2 := M4) hC hqX11_init rfl ?_
  refine gw_invIN (host := "HoopHours") (z := qX4_init) (a := 19) (av := []) (rest := [.ref 19, .ref 0]) hC (i_Law hC 19 (g_up1 g_S0 0 (11, 18, fun j => if j = 3 then 15 + 2 else if j = 2 then 9 + 2 else if j = 1 then 3 + 2 else if j = 0 then 1 + 2 else g_fs TX11 j)) M4 _ (d - 1) (by omega) (by omega) (by decide) (fun b hb => h4 b (by omega)) rfl rfl rfl (by decide +kernel)) (fun _ _ h => h) (g_dec hqX11_init (q := (.invokespecial 28, 0, 0, 0)) rfl).1 (g_mem_tb (i := 133) (by decide +kernel)) rfl rfl (g_mem_tb kX4_init.1) (g_mem_tb kX4_init.2.1) (g_mem_tb kX4_init.2.2.1) kX4_init.2.2.2.1 (by omega) kX4_init.2.2.2.2 rfl rfl (Nat.le_of_ble_eq_true rfl) ⟨(Nat.le_of_ble_eq_true rfl), (Nat.le_of_ble_eq_true rfl)⟩ ?_
  rintro r X' ⟨rfl, M5, ⟨p5, z5, f5⟩, rfl⟩
  have h5 : ∀ b, 23 ≤ b → M5 b = fun _ => 0 := z5
  refine gw_putref (a := 0) (ci := 11) (k := 4) (N := 18) (r := 19) (Cn := RX11) (T := TX11) hC (g_dec hqX11_init (q := (.putfield 33, 11, 4, 1934)) rfl).1 rfl (by decide) (by decide) (g_mem_tb (i := 483) (by decide +kernel)) rfl rfl rfl rfl (fun _ => rfl) (fun _ => rfl) (by decide) (g_up1_at g_S0 0 _) ?_
  rw [g_setS_up1]
  refine gb_run 1 (pc2 := 60) (ls2 := [(0, .ref 0)]) (st2 := [.ref 0]) (M2 := M5) hC hqX11_init rfl ?_
  refine gw_new (ci := 7) (Cn := RX7) (T := TX7) (N := 2) hC (g_dec hqX11_init (q := (.new 36, 0, 0, 0)) rfl).1 rfl (by decide) (g_mem_tb (i := 198) (by decide +kernel)) (g_mem_tb (i := 199) (by decide +kernel)) (g_mem_tb (i := 5) (by decide +kernel)) (by decide) (by omega) (Nat.le_of_ble_eq_true rfl) (Nat.le_of_ble_eq_true rfl) ?_
  rw [g_up1_zero (h5 23 (by decide))]
  refine gb_run 1 (pc2 := 64) (ls2 := [(0, .ref 0)]) (st2 := [.ref 23, .ref 23, .ref 0]) (M2 := M5) hC hqX11_init rfl ?_
  refine gw_invI (z := qX7_init) (a := 23) (av := []) (rest := [.ref 23, .ref 0]) hC (i_Songs hC 23 (g_up1 g_S0 0 (11, 18, fun j => if j = 4 then 19 + 2 else if j = 3 then 15 + 2 else if j = 2 then 9 + 2 else if j = 1 then 3 + 2 else if j = 0 then 1 + 2 else g_fs TX11 j)) M5 _ (d - 1) (by omega) (by omega) (by decide) (fun b hb => h5 b (by omega)) rfl (by decide +kernel)) (fun _ _ h => h) (g_dec hqX11_init (q := (.invokespecial 38, 0, 0, 0)) rfl).1 (g_mem_tb (i := 200) (by decide +kernel)) rfl rfl (g_mem_tb kX7_init.1) (g_mem_tb kX7_init.2.1) (g_mem_tb kX7_init.2.2.1) kX7_init.2.2.2.1 (by omega) kX7_init.2.2.2.2 rfl rfl (Nat.le_of_ble_eq_true rfl) ⟨(Nat.le_of_ble_eq_true rfl), (Nat.le_of_ble_eq_true rfl)⟩ ?_
  rintro r X' ⟨rfl, M6, ⟨p6, z6, f6⟩, rfl⟩
  have h6 : ∀ b, 25 ≤ b → M6 b = fun _ => 0 := z6
  refine gw_putref (a := 0) (ci := 11) (k := 5) (N := 18) (r := 23) (Cn := RX11) (T := TX11) hC (g_dec hqX11_init (q := (.putfield 39, 11, 5, 1938)) rfl).1 rfl (by decide) (by decide) (g_mem_tb (i := 484) (by decide +kernel)) rfl rfl rfl rfl (fun _ => rfl) (fun _ => rfl) (by decide) (g_up1_at g_S0 0 _) ?_
  rw [g_setS_up1]
  refine gb_run 1 (pc2 := 71) (ls2 := [(0, .ref 0)]) (st2 := [.ref 0]) (M2 := M6) hC hqX11_init rfl ?_
  refine gw_new (ci := 7) (Cn := RX7) (T := TX7) (N := 2) hC (g_dec hqX11_init (q := (.new 36, 0, 0, 0)) rfl).1 rfl (by decide) (g_mem_tb (i := 198) (by decide +kernel)) (g_mem_tb (i := 199) (by decide +kernel)) (g_mem_tb (i := 5) (by decide +kernel)) (by decide) (by omega) (Nat.le_of_ble_eq_true rfl) (Nat.le_of_ble_eq_true rfl) ?_
  rw [g_up1_zero (h6 25 (by decide))]
  refine gb_run 1 (pc2 := 75) (ls2 := [(0, .ref 0)]) (st2 := [.ref 25, .ref 25, .ref 0]) (M2 := M6) hC hqX11_init rfl ?_
  refine gw_invI (z := qX7_init) (a := 25) (av := []) (rest := [.ref 25, .ref 0]) hC (i_Songs hC 25 (g_up1 g_S0 0 (11, 18, fun j => if j = 5 then 23 + 2 else if j = 4 then 19 + 2 else if j = 3 then 15 + 2 else if j = 2 then 9 + 2 else if j = 1 then 3 + 2 else if j = 0 then 1 + 2 else g_fs TX11 j)) M6 _ (d - 1) (by omega) (by omega) (by decide) (fun b hb => h6 b (by omega)) rfl (by decide +kernel)) (fun _ _ h => h) (g_dec hqX11_init (q := (.invokespecial 38, 0, 0, 0)) rfl).1 (g_mem_tb (i := 200) (by decide +kernel)) rfl rfl (g_mem_tb kX7_init.1) (g_mem_tb kX7_init.2.1) (g_mem_tb kX7_init.2.2.1) kX7_init.2.2.2.1 (by omega) kX7_init.2.2.2.2 rfl rfl (Nat.le_of_ble_eq_true rfl) ⟨(Nat.le_of_ble_eq_true rfl), (Nat.le_of_ble_eq_true rfl)⟩ ?_
  rintro r X' ⟨rfl, M7, ⟨p7, z7, f7⟩, rfl⟩
  have h7 : ∀ b, 27 ≤ b → M7 b = fun _ => 0 := z7
  refine gw_putref (a := 0) (ci := 11) (k := 6) (N := 18) (r := 25) (Cn := RX11) (T := TX11) hC (g_dec hqX11_init (q := (.putfield 43, 11, 6, 1942)) rfl).1 rfl (by decide) (by decide) (g_mem_tb (i := 485) (by decide +kernel)) rfl rfl rfl rfl (fun _ => rfl) (fun _ => rfl) (by decide) (g_up1_at g_S0 0 _) ?_
  rw [g_setS_up1]
  refine gb_run 1 (pc2 := 82) (ls2 := [(0, .ref 0)]) (st2 := [.ref 0]) (M2 := M7) hC hqX11_init rfl ?_
  refine gw_new (ci := 0) (Cn := RX0) (T := TX0) (N := 2) hC (g_dec hqX11_init (q := (.new 46, 0, 0, 0)) rfl).1 rfl (by decide) (g_mem_tb (i := 220) (by decide +kernel)) (g_mem_tb (i := 221) (by decide +kernel)) (g_mem_tb (i := 6) (by decide +kernel)) (by decide) (by omega) (Nat.le_of_ble_eq_true rfl) (Nat.le_of_ble_eq_true rfl) ?_
  rw [g_up1_zero (h7 27 (by decide))]
  refine gb_run 2 (pc2 := 87) (ls2 := [(0, .ref 0)]) (st2 := [.ref 0, .ref 27, .ref 27, .ref 0]) (M2 := M7) hC hqX11_init rfl ?_
  refine gz_getr (q := 3) hC hqX11_init rfl (by decide) (g_up1_at g_S0 0 _) rfl rfl ?_
  refine gb_run 1 (pc2 := 91) (ls2 := [(0, .ref 0)]) (st2 := [.ref 0, .ref 3, .ref 27, .ref 27, .ref 0]) (M2 := M7) hC hqX11_init rfl ?_
  refine gz_getr (q := 15) hC hqX11_init rfl (by decide) (g_up1_at g_S0 0 _) rfl rfl ?_
  refine gw_invI (z := qX0_init) (a := 27) (av := [.ref 3, .ref 15]) (rest := [.ref 27, .ref 0]) hC (i_Bowling hC 27 3 15 (g_up1 g_S0 0 (11, 18, fun j => if j = 6 then 25 + 2 else if j = 5 then 23 + 2 else if j = 4 then 19 + 2 else if j = 3 then 15 + 2 else if j = 2 then 9 + 2 else if j = 1 then 3 + 2 else if j = 0 then 1 + 2 else g_fs TX11 j)) M7 _ (d - 1) (by omega) (by omega) (by decide) (fun b hb => h7 b (by omega))  (by decide +kernel)) (fun _ _ h => h) (g_dec hqX11_init (q := (.invokespecial 48, 0, 0, 0)) rfl).1 (g_mem_tb (i := 222) (by decide +kernel)) rfl rfl (g_mem_tb kX0_init.1) (g_mem_tb kX0_init.2.1) (g_mem_tb kX0_init.2.2.1) kX0_init.2.2.2.1 (by omega) kX0_init.2.2.2.2 rfl rfl (Nat.le_of_ble_eq_true rfl) ⟨(Nat.le_of_ble_eq_true rfl), (Nat.le_of_ble_eq_true rfl)⟩ ?_
  rintro r X' ⟨rfl, M8, ⟨p8, z8, f8⟩, rfl⟩
  have h8 : ∀ b, 28 ≤ b → M8 b = fun _ => 0 := z8
  refine gw_putref (a := 0) (ci := 11) (k := 7) (N := 18) (r := 27) (Cn := RX11) (T := TX11) hC (g_dec hqX11_init (q := (.putfield 51, 11, 7, 1946)) rfl).1 rfl (by decide) (by decide) (g_mem_tb (i := 486) (by decide +kernel)) rfl rfl rfl rfl (fun _ => rfl) (fun _ => rfl) (by decide) (g_up1_at g_S0 0 _) ?_
  rw [g_setS_up1]
  refine gb_run 1 (pc2 := 101) (ls2 := [(0, .ref 0)]) (st2 := [.ref 0]) (M2 := M8) hC hqX11_init rfl ?_
  refine gw_new (ci := 9) (Cn := RX9) (T := TX9) (N := 9) hC (g_dec hqX11_init (q := (.new 55, 0, 0, 0)) rfl).1 rfl (by decide) (g_mem_tb (i := 233) (by decide +kernel)) (g_mem_tb (i := 234) (by decide +kernel)) (g_mem_tb (i := 7) (by decide +kernel)) (by decide) (by omega) (Nat.le_of_ble_eq_true rfl) (Nat.le_of_ble_eq_true rfl) ?_
  rw [g_up1_zero (h8 28 (by decide))]
  refine gb_run 2 (pc2 := 106) (ls2 := [(0, .ref 0)]) (st2 := [.ref 0, .ref 28, .ref 28, .ref 0]) (M2 := M8) hC hqX11_init rfl ?_
  refine gz_getr (q := 3) hC hqX11_init rfl (by decide) (g_up1_at g_S0 0 _) rfl rfl ?_
  refine gb_run 1 (pc2 := 110) (ls2 := [(0, .ref 0)]) (st2 := [.ref 0, .ref 3, .ref 28, .ref 28, .ref 0]) (M2 := M8) hC hqX11_init rfl ?_
  refine gz_getr (q := 27) hC hqX11_init rfl (by decide) (g_up1_at g_S0 0 _) rfl rfl ?_
  refine gw_invI (z := qX9_init) (a := 28) (av := [.ref 3, .ref 27]) (rest := [.ref 28, .ref 0]) hC (i_Steps hC 28 3 27 (g_up1 g_S0 0 (11, 18, fun j => if j = 7 then 27 + 2 else if j = 6 then 25 + 2 else if j = 5 then 23 + 2 else if j = 4 then 19 + 2 else if j = 3 then 15 + 2 else if j = 2 then 9 + 2 else if j = 1 then 3 + 2 else if j = 0 then 1 + 2 else g_fs TX11 j)) M8 _ (d - 1) (by omega) (by omega) (by decide) (fun b hb => h8 b (by omega)) rfl rfl rfl (by decide +kernel)) (fun _ _ h => h) (g_dec hqX11_init (q := (.invokespecial 57, 0, 0, 0)) rfl).1 (g_mem_tb (i := 235) (by decide +kernel)) rfl rfl (g_mem_tb kX9_init.1) (g_mem_tb kX9_init.2.1) (g_mem_tb kX9_init.2.2.1) kX9_init.2.2.2.1 (by omega) kX9_init.2.2.2.2 rfl rfl (Nat.le_of_ble_eq_true rfl) ⟨(Nat.le_of_ble_eq_true rfl), (Nat.le_of_ble_eq_true rfl)⟩ ?_
  rintro r X' ⟨rfl, M9, ⟨p9, z9, f9⟩, rfl⟩
  have h9 : ∀ b, 32 ≤ b → M9 b = fun _ => 0 := z9
  refine gw_putref (a := 0) (ci := 11) (k := 8) (N := 18) (r := 28) (Cn := RX11) (T := TX11) hC (g_dec hqX11_init (q := (.putfield 60, 11, 8, 1950)) rfl).1 rfl (by decide) (by decide) (g_mem_tb (i := 487) (by decide +kernel)) rfl rfl rfl rfl (fun _ => rfl) (fun _ => rfl) (by decide) (g_up1_at g_S0 0 _) ?_
  rw [g_setS_up1]
  refine gb_run 1 (pc2 := 120) (ls2 := [(0, .ref 0)]) (st2 := [.ref 0]) (M2 := M9) hC hqX11_init rfl ?_
  refine gw_new (ci := 1) (Cn := RX1) (T := TX1) (N := 8) hC (g_dec hqX11_init (q := (.new 64, 0, 0, 0)) rfl).1 rfl (by decide) (g_mem_tb (i := 270) (by decide +kernel)) (g_mem_tb (i := 271) (by decide +kernel)) (g_mem_tb (i := 8) (by decide +kernel)) (by decide) (by omega) (Nat.le_of_ble_eq_true rfl) (Nat.le_of_ble_eq_true rfl) ?_
  rw [g_up1_zero (h9 32 (by decide))]
  refine gb_run 2 (pc2 := 125) (ls2 := [(0, .ref 0)]) (st2 := [.ref 0, .ref 32, .ref 32, .ref 0]) (M2 := M9) hC hqX11_init rfl ?_
  refine gz_getr (q := 3) hC hqX11_init rfl (by decide) (g_up1_at g_S0 0 _) rfl rfl ?_
  refine gb_run 1 (pc2 := 129) (ls2 := [(0, .ref 0)]) (st2 := [.ref 0, .ref 3, .ref 32, .ref 32, .ref 0]) (M2 := M9) hC hqX11_init rfl ?_
  refine gz_getr (q := 27) hC hqX11_init rfl (by decide) (g_up1_at g_S0 0 _) rfl rfl ?_
  refine gw_invI (z := qX1_init) (a := 32) (av := [.ref 3, .ref 27]) (rest := [.ref 32, .ref 0]) hC (i_Going hC 32 3 27 (g_up1 g_S0 0 (11, 18, fun j => if j = 8 then 28 + 2 else if j = 7 then 27 + 2 else if j = 6 then 25 + 2 else if j = 5 then 23 + 2 else if j = 4 then 19 + 2 else if j = 3 then 15 + 2 else if j = 2 then 9 + 2 else if j = 1 then 3 + 2 else if j = 0 then 1 + 2 else g_fs TX11 j)) M9 _ (d - 1) (by omega) (by omega) (by decide) (fun b hb => h9 b (by omega)) (fun q hq => by rcases (show q = 0 ∨ q = 1 ∨ q = 2 ∨ q = 3 ∨ q = 4 ∨ q = 5 by omega) with rfl | rfl | rfl | rfl | rfl | rfl <;> rfl) (by decide +kernel)) (fun _ _ h => h) (g_dec hqX11_init (q := (.invokespecial 66, 0, 0, 0)) rfl).1 (g_mem_tb (i := 272) (by decide +kernel)) rfl rfl (g_mem_tb kX1_init.1) (g_mem_tb kX1_init.2.1) (g_mem_tb kX1_init.2.2.1) kX1_init.2.2.2.1 (by omega) kX1_init.2.2.2.2 rfl rfl (Nat.le_of_ble_eq_true rfl) ⟨(Nat.le_of_ble_eq_true rfl), (Nat.le_of_ble_eq_true rfl)⟩ ?_
  rintro r X' ⟨rfl, M10, ⟨p10, z10, f10⟩, rfl⟩
  have h10 : ∀ b, 39 ≤ b → M10 b = fun _ => 0 := z10
  refine gw_putref (a := 0) (ci := 11) (k := 9) (N := 18) (r := 32) (Cn := RX11) (T := TX11) hC (g_dec hqX11_init (q := (.putfield 67, 11, 9, 1954)) rfl).1 rfl (by decide) (by decide) (g_mem_tb (i := 488) (by decide +kernel)) rfl rfl rfl rfl (fun _ => rfl) (fun _ => rfl) (by decide) (g_up1_at g_S0 0 _) ?_
  rw [g_setS_up1]
  refine gb_run 1 (pc2 := 139) (ls2 := [(0, .ref 0)]) (st2 := [.ref 0]) (M2 := M10) hC hqX11_init rfl ?_
  refine gw_new (ci := 5) (Cn := RX5) (T := TX5) (N := 8) hC (g_dec hqX11_init (q := (.new 71, 0, 0, 0)) rfl).1 rfl (by decide) (g_mem_tb (i := 386) (by decide +kernel)) (g_mem_tb (i := 387) (by decide +kernel)) (g_mem_tb (i := 10) (by decide +kernel)) (by decide) (by omega) (Nat.le_of_ble_eq_true rfl) (Nat.le_of_ble_eq_true rfl) ?_
  rw [g_up1_zero (h10 39 (by decide))]
  refine gb_run 2 (pc2 := 144) (ls2 := [(0, .ref 0)]) (st2 := [.ref 0, .ref 39, .ref 39, .ref 0]) (M2 := M10) hC hqX11_init rfl ?_
  refine gz_getr (q := 3) hC hqX11_init rfl (by decide) (g_up1_at g_S0 0 _) rfl rfl ?_
  refine gb_run 1 (pc2 := 148) (ls2 := [(0, .ref 0)]) (st2 := [.ref 0, .ref 3, .ref 39, .ref 39, .ref 0]) (M2 := M10) hC hqX11_init rfl ?_
  refine gz_getr (q := 27) hC hqX11_init rfl (by decide) (g_up1_at g_S0 0 _) rfl rfl ?_
  refine gw_invI (z := qX5_init) (a := 39) (av := [.ref 3, .ref 27]) (rest := [.ref 39, .ref 0]) hC (i_Matching hC 39 3 27 (g_up1 g_S0 0 (11, 18, fun j => if j = 9 then 32 + 2 else if j = 8 then 28 + 2 else if j = 7 then 27 + 2 else if j = 6 then 25 + 2 else if j = 5 then 23 + 2 else if j = 4 then 19 + 2 else if j = 3 then 15 + 2 else if j = 2 then 9 + 2 else if j = 1 then 3 + 2 else if j = 0 then 1 + 2 else g_fs TX11 j)) M10 _ (d - 1) (by omega) (by omega) (by decide) (fun b hb => h10 b (by omega)) rfl rfl rfl rfl (by decide +kernel)) (fun _ _ h => h) (g_dec hqX11_init (q := (.invokespecial 73, 0, 0, 0)) rfl).1 (g_mem_tb (i := 388) (by decide +kernel)) rfl rfl (g_mem_tb kX5_init.1) (g_mem_tb kX5_init.2.1) (g_mem_tb kX5_init.2.2.1) kX5_init.2.2.2.1 (by omega) kX5_init.2.2.2.2 rfl rfl (Nat.le_of_ble_eq_true rfl) ⟨(Nat.le_of_ble_eq_true rfl), (Nat.le_of_ble_eq_true rfl)⟩ ?_
  rintro r X' ⟨rfl, M11, ⟨p11, z11, f11⟩, rfl⟩
  have h11 : ∀ b, 44 ≤ b → M11 b = fun _ => 0 := z11
  refine gw_putref (a := 0) (ci := 11) (k := 10) (N := 18) (r := 39) (Cn := RX11) (T := TX11) hC (g_dec hqX11_init (q := (.putfield 74, 11, 10, 1958)) rfl).1 rfl (by decide) (by decide) (g_mem_tb (i := 489) (by decide +kernel)) rfl rfl rfl rfl (fun _ => rfl) (fun _ => rfl) (by decide) (g_up1_at g_S0 0 _) ?_
  rw [g_setS_up1]
  refine gb_run 1 (pc2 := 158) (ls2 := [(0, .ref 0)]) (st2 := [.ref 0]) (M2 := M11) hC hqX11_init rfl ?_
  refine gw_new (ci := 2) (Cn := RX2) (T := TX2) (N := 9) hC (g_dec hqX11_init (q := (.new 78, 0, 0, 0)) rfl).1 rfl (by decide) (g_mem_tb (i := 419) (by decide +kernel)) (g_mem_tb (i := 420) (by decide +kernel)) (g_mem_tb (i := 11) (by decide +kernel)) (by decide) (by omega) (Nat.le_of_ble_eq_true rfl) (Nat.le_of_ble_eq_true rfl) ?_
  rw [g_up1_zero (h11 44 (by decide))]
  refine gb_run 2 (pc2 := 163) (ls2 := [(0, .ref 0)]) (st2 := [.ref 0, .ref 44, .ref 44, .ref 0]) (M2 := M11) hC hqX11_init rfl ?_
  refine gz_getr (q := 3) hC hqX11_init rfl (by decide) (g_up1_at g_S0 0 _) rfl rfl ?_
  refine gb_run 1 (pc2 := 167) (ls2 := [(0, .ref 0)]) (st2 := [.ref 0, .ref 3, .ref 44, .ref 44, .ref 0]) (M2 := M11) hC hqX11_init rfl ?_
  refine gz_getr (q := 27) hC hqX11_init rfl (by decide) (g_up1_at g_S0 0 _) rfl rfl ?_
  refine gb_run 1 (pc2 := 171) (ls2 := [(0, .ref 0)]) (st2 := [.ref 0, .ref 27, .ref 3, .ref 44, .ref 44, .ref 0]) (M2 := M11) hC hqX11_init rfl ?_
  refine gz_getr (q := 23) hC hqX11_init rfl (by decide) (g_up1_at g_S0 0 _) rfl rfl ?_
  refine gw_invI (z := qX2_init) (a := 44) (av := [.ref 3, .ref 27, .ref 23]) (rest := [.ref 44, .ref 0]) hC (i_Guessing hC 44 3 27 23 (g_up1 g_S0 0 (11, 18, fun j => if j = 10 then 39 + 2 else if j = 9 then 32 + 2 else if j = 8 then 28 + 2 else if j = 7 then 27 + 2 else if j = 6 then 25 + 2 else if j = 5 then 23 + 2 else if j = 4 then 19 + 2 else if j = 3 then 15 + 2 else if j = 2 then 9 + 2 else if j = 1 then 3 + 2 else if j = 0 then 1 + 2 else g_fs TX11 j)) M11 _ (d - 1) (by omega) (by omega) (by decide) (fun b hb => h11 b (by omega)) rfl rfl (by decide +kernel)) (fun _ _ h => h) (g_dec hqX11_init (q := (.invokespecial 80, 0, 0, 0)) rfl).1 (g_mem_tb (i := 421) (by decide +kernel)) rfl rfl (g_mem_tb kX2_init.1) (g_mem_tb kX2_init.2.1) (g_mem_tb kX2_init.2.2.1) kX2_init.2.2.2.1 (by omega) kX2_init.2.2.2.2 rfl rfl (Nat.le_of_ble_eq_true rfl) ⟨(Nat.le_of_ble_eq_true rfl), (Nat.le_of_ble_eq_true rfl)⟩ ?_
  rintro r X' ⟨rfl, M12, ⟨p12, z12, f12⟩, rfl⟩
  have h12 : ∀ b, 47 ≤ b → M12 b = fun _ => 0 := z12
  refine gw_putref (a := 0) (ci := 11) (k := 11) (N := 18) (r := 44) (Cn := RX11) (T := TX11) hC (g_dec hqX11_init (q := (.putfield 83, 11, 11, 1962)) rfl).1 rfl (by decide) (by decide) (g_mem_tb (i := 490) (by decide +kernel)) rfl rfl rfl rfl (fun _ => rfl) (fun _ => rfl) (by decide) (g_up1_at g_S0 0 _) ?_
  rw [g_setS_up1]
  refine gb_run 1 (pc2 := 181) (ls2 := [(0, .ref 0)]) (st2 := [.ref 0]) (M2 := M12) hC hqX11_init rfl ?_
  refine gw_new (ci := 3) (Cn := RX3) (T := TX3) (N := 3) hC (g_dec hqX11_init (q := (.new 87, 0, 0, 0)) rfl).1 rfl (by decide) (g_mem_tb (i := 457) (by decide +kernel)) (g_mem_tb (i := 458) (by decide +kernel)) (g_mem_tb (i := 12) (by decide +kernel)) (by decide) (by omega) (Nat.le_of_ble_eq_true rfl) (Nat.le_of_ble_eq_true rfl) ?_
  rw [g_up1_zero (h12 47 (by decide))]
  refine gb_run 1 (pc2 := 185) (ls2 := [(0, .ref 0)]) (st2 := [.ref 47, .ref 47, .ref 0]) (M2 := M12) hC hqX11_init rfl ?_
  refine gw_invI (z := qX3_init) (a := 47) (av := []) (rest := [.ref 47, .ref 0]) hC (i_Hist (d := d - 1) hC 47 (g_up1 g_S0 0 (11, 18, fun j => if j = 11 then 44 + 2 else if j = 10 then 39 + 2 else if j = 9 then 32 + 2 else if j = 8 then 28 + 2 else if j = 7 then 27 + 2 else if j = 6 then 25 + 2 else if j = 5 then 23 + 2 else if j = 4 then 19 + 2 else if j = 3 then 15 + 2 else if j = 2 then 9 + 2 else if j = 1 then 3 + 2 else if j = 0 then 1 + 2 else g_fs TX11 j)) M12 _ (by omega) (by omega) (by decide) (fun b hb => h12 b (by omega)) (fun q hq => by rw [g_up1_ne (by omega)]; exact s0_47 q hq)) (fun _ _ h => h) (g_dec hqX11_init (q := (.invokespecial 89, 0, 0, 0)) rfl).1 (g_mem_tb (i := 459) (by decide +kernel)) rfl rfl (g_mem_tb kX3_init.1) (g_mem_tb kX3_init.2.1) (g_mem_tb kX3_init.2.2.1) kX3_init.2.2.2.1 (by omega) kX3_init.2.2.2.2 rfl rfl (Nat.le_of_ble_eq_true rfl) ⟨(Nat.le_of_ble_eq_true rfl), (Nat.le_of_ble_eq_true rfl)⟩ ?_
  rintro r X' ⟨rfl, M13, ⟨p13, z13, f13⟩, rfl⟩
  have h13 : ∀ b, 151 ≤ b → M13 b = fun _ => 0 := z13
  refine gw_putref (a := 0) (ci := 11) (k := 12) (N := 18) (r := 47) (Cn := RX11) (T := TX11) hC (g_dec hqX11_init (q := (.putfield 90, 11, 12, 1966)) rfl).1 rfl (by decide) (by decide) (g_mem_tb (i := 491) (by decide +kernel)) rfl rfl rfl rfl (fun _ => rfl) (fun _ => rfl) (by decide) (g_up1_at g_S0 0 _) ?_
  rw [g_setS_up1]
  refine gb_run 2 (pc2 := 193) (ls2 := [(0, .ref 0)]) (st2 := [.int 3, .ref 0]) (M2 := M13) hC hqX11_init rfl ?_
  refine gw_newref (N := 3) (k := 0) (Cn := RX3) hC (g_dec hqX11_init (q := (.anewarray 87, 0, 0, 0)) rfl).1 (Or.inl ⟨rfl, rfl⟩) (g_mem_tb (i := 457) (by decide +kernel)) (by decide) (by decide) (by decide) (by decide) (by omega) (Nat.le_of_ble_eq_true rfl) (Nat.le_of_ble_eq_true rfl) ?_
  rw [g_up1_zero (h13 151 (by decide))]
  refine gw_putref (a := 0) (ci := 11) (k := 13) (N := 18) (r := 151) (Cn := RX11) (T := TX11) hC (g_dec hqX11_init (q := (.putfield 94, 11, 13, 1970)) rfl).1 rfl (by decide) (by decide) (g_mem_tb (i := 492) (by decide +kernel)) rfl rfl rfl rfl (fun _ => rfl) (fun _ => rfl) (by decide) ((g_up1_ne (by decide)).trans (g_up1_at g_S0 0 _)) ?_
  refine GW_shape (S2 := g_up1 g_S0 151 (g_imgU 0)) (fun b hb => ?_) ?_
  · by_cases e : b = 151
    · rw [e, g_up1_at, g_setS_ne (by decide), g_up1_at]
      exact ⟨rfl, rfl, fun j hj => (if_neg (t := 104 * j + 154) (Nat.not_lt_zero j)).symm⟩
    · rw [g_up1_ne e]
      by_cases e2 : b = 0
      · unfold g_setS
        rw [if_pos e2, g_up1_ne (by decide), g_up1_at, e2]
        exact (by decide +kernel : 11 = (g_S0 0).1 ∧ 18 = (g_S0 0).2.1 ∧ ∀ j, j < 18 → (if j = 13 then 151 + 2 else if j = 12 then 47 + 2 else if j = 11 then 44 + 2 else if j = 10 then 39 + 2 else if j = 9 then 32 + 2 else if j = 8 then 28 + 2 else if j = 7 then 27 + 2 else if j = 6 then 25 + 2 else if j = 5 then 23 + 2 else if j = 4 then 19 + 2 else if j = 3 then 15 + 2 else if j = 2 then 9 + 2 else if j = 1 then 3 + 2 else if j = 0 then 1 + 2 else g_fs TX11 j) = (g_S0 0).2.2 j)
      · rw [g_setS_ne e2, g_up1_ne e, g_up1_ne e2]
        exact ⟨rfl, rfl, fun _ _ => rfl⟩
  refine gb_run 2 (pc2 := 201) (ls2 := [(1, .int 0), (0, .ref 0)]) (st2 := []) (M2 := M13) hC hqX11_init rfl ?_
  refine i_HH_L hC (by omega) M13 (fun M h1 h2 => ⟨rfl, M, ⟨?_, h2⟩, rfl⟩) 3 0 M13 _ (by decide) (by omega) (fun _ _ => rfl) (fun b hb => h13 b (by omega))
  · -- what it holds
    have t13 : ∀ b, b < 152 → M b = M13 b := h1
    have t12 : ∀ b, b < 47 → M b = M12 b := fun b hb => (t13 b (by omega)).trans (p13 b hb)
    have t11 : ∀ b, b < 44 → M b = M11 b := fun b hb => (t12 b (by omega)).trans (p12 b hb)
    have t10 : ∀ b, b < 39 → M b = M10 b := fun b hb => (t11 b (by omega)).trans (p11 b hb)
    have t9 : ∀ b, b < 32 → M b = M9 b := fun b hb => (t10 b (by omega)).trans (p10 b hb)
    have t8 : ∀ b, b < 28 → M b = M8 b := fun b hb => (t9 b (by omega)).trans (p9 b hb)
    have t7 : ∀ b, b < 27 → M b = M7 b := fun b hb => (t8 b (by omega)).trans (p8 b hb)
    have t6 : ∀ b, b < 25 → M b = M6 b := fun b hb => (t7 b (by omega)).trans (p7 b hb)
    have t5 : ∀ b, b < 23 → M b = M5 b := fun b hb => (t6 b (by omega)).trans (p6 b hb)
    have t4 : ∀ b, b < 19 → M b = M4 b := fun b hb => (t5 b (by omega)).trans (p5 b hb)
    have t3 : ∀ b, b < 15 → M b = M3 b := fun b hb => (t4 b (by omega)).trans (p4 b hb)
    have t2 : ∀ b, b < 9 → M b = M2 b := fun b hb => (t3 b (by omega)).trans (p3 b hb)
    have t1 : ∀ b, b < 3 → M b = M1 b := fun b hb => (t2 b (by omega)).trans (p2 b hb)
    have t0 : ∀ b, b < 1 → M b = M0 b := fun b hb => (t1 b (by omega)).trans (p1 b hb)
    refine ⟨fun k => by rw [t0 0 (by decide), h0 0 (by decide)], ?_, ?_, ?_, ?_, ?_, ?_, ?_⟩
    · rw [t1 1 (by decide)]; exact f1
    · rw [t2 3 (by decide)]; exact f2
    · rw [t4 15 (by decide)]; exact f4
    · rw [t6 23 (by decide), t6 24 (by decide)]; exact f6
    · rw [t13 52 (by decide), t13 49 (by decide), t13 50 (by decide), t13 51 (by decide), t13 53 (by decide)]; exact f13.1
    · rw [t13 48 (by decide)]; exact f13.2.1
    · rw [t13 47 (by decide)]; exact f13.2.2
end IHH
