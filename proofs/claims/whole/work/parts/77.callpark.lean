/-! The call park. -/
theorem c_copy (s : gM) : okk (FP_copy s) (fun t => (t 3 5 = s 9 5 ∧ t 3 6 = s 9 6 ∧ t 3 7 = s 9 7 ∧ t 3 8 = s 9 8 ∧ t 3 9 = s 9 9) ∧ (∀ k, k < 8 → t 4 k = s 10 k ∧ t 5 k = s 11 k ∧ t 6 k = s 12 k ∧ t 7 k = s 13 k ∧ t 8 k = s 14 k) ∧ ∀ b, ¬ (3 ≤ b ∧ b ≤ 8) → t b = s b) := by
  unfold FP_copy g_let
  refine okk_some ⟨⟨?_, ?_, ?_, ?_, ?_⟩, fun k hk => ⟨?_, ?_, ?_, ?_, ?_⟩, fun b hb => ?_⟩
  · rw [g_set_k (by decide), g_set_k (by decide), g_set_k (by decide), g_set_k (by decide), g_set_eq]
    rw [r_copy_ne (by decide), r_copy_ne (by decide), r_copy_ne (by decide), r_copy_ne (by decide), r_copy_ne (by decide)]
  · rw [g_set_k (by decide), g_set_k (by decide), g_set_k (by decide), g_set_eq]
    iterate 1 (first | rw [g_set_ne (by decide)] | skip)
    rw [r_copy_ne (by decide), r_copy_ne (by decide), r_copy_ne (by decide), r_copy_ne (by decide), r_copy_ne (by decide)]
  · rw [g_set_k (by decide), g_set_k (by decide), g_set_eq]
    iterate 2 (first | rw [g_set_ne (by decide)] | skip)
    rw [r_copy_ne (by decide), r_copy_ne (by decide), r_copy_ne (by decide), r_copy_ne (by decide), r_copy_ne (by decide)]
  · rw [g_set_k (by decide), g_set_eq]
    iterate 3 (first | rw [g_set_ne (by decide)] | skip)
    rw [r_copy_ne (by decide), r_copy_ne (by decide), r_copy_ne (by decide), r_copy_ne (by decide), r_copy_ne (by decide)]
  · rw [g_set_eq]
    iterate 4 (first | rw [g_set_ne (by decide)] | skip)
    rw [r_copy_ne (by decide), r_copy_ne (by decide), r_copy_ne (by decide), r_copy_ne (by decide), r_copy_ne (by decide)]
  · rw [g_set_ne (by decide), g_set_ne (by decide), g_set_ne (by decide), g_set_ne (by decide), g_set_ne (by decide), r_copy_ne (by decide), r_copy_ne (by decide), r_copy_ne (by decide), r_copy_ne (by decide), r_copy_in hk]
  · rw [g_set_ne (by decide), g_set_ne (by decide), g_set_ne (by decide), g_set_ne (by decide), g_set_ne (by decide), r_copy_ne (by decide), r_copy_ne (by decide), r_copy_ne (by decide), r_copy_in hk, r_copy_ne (by decide)]
  · rw [g_set_ne (by decide), g_set_ne (by decide), g_set_ne (by decide), g_set_ne (by decide), g_set_ne (by decide), r_copy_ne (by decide), r_copy_ne (by decide), r_copy_in hk, r_copy_ne (by decide), r_copy_ne (by decide)]
  · rw [g_set_ne (by decide), g_set_ne (by decide), g_set_ne (by decide), g_set_ne (by decide), g_set_ne (by decide), r_copy_ne (by decide), r_copy_in hk, r_copy_ne (by decide), r_copy_ne (by decide), r_copy_ne (by decide)]
  · rw [g_set_ne (by decide), g_set_ne (by decide), g_set_ne (by decide), g_set_ne (by decide), g_set_ne (by decide), r_copy_in hk, r_copy_ne (by decide), r_copy_ne (by decide), r_copy_ne (by decide), r_copy_ne (by decide)]
  · rw [g_set_ne (by omega), g_set_ne (by omega), g_set_ne (by omega), g_set_ne (by omega), g_set_ne (by omega), r_copy_ne (by omega), r_copy_ne (by omega), r_copy_ne (by omega), r_copy_ne (by omega), r_copy_ne (by omega)]
theorem c_lclear (s : gM) : okk (FL_clear s) (fun t => t 15 4 = 0 ∧ t 15 3 = 0 ∧ ∀ b, b ≠ 15 → t b = s b) := by
  unfold FL_clear
  exact okk_some ⟨by rw [g_set_k (by decide), g_set_eq], g_set_eq _ _ _ _, fun b hb => by rw [g_set_ne hb, g_set_ne hb]⟩
theorem r_fill_in {M : gM} {a n j : Nat} {v : Int32} (h : j < n) : r_fill M a n v a j = v := by
  unfold r_fill
  rw [if_pos rfl, if_pos h]
theorem c_sclear (s : gM) : okk (FS_clear s) (fun t => (∀ k, k < 8 → t 24 k = -1) ∧ t 23 1 = 0 ∧ ∀ b, b ≠ 23 → b ≠ 24 → t b = s b) := by
  unfold FS_clear g_let
  exact okk_some ⟨fun k hk => by rw [g_set_ne (by decide), r_fill_in hk], g_set_eq _ _ _ _, fun b h1 h2 => by rw [g_set_ne h1, r_fill_ne h2]⟩
theorem c_hclear (s : gM) : okk (FH_clear s) (fun t => t 47 2 = 0 ∧ (∀ k, k < 8 → t 52 k = -1 ∧ t 49 k = 0 ∧ t 50 k = 0 ∧ t 51 k = 0 ∧ t 53 k = 0) ∧ (∀ k, 5 ≤ k → k ≤ 11 → t 48 k = 0) ∧ ∀ b, ¬ (47 ≤ b ∧ b ≤ 53) → t b = s b) := by
  unfold FH_clear FZ_clear g_let
  rw [Option.bind_some]
  refine okk_some ⟨g_set_eq _ _ _ _, fun k hk => ⟨?_, ?_, ?_, ?_, ?_⟩, fun k k1 k2 => ?_, fun b hb => ?_⟩
  · rw [g_set_ne (by decide), g_set_ne (by decide), g_set_ne (by decide), g_set_ne (by decide), g_set_ne (by decide), g_set_ne (by decide), g_set_ne (by decide), g_set_ne (by decide), r_fill_ne (by decide), r_fill_in hk]
  · rw [g_set_ne (by decide), g_set_ne (by decide), g_set_ne (by decide), g_set_ne (by decide), g_set_ne (by decide), g_set_ne (by decide), g_set_ne (by decide), g_set_ne (by decide), r_fill_ne (by decide), r_fill_ne (by decide), r_fill_ne (by decide), r_fill_ne (by decide), r_fill_in hk]
  · rw [g_set_ne (by decide), g_set_ne (by decide), g_set_ne (by decide), g_set_ne (by decide), g_set_ne (by decide), g_set_ne (by decide), g_set_ne (by decide), g_set_ne (by decide), r_fill_ne (by decide), r_fill_ne (by decide), r_fill_ne (by decide), r_fill_in hk]
  · rw [g_set_ne (by decide), g_set_ne (by decide), g_set_ne (by decide), g_set_ne (by decide), g_set_ne (by decide), g_set_ne (by decide), g_set_ne (by decide), g_set_ne (by decide), r_fill_ne (by decide), r_fill_ne (by decide), r_fill_in hk]
  · rw [g_set_ne (by decide), g_set_ne (by decide), g_set_ne (by decide), g_set_ne (by decide), g_set_ne (by decide), g_set_ne (by decide), g_set_ne (by decide), g_set_ne (by decide), r_fill_in hk]
  · rw [g_set_ne (by decide)]
    rcases (show k = 5 ∨ k = 6 ∨ k = 7 ∨ k = 8 ∨ k = 9 ∨ k = 10 ∨ k = 11 by omega) with rfl | rfl | rfl | rfl | rfl | rfl | rfl
    · rw [g_set_k (by decide), g_set_k (by decide), g_set_k (by decide), g_set_k (by decide), g_set_k (by decide), g_set_k (by decide), g_set_eq]
    · rw [g_set_k (by decide), g_set_k (by decide), g_set_k (by decide), g_set_k (by decide), g_set_k (by decide), g_set_eq]
    · rw [g_set_k (by decide), g_set_k (by decide), g_set_k (by decide), g_set_k (by decide), g_set_eq]
    · rw [g_set_k (by decide), g_set_k (by decide), g_set_k (by decide), g_set_eq]
    · rw [g_set_k (by decide), g_set_k (by decide), g_set_eq]
    · rw [g_set_k (by decide), g_set_eq]
    · rw [g_set_eq]
  · rw [g_set_ne (by omega), g_set_ne (by omega), g_set_ne (by omega), g_set_ne (by omega), g_set_ne (by omega), g_set_ne (by omega), g_set_ne (by omega), g_set_ne (by omega), r_fill_ne (by omega), r_fill_ne (by omega), r_fill_ne (by omega), r_fill_ne (by omega), r_fill_ne (by omega)]

theorem cl_P (s : gM) : okk (FP_clear s) (fun t => (t 9 5 = nI 0 ∧ t 9 6 = nI 0 ∧ t 9 7 = nI 0 ∧ t 9 8 = 60 ∧ t 9 9 = 5) ∧ ∀ b, b ≠ 9 → t b = s b) := by
  unfold FP_clear
  refine okk_some ⟨⟨?_, ?_, ?_, ?_, ?_⟩, fun b hb => by rw [g_set_ne hb, g_set_ne hb, g_set_ne hb, g_set_ne hb, g_set_ne hb]⟩
  · rw [g_set_k (by decide), g_set_k (by decide), g_set_k (by decide), g_set_k (by decide), g_set_eq]; rfl
  · rw [g_set_k (by decide), g_set_k (by decide), g_set_k (by decide), g_set_eq]; rfl
  · rw [g_set_k (by decide), g_set_k (by decide), g_set_eq]; rfl
  · rw [g_set_k (by decide), g_set_eq]
  · rw [g_set_eq]
theorem q_park {c m : gM} (h : RR c m) (nn : Int32) : qq 1 (FX_park nn c) (FM_park nn m) := by
  have h0 := RR_t h 0
  obtain ⟨m0, e0⟩ : ∃ y, y = g_set m 464 0 0 := ⟨_, rfl⟩
  rw [← e0] at h0
  have z0 : m0 464 0 = 0 := by rw [e0, g_set_eq]
  have hb := h0
  obtain ⟨t1, t2, ⟨hg, rg⟩, ⟨hl, rl⟩, t7, t8, t9, t10⟩ := hb
  have hm1 : m 464 1 = m0 464 1 := by rw [e0]; rfl
  unfold FX_park FM_park
  rw [← e0, hm1]
  rcases nd_text t1 nn (mo := 600) (by decide) with ⟨N, rfl, N60, hby, N6, f1, f2, x1⟩ | ⟨f1, x1⟩
  · refine qq_bX x1 (qq_tX rfl (qq_fM (by rw [f1]; decide) ?_))
    unfold FM_park_J23
    refine qq_bM (m_bad0 z0 _ _) (qq_tM rfl ?_)
    dsimp only
    obtain ⟨B, c1, x2, m1, y2, hP, p1, p2, p3, p4, p5, p6, p7⟩ := P_open N6 hby
    refine qq_bX x2 (qq_bM y2 ?_)
    unfold FP_read
    obtain ⟨c2, x3, ⟨d1, d2, d3, d4, d5⟩, d6⟩ := cl_P c1
    obtain ⟨m2, y3, ⟨g1, g2, g3, g4, g5⟩, g6⟩ := m_tells m1
    rw [x3, Option.bind_some]
    refine qq_bM y3 ?_
    have hP2 : PS N B 0 (skp N B 0) c2 m2 := by
      refine ⟨?_, ?_, hP.2.2⟩
      · have := hP.1
        unfold tC at this ⊢
        rw [d6 1 (by decide), d6 2 (by decide)]
        exact this
      · have := hP.2.1
        unfold tM at this ⊢
        rw [g6 464 (by decide), g6 465 (by decide)]
        exact this
    have hD : PD 0 0 0 0 c2 m2 := ⟨⟨d1, g1, by omega⟩, ⟨d2, g2, by omega⟩, ⟨d3, g3, by omega⟩, ⟨by rw [d4, g4], by rw [d5, g5]⟩, ⟨by rw [g6 464 (by decide)]; exact p3, by omega⟩, fun w hw => absurd hw (by omega), fun w hw => absurd hw (by omega), fun w hw => absurd hw (by omega)⟩
    obtain ⟨s, x4, M, y4, k1, k2, k3⟩ := S_park (nn := nI N) N 0 0 (by omega) (by omega) 1000 999 (by omega) (by omega) 0 0 0 c2 m2 hP2 hD
    rw [show FM_park_L42 (nI N) 1000 m2 = FM_park_J71 (nI N) M from y4]
    refine qq_bX x4 ?_
    have cc : ∀ b, b ≠ 1 → ¬ pS b → s b = c b := fun b b1 b2 => by rw [k1.1 b b1 b2, d6 b (fun z => b2 (by rw [z]; unfold pS; omega)), p5 b b1]
    have mm : ∀ b, b ≠ 464 → ¬ pM b → M b = m0 b := fun b b1 b2 => by rw [k2.1 b b1 b2, g6 b (fun z => b2 (by rw [z]; exact Or.inl rfl)), p6 b b1]
    have c11 : s 1 1 = 0 := by rw [k1.2 1 (by decide) (by decide) (by decide) (by decide), d6 1 (by decide), p1]
    have m11 : M 464 1 = 0 := by rw [k2.2 1 (by omega), g6 464 (by decide), p2]
    have mk : ∀ k, k = 0 ∨ k = 3 ∨ 30 ≤ k ∨ k = 19 → M 464 k = m0 464 k := fun k hk => by rw [k2.2 k (by omega), g6 464 (by decide), p7 k (by omega)]
    unfold FM_park_J71
    rcases k3 with ⟨e, f, told, W, C, H, hP3, hD3⟩ | hF
    · refine qq_tX (faulty_0 hP3.1) (qq_tM hP3.2.1.2.2.1 ?_)
      obtain ⟨⟨a1, a2, a3⟩, ⟨a4, a5, a6⟩, ⟨a7, a8, a9⟩, a10, a11, a12, a13, a14⟩ := hD3
      obtain ⟨s7, x7, ⟨e35, e36, e37, e38, e39⟩, e4, eo⟩ := c_copy s
      obtain ⟨s8, x8, l1, l2, lo⟩ := c_lclear s7
      obtain ⟨s9, x9, n1, n2, no⟩ := c_sclear s8
      obtain ⟨z, x10, q1, q2, q3, qo⟩ := c_hclear s9
      refine qq_bX x7 (qq_bX x8 (qq_bX x9 (qq_bX x10 ?_)))
      obtain ⟨M2, y5, v1, ⟨v2, v3, v4, v5, v6⟩, v7, ⟨v8, v9, v10, v11, v12⟩, v13, v14, v15, v16⟩ := m_begins (m := g_set M 464 3 (-1)) a3 a6 a9 (by rw [g_set_ne (by decide)]; exact a2) (by rw [g_set_ne (by decide)]; exact a5) (by rw [g_set_ne (by decide)]; exact a8)
      refine qq_bM y5 ?_
      rw [g_set_ne (show 467 ≠ 464 by decide)] at v11 v12
      -- the class's last memory
      have Z0 : ∀ b, b ≠ 0 → g_set (g_set z 0 14 0) 0 15 0 b = z b := fun b hb => by rw [g_set_ne hb, g_set_ne hb]
      have zl : ∀ b, ¬ (23 ≤ b ∧ b ≤ 24) → ¬ (47 ≤ b ∧ b ≤ 53) → b ≠ 15 → z b = s7 b := fun b b1 b2 b3 => by rw [qo b b2, no b (by omega) (by omega), lo b b3]
      have z1 : z 1 = s 1 := by rw [zl 1 (by omega) (by omega) (by decide), eo 1 (by omega)]
      have z00 : z 0 = c 0 := by rw [zl 0 (by omega) (by omega) (by decide), eo 0 (by omega), cc 0 (by decide) (by unfold pS; omega)]
      have nWe : nW M2 = W := by unfold nW; rw [v8]; exact nI_clamp (by omega)
      have nCe : nC M2 = C := by unfold nC; rw [v9]; exact nI_clamp (by omega)
      have nHe : nH M2 = H := by unfold nH; rw [v10]; exact nI_clamp (by omega)
      have nLe : nL M2 = 0 := by unfold nL; rw [v2]; rfl
      have r0 : ∀ k, k < 8 → M2 930 k = -1 := fun k hk => by rw [v1 k (by omega), if_pos hk]
      have r1 : ∀ k, 8 ≤ k → k < 48 → M2 930 k = 0 := fun k h8 hk => by rw [v1 k hk, if_neg (by omega)]
      have s466 : M2 466 = m0 466 := by rw [v16, g_set_ne (by decide), mm 466 (by decide) (by unfold pM; omega)]
      have RRn : RR (g_set (g_set z 0 14 0) 0 15 0) M2 := by
        refine ⟨R_tape_0 ?_ ?_, ⟨?_, ?_, ?_, ?_⟩, ⟨⟨⟨?_, ?_, ?_⟩, ?_, fun k hk => ?_, fun k hk => ?_, fun w hw => ?_⟩, ⟨⟨?_, ?_, ?_, ?_, ?_⟩, fun w hw => ?_, fun k hk => ?_, fun k hk => ?_⟩⟩, ⟨⟨?_, Or.inl nLe⟩, Or.inl ⟨v2, ?_, ?_⟩⟩, ⟨0, by omega, v3, ?_, fun k hk => absurd hk (by omega), fun g hg => Or.inl ?_⟩, ⟨⟨⟨fun k hk => Or.inl (r0 k hk), fun k hk => ⟨0, by omega, r1 _ (by omega) (by omega)⟩, fun k hk => ⟨0, by omega, r1 _ (by omega) (by omega)⟩, fun k _ hk => r1 _ (by omega) (by omega), ⟨0, Or.inr rfl, r1 _ (by omega) (by omega)⟩, ⟨0, Or.inr rfl, r1 _ (by omega) (by omega)⟩, ⟨0, 0, 0, by omega, r1 _ (by omega) (by omega), r1 _ (by omega) (by omega), by omega, r1 _ (by omega) (by omega), by omega⟩⟩, ⟨0, by omega, r1 _ (by omega) (by omega)⟩⟩, ⟨fun k hk => ?_, ?_, ?_, ?_, ?_, ?_, ?_, ?_⟩⟩, ⟨0, by omega, v4, ?_, fun j hj => absurd hj (by omega)⟩, ⟨0, by omega, v6, ?_, fun j hj => absurd hj (by omega)⟩⟩
        · rw [Z0 1 (by decide), z1]; exact c11
        · rw [v7 1 (by decide) (by decide) (by decide) (by decide) (by decide), g_set_k (by decide)]; exact m11
        · rw [Z0 1 (by decide), z1, hP3.1.2.2.2.1, v7 3 (by decide) (by decide) (by decide) (by decide) (by decide), g_set_eq]
        · rw [g_set_eq, v5]
        · rw [g_set_k (by decide), g_set_k (by decide), z00, s466]; exact t2.2.2.1
        · rw [g_set_k (by decide), g_set_k (by decide), z00, s466]; exact t2.2.2.2
        · rw [nWe]; exact v8
        · rw [nCe]; exact v9
        · rw [nHe]; exact v10
        · rw [nWe, nCe, nHe]; exact ⟨a3, a6, a9⟩
        · rw [nCe] at hk
          rw [(v14 k hk).1, g_set_ne (by omega)]; exact (a13 k hk).2.2.1
        · rw [nCe] at hk
          rw [(v14 k hk).2, g_set_ne (by omega)]; exact (a13 k hk).2.2.2
        · rw [nWe] at hw
          rw [(v13 w hw).2, g_set_ne (by omega)]; exact (a12 w hw).2.2
        · rw [Z0 3 (by decide), zl 3 (by omega) (by omega) (by decide), e35, a1, v8]
        · rw [Z0 3 (by decide), zl 3 (by omega) (by omega) (by decide), e36, a4, v9]
        · rw [Z0 3 (by decide), zl 3 (by omega) (by omega) (by decide), e37, a7, v10]
        · rw [Z0 3 (by decide), zl 3 (by omega) (by omega) (by decide), e38, a10.1, v11]
        · rw [Z0 3 (by decide), zl 3 (by omega) (by omega) (by decide), e39, a10.2, v12]
        · rw [nWe] at hw
          rw [Z0 4 (by decide), Z0 5 (by decide), zl 4 (by omega) (by omega) (by decide), zl 5 (by omega) (by omega) (by decide), (e4 w (by omega)).1, (e4 w (by omega)).2.1, (v13 w hw).1, (v13 w hw).2, g_set_ne (by omega)]
          exact ⟨(a12 w hw).1, (a12 w hw).2.1⟩
        · rw [nCe] at hk
          rw [Z0 6 (by decide), Z0 7 (by decide), zl 6 (by omega) (by omega) (by decide), zl 7 (by omega) (by omega) (by decide), (e4 k (by omega)).2.2.1, (e4 k (by omega)).2.2.2.1, (v14 k hk).1, (v14 k hk).2, g_set_ne (by omega)]
          exact ⟨(a13 k hk).1, (a13 k hk).2.1⟩
        · rw [nHe] at hk
          rw [Z0 8 (by decide), zl 8 (by omega) (by omega) (by decide), (e4 k (by omega)).2.2.2.2, v15 k hk, g_set_ne (by decide)]
          exact a14 k hk
        · rw [nLe]; exact v2
        · rw [Z0 15 (by decide), qo 15 (by omega), no 15 (by omega) (by omega)]; exact l1
        · rw [Z0 15 (by decide), qo 15 (by omega), no 15 (by omega) (by omega)]; exact l2
        · rw [Z0 23 (by decide), qo 23 (by omega)]; exact n2
        · rw [Z0 24 (by decide), qo 24 (by omega)]; exact n1 g hg
        · rw [Z0 _ (by decide), Z0 _ (by decide), Z0 _ (by decide), Z0 _ (by decide), Z0 _ (by decide), r0 k hk, r1 (8 + k) (by omega) (by omega), r1 (16 + k) (by omega) (by omega), r1 (24 + k) (by omega) (by omega), r1 (32 + k) (by omega) (by omega)]
          exact q2 k hk
        · rw [Z0 _ (by decide), r1 _ (by omega) (by omega)]; exact q3 5 (by omega) (by omega)
        · rw [Z0 _ (by decide), r1 _ (by omega) (by omega)]; exact q3 6 (by omega) (by omega)
        · rw [Z0 _ (by decide), r1 _ (by omega) (by omega)]; exact q3 7 (by omega) (by omega)
        · rw [Z0 _ (by decide), r1 _ (by omega) (by omega)]; exact q3 8 (by omega) (by omega)
        · rw [Z0 _ (by decide), r1 _ (by omega) (by omega)]; exact q3 9 (by omega) (by omega)
        · rw [Z0 _ (by decide), r1 _ (by omega) (by omega)]; exact q3 10 (by omega) (by omega)
        · rw [Z0 _ (by decide), r1 _ (by omega) (by omega)]; exact q3 11 (by omega) (by omega)
        · rw [Z0 47 (by decide)]; exact q1
        · rw [g_set_k (by decide), g_set_eq]; rfl
      refine qq_v ?_ RRn ?_
      · rw [v7 0 (by decide) (by decide) (by decide) (by decide) (by decide), g_set_k (by decide), mk 0 (by omega)]; exact z0
      · rw [zl 3 (by omega) (by omega) (by decide), e37, a7, v10]
    · obtain ⟨p3', q3, f, w, f0, f3, f4⟩ := id hF
      refine qq_fX (faulty_1 f0 f3) (qq_fM (by rw [f4.2.2.1]; exact f0) ?_)
      exact q_ends h0 z0 hF (fun b hb => cc b (by omega) (by unfold pS; omega)) ⟨fun b hb => mm b (by omega) (by unfold pM; omega), mk 19 (by omega), mk 33 (by omega), mk 34 (by omega), mk 36 (by omega)⟩ c11 m11 (mk 0 (by omega)) (mk 35 (by omega))
  · refine qq_bX x1 (qq_fX n20 ?_)
    rcases f1 with f1 | ⟨f1, f2⟩
    · refine qq_tM f1 ?_
      unfold FM_park_J23
      exact qq_bM (m_bad_il z0 (by decide)) (qq_fM i10 (qq_il h0))
    · exfalso
      obtain ⟨t, t6, -, ht, -⟩ := t1
      unfold FM_in at f1
      by_cases q1 : nn < 0
      · rw [if_pos q1] at f1; exact absurd f1.symm i10
      · rw [if_neg q1] at f1
        by_cases q2 : m0 464 1 < nn
        · rw [if_pos q2] at f1; exact absurd f1.symm i10
        · rw [ht] at q2
          exact f2 (Int32.le_trans (Int32.not_lt.mp q2) ((nI_leI (by omega) (by omega)).mpr t6))
