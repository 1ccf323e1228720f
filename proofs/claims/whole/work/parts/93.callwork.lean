/-! The call work. -/
theorem q_work {c m : gM} (h : RR c m) (nn : Int32) : qq 1 (FX_work nn c) (FM_work nn m) := by
  have h0 := RR_t h 0
  obtain ⟨m0, e0⟩ : ∃ y, y = g_set m 464 0 0 := ⟨_, rfl⟩
  rw [← e0] at h0
  have z0 : m0 464 0 = 0 := by rw [e0, g_set_eq]
  have hb := h0
  obtain ⟨t1, tn, ⟨hg, rg⟩, ⟨hl, rl⟩, t7, t8, t9, t10⟩ := hb
  have bad : ∀ M, M = m0 → qq 1 (some (2, (0 : Int32), g_set c 0 17 (c 0 17 + 1))) (FM_work_J25 nn M) := by
    rintro _ rfl
    unfold FM_work_J25 FM_work_J30
    exact qq_bM (m_bad_il z0 (by decide)) (qq_fM i10 (qq_il h0))
  have hm1 : m 464 1 = m0 464 1 := by rw [e0]; rfl
  unfold FX_work FM_work
  rw [← e0, hm1]
  rcases nd_text t1 nn (mo := 150) (by decide) with ⟨N, rfl, N60, hby, N6, f1, f2, x1⟩ | ⟨f1, x1⟩
  · refine qq_bX x1 (qq_tX rfl (qq_fM (by rw [f1]; decide) (qq_tM f2 ?_)))
    unfold FM_work_J30
    refine qq_bM (m_bad0 z0 _ _) (qq_tM rfl ?_)
    dsimp only
    obtain ⟨kk, k16, w1, w2, w3⟩ := t9
    by_cases hk : kk = 16
    · subst hk
      refine qq_fX (show ¬ c 47 2 < (16 : Int32) by rw [w2]; decide) (qq_tM (show m0 464 34 = (16 : Int32) from w1) ?_)
      unfold F_open
      refine qq_bX rfl (qq_v ?_ (RR_k h0 (fun b hb => ?_) ⟨fun b hb => ?_, ?_, ?_, ?_, ?_⟩ (R_tape_0 ?_ ?_) ⟨?_, ?_, ?_, ?_⟩) rfl)
      · rw [g_set_k (by decide), g_set_k (by decide)]; exact z0
      · rw [g_set_ne (by omega), g_set_ne (by omega), g_set_ne (by omega), g_set_ne (by omega), g_set_ne (by omega)]
      · rw [g_set_ne (by omega), g_set_ne (by omega)]
      · rw [g_set_k (by decide), g_set_k (by decide)]
      · rw [g_set_k (by decide), g_set_k (by decide)]
      · rw [g_set_k (by decide), g_set_k (by decide)]
      · rw [g_set_k (by decide), g_set_k (by decide)]
      · rw [g_set_k (by decide), g_set_k (by decide), g_set_eq]
      · rw [g_set_k (by decide), g_set_eq]
      · rw [g_set_eq, g_set_eq]
      · rw [g_set_ne (by decide), g_set_ne (by decide), g_set_ne (by decide), g_set_ne (by decide), g_set_ne (by decide), g_set_k (by decide), g_set_k (by decide)]; exact tn.2.1
      · rw [g_set_ne (by decide), g_set_ne (by decide), g_set_ne (by decide), g_set_ne (by decide), g_set_ne (by decide), g_set_ne (show 466 ≠ 464 by decide), g_set_ne (show 466 ≠ 464 by decide)]; exact tn.2.2.1
      · rw [g_set_ne (by decide), g_set_ne (by decide), g_set_ne (by decide), g_set_ne (by decide), g_set_ne (by decide), g_set_ne (show 466 ≠ 464 by decide), g_set_ne (show 466 ≠ 464 by decide)]; exact tn.2.2.2
    refine qq_tX (show c 47 2 < (16 : Int32) by rw [w2]; exact nI_lt (b := 16) (by omega) (by decide)) (qq_fM (show ¬ m0 464 34 = (16 : Int32) by rw [w1]; exact fun z => hk ((nI_eq (by omega) (by decide)).mp (show nI kk = nI 16 from z))) ?_)
    obtain ⟨B, c1, x2, m1, y2, hP, p1, p2, p3, p4, p5, p6, p7⟩ := P_open N6 hby
    refine qq_bX x2 (qq_bM y2 ?_)
    unfold FT_read
    rw [b_id]
    obtain ⟨c2, e2⟩ : ∃ y, y = g_set c1 28 5 (0 : Int32) := ⟨_, rfl⟩
    obtain ⟨m2, e3⟩ : ∃ y, y = g_set m1 464 28 (0 : Int32) := ⟨_, rfl⟩
    rw [← e2, ← e3]
    have c2o : ∀ b, b ≠ 28 → c2 b = c1 b := fun b hb => by rw [e2, g_set_ne hb]
    have m2o : ∀ b, b ≠ 464 → m2 b = m1 b := fun b hb => by rw [e3, g_set_ne hb]
    have m2k : ∀ k, k ≠ 28 → m2 464 k = m1 464 k := fun k hk => by rw [e3, g_set_k hk]
    have hZ : SB N B (nC m0) (nH m0) c2 m2 0 6 0 0 c2 m2 := by
      refine ⟨cX.rfl' wS c2, mX.rfl' wM m2, Or.inl ⟨0, 0, Nat.le_refl 0, Nat.le_refl 0, Nat.le_refl 0, ⟨tC_m hP.1 (c2o 1 (by decide)) (c2o 2 (by decide)), tM_m hP.2.1 (fun k hk => m2k k (by omega)) (m2o 465 (by decide)), (skp_i 0).symm⟩, ⟨?_, ?_, ?_⟩, ?_, sR.rfl' 0 0 c2 m2⟩⟩
      · rw [e2, g_set_eq]; rfl
      · rw [e3, g_set_eq]; rfl
      · rw [m2k 8 (by decide), p4]; rfl
      · rw [BL_i]; intro j j1 j2; exact absurd j2 (by omega)
    have hKP : KP (nC m0) (nH m0) c2 m2 := by
      refine ⟨?_, ?_, hg.2.1.2.1, ?_, ?_, hg.2.1.2.2⟩
      · rw [c2o 3 (by decide), p5 3 (by decide), rg.1.2.1]; exact hg.1.2.1
      · rw [m2o 468 (by decide), p6 468 (by decide)]; exact hg.1.2.1
      · rw [c2o 3 (by decide), p5 3 (by decide), rg.1.2.2.1]; exact hg.1.2.2
      · rw [m2o 468 (by decide), p6 468 (by decide)]; exact hg.1.2.2
    have hR : StR N B (nC m0) (nH m0) 0 6 (FT_readOne 29) (FM_readsStep 10) := Z_steps N60 6 (Nat.le_refl 6) 9 3
    obtain ⟨s, x3, M, y3, k1, k2, k3⟩ := Z_loopT N60 (nI N) hR hKP 1000 1000 0 0 c2 m2 (by omega) (by omega) (by decide) (by decide) (by omega) hZ
    have x4 : FT_readAll 30 (0 : Int32) c2 = some s := by
      rw [show FT_readAll 30 (0 : Int32) c2 = FT_readAll_B (FT_readOne 29) 0 c2 from FT_readAll_s 29 0 c2]
      unfold FT_readAll_B
      rw [if_pos rfl]
      exact x3
    rw [y3]
    refine qq_bX x4 ?_
    have cc : ∀ b, b ≠ 1 → ¬ wS b → s b = c b := fun b b1 b2 => by rw [k1.1 b b1 b2, c2o b (fun z => b2 (by rw [z]; unfold wS; omega)), p5 b b1]
    have mm : ∀ b, b ≠ 464 → ¬ wM b → M b = m0 b := fun b b1 b2 => by rw [k2.1 b b1 b2, m2o b b1, p6 b b1]
    have c11 : s 1 1 = 0 := by rw [k1.2 1 (by decide) (by decide) (by decide) (by decide), c2o 1 (by decide), p1]
    have m11 : M 464 1 = 0 := by rw [k2.2 1 (by omega), m2k 1 (by decide), p2]
    have mk : ∀ k, k = 0 ∨ k = 3 ∨ 30 ≤ k ∨ k = 19 → M 464 k = m0 464 k := fun k hk => by rw [k2.2 k (by omega), m2k k (by omega), p7 k (by omega)]
    unfold FM_work_J101
    rcases k3 with ⟨e, f, k, b1, b2, b3, b4, ⟨b5, b6, b7⟩, b8, b9⟩ | hF
    · have en : e ≤ N := b4.1.2.2.2.2.1
      refine qq_tX (faulty_0 b4.1) (qq_tM b4.2.1.2.2.1 ?_)
      rw [mk 34 (by omega), w1, ix_in (show kk < 16 by omega) (by decide)]
      -- the class keeps
      have s47 : s 47 = c 47 := cc 47 (by decide) (by unfold wS; omega)
      have rs48 : r_st s 48 (m0 930) := r_st_m t8.2 (fun b q1 q2 => cc b (by omega) (by unfold wS; omega))
      obtain ⟨s7, x5, o1, o2⟩ := c_copyS (a := 47 + 8 + 6 * kk) (b := 47 + 1) rs48 (by omega)
      have x6 : FH_keep 47 s = some (g_set s7 47 2 (nI (kk + 1))) := by
        unfold FH_keep
        rw [s47, w2, if_neg (show ¬ nI kk < (0 : Int32) from nI_nlt (b := 0) (by omega) (by omega)), if_pos (show nI kk < nI 16 from nI_lt (by omega) (by decide)), ix_in (show kk < 16 by omega) (by decide), x5, Option.bind_some]
        unfold g_let
        dsimp only
        rw [o2 47 (by omega), s47, w2, nI_1]
      obtain ⟨s8, e8⟩ : ∃ y, y = g_set s7 47 2 (nI (kk + 1)) := ⟨_, rfl⟩
      rw [← e8] at x6
      refine qq_bX x6 ?_
      unfold FT_start
      refine qq_bX rfl ?_
      obtain ⟨s9, e9⟩ : ∃ y, y = g_set (g_set (g_set s8 28 6 (0 : Int32)) 28 7 (0 : Int32)) 28 8 (0 : Int32) := ⟨_, rfl⟩
      rw [← e9]
      have s9o : ∀ b, b ≠ 28 → b ≠ 47 → ¬ (55 + 6 * kk ≤ b ∧ b ≤ 60 + 6 * kk) → s9 b = s b := fun b q1 q2 q3 => by rw [e9, g_set_ne q1, g_set_ne q1, g_set_ne q1, e8, g_set_ne q2, o2 b (by omega)]
      have s928 : ∀ x, x ≠ 6 → x ≠ 7 → x ≠ 8 → s9 28 x = s 28 x := fun x q1 q2 q3 => by rw [e9, g_set_k q3, g_set_k q2, g_set_k q1, e8, g_set_ne (by decide), o2 28 (by omega)]
      have s947 : s9 47 2 = nI (kk + 1) := by rw [e9, g_set_ne (by decide), g_set_ne (by decide), g_set_ne (by decide), e8, g_set_eq]
      have s9p : r_st s9 (55 + 6 * kk) (m0 930) := by
        have := o1
        rw [show 47 + 8 + 6 * kk = 55 + 6 * kk by omega] at this
        exact r_st_m this (fun b q1 q2 => by rw [e9, g_set_ne (by omega), g_set_ne (by omega), g_set_ne (by omega), e8, g_set_ne (by omega)])
      -- the model keeps
      obtain ⟨M1, y5, o3, o4⟩ := m_copies (m := g_set M 464 3 (-1 : Int32)) (a := 930) (b := 933 + kk) (by omega)
      refine qq_bM y5 ?_
      have M1o : ∀ b, b ≠ 464 → b ≠ 933 + kk → M1 b = M b := fun b q1 q2 => by rw [o4 b q2, g_set_ne q1]
      have M1k : ∀ x, x ≠ 3 → M1 464 x = M 464 x := fun x q1 => by rw [o4 464 (by omega), g_set_k q1]
      rw [M1k 28 (by decide), M1k 34 (by decide), mk 34 (by omega), w1, nI_1, b6, s928 5 (by decide) (by decide) (by decide), b5]
      obtain ⟨N3, e10⟩ : ∃ y, y = g_set (g_set (g_set (g_set M1 464 34 (nI (kk + 1))) 464 39 (0 : Int32)) 464 40 (0 : Int32)) 464 35 (0 : Int32) := ⟨_, rfl⟩
      rw [← e10]
      have N3o : ∀ b, b ≠ 464 → N3 b = M1 b := fun b q1 => by rw [e10, g_set_ne q1, g_set_ne q1, g_set_ne q1, g_set_ne q1]
      have N3k : ∀ x, x ≠ 34 → x ≠ 39 → x ≠ 40 → x ≠ 35 → N3 464 x = M1 464 x := fun x q1 q2 q3 q4 => by rw [e10, g_set_k q4, g_set_k q3, g_set_k q2, g_set_k q1]
      have N334 : N3 464 34 = nI (kk + 1) := by rw [e10, g_set_k (by decide), g_set_k (by decide), g_set_k (by decide), g_set_eq]
      have N3m : ∀ b, b ≠ 464 → b ≠ 933 + kk → ¬ wM b → N3 b = m0 b := fun b q1 q2 q3 => by rw [N3o b q1, M1o b q1 q2, mm b q1 q3]
      have s9c : ∀ b, b ≠ 1 → ¬ wS b → b ≠ 47 → ¬ (55 + 6 * kk ≤ b ∧ b ≤ 60 + 6 * kk) → s9 b = c b := fun b q1 q2 q3 q4 => by rw [s9o b (fun z => q2 (by rw [z]; unfold wS; omega)) q3 q4, cc b q1 q2]
      have e468 := N3m 468 (by decide) (by omega) (by unfold wM; omega)
      have ew : ∀ w, w < 8 → N3 (481 + w) = m0 (481 + w) := fun w hw => N3m _ (by omega) (by omega) (by unfold wM; omega)
      have ek : ∀ w, w < 8 → N3 (499 + w) = m0 (499 + w) := fun w hw => N3m _ (by omega) (by omega) (by unfold wM; omega)
      have el : ∀ w, w < 160 → N3 (508 + w) = m0 (508 + w) := fun w hw => N3m _ (by omega) (by omega) (by unfold wM; omega)
      have N319 : N3 464 19 = m0 464 19 := by rw [N3k 19 (by decide) (by decide) (by decide) (by decide), M1k 19 (by decide), mk 19 (by omega)]
      have hE : GE s9 N3 := ⟨v_g_e hg e468 ew ek, r_g_e hg rg e468 (N3m 470 (by decide) (by omega) (by unfold wM; omega)) ew ek (fun b q1 q2 => s9c b (by omega) (by unfold wS; omega) (by omega) (by omega)), v_law_e hl N319 el, r_law_e rl N319 el (by rw [s9c 15 (by decide) (by unfold wS; omega) (by decide) (by omega)]) (by rw [s9c 15 (by decide) (by unfold wS; omega) (by decide) (by omega)]) (s9c 16 (by decide) (by unfold wS; omega) (by decide) (by omega)) (s9c 17 (by decide) (by unfold wS; omega) (by decide) (by omega))⟩
      have e930 := N3m 930 (by decide) (by omega) (by unfold wM; omega)
      have hG : GP s9 N3 0 s9 N3 := by
        refine ⟨fun _ _ => rfl, ⟨rfl, rfl⟩, fun _ _ => rfl, fun _ _ _ _ => rfl, ⟨?_, ?_, ?_, ?_⟩, ?_, ?_⟩
        · rw [e9, g_set_k (by decide), g_set_k (by decide), g_set_eq]; rfl
        · rw [e10, g_set_k (by decide), g_set_k (by decide), g_set_eq]; rfl
        · rw [e9, e10, g_set_k (by decide), g_set_eq, g_set_k (by decide), g_set_eq]
        · rw [e9, e10, g_set_eq, g_set_eq]
        · rw [e930]; exact v_r_e e468 t8.1
        · rw [e930]; exact r_st_m rs48 (fun b q1 q2 => s9o b (by omega) (by omega) (by omega))
      have hBL : BL (nC N3) (nH N3) s9 N3 6 0 k := by
        rw [nC_e e468, nH_e e468]
        refine BL_e 6 0 k (fun j _ hj => ⟨by rw [s9o 29 (by decide) (by decide) (by omega)], by rw [s9o 30 (by decide) (by decide) (by omega)], by rw [s9o 31 (by decide) (by decide) (by omega)], fun i _ => by rw [N3o _ (by omega), M1o _ (by omega) (by omega)]⟩) b8
      obtain ⟨s10, x7, t, y7, bb, -, g1, g2, g3, g4, ⟨g5, g6, g7, g8⟩, g9⟩ := (G_block hE 6 0 5 5 (by decide)).2 0 k 0 s9 N3 (by omega) (by omega) (by omega) hBL hG
      refine qq_bX (show FT_perform 12 (0 : Int32) (nI k) (0 : Int32) s9 = some s10 from x7) (qq_bM (show FM_goes 12 (0 : Int32) (nI k) N3 = some t from y7) ?_)
      -- what both have in the end
      have T : ∀ b, b ≠ 464 → b ≠ 933 + kk → ¬ wM b → ¬ (b = 847 ∨ b = 848 ∨ b = 930) → t b = m0 b := fun b q1 q2 q3 q4 => by rw [g3 b (by omega), N3m b q1 q2 q3]
      have Tk : ∀ x, x = 0 ∨ x = 19 ∨ x = 33 ∨ x = 36 → t 464 x = m0 464 x := fun x hx => by rw [g4 x (by omega) (by omega) (by omega), N3k x (by omega) (by omega) (by omega) (by omega), M1k x (by omega), mk x (by omega)]
      have S : ∀ b, b ≠ 1 → ¬ wS b → ¬ (47 ≤ b ∧ b ≤ 53) → b ≠ 15 → b ≠ 18 → b ≠ 0 → ¬ (55 + 6 * kk ≤ b ∧ b ≤ 60 + 6 * kk) → g_set s10 0 15 (s10 28 8) b = c b := fun b q1 q2 q3 q4 q5 q6 q7 => by
        rw [g_set_ne q6, g1 b (by unfold wS at q2; omega), s9c b q1 q2 (by omega) q7]
      have S0 : ∀ x, x ≠ 15 → g_set s10 0 15 (s10 28 8) 0 x = c 0 x := fun x hx => by rw [g_set_k hx, g1 0 (by omega), s9c 0 (by decide) (by unfold wS; omega) (by decide) (by omega)]
      have S1 : g_set s10 0 15 (s10 28 8) 1 = s 1 := by rw [g_set_ne (by decide), g1 1 (by omega), s9o 1 (by decide) (by decide) (by omega)]
      have S47 : g_set s10 0 15 (s10 28 8) 47 2 = nI (kk + 1) := by rw [g_set_ne (by decide), g1 47 (by omega)]; exact s947
      have S15 : (g_set s10 0 15 (s10 28 8)) 15 3 = c 15 3 ∧ (g_set s10 0 15 (s10 28 8)) 15 4 = c 15 4 := by
        rw [g_set_ne (by decide), g2.1, g2.2, s9c 15 (by decide) (by unfold wS; omega) (by decide) (by omega)]
        exact ⟨rfl, rfl⟩
      have E468 := T 468 (by decide) (by omega) (by unfold wM; omega) (by omega)
      have EW : ∀ w, w < 8 → t (481 + w) = m0 (481 + w) := fun w hw => T _ (by omega) (by omega) (by unfold wM; omega) (by omega)
      have EK : ∀ w, w < 8 → t (499 + w) = m0 (499 + w) := fun w hw => T _ (by omega) (by omega) (by unfold wM; omega) (by omega)
      have EL : ∀ w, w < 160 → t (508 + w) = m0 (508 + w) := fun w hw => T _ (by omega) (by omega) (by unfold wM; omega) (by omega)
      have E466 := T 466 (by decide) (by omega) (by unfold wM; omega) (by omega)
      have RRn : RR (g_set s10 0 15 (s10 28 8)) t := by
        refine ⟨R_tape_0 ?_ ?_, ⟨?_, ?_, ?_, ?_⟩, ⟨v_g_e hg E468 EW EK, r_g_e hg rg E468 (T 470 (by decide) (by omega) (by unfold wM; omega) (by omega)) EW EK (fun b q1 q2 => S b (by omega) (by unfold wS; omega) (by omega) (by omega) (by omega) (by omega) (by omega))⟩, ⟨v_law_e hl (Tk 19 (by omega)) EL, r_law_e rl (Tk 19 (by omega)) EL S15.1 S15.2 (S 16 (by decide) (by unfold wS; omega) (by omega) (by omega) (by omega) (by omega) (by omega)) (S 17 (by decide) (by unfold wS; omega) (by omega) (by omega) (by omega) (by omega) (by omega))⟩, R_songs_e t7 (Tk 33 (by omega)) E468 (fun w hw => T _ (by omega) (by omega) (by unfold wM; omega) (by omega)) (by rw [S 23 (by decide) (by unfold wS; omega) (by omega) (by omega) (by omega) (by omega) (by omega)]) (S 24 (by decide) (by unfold wS; omega) (by omega) (by omega) (by omega) (by omega) (by omega)), ⟨g9.1, r_st_m g9.2 (fun b q1 q2 => g_set_ne (by omega))⟩, ⟨kk + 1, by omega, ?_, S47, fun j hj => ?_⟩, R_img_e t10 E468 (Tk 36 (by omega)) (fun j hj => T _ (by omega) (by omega) (by unfold wM; omega) (by omega)) (S0 14 (by decide)) (fun b q1 q2 => S b (by omega) (by unfold wS; omega) (by omega) (by omega) (by omega) (by omega) (by omega))⟩
        · rw [S1]; exact c11
        · rw [g4 1 (by decide) (by decide) (by decide), N3k 1 (by decide) (by decide) (by decide) (by decide), M1k 1 (by decide)]; exact m11
        · rw [S1, b4.1.2.2.2.1, g4 3 (by decide) (by decide) (by decide), N3k 3 (by decide) (by decide) (by decide) (by decide), o4 464 (by omega), g_set_eq]
        · rw [g_set_eq]; exact g8
        · rw [S0 16 (by decide), E466]; exact tn.2.2.1
        · rw [S0 17 (by decide), E466]; exact tn.2.2.2
        · rw [g4 34 (by decide) (by decide) (by decide)]; exact N334
        · have tj : t (933 + j) = N3 (933 + j) := g3 _ (by omega)
          by_cases z : j = kk
          · subst z
            have row : ∀ i, i < 48 → t (933 + j) i = m0 930 i := fun i hi => by rw [tj, N3o _ (by omega), o3 i hi, g_set_ne (by decide), mm 930 (by decide) (by unfold wM; omega)]
            refine ⟨v_r_c E468 t8.1 row, r_st_r (r_st_m s9p (fun b q1 q2 => ?_)) (fun i hi => row i (by omega))⟩
            rw [g_set_ne (by omega), g1 b (by omega)]
          · have row : t (933 + j) = m0 (933 + j) := T _ (by omega) (by omega) (by unfold wM; omega) (by omega)
            rw [row]
            exact ⟨v_r_e E468 (w3 j (by omega)).1, r_st_m (w3 j (by omega)).2 (fun b q1 q2 => S b (by omega) (by unfold wS; omega) (by omega) (by omega) (by omega) (by omega) (by omega))⟩
      exact qq_v (by rw [Tk 0 (by omega)]; exact z0) RRn g7
    · obtain ⟨p3', q3, f, w, f0, f3, f4⟩ := id hF
      refine qq_fX (faulty_1 f0 f3) (qq_fM (by rw [f4.2.2.1]; exact f0) ?_)
      exact q_ends h0 z0 hF (fun b hb => cc b (by omega) (by unfold wS; omega)) ⟨fun b hb => mm b (by omega) (by unfold wM; omega), mk 19 (by omega), mk 33 (by omega), mk 34 (by omega), mk 36 (by omega)⟩ c11 m11 (mk 0 (by omega)) (mk 35 (by omega))
  · refine qq_bX x1 (qq_fX n20 ?_)
    rcases f1 with f1 | ⟨f1, f2⟩
    · exact qq_tM f1 (bad _ rfl)
    · exact qq_fM (by rw [f1]; decide) (qq_fM f2 (bad _ rfl))
