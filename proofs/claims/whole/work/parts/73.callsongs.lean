/-! The call songs. -/
theorem m_laysS {m : gM} {k : Nat} (hk : k ≤ 8) : okk (FM_laysS (nI k) m) (fun s => (∀ j, j < k → s (830 + j) 0 = m (839 + j) 0 ∧ s (830 + j) 1 = m (839 + j) 1) ∧ ∀ b, ¬ (830 ≤ b ∧ b ≤ 837) → s b = m b) := by
  have L : ∀ (q i : Nat), i + q = k → ∀ f, q < f → ∀ M : gM, (∀ j, j < i → M (830 + j) 0 = m (839 + j) 0 ∧ M (830 + j) 1 = m (839 + j) 1) → (∀ b, ¬ (830 ≤ b ∧ b ≤ 837) → M b = m b) → okk (FM_laysS_L2 (nI k) f (nI i) M) (fun s => (∀ j, j < k → s (830 + j) 0 = m (839 + j) 0 ∧ s (830 + j) 1 = m (839 + j) 1) ∧ ∀ b, ¬ (830 ≤ b ∧ b ≤ 837) → s b = m b) := by
    intro q
    induction q with
    | zero =>
      intro i hi f hf M h1 h2
      obtain ⟨f, rfl⟩ : ∃ g, f = g + 1 := ⟨f - 1, by omega⟩
      have : i = k := by omega
      subst this
      rw [FM_laysS_L2, if_pos (Int32.le_refl _)]
      exact okk_some ⟨h1, h2⟩
    | succ q ih =>
      intro i hi f hf M h1 h2
      obtain ⟨f, rfl⟩ : ∃ g, f = g + 1 := ⟨f - 1, by omega⟩
      have i8 : i < 8 := by omega
      have e1 : FM_laysS_L10 (nI k) (FM_laysS_L2 (nI k) f) (997 + 2 + 1) (nI i) (nI 0) M = FM_laysS_L2 (nI k) f (nI (i + 1)) (g_set (g_set M (830 + i) 0 (M (839 + i) 0)) (830 + i) 1 (M (839 + i) 1)) := by
        rw [FM_laysS_L10, ix_in i8 (by decide), if_neg (show ¬ nI 2 ≤ nI 0 by decide), ix_in i8 (by decide), ix_in i8 (by decide), ix_in (show 0 < 2 by decide) (by decide), ix_in (show 0 < 2 by decide) (by decide)]
        unfold g_let
        dsimp only
        rw [nI_1, FM_laysS_L10, ix_in i8 (by decide), if_neg (show ¬ nI 2 ≤ nI (0 + 1) by decide), ix_in i8 (by decide), ix_in i8 (by decide), ix_in (show 0 + 1 < 2 by decide) (by decide), ix_in (show 0 + 1 < 2 by decide) (by decide)]
        unfold g_let
        dsimp only
        rw [nI_1, FM_laysS_L10, ix_in i8 (by decide), if_pos (show nI 2 ≤ nI (0 + 1 + 1) by decide), nI_1, g_set_ne (show 839 + i ≠ 830 + i by omega)]
      rw [FM_laysS_L2, if_neg (nI_ge (show i < k by omega) (by omega)), show (0 : Int32) = nI 0 from rfl]
      refine okk_e e1 (ih (i + 1) (by omega) f (by omega) _ (fun j hj => ?_) (fun b hb => ?_))
      · by_cases ej : j = i
        · rw [ej, g_set_eq, g_set_k (by decide), g_set_eq, h2 (839 + i) (by omega)]
          exact ⟨rfl, rfl⟩
        · rw [g_set_ne (by omega), g_set_ne (by omega)]; exact h1 j (by omega)
      · rw [g_set_ne (by omega), g_set_ne (by omega)]; exact h2 b hb
  unfold FM_laysS
  exact L k 0 (by omega) 1000 (by omega) m (fun j hj => absurd hj (by omega)) (fun _ _ => rfl)

theorem m_laysL {m : gM} {k : Nat} (hk : k ≤ 160) : okk (FM_laysL (nI k) m) (fun s => (∀ j, j < k → s (508 + j) 0 = m (669 + j) 0 ∧ s (508 + j) 1 = m (669 + j) 1) ∧ ∀ b, ¬ (508 ≤ b ∧ b ≤ 667) → s b = m b) := by
  have L : ∀ (q i : Nat), i + q = k → ∀ f, q < f → ∀ M : gM, (∀ j, j < i → M (508 + j) 0 = m (669 + j) 0 ∧ M (508 + j) 1 = m (669 + j) 1) → (∀ b, ¬ (508 ≤ b ∧ b ≤ 667) → M b = m b) → okk (FM_laysL_L2 (nI k) f (nI i) M) (fun s => (∀ j, j < k → s (508 + j) 0 = m (669 + j) 0 ∧ s (508 + j) 1 = m (669 + j) 1) ∧ ∀ b, ¬ (508 ≤ b ∧ b ≤ 667) → s b = m b) := by
    intro q
    induction q with
    | zero =>
      intro i hi f hf M h1 h2
      obtain ⟨f, rfl⟩ : ∃ g, f = g + 1 := ⟨f - 1, by omega⟩
      have : i = k := by omega
      subst this
      rw [FM_laysL_L2, if_pos (Int32.le_refl _)]
      exact okk_some ⟨h1, h2⟩
    | succ q ih =>
      intro i hi f hf M h1 h2
      obtain ⟨f, rfl⟩ : ∃ g, f = g + 1 := ⟨f - 1, by omega⟩
      have i8 : i < 160 := by omega
      have e1 : FM_laysL_L10 (nI k) (FM_laysL_L2 (nI k) f) (997 + 2 + 1) (nI i) (nI 0) M = FM_laysL_L2 (nI k) f (nI (i + 1)) (g_set (g_set M (508 + i) 0 (M (669 + i) 0)) (508 + i) 1 (M (669 + i) 1)) := by
        rw [FM_laysL_L10, ix_in i8 (by decide), if_neg (show ¬ nI 2 ≤ nI 0 by decide), ix_in i8 (by decide), ix_in i8 (by decide), ix_in (show 0 < 2 by decide) (by decide), ix_in (show 0 < 2 by decide) (by decide)]
        unfold g_let
        dsimp only
        rw [nI_1, FM_laysL_L10, ix_in i8 (by decide), if_neg (show ¬ nI 2 ≤ nI (0 + 1) by decide), ix_in i8 (by decide), ix_in i8 (by decide), ix_in (show 0 + 1 < 2 by decide) (by decide), ix_in (show 0 + 1 < 2 by decide) (by decide)]
        unfold g_let
        dsimp only
        rw [nI_1, FM_laysL_L10, ix_in i8 (by decide), if_pos (show nI 2 ≤ nI (0 + 1 + 1) by decide), nI_1, g_set_ne (show 669 + i ≠ 508 + i by omega)]
      rw [FM_laysL_L2, if_neg (nI_ge (show i < k by omega) (by omega)), show (0 : Int32) = nI 0 from rfl]
      refine okk_e e1 (ih (i + 1) (by omega) f (by omega) _ (fun j hj => ?_) (fun b hb => ?_))
      · by_cases ej : j = i
        · rw [ej, g_set_eq, g_set_k (by decide), g_set_eq, h2 (669 + i) (by omega)]
          exact ⟨rfl, rfl⟩
        · rw [g_set_ne (by omega), g_set_ne (by omega)]; exact h1 j (by omega)
      · rw [g_set_ne (by omega), g_set_ne (by omega)]; exact h2 b hb
  unfold FM_laysL
  exact L k 0 (by omega) 1000 (by omega) m (fun j hj => absurd hj (by omega)) (fun _ _ => rfl)

theorem m_laysW {m : gM} {k : Nat} (hk : k ≤ 8) : okk (FM_laysW (nI k) m) (fun s => (∀ j, j < k → s (481 + j) 0 = m (472 + j) 0 ∧ s (481 + j) 1 = m (472 + j) 1) ∧ ∀ b, ¬ (481 ≤ b ∧ b ≤ 488) → s b = m b) := by
  have L : ∀ (q i : Nat), i + q = k → ∀ f, q < f → ∀ M : gM, (∀ j, j < i → M (481 + j) 0 = m (472 + j) 0 ∧ M (481 + j) 1 = m (472 + j) 1) → (∀ b, ¬ (481 ≤ b ∧ b ≤ 488) → M b = m b) → okk (FM_laysW_L2 (nI k) f (nI i) M) (fun s => (∀ j, j < k → s (481 + j) 0 = m (472 + j) 0 ∧ s (481 + j) 1 = m (472 + j) 1) ∧ ∀ b, ¬ (481 ≤ b ∧ b ≤ 488) → s b = m b) := by
    intro q
    induction q with
    | zero =>
      intro i hi f hf M h1 h2
      obtain ⟨f, rfl⟩ : ∃ g, f = g + 1 := ⟨f - 1, by omega⟩
      have : i = k := by omega
      subst this
      rw [FM_laysW_L2, if_pos (Int32.le_refl _)]
      exact okk_some ⟨h1, h2⟩
    | succ q ih =>
      intro i hi f hf M h1 h2
      obtain ⟨f, rfl⟩ : ∃ g, f = g + 1 := ⟨f - 1, by omega⟩
      have i8 : i < 8 := by omega
      have e1 : FM_laysW_L10 (nI k) (FM_laysW_L2 (nI k) f) (997 + 2 + 1) (nI i) (nI 0) M = FM_laysW_L2 (nI k) f (nI (i + 1)) (g_set (g_set M (481 + i) 0 (M (472 + i) 0)) (481 + i) 1 (M (472 + i) 1)) := by
        rw [FM_laysW_L10, ix_in i8 (by decide), if_neg (show ¬ nI 2 ≤ nI 0 by decide), ix_in i8 (by decide), ix_in i8 (by decide), ix_in (show 0 < 2 by decide) (by decide), ix_in (show 0 < 2 by decide) (by decide)]
        unfold g_let
        dsimp only
        rw [nI_1, FM_laysW_L10, ix_in i8 (by decide), if_neg (show ¬ nI 2 ≤ nI (0 + 1) by decide), ix_in i8 (by decide), ix_in i8 (by decide), ix_in (show 0 + 1 < 2 by decide) (by decide), ix_in (show 0 + 1 < 2 by decide) (by decide)]
        unfold g_let
        dsimp only
        rw [nI_1, FM_laysW_L10, ix_in i8 (by decide), if_pos (show nI 2 ≤ nI (0 + 1 + 1) by decide), nI_1, g_set_ne (show 472 + i ≠ 481 + i by omega)]
      rw [FM_laysW_L2, if_neg (nI_ge (show i < k by omega) (by omega)), show (0 : Int32) = nI 0 from rfl]
      refine okk_e e1 (ih (i + 1) (by omega) f (by omega) _ (fun j hj => ?_) (fun b hb => ?_))
      · by_cases ej : j = i
        · rw [ej, g_set_eq, g_set_k (by decide), g_set_eq, h2 (472 + i) (by omega)]
          exact ⟨rfl, rfl⟩
        · rw [g_set_ne (by omega), g_set_ne (by omega)]; exact h1 j (by omega)
      · rw [g_set_ne (by omega), g_set_ne (by omega)]; exact h2 b hb
  unfold FM_laysW
  exact L k 0 (by omega) 1000 (by omega) m (fun j hj => absurd hj (by omega)) (fun _ _ => rfl)

theorem m_laysC {m : gM} {k : Nat} (hk : k ≤ 8) : okk (FM_laysC (nI k) m) (fun s => (∀ j, j < k → s (499 + j) 0 = m (490 + j) 0 ∧ s (499 + j) 1 = m (490 + j) 1) ∧ ∀ b, ¬ (499 ≤ b ∧ b ≤ 506) → s b = m b) := by
  have L : ∀ (q i : Nat), i + q = k → ∀ f, q < f → ∀ M : gM, (∀ j, j < i → M (499 + j) 0 = m (490 + j) 0 ∧ M (499 + j) 1 = m (490 + j) 1) → (∀ b, ¬ (499 ≤ b ∧ b ≤ 506) → M b = m b) → okk (FM_laysC_L2 (nI k) f (nI i) M) (fun s => (∀ j, j < k → s (499 + j) 0 = m (490 + j) 0 ∧ s (499 + j) 1 = m (490 + j) 1) ∧ ∀ b, ¬ (499 ≤ b ∧ b ≤ 506) → s b = m b) := by
    intro q
    induction q with
    | zero =>
      intro i hi f hf M h1 h2
      obtain ⟨f, rfl⟩ : ∃ g, f = g + 1 := ⟨f - 1, by omega⟩
      have : i = k := by omega
      subst this
      rw [FM_laysC_L2, if_pos (Int32.le_refl _)]
      exact okk_some ⟨h1, h2⟩
    | succ q ih =>
      intro i hi f hf M h1 h2
      obtain ⟨f, rfl⟩ : ∃ g, f = g + 1 := ⟨f - 1, by omega⟩
      have i8 : i < 8 := by omega
      have e1 : FM_laysC_L10 (nI k) (FM_laysC_L2 (nI k) f) (997 + 2 + 1) (nI i) (nI 0) M = FM_laysC_L2 (nI k) f (nI (i + 1)) (g_set (g_set M (499 + i) 0 (M (490 + i) 0)) (499 + i) 1 (M (490 + i) 1)) := by
        rw [FM_laysC_L10, ix_in i8 (by decide), if_neg (show ¬ nI 2 ≤ nI 0 by decide), ix_in i8 (by decide), ix_in i8 (by decide), ix_in (show 0 < 2 by decide) (by decide), ix_in (show 0 < 2 by decide) (by decide)]
        unfold g_let
        dsimp only
        rw [nI_1, FM_laysC_L10, ix_in i8 (by decide), if_neg (show ¬ nI 2 ≤ nI (0 + 1) by decide), ix_in i8 (by decide), ix_in i8 (by decide), ix_in (show 0 + 1 < 2 by decide) (by decide), ix_in (show 0 + 1 < 2 by decide) (by decide)]
        unfold g_let
        dsimp only
        rw [nI_1, FM_laysC_L10, ix_in i8 (by decide), if_pos (show nI 2 ≤ nI (0 + 1 + 1) by decide), nI_1, g_set_ne (show 490 + i ≠ 499 + i by omega)]
      rw [FM_laysC_L2, if_neg (nI_ge (show i < k by omega) (by omega)), show (0 : Int32) = nI 0 from rfl]
      refine okk_e e1 (ih (i + 1) (by omega) f (by omega) _ (fun j hj => ?_) (fun b hb => ?_))
      · by_cases ej : j = i
        · rw [ej, g_set_eq, g_set_k (by decide), g_set_eq, h2 (490 + i) (by omega)]
          exact ⟨rfl, rfl⟩
        · rw [g_set_ne (by omega), g_set_ne (by omega)]; exact h1 j (by omega)
      · rw [g_set_ne (by omega), g_set_ne (by omega)]; exact h2 b hb
  unfold FM_laysC
  exact L k 0 (by omega) 1000 (by omega) m (fun j hj => absurd hj (by omega)) (fun _ _ => rfl)

theorem RR_ks {c m c' m' : gM} (h : RR c m) (hc : ∀ b, (b = 0 ∨ (3 ≤ b ∧ b ≤ 8) ∨ (15 ≤ b ∧ b ≤ 17) ∨ (47 ≤ b ∧ b ≤ 463)) → c' b = c b) (hm : ∀ b, (b = 468 ∨ b = 470 ∨ (481 ≤ b ∧ b ≤ 488) ∨ (499 ≤ b ∧ b ≤ 506) ∨ (508 ≤ b ∧ b ≤ 667) ∨ b = 930 ∨ (933 ≤ b ∧ b ≤ 948) ∨ (950 ≤ b ∧ b ≤ 952)) → m' b = m b) (m5 : m' 464 19 = m 464 19) (m7 : m' 464 34 = m 464 34) (m9 : m' 464 36 = m 464 36) (ht : R_tape c' m') (hn : R_num c' m') (hs : R_songs c' m') : RR c' m' := by
  obtain ⟨t1, t2, ⟨t3, t4⟩, ⟨t5, t6⟩, t7, t8, t9, t10⟩ := h
  have e468 := hm 468 (by omega)
  have ew : ∀ w, w < 8 → m' (481 + w) = m (481 + w) := fun w hw => hm _ (by omega)
  have ek : ∀ w, w < 8 → m' (499 + w) = m (499 + w) := fun w hw => hm _ (by omega)
  have el : ∀ w, w < 160 → m' (508 + w) = m (508 + w) := fun w hw => hm _ (by omega)
  exact ⟨ht, hn, ⟨v_g_e t3 e468 ew ek, r_g_e t3 t4 e468 (hm 470 (by omega)) ew ek (fun b b1 b2 => hc b (by omega))⟩, ⟨v_law_e t5 m5 el, r_law_e t6 m5 el (by rw [hc 15 (by omega)]) (by rw [hc 15 (by omega)]) (hc 16 (by omega)) (hc 17 (by omega))⟩, hs, R_now_e t8 e468 (hm 930 (by omega)) (fun b b1 b2 => hc b (by omega)), R_past_e t9 e468 m7 (fun j hj => hm _ (by omega)) (by rw [hc 47 (by omega)]) (fun b b1 b2 => hc b (by omega)), R_img_e t10 e468 m9 (fun j hj => hm _ (by omega)) (by rw [hc 0 (by omega)]) (fun b b1 b2 => hc b (by omega))⟩
theorem q_songs {c m : gM} (h : RR c m) (nn : Int32) : qq 1 (FX_songs nn c) (FM_songs nn m) := by
  have h0 := RR_t h 0
  obtain ⟨m0, e0⟩ : ∃ y, y = g_set m 464 0 0 := ⟨_, rfl⟩
  rw [← e0] at h0
  have z0 : m0 464 0 = 0 := by rw [e0, g_set_eq]
  have hb := h0
  obtain ⟨t1, t2, ⟨hg, rg⟩, ⟨hl, rl⟩, t7, t8, t9, t10⟩ := hb
  have rs := t8.2
  have hv := t8.1.1
  have bad : ∀ M, M = m0 → qq 1 (some (2, (0 : Int32), g_set c 0 17 (c 0 17 + 1))) (FM_songs_J24 nn M) := by
    rintro _ rfl
    unfold FM_songs_J24 FM_songs_J29
    exact qq_bM (m_bad_il z0 (by decide)) (qq_fM i10 (qq_il h0))
  have hm1 : m 464 1 = m0 464 1 := by rw [e0]; rfl
  unfold FX_songs FM_songs
  rw [← e0, hm1]
  rcases nd_text t1 nn (mo := 60) (by decide) with ⟨N, rfl, N60, hby, N6, f1, f2, x1⟩ | ⟨f1, x1⟩
  · refine qq_bX x1 (qq_tX rfl (qq_fM (by rw [f1]; decide) (qq_tM f2 ?_)))
    unfold FM_songs_J29
    refine qq_bM (m_bad0 z0 _ _) (qq_tM rfl ?_)
    dsimp only
    obtain ⟨B, c1, x2, m1, y2, hP, p1, p2, p3, p4, p5, p6, p7⟩ := P_open N6 hby
    refine qq_bX x2 (qq_bM y2 ?_)
    have W8 := hg.2.1.1
    have e35 : c1 3 5 = nI (nW m0) := by rw [p5 3 (by decide), rg.1.1, hg.1.1]
    have e468 : m1 468 0 = nI (nW m0) := by rw [p6 468 (by decide), hg.1.1]
    rw [e35]
    unfold FS_read FS_clearR g_let
    rw [Option.bind_some]
    have f26 : ∀ x, x < 8 → g_set (r_fill c1 26 8 (-1)) 25 1 0 26 x = -1 := fun x hx => by
      rw [g_set_ne (by decide)]
      unfold r_fill
      rw [if_pos rfl, if_pos hx]
    have fo : ∀ b, b ≠ 25 → b ≠ 26 → g_set (r_fill c1 26 8 (-1)) 25 1 0 b = c1 b := fun b b1 b2 => by rw [g_set_ne b1, r_fill_ne b2]
    have hP2 : PS N B 0 (skp N B 0) (g_set (r_fill c1 26 8 (-1)) 25 1 0) m1 := by
      refine ⟨?_, hP.2⟩
      have := hP.1
      unfold tC at this ⊢
      rw [fo 1 (by decide) (by decide), fo 2 (by decide) (by decide)]
      exact this
    have hS0 : SD (nW m0) 0 0 (g_set (r_fill c1 26 8 (-1)) 25 1 0) m1 := by
      refine ⟨g_set_eq _ _ _ _, f26 0 (by decide), ?_, fun g hg2 => ?_, fun k hk => absurd hk (by omega), fun g hg2 => Or.inl (f26 g hg2)⟩
      · have : ∀ n, n ≤ 8 → fsum (fun g => if g_set (r_fill c1 26 8 (-1)) 25 1 0 26 g = -1 then 0 else 1) n = 0 := by
          intro n
          induction n with
          | zero => intro _; rfl
          | succ n ih =>
            intro hn
            show fsum _ n + (if g_set (r_fill c1 26 8 (-1)) 25 1 0 26 n = -1 then 0 else 1) = 0
            rw [ih (by omega), f26 n (by omega), if_pos rfl]
        exact this 8 (by omega)
      · rw [f26 g hg2, if_pos rfl]
        exact (by decide +kernel : ∀ g, g < 8 → F_hasBit 0 (nI g) = 0) g hg2
    obtain ⟨s, x3, M, mn, bn, y3, k1, k2, k3⟩ := S_L N60 W8 N 0 0 (by omega) (by omega) 1000 999 (by omega) (by omega) 0 0 _ m1 hP2 hS0 e468
    have y4 : FM_songs_L48 (nI N) 1000 (0 : Int32) (0 : Int32) m1 = FM_songs_J170 (nI N) (nI mn) M := y3
    rw [y4]
    refine qq_bX x3 ?_
    have cc : ∀ b, b ≠ 1 → ¬ sS b → s b = c b := fun b b1 b2 => by rw [k1.1 b b1 b2, fo b (fun z => b2 (Or.inl z)) (fun z => b2 (Or.inr z)), p5 b b1]
    have mm : ∀ b, b ≠ 464 → ¬ sM b → M b = m0 b := fun b b1 b2 => by rw [k2.1 b b1 b2, p6 b b1]
    have c11 : s 1 1 = 0 := by rw [k1.2 1 (by decide) (by decide) (by decide) (by decide), fo 1 (by decide) (by decide), p1]
    have m11 : M 464 1 = 0 := by rw [k2.2 1 (by omega), p2]
    have mk : ∀ k, k = 0 ∨ k = 3 ∨ 30 ≤ k ∨ k = 19 → M 464 k = m0 464 k := fun k hk => by rw [k2.2 k (by omega), p7 k (by omega)]
    unfold FM_songs_J170
    rcases k3 with ⟨e, f, hP3, hS3⟩ | hF
    · have m8 := SD_7 hS3
      obtain ⟨a1, a2, a3, a4, a5, a6⟩ := hS3
      refine qq_tX (faulty_0 hP3.1) (qq_tM hP3.2.1.2.2.1 ?_)
      unfold FS_copy g_let
      refine qq_bX rfl ?_
      obtain ⟨M2, y5, l1, l2⟩ := m_laysS (m := g_set (g_set M 464 3 (-1)) 464 33 (nI mn)) (k := mn) (by omega)
      refine qq_bM y5 ?_
      have q25 : r_copy s 26 24 8 25 1 = nI mn := by rw [r_copy_ne (by decide)]; exact a1
      have m2o : ∀ b, b ≠ 464 → ¬ sM b → ¬ (830 ≤ b ∧ b ≤ 837) → M2 b = m0 b := fun b b1 b2 b3 => by rw [l2 b (by omega), g_set_ne b1, g_set_ne b1, mm b b1 b2]
      have m2k : ∀ k, k ≠ 3 → k ≠ 33 → M2 464 k = M 464 k := fun k h3 h33 => by rw [l2 464 (by omega), g_set_k h33, g_set_k h3]
      have m2l : ∀ j, j < mn → M2 (830 + j) 0 = M (839 + j) 0 ∧ M2 (830 + j) 1 = M (839 + j) 1 := fun j hj => by
        have := l1 j hj
        rw [g_set_ne (by omega), g_set_ne (by omega)] at this
        exact this
      have co : ∀ b, b ≠ 1 → ¬ sS b → b ≠ 23 → b ≠ 24 → g_set (r_copy s 26 24 8) 23 1 (r_copy s 26 24 8 25 1) b = c b := fun b b1 b2 b3 b4 => by rw [g_set_ne b3, r_copy_ne b4, cc b b1 b2]
      have c24 : ∀ g, g < 8 → g_set (r_copy s 26 24 8) 23 1 (r_copy s 26 24 8 25 1) 24 g = s 26 g := fun g hg2 => by rw [g_set_ne (by decide), r_copy_in hg2]
      have c1k : ∀ k, g_set (r_copy s 26 24 8) 23 1 (r_copy s 26 24 8 25 1) 1 k = s 1 k := fun k => by rw [g_set_ne (by decide), r_copy_ne (by decide)]
      refine qq_v ?_ ?_ ?_
      · rw [m2k 0 (by decide) (by decide), mk 0 (by omega)]; exact z0
      · refine RR_ks h0 (fun b hb => co b (by omega) (by unfold sS; omega) (by omega) (by omega)) (fun b hb => m2o b (by omega) (by unfold sM; omega) (by omega)) ?_ ?_ ?_ (R_tape_0 ?_ ?_) ⟨?_, ?_, ?_, ?_⟩ ⟨mn, by omega, ?_, ?_, fun k hk => ?_, fun g hg2 => ?_⟩
        · rw [m2k 19 (by decide) (by decide), mk 19 (by omega)]
        · rw [m2k 34 (by decide) (by decide), mk 34 (by omega)]
        · rw [m2k 36 (by decide) (by decide), mk 36 (by omega)]
        · rw [c1k]; exact c11
        · rw [m2k 1 (by decide) (by decide)]; exact m11
        · rw [c1k, hP3.1.2.2.2.1, l2 464 (by omega), g_set_k (by decide), g_set_eq]
        · rw [co 0 (by decide) (by unfold sS; omega) (by decide) (by decide), m2k 35 (by decide) (by decide), mk 35 (by omega)]; exact t2.2.1
        · rw [co 0 (by decide) (by unfold sS; omega) (by decide) (by decide), m2o 466 (by decide) (by unfold sM; omega) (by omega)]; exact t2.2.2.1
        · rw [co 0 (by decide) (by unfold sS; omega) (by decide) (by decide), m2o 466 (by decide) (by unfold sM; omega) (by omega)]; exact t2.2.2.2
        · rw [l2 464 (by omega), g_set_eq]
        · rw [g_set_eq]; exact q25
        · obtain ⟨g2, t2', b1, b2, b3, b4, b5, b6⟩ := a5 k hk
          have eW : nW M2 = nW m0 := nW_e (m2o 468 (by decide) (by unfold sM; omega) (by omega))
          refine ⟨g2, t2', b1, by rw [eW]; exact b2, b3, by rw [(m2l k hk).1]; exact b4, by rw [(m2l k hk).2]; exact b5, by rw [c24 g2 (by omega)]; exact b6⟩
        · rcases a6 g hg2 with z | ⟨k, k1, k2⟩
          · exact Or.inl (by rw [c24 g hg2]; exact z)
          · exact Or.inr ⟨k, k1, by rw [(m2l k k1).1]; exact k2⟩
      · rw [g_set_eq]; exact q25
    · obtain ⟨p3', q3, f, w, f0, f3, f4⟩ := id hF
      refine qq_fX (faulty_1 f0 f3) (qq_fM (by rw [f4.2.2.1]; exact f0) ?_)
      exact q_ends h0 z0 hF (fun b hb => cc b (by omega) (by unfold sS; omega)) ⟨fun b hb => mm b (by omega) (by unfold sM; omega), mk 19 (by omega), mk 33 (by omega), mk 34 (by omega), mk 36 (by omega)⟩ c11 m11 (mk 0 (by omega)) (mk 35 (by omega))
  · refine qq_bX x1 (qq_fX n20 ?_)
    rcases f1 with f1 | ⟨f1, f2⟩
    · exact qq_tM f1 (bad _ rfl)
    · exact qq_fM (by rw [f1]; decide) (qq_fM f2 (bad _ rfl))
