/-! listen. -/
theorem m_isTold {m : gM} {n : Nat} (hn : Ln m n) (g : Int32) : (FM_isTold g m = some 1 ∧ ∃ k, k < n ∧ m (830 + k) 0 = g) ∨ (FM_isTold g m = some 0 ∧ ∀ k, k < n → ¬ m (830 + k) 0 = g) := by
  obtain ⟨n8, n1, n2⟩ := hn
  have L : ∀ (q k : Nat), k + q = n → ∀ f, q < f → (∀ j, j < k → ¬ m (830 + j) 0 = g) → (FM_isTold_L2 g m f (nI k) = some 1 ∧ ∃ k, k < n ∧ m (830 + k) 0 = g) ∨ (FM_isTold_L2 g m f (nI k) = some 0 ∧ ∀ k, k < n → ¬ m (830 + k) 0 = g) := by
    intro q
    induction q with
    | zero =>
      intro k hk f hf h
      obtain ⟨f, rfl⟩ : ∃ g, f = g + 1 := ⟨f - 1, by omega⟩
      have : k = n := by omega
      subst this
      rw [FM_isTold_L2, n1, if_pos (Int32.le_refl _)]
      exact Or.inr ⟨rfl, h⟩
    | succ q ih =>
      intro k hk f hf h
      obtain ⟨f, rfl⟩ : ∃ g, f = g + 1 := ⟨f - 1, by omega⟩
      rw [FM_isTold_L2, n1, if_neg (nI_ge (show k < n by omega) (by omega)), ix_in (show k < 8 by omega) (by decide), nI_1]
      by_cases e : m (830 + k) 0 = g
      · rw [if_pos e]
        exact Or.inl ⟨rfl, k, by omega, e⟩
      · rw [if_neg e]
        exact ih (k + 1) (by omega) f (by omega) (fun j hj => by
          by_cases ej : j = k
          · rw [ej]; exact e
          · exact h j (by omega))
  exact L n 0 (by omega) 1000 (by omega) (fun j hj => absurd hj (by omega))
theorem q_listen_L {c m : gM} (h0 : RR c m) (z0 : m 464 0 = 0) {n : Nat} (hn : Ln m n) (what : Int32) : ∀ (q g : Nat), nW m ≤ g + q → g ≤ 9 → ∀ f, q < f → ∀ s t M N, eCg c M → FF (oul (fun a h => sg m a h n) (nH m) (nC m)) M → M 44 7 = s → M 44 8 = t → eM2 m N → okk (FU_chooseGate_L17 f (nI g) M) (fun x => qq 1 (if what = (0 : Int32) then (some (0, x 44 7, x)) else (some (0, x 44 8, x))) (FM_listen_L37 what f s t (nI g) N)) := by
  have hb := h0
  obtain ⟨t1, t2, ⟨hg, rg⟩, ⟨hl, rl⟩, t7, t8, t9, t10⟩ := hb
  obtain ⟨b1, b2, b3⟩ := hg.2.1
  intro q
  have stop : ∀ g, nW m ≤ g → g ≤ 9 → ∀ f, 0 < f → ∀ s t M N, eCg c M → M 44 7 = s → M 44 8 = t → eM2 m N → okk (FU_chooseGate_L17 f (nI g) M) (fun x => qq 1 (if what = (0 : Int32) then (some (0, x 44 7, x)) else (some (0, x 44 8, x))) (FM_listen_L37 what f s t (nI g) N)) := by
    intro g hgW g9 f hf s t M N e h7 h8 e2
    obtain ⟨f, rfl⟩ : ∃ g, f = g + 1 := ⟨f - 1, by omega⟩
    rw [FU_chooseGate_L17, e.1 3 (by omega), rg.1.1, hg.1.1, if_pos (nI_le hgW (by omega))]
    refine okk_some ?_
    rw [FM_listen_L37, e2 468 (by omega), hg.1.1, if_pos (nI_le hgW (by omega))]
    have r1 := RR_e h0 e.eC e2.eM
    have z1 : N 464 0 = 0 := by rw [e2 464 (by omega)]; exact z0
    by_cases e0 : what = 0
    · rw [if_pos e0, if_pos e0]; exact qq_v z1 r1 h7
    · rw [if_neg e0, if_neg e0]; exact qq_v z1 r1 h8
  induction q with
  | zero =>
    intro g hgW g9 f hf s t M N e hF h7 h8 e2
    exact stop g (by omega) g9 f (by omega) s t M N e h7 h8 e2
  | succ q ih =>
    intro g hgW g9 f hf s t M N e hF h7 h8 e2
    rcases Nat.lt_or_ge g (nW m) with q0 | q0
    · obtain ⟨f, rfl⟩ : ∃ g, f = g + 1 := ⟨f - 1, by omega⟩
      have nx : ¬ nI (nW m) ≤ nI g := nI_ge q0 (by omega)
      rw [FU_chooseGate_L17, e.1 3 (by omega), rg.1.1, hg.1.1, if_neg nx]
      unfold FS_hasGate
      rw [e.1 24 (by omega), r_at_in _ (show g < 8 by omega) (by decide)]
      have told : (c 24 g = -1 → FM_isTold (nI g) N = some 0) ∧ (¬ c 24 g = -1 → FM_isTold (nI g) N = some 1) := by
        obtain ⟨k2, q1, q2, q3, q4, q5⟩ := t7
        have ek : k2 = n := by
          have hn2 := hn.2.1
          have hn1 := hn.1
          rw [q2] at hn2
          exact (nI_eq (by omega) (by omega)).mp hn2
        subst ek
        rcases m_isTold (Ln_e e2.eM hn) (nI g) with ⟨w1, k, w2, w3⟩ | ⟨w1, w2⟩
        · refine ⟨fun hx => ?_, fun _ => w1⟩
          rw [e2 (830 + k) (by omega)] at w3
          obtain ⟨g2, t, g3, g4, g5, g6, g7, g8⟩ := q4 k w2
          have : g2 = g := by
            rw [g6] at w3
            exact (nI_eq (by omega) (by omega)).mp w3
          subst this
          rw [hx] at g8
          exact absurd g8.symm (nI_nm1 (by omega))
        · refine ⟨fun _ => w1, fun hx => ?_⟩
          rcases q5 g (by omega) with e9 | ⟨k, k1, k3⟩
          · exact absurd e9 hx
          · have := w2 k k1
            rw [e2 (830 + k) (by omega)] at this
            exact absurd k3 this
      by_cases e1 : c 24 g = -1
      · rw [if_pos e1, if_pos rfl]
        have hL64 : (oul (fun a h => sg m a h n) (nH m) (nC m)).length ≤ 64 := by
          have h1 := oul_len (P := fun a h => sg m a h n) (H := nH m) (nC m)
          have h3 : nH m * nC m ≤ 8 * 8 := Nat.mul_le_mul b3 b2
          omega
        refine okk_bind (c_mostAlike h0 (oul_in _) hL64 (g := g) (by omega) e hF) ?_
        rintro ⟨x5, M5⟩ ⟨f1, f2, f3, v, v1, rfl, v3⟩
        obtain ⟨⟨y5, N5⟩, e5, j1, w, w1, w2, w3⟩ := m_worstAt hg hl hn (g := g) (by omega) N e2
        dsimp only at j1 w2 f1 f2 f3
        have evw := mxs_u v3 w3
        subst evw
        subst w2
        have M : ∀ s2 t2 x, qq 1 (if what = (0 : Int32) then (some (0, x 44 7, x)) else (some (0, x 44 8, x))) (FM_listen_L37 what f s2 t2 (nI g + 1) N5) → (if s = (-1 : Int32) then FM_listen_L37 what f (nI g) (nI v) (nI g + 1) N5 else if nI v < t then FM_listen_L37 what f (nI g) (nI v) (nI g + 1) N5 else FM_listen_L37 what f s t (nI g + 1) N5) = FM_listen_L37 what f s2 t2 (nI g + 1) N5 → qq 1 (if what = (0 : Int32) then (some (0, x 44 7, x)) else (some (0, x 44 8, x))) (FM_listen_L37 what (f + 1) s t (nI g) N) := by
          intro s2 t2 x hq he
          refine qq_e rfl ?_ hq
          rw [FM_listen_L37, e2 468 (by omega), hg.1.1, if_neg nx, told.1 e1, Option.bind_some, if_pos rfl, e5, Option.bind_some]
          exact he
        dsimp only
        have new : okk (FU_chooseGate_L17 f (nI g + 1) (g_set (g_set M5 44 7 (nI g)) 44 8 (nI v))) (fun x => qq 1 (if what = (0 : Int32) then (some (0, x 44 7, x)) else (some (0, x 44 8, x))) (FM_listen_L37 what f (nI g) (nI v) (nI g + 1) N5)) := by
          rw [nI_1]
          exact ih (g + 1) (by omega) (by omega) f (by omega) _ _ _ _ (eCg_set (eCg_set f1 (by omega)) (by omega)) ⟨by rw [g_set_k (by decide), g_set_k (by decide)]; exact f2.1, fun i hi => by rw [g_set_ne (by decide), g_set_ne (by decide)]; exact f2.2 i hi⟩ (by rw [g_set_k (by decide), g_set_eq]) (g_set_eq _ _ _ _) j1
        have old : okk (FU_chooseGate_L17 f (nI g + 1) M5) (fun x => qq 1 (if what = (0 : Int32) then (some (0, x 44 7, x)) else (some (0, x 44 8, x))) (FM_listen_L37 what f s t (nI g + 1) N5)) := by
          rw [nI_1]
          exact ih (g + 1) (by omega) (by omega) f (by omega) _ _ _ _ f1 f2 (by rw [f3]; exact h7) (by rw [f3]; exact h8) j1
        have a7 : M5 44 7 = s := by rw [f3]; exact h7
        have a8 : M5 44 8 = t := by rw [f3]; exact h8
        by_cases es : s = -1
        · rw [if_pos (by rw [a7]; exact es)]
          exact okk_w new (fun x hx => M _ _ x hx (by rw [if_pos es]))
        · rw [if_neg (by rw [a7]; exact es)]
          by_cases et : t ≤ nI v
          · rw [if_pos (by rw [a8]; exact et)]
            exact okk_w old (fun x hx => M _ _ x hx (by rw [if_neg es, if_neg (Int32.not_lt.mpr et)]))
          · rw [if_neg (by rw [a8]; exact et)]
            exact okk_w new (fun x hx => M _ _ x hx (by rw [if_neg es, if_pos (Int32.not_le.mp et)]))
      · rw [if_neg e1, if_neg i10]
        have I : okk (FU_chooseGate_L17 f (nI g + 1) M) (fun x => qq 1 (if what = (0 : Int32) then (some (0, x 44 7, x)) else (some (0, x 44 8, x))) (FM_listen_L37 what f s t (nI g + 1) N)) := by
          rw [nI_1]
          exact ih (g + 1) (by omega) (by omega) f (by omega) s t M N e hF h7 h8 e2
        refine okk_w I (fun x hx => qq_e rfl ?_ hx)
        rw [FM_listen_L37, e2 468 (by omega), hg.1.1, if_neg nx, told.2 e1, Option.bind_some, if_neg i10]
    · exact stop g q0 g9 f (by omega) s t M N e h7 h8 e2

theorem q_listen {c m : gM} (h : RR c m) (what : Int32) : qq 1 (FX_listen what c) (FM_listen what m) := by
  have h0 := RR_t h 0
  obtain ⟨m0, e0⟩ : ∃ y, y = g_set m 464 0 0 := ⟨_, rfl⟩
  rw [← e0] at h0
  have z0 : m0 464 0 = 0 := by rw [e0, g_set_eq]
  have hb := h0
  obtain ⟨t1, t2, ⟨hg, rg⟩, ⟨hl, rl⟩, t7, t8, t9, t10⟩ := hb
  have rs := t8.2
  have hv := t8.1.1
  unfold FX_listen FM_listen
  rw [← e0]
  rcases c_needIn c what 0 1 with ⟨f1, awhat, bwhat, x1⟩ | ⟨f1, x1⟩
  · refine qq_bX x1 (qq_tX rfl (qq_fM (by rw [f1]; decide) ?_))
    unfold FM_listen_J20
    refine qq_bM (m_bad0 z0 _ _) (qq_tM rfl ?_)
    dsimp only
    obtain ⟨n, n8, q2, q3, q4, q5⟩ := id t7
    have hn : Ln m0 n := ⟨n8, q2, fun k hk => by obtain ⟨g, t, g1, g2, g3, g4, g5, g6⟩ := q4 k hk; exact ⟨g, t, g1, g2, g3, g4, g5⟩⟩
    obtain ⟨c1, e1, f1, f2, f3⟩ := c_findFits h0 hn
    have F2 : FF (oul (fun a h => sg m0 a h n) (nH m0) (nC m0)) (g_set (g_set c1 44 7 (-1)) 44 8 (-1)) := ⟨by rw [g_set_k (by decide), g_set_k (by decide)]; exact f2.1, fun i hi => by rw [g_set_ne (by decide), g_set_ne (by decide)]; exact f2.2 i hi⟩
    have W8 := hg.2.1.1
    obtain ⟨c2, e2, hq⟩ := q_listen_L h0 z0 hn what (nW m0) 1 (by omega) (by omega) 1000 (by omega) (-1) (-1) (g_set (g_set c1 44 7 (-1)) 44 8 (-1)) m0 (eCg_set (eCg_set f1 (by omega)) (by omega)) F2 (by rw [g_set_k (by decide), g_set_eq]) (g_set_eq _ _ _ _) (fun _ _ => rfl)
    refine qq_bX (s := c2) ?_ hq
    unfold FU_chooseGate
    rw [e1, Option.bind_some]
    exact e2
  · refine qq_bX x1 (qq_fX n20 (qq_tM f1 ?_))
    unfold FM_listen_J20
    refine qq_bM (m_bad_il z0 (by decide)) (qq_fM i10 ?_)
    exact qq_il h0
