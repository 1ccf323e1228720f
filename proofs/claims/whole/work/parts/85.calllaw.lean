/-! The call law. -/
theorem a_l {m t : gM} {k : Nat} (h : ∀ j, j < k → m (508 + j) 0 = t (669 + j) 0) : ∀ j, j ≤ k → a_ht m j = l_ht t j := by
  intro j
  induction j with
  | zero => intro _; rfl
  | succ j ih =>
    intro hj
    rw [a_ht_s, l_ht_s, ih (by omega), h j (by omega)]
theorem lw_copy {s : gM} (h : s 19 4 = 1) : okk (FL_copy s) (fun t => t 15 3 = s 19 3 ∧ t 15 4 = 1 ∧ (∀ j, j < 150 → t 16 j = s 20 j ∧ t 17 j = s 21 j) ∧ ∀ b, ¬ (15 ≤ b ∧ b ≤ 17) → t b = s b) := by
  unfold FL_copy g_let
  dsimp only
  have e : ∀ b, b ≠ 16 → b ≠ 17 → r_copy (r_copy s 20 16 150) 21 17 150 b = s b := fun b h1 h2 => by rw [r_copy_ne h2, r_copy_ne h1]
  rw [if_pos (show r_copy (r_copy s 20 16 150) 21 17 150 19 4 = 0 ∨ r_copy (r_copy s 20 16 150) 21 17 150 19 4 = 1 from Or.inr (by rw [e 19 (by decide) (by decide)]; exact h)), e 19 (by decide) (by decide)]
  refine okk_some ⟨?_, ?_, fun j hj => ⟨?_, ?_⟩, fun b hb => ?_⟩
  · rw [g_set_k (by decide), g_set_eq]
  · rw [g_set_eq]; exact h
  · rw [g_set_ne (by decide), g_set_ne (by decide), r_copy_ne (by decide), r_copy_in hj]
  · rw [g_set_ne (by decide), g_set_ne (by decide), r_copy_in hj, r_copy_ne (by decide)]
  · rw [g_set_ne (by omega), g_set_ne (by omega), e b (by omega) (by omega)]
theorem q_law {c m : gM} (h : RR c m) (nn : Int32) : qq 1 (FX_law nn c) (FM_law nn m) := by
  have h0 := RR_t h 0
  obtain ⟨m0, e0⟩ : ∃ y, y = g_set m 464 0 0 := ⟨_, rfl⟩
  rw [← e0] at h0
  have z0 : m0 464 0 = 0 := by rw [e0, g_set_eq]
  have hb := h0
  obtain ⟨t1, tn, ⟨hg, rg⟩, ⟨hl, rl⟩, t7, t8, t9, t10⟩ := hb
  have bad : ∀ M, M = m0 → qq 1 (some (2, (0 : Int32), g_set c 0 17 (c 0 17 + 1))) (FM_law_J25 nn M) := by
    rintro _ rfl
    unfold FM_law_J25 FM_law_J30
    exact qq_bM (m_bad_il z0 (by decide)) (qq_fM i10 (qq_il h0))
  have hm1 : m 464 1 = m0 464 1 := by rw [e0]; rfl
  unfold FX_law FM_law
  rw [← e0, hm1]
  rcases nd_text t1 nn (mo := 150) (by decide) with ⟨N, rfl, N60, hby, N6, f1, f2, x1⟩ | ⟨f1, x1⟩
  · refine qq_bX x1 (qq_tX rfl (qq_fM (by rw [f1]; decide) (qq_tM f2 ?_)))
    unfold FM_law_J30
    refine qq_bM (m_bad0 z0 _ _) (qq_tM rfl ?_)
    dsimp only
    obtain ⟨B, c1, x2, m1, y2, hP, p1, p2, p3, p4, p5, p6, p7⟩ := P_open N6 hby
    refine qq_bX x2 (qq_bM y2 ?_)
    unfold FL_read
    obtain ⟨c2, e2⟩ : ∃ y, y = g_set (g_set c1 19 3 (0 : Int32)) 19 4 (1 : Int32) := ⟨_, rfl⟩
    obtain ⟨m2, e3⟩ : ∃ y, y = g_set m1 464 20 (0 : Int32) := ⟨_, rfl⟩
    rw [← e2, ← e3]
    have c2o : ∀ b, b ≠ 19 → c2 b = c1 b := fun b hb => by rw [e2, g_set_ne hb, g_set_ne hb]
    have m2o : ∀ b, b ≠ 464 → m2 b = m1 b := fun b hb => by rw [e3, g_set_ne hb]
    have m2k : ∀ k, k ≠ 20 → m2 464 k = m1 464 k := fun k hk => by rw [e3, g_set_k hk]
    have hZ : LZ N B c2 m2 0 0 0 0 c2 m2 := by
      refine ⟨cX.rfl' lS c2, mX.rfl' lM m2, Or.inl ⟨0, skp N B 0, 0, Nat.le_refl 0, ⟨tC_m hP.1 (c2o 1 (by decide)) (c2o 2 (by decide)), tM_m hP.2.1 (fun k hk => m2k k (by omega)) (m2o 465 (by decide)), hP.2.2⟩, ⟨⟨?_, ?_, by omega, fun j hj => absurd hj (by omega)⟩, ?_, fun j hj => ?_, fun j hj => absurd hj (by omega)⟩, Nat.le_refl 0, rfl, ?_⟩⟩
      · rw [e2, g_set_k (by decide), g_set_eq]; rfl
      · rw [e3, g_set_eq]; rfl
      · rw [e2, g_set_eq]
      · rw [show j = 0 by omega]; exact Nat.zero_le 24
      · rw [m2k 8 (by decide), p4]; rfl
    have hR : Rd N B 0 21 (FL_readSum 40) (FM_sum 40) := Z_all N60 6 (Nat.le_refl 6) 12 19
    obtain ⟨s, x3, t, y3, k1, k2, k3⟩ := hR c2 m2 0 0 0 c2 m2 hZ (by omega)
    rw [show FL_readSum 40 (0 : Int32) c2 = some s from x3, Option.bind_some]
    refine qq_bM y3 ?_
    have cc : ∀ b, b ≠ 1 → ¬ lS b → s b = c b := fun b b1 b2 => by rw [k1.1 b b1 b2, c2o b (fun z => b2 (Or.inl z)), p5 b b1]
    have mm : ∀ b, b ≠ 464 → ¬ lM b → t b = m0 b := fun b b1 b2 => by rw [k2.1 b b1 b2, m2o b b1, p6 b b1]
    have c11 : s 1 1 = 0 := by rw [k1.2 1 (by decide) (by decide) (by decide) (by decide), c2o 1 (by decide), p1]
    have m11 : t 464 1 = 0 := by rw [k2.2 1 (by omega), m2k 1 (by decide), p2]
    have mk : ∀ k, k = 0 ∨ k = 3 ∨ 30 ≤ k ∨ k = 19 → t 464 k = m0 464 k := fun k hk => by rw [k2.2 k (by omega), m2k k (by omega), p7 k (by omega)]
    -- both at the same fault
    have ends : ∀ s2 t2, cS s s2 → mS t t2 → PF N B s2 t2 → qq 1 (if F_faulty s2 = (0 : Int32) then ((FL_copy s2).bind fun s7 => some (0, (1 : Int32), s7)) else (some (0, (s2 1 5) - (10 : Int32), s2))) (FM_law_J85 (nI N) t2) := by
      intro s2 t2 u1 u2 hF
      obtain ⟨p, q, f, w, f0, f3, f4⟩ := id hF
      unfold FM_law_J85
      refine qq_fX (faulty_1 f0 f3) (qq_fM (by rw [f4.2.2.1]; exact f0) ?_)
      have tk : ∀ k, k = 0 ∨ k = 3 ∨ 30 ≤ k ∨ k = 19 → t2 464 k = m0 464 k := fun k hk => by rw [u2.2 k (by omega) (by omega) (by omega), mk k hk]
      exact q_ends h0 z0 hF (fun b hb => by rw [u1.1 b (by omega)]; exact cc b (by omega) (by unfold lS; omega)) ⟨fun b hb => by rw [u2.1 b (by omega)]; exact mm b (by omega) (by unfold lM; omega), tk 19 (by omega), tk 33 (by omega), tk 34 (by omega), tk 36 (by omega)⟩ (by rw [u1.2 1 (by decide) (by decide) (by decide) (by decide)]; exact c11) (by rw [u2.2 1 (by decide) (by decide) (by decide)]; exact m11) (tk 0 (by omega)) (tk 35 (by omega))
    rcases k3 with ⟨e, f, k, b1, ⟨g1, g2, g3⟩, b3, b4, b5, b6⟩ | hF
    · obtain ⟨⟨v, s2⟩, x4, rfl, j1, j2, j3⟩ := L_next g1
      obtain ⟨t2, y4, j4, j5⟩ := M_blanks g2
      dsimp only at j1 j2 j3 x4
      rw [← g3] at j4
      obtain ⟨q, eq⟩ : ∃ q, q = skp N B e := ⟨_, rfl⟩
      rw [← eq] at x4 j1 j4
      have qn : q ≤ N := j1.2.2.2.2.1
      rw [x4, Option.bind_some]
      refine qq_bM y4 (qq_tM j4.2.2.1 ?_)
      dsimp only
      rw [j4.1, j4.2.1]
      by_cases hq : q < N
      · -- more than a law
        have hc : ¬ chr N B q = (-1 : Int32) := by
          rw [chr_in hq]
          have hB := (j1.2.2.2.2.2.2 q hq).1
          exact (by decide +kernel : ∀ b, b < 256 → ¬ nI b = (-1 : Int32)) _ hB
        rw [if_neg hc]
        refine qq_fM (nI_ge hq (by omega)) ?_
        obtain ⟨s3, x5, t3, y5, u1, u2, u3⟩ := PF_fail j1 j4 (k := 1) (by decide) (nI q)
        rw [j1.2.1, show F_fail (1 : Int32) (nI q) s2 = some s3 from x5, Option.bind_some]
        refine qq_bX rfl (qq_bM y5 ?_)
        exact ends s3 t3 (j3.trans u1) (j5.trans u2) u3
      · have hq2 : q = N := by omega
        rw [chr_out hq, if_pos rfl]
        refine qq_bX rfl (qq_tM (by rw [hq2]; exact Int32.le_refl _) ?_)
        unfold FM_law_J85
        refine qq_tX (faulty_0 j1) (qq_tM j4.2.2.1 ?_)
        obtain ⟨l1, l2⟩ := LQ_S b3 j3 j5
        obtain ⟨⟨d1, d2, d3, d4⟩, d5, d6, d7⟩ := l1
        obtain ⟨z, x6, r1, r2, r3, r4⟩ := lw_copy d5
        refine qq_bX x6 ?_
        rw [d2]
        obtain ⟨M2, y6, v1, v2⟩ := m_laysL (m := g_set (g_set t2 464 3 (-1)) 464 19 (nI k)) (k := k) (by omega)
        refine qq_bM y6 ?_
        have m2x : ∀ b, b ≠ 464 → ¬ lM b → ¬ (508 ≤ b ∧ b ≤ 667) → M2 b = m0 b := fun b b1 b2 b3 => by rw [v2 b b3, g_set_ne b1, g_set_ne b1, j5.1 b b1, mm b b1 b2]
        have m2y : ∀ x, x ≠ 3 → x ≠ 19 → x ≠ 4 → x ≠ 5 → x ≠ 6 → M2 464 x = t 464 x := fun x h3 h19 h4 h5 h6 => by rw [v2 464 (by omega), g_set_k h19, g_set_k h3, j5.2 x h4 h5 h6]
        have m2l : ∀ j, j < k → M2 (508 + j) 0 = t2 (669 + j) 0 ∧ M2 (508 + j) 1 = t2 (669 + j) 1 := fun j hj => by
          have := v1 j hj
          rw [g_set_ne (by omega), g_set_ne (by omega)] at this
          exact this
        have co : ∀ b, b ≠ 1 → ¬ (15 ≤ b ∧ b ≤ 21) → z b = c b := fun b b1 b2 => by rw [r4 b (by omega), j3.1 b b1, cc b b1 (by unfold lS; omega)]
        have z1 : z 1 = s2 1 := r4 1 (by omega)
        have e468 := m2x 468 (by decide) (by unfold lM; omega) (by omega)
        have ew : ∀ w, w < 8 → M2 (481 + w) = m0 (481 + w) := fun w hw => m2x _ (by omega) (by unfold lM; omega) (by omega)
        have ek : ∀ w, w < 8 → M2 (499 + w) = m0 (499 + w) := fun w hw => m2x _ (by omega) (by unfold lM; omega) (by omega)
        have e466 := m2x 466 (by decide) (by unfold lM; omega) (by omega)
        have m219 : M2 464 19 = nI k := by rw [v2 464 (by omega), g_set_eq]
        have ht := a_l (m := M2) (t := t2) (k := k) (fun j hj => (m2l j hj).1)
        have k0 : 0 < k := by
          rcases Nat.eq_zero_or_pos k with z | z
          · rw [z] at b5
            exact absurd (show (0 : Nat) = 0 + 1 from b5) (by omega)
          · exact z
        have wf : a_wf M2 k := by
          refine ⟨d3, by rw [ht k (Nat.le_refl k), l2, b5], fun j hj => by rw [ht j hj]; exact d6 j hj, fun j hj => ?_⟩
          rw [ht j (by omega), (m2l j hj).1, (m2l j hj).2]
          exact d7 j hj
        have eL : nL M2 = k := by unfold nL; rw [m219]; exact nI_clamp (by omega)
        have RRn : RR z M2 := by
          refine ⟨R_tape_0 ?_ ?_, ⟨?_, ?_, ?_, ?_⟩, ⟨v_g_e hg e468 ew ek, r_g_e hg rg e468 (m2x 470 (by decide) (by unfold lM; omega) (by omega)) ew ek (fun b b1 b2 => co b (by omega) (by omega))⟩, ⟨⟨by rw [eL]; exact m219, Or.inr (by rw [eL]; exact wf)⟩, Or.inr ⟨k, k0, m219, wf, r2, by rw [r1, d1], fun j hj => ?_⟩⟩, R_songs_e t7 ?_ e468 (fun w hw => m2x _ (by omega) (by unfold lM; omega) (by omega)) (by rw [co 23 (by decide) (by omega)]) (co 24 (by decide) (by omega)), R_now_e t8 e468 (m2x 930 (by decide) (by unfold lM; omega) (by omega)) (fun b b1 b2 => co b (by omega) (by omega)), R_past_e t9 e468 ?_ (fun j hj => m2x _ (by omega) (by unfold lM; omega) (by omega)) (by rw [co 47 (by decide) (by omega)]) (fun b b1 b2 => co b (by omega) (by omega)), R_img_e t10 e468 ?_ (fun j hj => m2x _ (by omega) (by unfold lM; omega) (by omega)) (by rw [co 0 (by decide) (by omega)]) (fun b b1 b2 => co b (by omega) (by omega))⟩
          · rw [z1, j3.2 1 (by decide) (by decide) (by decide) (by decide)]; exact c11
          · rw [m2y 1 (by decide) (by decide) (by decide) (by decide) (by decide)]; exact m11
          · rw [z1, j1.2.2.2.1, v2 464 (by omega), g_set_k (by decide), g_set_eq]
          · rw [co 0 (by decide) (by omega), m2y 35 (by decide) (by decide) (by decide) (by decide) (by decide), mk 35 (by omega)]; exact tn.2.1
          · rw [co 0 (by decide) (by omega), e466]; exact tn.2.2.1
          · rw [co 0 (by decide) (by omega), e466]; exact tn.2.2.2
          · rw [(r3 j (by omega)).1, (r3 j (by omega)).2, (m2l j hj).1, (m2l j hj).2]; exact d4 j hj
          · rw [m2y 33 (by decide) (by decide) (by decide) (by decide) (by decide), mk 33 (by omega)]
          · rw [m2y 34 (by decide) (by decide) (by decide) (by decide) (by decide), mk 34 (by omega)]
          · rw [m2y 36 (by decide) (by decide) (by decide) (by decide) (by decide), mk 36 (by omega)]
        exact qq_v (by rw [m2y 0 (by decide) (by decide) (by decide) (by decide) (by decide), mk 0 (by omega)]; exact z0) RRn rfl
    · obtain ⟨p, q, f, w, f0, f3, f4⟩ := hF
      obtain ⟨⟨v, s2⟩, x4, -, j1, j2, j3⟩ := L_next f3
      obtain ⟨t2, y4, j4, j5⟩ := M_blanks f4
      dsimp only at j1 j2 j3 x4
      rw [x4, Option.bind_some]
      refine qq_bM y4 (qq_fM (by rw [j4.2.2.1]; exact f0) ?_)
      dsimp only
      by_cases hv : v = (-1 : Int32)
      · rw [if_pos hv]
        exact qq_bX rfl (ends s2 t2 j3 j5 ⟨_, _, f, w, f0, j1, j4⟩)
      · rw [if_neg hv]
        obtain ⟨s3, x5, u1, u2⟩ := CF_fail f0 j1 1 (s2 1 3)
        rw [x5, Option.bind_some]
        exact qq_bX rfl (ends s3 t2 (j3.trans u1) j5 ⟨_, _, f, w, f0, u2, j4⟩)
  · refine qq_bX x1 (qq_fX n20 ?_)
    rcases f1 with f1 | ⟨f1, f2⟩
    · exact qq_tM f1 (bad _ rfl)
    · exact qq_fM (by rw [f1]; decide) (qq_fM f2 (bad _ rfl))
