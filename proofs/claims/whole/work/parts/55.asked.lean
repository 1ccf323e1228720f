/-! What is asked of rolls: ahead, due, hour, late, bowls, days, span. -/
theorem qq_at {α : Type} {ill : Int32} {fx : Option (Nat × α × gM)} {fm : Option (α × gM)} (h : qq ill fx fm) : qq ill fx fm := h
/-- the start, both sides -/
theorem qq_start {α : Type} {ill : Int32} {c0 m0 : gM} (h0 : RR c0 m0) (z0 : m0 464 0 = 0) {f : gM → Option (Nat × α × gM)} {g : gM → Option (α × gM)} (k : ∀ c m, gI c0 m0 200 c m → eM1 m0 m → c 32 4 = 0 → c 32 5 = 0 → c 32 6 = 0 → qq ill (f c) (g m)) : qq ill ((FG_start c0).bind f) ((FM_copies 930 931 m0).bind g) := by
  obtain ⟨c, e1, m, e2, h1, h2, h3, h4, h5⟩ := c_start h0 z0
  exact qq_bX e1 (qq_bM e2 (k c m h1 h2 h3 h4 h5))
theorem gI_z {c0 m0 : gM} {n : Nat} {c m : gM} (hi : gI c0 m0 n c m) : m 464 0 = 0 := hi.2.2.1
theorem q_ahead_end {c0 m0 : gM} (h0 : RR c0 m0) {n : Nat} {c m : gM} (hi : gI c0 m0 n c m) {x : Int32} (h4 : c 32 4 = x) (N what : Int32) : qq 1 (if what = (0 : Int32) then (some (0, c 32 3, c)) else if what = (1 : Int32) then (some (0, c 33 5, c)) else if what = (2 : Int32) then (some (0, c 33 6, c)) else if what = (3 : Int32) then ((FZ_fines 33 c).bind fun s6 => (FZ_fines 48 c).bind fun s7 => some (0, s6 - s7, c)) else (some (0, c 32 4, c))) (FM_ahead_J86 N what x m) := by
  have hr := gI_RR h0 hi
  have z := gI_z hi
  obtain ⟨f1, f2, f3, f4⟩ := gI_fines h0 hi
  unfold FM_ahead_J86
  by_cases e0 : what = 0
  · rw [if_pos e0, if_pos e0]
    exact qq_v z hr hi.2.2.2.2.2.2
  · rw [if_neg e0, if_neg e0]
    by_cases e1 : what = 1
    · rw [if_pos e1, if_pos e1]
      exact qq_v z hr hi.2.2.2.2.1.2.1
    · rw [if_neg e1, if_neg e1]
      by_cases e2 : what = 2
      · rw [if_pos e2, if_pos e2]
        exact qq_v z hr hi.2.2.2.2.1.2.2.1
      · rw [if_neg e2, if_neg e2]
        by_cases e3 : what = 3
        · rw [if_pos e3, if_pos e3, f1, f2, f3, f4]
          exact qq_ok z hr
        · rw [if_neg e3, if_neg e3]
          exact qq_v z hr h4
/-- the class rolls on in vain -/
theorem c_ahead_stay {c : gM} (h : FB_canBowl 33 c = 0) {N : Nat} (hN : N ≤ 200) (what : Int32) : ∀ (q i : Nat), i + q = N → ∀ f, q < f → FX_ahead_L32 (nI N) what f (nI i) c = FX_ahead_L32 (nI N) what 1 (nI N) c := by
  have e : nI N ≤ nI N := Int32.le_refl _
  intro q
  induction q with
  | zero =>
    intro i hi f hf
    obtain ⟨f, rfl⟩ : ∃ g, f = g + 1 := ⟨f - 1, by omega⟩
    have : i = N := by omega
    subst this
    rw [FX_ahead_L32, FX_ahead_L32, if_pos e, if_pos e]
  | succ q ih =>
    intro i hi f hf
    obtain ⟨f, rfl⟩ : ∃ g, f = g + 1 := ⟨f - 1, by omega⟩
    rw [FX_ahead_L32, if_neg (nI_ge (show i < N by omega) (by omega)), c_stay h, nI_1]
    exact ih (i + 1) (by omega) f (by omega)
theorem q_ahead_L {c0 m0 : gM} (h0 : RR c0 m0) {N : Nat} (hN : N ≤ 200) (what : Int32) : ∀ (q i : Nat), i + q = N → ∀ f, q < f → ∀ c m, gI c0 m0 (200 + i) c m → c 32 4 = nI i → qq 1 (FX_ahead_L32 (nI N) what f (nI i) c) (FM_ahead_L54 (nI N) what f (nI i) m) := by
  intro q
  induction q with
  | zero =>
    intro i hi f hf c m hg h4
    obtain ⟨f, rfl⟩ : ∃ g, f = g + 1 := ⟨f - 1, by omega⟩
    have : i = N := by omega
    subst this
    have e : nI i ≤ nI i := Int32.le_refl _
    rw [FX_ahead_L32, FM_ahead_L54, if_pos e, if_pos e]
    exact q_ahead_end h0 hg h4 _ _
  | succ q ih =>
    intro i hi f hf c m hg h4
    obtain ⟨f, rfl⟩ : ∃ g, f = g + 1 := ⟨f - 1, by omega⟩
    have n : ¬ nI N ≤ nI i := nI_ge (by omega) (by omega)
    rcases c_can h0 hg with ⟨a1, a2, a3⟩ | ⟨a1, a2, a3⟩
    · rw [FX_ahead_L32, FM_ahead_L54, if_neg n, if_neg n, a2]
      obtain ⟨s, e1, t, e2, -, b1, -, -, -, b3, -⟩ := c_goOn h0 (by omega) hg a1 a3 0
      refine qq_bX e1 (qq_bM rfl (qq_fM i10 (qq_bM e2 ?_)))
      rw [nI_1]
      exact ih (i + 1) (by omega) f (by omega) _ _ b1 (by rw [b3, h4, nI_1])
    · rw [c_ahead_stay a1 hN what (q + 1) i hi (f + 1) hf, FX_ahead_L32, FM_ahead_L54, if_pos (Int32.le_refl (nI N)), if_neg n, a2]
      refine qq_bM rfl (qq_tM rfl ?_)
      exact q_ahead_end h0 hg h4 _ _

theorem q_ahead {c m : gM} (h : RR c m) (n what : Int32) : qq 1 (FX_ahead n what c) (FM_ahead n what m) := by
  have h0 := RR_t h 0
  obtain ⟨m0, e0⟩ : ∃ y, y = g_set m 464 0 0 := ⟨_, rfl⟩
  rw [← e0] at h0
  have z0 : m0 464 0 = 0 := by rw [e0, g_set_eq]
  have hb := h0
  obtain ⟨t1, t2, ⟨hg, rg⟩, ⟨hl, rl⟩, t7, t8, t9, t10⟩ := hb
  have rs := t8.2
  have hv := t8.1.1
  unfold FX_ahead FM_ahead
  rw [← e0]
  rcases c_needIn c n 0 200 with ⟨f1, an, bn, x1⟩ | ⟨f1, x1⟩
  · refine qq_bX x1 (qq_tX rfl (qq_fM (by rw [f1]; decide) ?_))
    rcases c_needIn c what 0 4 with ⟨f2, awhat, bwhat, x2⟩ | ⟨f2, x2⟩
    · refine qq_bX x2 (qq_tX rfl (qq_fM (by rw [f2]; decide) ?_))
      unfold FM_ahead_J31
      refine qq_bM (m_bad0 z0 _ _) (qq_tM rfl ?_)
      dsimp only
      obtain ⟨N, hN, rfl⟩ := nI_of2 (n := 200) (by decide) an bn
      refine qq_start h0 z0 (fun c1 m1 k1 _ k2 _ _ => ?_)
      exact q_ahead_L h0 hN what N 0 (by omega) 1000 (by omega) c1 m1 k1 k2
    · refine qq_bX x2 (qq_fX n20 (qq_tM f2 ?_))
      unfold FM_ahead_J26
      unfold FM_ahead_J31
      refine qq_bM (m_bad_il z0 (by decide)) (qq_fM i10 ?_)
      exact qq_il h0
  · refine qq_bX x1 (qq_fX n20 (qq_tM f1 ?_))
    unfold FM_ahead_J26
    unfold FM_ahead_J31
    refine qq_bM (m_bad_il z0 (by decide)) (qq_fM i10 ?_)
    exact qq_il h0

theorem c_begins {c m : gM} (rs : r_st c 33 (m 931)) (h : Int32) : (FG_begins h c = 1 ∧ m 931 40 = h ∧ m 931 41 = 0) ∨ (FG_begins h c = 0 ∧ ¬ (m 931 40 = h ∧ m 931 41 = 0)) := by
  unfold FG_begins
  rw [rs.2.1, rs.2.2.1]
  by_cases e1 : m 931 40 = h
  · rw [if_pos e1]
    by_cases e2 : m 931 41 = 0
    · rw [if_pos e2]; exact Or.inl ⟨rfl, e1, e2⟩
    · rw [if_neg e2]; exact Or.inr ⟨rfl, fun q => e2 q.2⟩
  · rw [if_neg e1]; exact Or.inr ⟨rfl, fun q => e1 q.1⟩
theorem c_due_stay {c : gM} {h : Int32} (h1 : FB_canBowl 33 c = 0) (h2 : FG_begins h c = 0) : ∀ (q i : Nat), i + q = 400 → ∀ f, q < f → FX_due_L28 h f (nI i) c = some (0, -1, c) := by
  intro q
  induction q with
  | zero =>
    intro i hi f hf
    obtain ⟨f, rfl⟩ : ∃ g, f = g + 1 := ⟨f - 1, by omega⟩
    have : i = 400 := by omega
    subst this
    rw [FX_due_L28, if_pos (show (400 : Int32) ≤ nI 400 from Int32.le_refl _), if_pos h2]
  | succ q ih =>
    intro i hi f hf
    obtain ⟨f, rfl⟩ : ∃ g, f = g + 1 := ⟨f - 1, by omega⟩
    rw [FX_due_L28, if_neg (show ¬ (400 : Int32) ≤ nI i from nI_ge (b := 400) (by omega) (by decide)), if_pos h2, c_stay h1, nI_1]
    exact ih (i + 1) (by omega) f (by omega)
theorem q_due_L {c0 m0 : gM} (h0 : RR c0 m0) (h : Int32) : ∀ (q i : Nat), i + q = 400 → ∀ f, q + 1 < f → ∀ c m, gI c0 m0 (200 + i) c m → qq 1 (FX_due_L28 h f (nI i) c) (FM_due_L42 h f (nI i) m) := by
  intro q
  induction q with
  | zero =>
    intro i hi f hf c m hg
    obtain ⟨f, rfl⟩ : ∃ g, f = g + 2 := ⟨f - 2, by omega⟩
    have : i = 400 := by omega
    subst this
    have hr := gI_RR h0 hg
    have z := gI_z hg
    rw [FX_due_L28, FM_due_L42, if_pos (show (400 : Int32) ≤ nI 400 from Int32.le_refl _), if_neg (show ¬ (400 : Int32) < nI 400 from Int32.lt_irrefl)]
    rcases c_begins hg.2.2.2.2.1 h with ⟨b1, b2, b3⟩ | ⟨b1, b2⟩
    · rw [if_neg (by rw [b1]; decide), if_pos b2, if_pos b3]
      exact qq_v z hr hg.2.2.2.2.2.2
    · have go : qq 1 (some (0, -1, c)) (FM_due_J86 h (FM_due_L42 h (f + 1)) (nI 400) m) := by
        unfold FM_due_J86
        rcases c_can h0 hg with ⟨a1, a2, a3⟩ | ⟨a1, a2, a3⟩
        · rw [a2]
          obtain ⟨s, e1, t, e2, -, d1, d2, -⟩ := c_goOn h0 (by omega) hg a1 a3 0
          refine qq_bM rfl (qq_fM i10 (qq_bM e2 ?_))
          rw [FM_due_L42, if_pos (show (400 : Int32) < nI 400 + 1 by decide)]
          have hr2 : RR c t.2 := RR_e hr (eC.rfl' c) d2.eM
          exact qq_ok (by rw [d2 464 (by decide)]; exact z) hr2
        · rw [a2]
          exact qq_bM rfl (qq_tM rfl (qq_ok z hr))
      rw [if_pos b1]
      by_cases e1 : m 931 40 = h
      · rw [if_pos e1, if_neg (fun e2 => b2 ⟨e1, e2⟩)]; exact go
      · rw [if_neg e1]; exact go
  | succ q ih =>
    intro i hi f hf c m hg
    obtain ⟨f, rfl⟩ : ∃ g, f = g + 1 := ⟨f - 1, by omega⟩
    have hr := gI_RR h0 hg
    have z := gI_z hg
    have n1 : ¬ (400 : Int32) ≤ nI i := nI_ge (b := 400) (by omega) (by decide)
    have n2 : ¬ (400 : Int32) < nI i := nI_nlt (a := 400) (by omega) (by decide)
    rcases c_begins hg.2.2.2.2.1 h with ⟨b1, b2, b3⟩ | ⟨b1, b2⟩
    · rw [FX_due_L28, FM_due_L42, if_neg n1, if_neg n2, if_neg (by rw [b1]; decide), if_pos b2, if_pos b3]
      exact qq_v z hr hg.2.2.2.2.2.2
    · have go : qq 1 (FX_due_L28 h (f + 1) (nI i) c) (FM_due_J86 h (FM_due_L42 h f) (nI i) m) := by
        unfold FM_due_J86
        rcases c_can h0 hg with ⟨a1, a2, a3⟩ | ⟨a1, a2, a3⟩
        · rw [a2, FX_due_L28, if_neg n1, if_pos b1]
          obtain ⟨s, e1, t, e2, -, d1, d2, -⟩ := c_goOn h0 (by omega) hg a1 a3 0
          refine qq_bX e1 (qq_bM rfl (qq_fM i10 (qq_bM e2 ?_)))
          rw [nI_1]
          exact ih (i + 1) (by omega) f (by omega) _ _ d1
        · rw [a2, c_due_stay a1 b1 (q + 1) i hi (f + 1) (by omega)]
          exact qq_bM rfl (qq_tM rfl (qq_ok z hr))
      rw [FM_due_L42, if_neg n2]
      by_cases e1 : m 931 40 = h
      · rw [if_pos e1, if_neg (fun e2 => b2 ⟨e1, e2⟩)]; exact go
      · rw [if_neg e1]; exact go

theorem q_due {c m : gM} (h : RR c m) (hh : Int32) : qq 1 (FX_due hh c) (FM_due hh m) := by
  have h0 := RR_t h 0
  obtain ⟨m0, e0⟩ : ∃ y, y = g_set m 464 0 0 := ⟨_, rfl⟩
  rw [← e0] at h0
  have z0 : m0 464 0 = 0 := by rw [e0, g_set_eq]
  have hb := h0
  obtain ⟨t1, t2, ⟨hg, rg⟩, ⟨hl, rl⟩, t7, t8, t9, t10⟩ := hb
  have rs := t8.2
  have hv := t8.1.1
  unfold FX_due FM_due
  rw [← e0]
  rcases nd_H hg rg hh with ⟨f1, ⟨jhh, hhh, rfl⟩, x1⟩ | ⟨f1, x1⟩
  · refine qq_bX x1 (qq_tX rfl (qq_fM (by rw [f1]; decide) ?_))
    unfold FM_due_J19
    refine qq_bM (m_bad0 z0 _ _) (qq_tM rfl ?_)
    dsimp only
    refine qq_start h0 z0 (fun c1 m1 k1 _ _ _ _ => ?_)
    exact q_due_L h0 _ 400 0 (by omega) 1000 (by omega) c1 m1 k1
  · refine qq_bX x1 (qq_fX n10 (qq_tM f1 ?_))
    unfold FM_due_J19
    refine qq_bM (m_bad_no z0 (by decide)) (qq_fM i10 ?_)
    exact qq_no h0

theorem q_hour_L {c0 m0 : gM} (h0 : RR c0 m0) (mm : Int32) : ∀ (q i : Nat), i + q = 400 → ∀ f, q < f → ∀ c m, gI c0 m0 (200 + i) c m → qq 1 (FX_hour_L25 mm f (nI i) c) (FM_hour_L45 mm f (nI i) m) := by
  intro q
  induction q with
  | zero =>
    intro i hi f hf c m hg
    obtain ⟨f, rfl⟩ : ∃ g, f = g + 1 := ⟨f - 1, by omega⟩
    have : i = 400 := by omega
    subst this
    have e : (400 : Int32) ≤ nI 400 := Int32.le_refl _
    rw [FX_hour_L25, FM_hour_L45, if_pos e, if_pos e]
    exact qq_ok (gI_z hg) (gI_RR h0 hg)
  | succ q ih =>
    intro i hi f hf c m hg
    obtain ⟨f, rfl⟩ : ∃ g, f = g + 1 := ⟨f - 1, by omega⟩
    have n1 : ¬ (400 : Int32) ≤ nI i := nI_ge (b := 400) (by omega) (by decide)
    rw [FX_hour_L25, FM_hour_L45, if_neg n1, if_neg n1]
    rcases c_can h0 hg with ⟨a1, a2, a3⟩ | ⟨a1, a2, a3⟩
    · rw [a2]
      obtain ⟨s, e1, t, e2, b0, b1, b2, -⟩ := c_goOn h0 (by omega) hg a1 a3 0
      refine qq_bX e1 (qq_fX (by rw [b0]; decide) (qq_bM rfl (qq_fM i10 (qq_bM e2 ?_))))
      rw [← b1.2.2.2.2.2.2]
      by_cases e : s.2 32 3 ≤ mm
      · rw [if_pos e, if_pos e, nI_1]
        exact ih (i + 1) (by omega) f (by omega) _ _ b1
      · rw [if_neg e, if_neg e]
        exact qq_v (gI_z b1) (gI_RR h0 b1) hg.2.2.2.2.1.2.1
    · rw [a2, c_stay a1]
      exact qq_bX rfl (qq_tX rfl (qq_bM rfl (qq_tM rfl (qq_ok (gI_z hg) (gI_RR h0 hg)))))

theorem q_hour {c m : gM} (h : RR c m) (mm : Int32) : qq 1 (FX_hour mm c) (FM_hour mm m) := by
  have h0 := RR_t h 0
  obtain ⟨m0, e0⟩ : ∃ y, y = g_set m 464 0 0 := ⟨_, rfl⟩
  rw [← e0] at h0
  have z0 : m0 464 0 = 0 := by rw [e0, g_set_eq]
  have hb := h0
  obtain ⟨t1, t2, ⟨hg, rg⟩, ⟨hl, rl⟩, t7, t8, t9, t10⟩ := hb
  have rs := t8.2
  have hv := t8.1.1
  unfold FX_hour FM_hour
  rw [← e0]
  rcases c_needIn c mm 0 999 with ⟨f1, amm, bmm, x1⟩ | ⟨f1, x1⟩
  · refine qq_bX x1 (qq_tX rfl (qq_fM (by rw [f1]; decide) ?_))
    unfold FM_hour_J22
    refine qq_bM (m_bad0 z0 _ _) (qq_tM rfl ?_)
    dsimp only
    refine qq_start h0 z0 (fun c1 m1 k1 _ _ _ _ => ?_)
    exact q_hour_L h0 _ 400 0 (by omega) 1000 (by omega) c1 m1 k1
  · refine qq_bX x1 (qq_fX n20 (qq_tM f1 ?_))
    unfold FM_hour_J22
    refine qq_bM (m_bad_il z0 (by decide)) (qq_fM i10 ?_)
    exact qq_il h0

theorem q_bowls_L {c0 m0 : gM} (h0 : RR c0 m0) {N : Nat} (hN : N ≤ 200) (x : Int32) : ∀ (q i : Nat), i + q = N → ∀ f, q < f → ∀ s c m, gI c0 m0 (200 + i) c m → qq 2 (FX_bowls_L40 x (nI N) f s (nI i) c) (FM_bowls_L70 x (nI N) f s (nI i) m) := by
  intro q
  induction q with
  | zero =>
    intro i hi f hf s c m hg
    obtain ⟨f, rfl⟩ : ∃ g, f = g + 1 := ⟨f - 1, by omega⟩
    have : i = N := by omega
    subst this
    have e : nI i ≤ nI i := Int32.le_refl _
    rw [FX_bowls_L40, FM_bowls_L70, if_pos e, if_pos e]
    exact qq_ok (gI_z hg) (gI_RR h0 hg)
  | succ q ih =>
    intro i hi f hf s c m hg
    obtain ⟨f, rfl⟩ : ∃ g, f = g + 1 := ⟨f - 1, by omega⟩
    have n1 : ¬ nI N ≤ nI i := nI_ge (by omega) (by omega)
    obtain ⟨-, -, ⟨vg, -⟩, -⟩ := gI_RR h0 hg
    rw [FX_bowls_L40, FM_bowls_L70, if_neg n1, if_neg n1]
    rcases c_can h0 hg with ⟨a1, a2, a3⟩ | ⟨a1, a2, a3⟩
    · rw [a2]
      obtain ⟨eh, hh⟩ := v_row_hop hg.2.2.2.1 a3.2.1 vg.2.1.2.2
      have h8 := vg.2.1.2.2
      obtain ⟨t, e1, u, e2, b0, b1, b2, -⟩ := c_goOn h0 (by omega) hg a1 a3 0
      have eo : r_at (c 37) 8 (c 33 5) = m 931 (hop (m 931)) := by
        rw [hg.2.2.2.2.1.2.1, eh, r_at_in _ (by omega) (by decide)]
        exact (hg.2.2.2.2.1.1 (hop (m 931)) (by omega)).1
      refine qq_bX e1 (qq_fX (by rw [b0]; decide) (qq_bM rfl (qq_fM i10 ?_)))
      rw [eo, eh, nI_00, ix_in (by omega) (by decide)]
      unfold FM_bowls_J111
      by_cases e : m 931 (hop (m 931)) = x
      · rw [if_pos e, if_pos e]
        refine qq_bM e2 ?_
        rw [nI_1]
        exact ih (i + 1) (by omega) f (by omega) _ _ _ b1
      · rw [if_neg e, if_neg e]
        refine qq_bM e2 ?_
        rw [nI_1, Int32.add_zero]
        exact ih (i + 1) (by omega) f (by omega) _ _ _ b1
    · rw [a2, c_stay a1]
      exact qq_bX rfl (qq_tX rfl (qq_bM rfl (qq_tM rfl (qq_ok (gI_z hg) (gI_RR h0 hg)))))

theorem q_bowls {c m : gM} (h : RR c m) (cc n : Int32) : qq 2 (FX_bowls cc n c) (FM_bowls cc n m) := by
  have h0 := RR_t h 0
  obtain ⟨m0, e0⟩ : ∃ y, y = g_set m 464 0 0 := ⟨_, rfl⟩
  rw [← e0] at h0
  have z0 : m0 464 0 = 0 := by rw [e0, g_set_eq]
  have hb := h0
  obtain ⟨t1, t2, ⟨hg, rg⟩, ⟨hl, rl⟩, t7, t8, t9, t10⟩ := hb
  have rs := t8.2
  have hv := t8.1.1
  unfold FX_bowls FM_bowls
  rw [← e0]
  rcases nd_C hg rg cc with ⟨f1, ⟨jcc, hcc, rfl⟩, x1⟩ | ⟨f1, x1⟩
  · refine qq_bX x1 (qq_tX rfl (qq_fM (by rw [f1]; decide) ?_))
    unfold FM_bowls_J19
    refine qq_bM (m_bad0 z0 _ _) (qq_tM rfl ?_)
    rcases c_needIn c n 0 200 with ⟨f2, an, bn, x2⟩ | ⟨f2, x2⟩
    · refine qq_bX x2 (qq_tX rfl (qq_fM (by rw [f2]; decide) ?_))
      unfold FM_bowls_J44
      refine qq_bM (m_bad0 z0 _ _) (qq_tM rfl ?_)
      dsimp only
      obtain ⟨N, hN, rfl⟩ := nI_of2 (n := 200) (by decide) an bn
      refine qq_start h0 z0 (fun c1 m1 k1 _ _ _ _ => ?_)
      exact q_bowls_L h0 hN _ N 0 (by omega) 1000 (by omega) _ c1 m1 k1
    · refine qq_bX x2 (qq_fX n20 (qq_tM f2 ?_))
      unfold FM_bowls_J44
      refine qq_bM (m_bad_il z0 (by decide)) (qq_fM i10 ?_)
      exact qq_il h0
  · refine qq_bX x1 (qq_fX n10 (qq_tM f1 ?_))
    unfold FM_bowls_J19
    refine qq_bM (m_bad_no z0 (by decide)) (qq_fM i10 ?_)
    exact qq_no h0

/-- calls without refusal that answer alike -/
def qn (fx : Option (Int32 × gM)) (fm : Option (Int32 × gM)) : Prop := okk fx (fun s => okk fm (fun t => t.1 = s.1 ∧ RR s.2 t.2))
theorem qn_bX {β : Type} {o : Option β} {s : β} {f : β → Option (Int32 × gM)} {fm : Option (Int32 × gM)} (e : o = some s) (h : qn (f s) fm) : qn (o.bind f) fm := by rw [e]; exact h
theorem qn_bM {β : Type} {o : Option β} {s : β} {f : β → Option (Int32 × gM)} {fx : Option (Int32 × gM)} (e : o = some s) (h : qn fx (f s)) : qn fx (o.bind f) := by rw [e]; exact h
theorem qn_ok {x z : Int32} {c m : gM} (e : x = z) (h : RR c m) : qn (some (x, c)) (some (z, m)) := okk_some (okk_some ⟨e.symm, h⟩)
theorem q_late_L {c0 m0 : gM} (h0 : RR c0 m0) (x1 : Int32) : ∀ (q i : Nat), i + q = 400 → ∀ f, q < f → ∀ c m, gI c0 m0 (200 + i) c m → m 931 46 = x1 → qn (FX_late_L27 f x1 (nI i) c) (FM_late_L18 f (nI i) m) := by
  intro q
  induction q with
  | zero =>
    intro i hi f hf c m hg ho
    obtain ⟨f, rfl⟩ : ∃ g, f = g + 1 := ⟨f - 1, by omega⟩
    have : i = 400 := by omega
    subst this
    have e : (400 : Int32) ≤ nI 400 := Int32.le_refl _
    rw [FX_late_L27, FM_late_L18, if_pos e, if_pos e]
    exact qn_ok rfl (gI_RR h0 hg)
  | succ q ih =>
    intro i hi f hf c m hg ho
    obtain ⟨f, rfl⟩ : ∃ g, f = g + 1 := ⟨f - 1, by omega⟩
    have n1 : ¬ (400 : Int32) ≤ nI i := nI_ge (b := 400) (by omega) (by decide)
    rw [FX_late_L27, FM_late_L18, if_neg n1, if_neg n1]
    rcases c_can h0 hg with ⟨a1, a2, a3⟩ | ⟨a1, a2, a3⟩
    · rw [a2]
      obtain ⟨s, e1, t, e2, b0, b1, b2, b3, b4, -⟩ := c_goOn h0 (by omega) hg a1 a3 0
      obtain ⟨-, -, ⟨vg, -⟩, -⟩ := gI_RR h0 hg
      have hs : s.2 33 11 = t.2 931 46 := b1.2.2.2.2.1.2.2.2.2.2.2.2
      have hov : m 931 46 = t.2 931 46 ∨ m 931 46 + 1 = t.2 931 46 := by
        rw [b4]
        exact (v_roll vg hg.2.2.2.1 a3 0 (n := 200 + i) (by omega) hg.2.2.2.2.2.1).2.2.2.1.imp Eq.symm Eq.symm
      refine qn_bX e1 ?_
      rw [if_neg (by rw [b0]; decide)]
      refine qn_bM rfl ?_
      rw [if_neg i10]
      refine qn_bM e2 ?_
      rw [hs, ho]
      by_cases e : t.2 931 46 ≤ x1
      · rw [if_pos e, if_pos e, nI_1]
        refine ih (i + 1) (by omega) f (by omega) _ _ b1 ?_
        rcases hov with q | q
        · rw [← q, ho]
        · exfalso
          obtain ⟨d, o, h, d1, -, -, h8, o1, o2⟩ := hg.2.2.2.1.2.2.2.2.2.2
          rw [← q, ← ho, o1, nI_1] at e
          exact nI_ge (show o < o + 1 by omega) (by omega) e
      · rw [if_neg e, if_neg e]
        exact qn_ok hg.2.2.2.2.1.2.1 (gI_RR h0 b1)
    · rw [a2, c_stay a1]
      refine qn_bX rfl ?_
      rw [if_pos rfl]
      refine qn_bM rfl ?_
      rw [if_pos rfl]
      exact qn_ok rfl (gI_RR h0 hg)
theorem q_late {c m : gM} (h : RR c m) : qn (FX_late c) (FM_late m) := by
  have h0 := RR_t h 0
  unfold FX_late FM_late
  obtain ⟨c1, e1, m1, e2, h1, h2, h3, h4, h5⟩ := c_start h0 rfl
  refine qn_bX e1 (qn_bM e2 ?_)
  have e : c1 48 11 = m1 931 46 := by
    have q := gI_RR h0 h1
    have e3 := okk_w (m_copies (m := g_set m 464 0 0) (a := 930) (b := 931) (by decide)) (fun x hx => hx)
    obtain ⟨m2, e4, h6, h7⟩ := e3
    rw [e2] at e4
    cases e4
    rw [q.2.2.2.2.2.1.2.2.2.2.2.2.2.2, h6 46 (by decide), h7 930 (by decide)]
  rw [e]
  exact q_late_L h0 _ 400 0 (by omega) 1000 (by omega) c1 m1 h1 rfl
