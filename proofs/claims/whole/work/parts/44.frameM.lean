/-! Frames of the model. -/
set_option maxRecDepth 20000 in
theorem w_FM_tellsNothing_L2 : ∀ (k : Nat) (x1 : Int32) (M : gM) (R : gM), FM_tellsNothing_L2 k x1 M = some R → ∀ bb, ¬ (bb = 467) → R bb = M bb := by
  intro k
  induction k with
  | zero => intro x1 M R hr; exact nomatch (show (none : Option (gM)) = some R from hr)
  | succ k ih =>
    intro x1 M R hr
    unfold FM_tellsNothing_L2 at hr
    rcases g_ifo hr with ⟨h1, hr⟩ | ⟨h1, hr⟩
    ·
      obtain ⟨M2, mM2, hr⟩ := g_leto hr
      have fM2 : ∀ bb, ¬ (bb = 467) → M2 bb = M bb := fun bb hb => by rw [mM2]; exact (g_set_ne (by omega))
      obtain ⟨M3, mM3, hr⟩ := g_leto hr
      have fM3 : ∀ bb, ¬ (bb = 467) → M3 bb = M bb := fun bb hb => by rw [mM3]; exact (g_set_ne (by omega)).trans (fM2 bb hb)
      cases hr; exact fun bb hb => fM3 bb hb
    ·
      obtain ⟨j4, ej4, ij4, lj4, hr⟩ := g_ixo hr
      obtain ⟨M5, mM5, hr⟩ := g_leto hr
      have fM5 : ∀ bb, ¬ (bb = 467) → M5 bb = M bb := fun bb hb => by rw [mM5]; exact (g_set_ne (by omega))
      exact fun bb hb => (ih (x1 + (1 : Int32)) M5 _ hr bb hb).trans (fM5 bb hb)
set_option maxRecDepth 20000 in
theorem w_FM_tellsNothing  (M : gM) (R : gM) (hr : FM_tellsNothing M = some R) : ∀ bb, ¬ (bb = 467) → R bb = M bb := by
  unfold FM_tellsNothing at hr
  exact fun bb hb => (w_FM_tellsNothing_L2 1000 (0 : Int32) M _ hr bb hb)
set_option maxRecDepth 20000 in
theorem w_FM_bad_J26 (b : Int32) (what : Int32) (reason : Int32) (M : gM) (R : Int32 × gM) (hr : FM_bad_J26 b what reason M = some R) : ∀ bb, ¬ (bb = 464 ∨ bb = 466) → R.2 bb = M bb := by
  unfold FM_bad_J26 at hr
  rcases g_ifo hr with ⟨h1, hr⟩ | ⟨h1, hr⟩
  ·
    cases hr; exact fun bb hb => rfl
  ·
    cases hr; exact fun bb hb => rfl
set_option maxRecDepth 20000 in
theorem w_FM_bad (b : Int32) (what : Int32) (reason : Int32) (M : gM) (R : Int32 × gM) (hr : FM_bad b what reason M = some R) : ∀ bb, ¬ (bb = 464 ∨ bb = 466) → R.2 bb = M bb := by
  unfold FM_bad at hr
  rcases g_ifo hr with ⟨h1, hr⟩ | ⟨h1, hr⟩
  ·
    exact fun bb hb => (w_FM_bad_J26 b what reason M _ hr bb hb)
  ·
    rcases g_ifo hr with ⟨h2, hr⟩ | ⟨h2, hr⟩
    ·
      obtain ⟨j3, ej3, ij3, lj3, hr⟩ := g_ixo hr
      obtain ⟨j4, ej4, ij4, lj4, hr⟩ := g_ixo hr
      obtain ⟨M5, mM5, hr⟩ := g_leto hr
      have fM5 : ∀ bb, ¬ (bb = 464 ∨ bb = 466) → M5 bb = M bb := fun bb hb => by rw [mM5]; exact (g_set_ne (by omega)).trans ((g_set_ne (by omega)))
      exact fun bb hb => (w_FM_bad_J26 b what reason M5 _ hr bb hb).trans (fM5 bb hb)
    ·
      exact fun bb hb => (w_FM_bad_J26 b what reason M _ hr bb hb)
set_option maxRecDepth 20000 in
theorem w_FM_feed_L23 (a : Int32) (b : Int32) (c : Int32) (u : Int32) (e : Int32) : ∀ (k : Nat) (x6 : Int32) (M : gM) (R : Int32 × gM), FM_feed_L23 a b c u e k x6 M = some R → ∀ bb, ¬ ((464 ≤ bb ∧ bb ≤ 465)) → R.2 bb = M bb := by
  intro k
  induction k with
  | zero => intro x6 M R hr; exact nomatch (show (none : Option (Int32 × gM)) = some R from hr)
  | succ k ih =>
    intro x6 M R hr
    unfold FM_feed_L23 at hr
    rcases g_ifo hr with ⟨h1, hr⟩ | ⟨h1, hr⟩
    ·
      cases hr; exact fun bb hb => rfl
    ·
      rcases g_ifo hr with ⟨h2, hr⟩ | ⟨h2, hr⟩
      ·
        rcases g_ifo hr with ⟨h3, hr⟩ | ⟨h3, hr⟩
        ·
          rcases g_ifo hr with ⟨h4, hr⟩ | ⟨h4, hr⟩
          ·
            rcases g_ifo hr with ⟨h5, hr⟩ | ⟨h5, hr⟩
            ·
              obtain ⟨j6, ej6, ij6, lj6, hr⟩ := g_ixo hr
              obtain ⟨M7, mM7, hr⟩ := g_leto hr
              have fM7 : ∀ bb, ¬ ((464 ≤ bb ∧ bb ≤ 465)) → M7 bb = M bb := fun bb hb => by rw [mM7]; exact (g_set_ne (by omega))
              exact fun bb hb => (ih (x6 + (1 : Int32)) (g_set M7 464 1 ((M7 464 1) + (1 : Int32))) _ hr bb hb).trans ((g_set_ne (by omega)).trans (fM7 bb hb))
            ·
              obtain ⟨j8, ej8, ij8, lj8, hr⟩ := g_ixo hr
              obtain ⟨M9, mM9, hr⟩ := g_leto hr
              have fM9 : ∀ bb, ¬ ((464 ≤ bb ∧ bb ≤ 465)) → M9 bb = M bb := fun bb hb => by rw [mM9]; exact (g_set_ne (by omega))
              exact fun bb hb => (ih (x6 + (1 : Int32)) (g_set M9 464 1 ((M9 464 1) + (1 : Int32))) _ hr bb hb).trans ((g_set_ne (by omega)).trans (fM9 bb hb))
          ·
            obtain ⟨j10, ej10, ij10, lj10, hr⟩ := g_ixo hr
            obtain ⟨M11, mM11, hr⟩ := g_leto hr
            have fM11 : ∀ bb, ¬ ((464 ≤ bb ∧ bb ≤ 465)) → M11 bb = M bb := fun bb hb => by rw [mM11]; exact (g_set_ne (by omega))
            exact fun bb hb => (ih (x6 + (1 : Int32)) (g_set M11 464 1 ((M11 464 1) + (1 : Int32))) _ hr bb hb).trans ((g_set_ne (by omega)).trans (fM11 bb hb))
        ·
          obtain ⟨j12, ej12, ij12, lj12, hr⟩ := g_ixo hr
          obtain ⟨M13, mM13, hr⟩ := g_leto hr
          have fM13 : ∀ bb, ¬ ((464 ≤ bb ∧ bb ≤ 465)) → M13 bb = M bb := fun bb hb => by rw [mM13]; exact (g_set_ne (by omega))
          exact fun bb hb => (ih (x6 + (1 : Int32)) (g_set M13 464 1 ((M13 464 1) + (1 : Int32))) _ hr bb hb).trans ((g_set_ne (by omega)).trans (fM13 bb hb))
      ·
        obtain ⟨j14, ej14, ij14, lj14, hr⟩ := g_ixo hr
        obtain ⟨M15, mM15, hr⟩ := g_leto hr
        have fM15 : ∀ bb, ¬ ((464 ≤ bb ∧ bb ≤ 465)) → M15 bb = M bb := fun bb hb => by rw [mM15]; exact (g_set_ne (by omega))
        exact fun bb hb => (ih (x6 + (1 : Int32)) (g_set M15 464 1 ((M15 464 1) + (1 : Int32))) _ hr bb hb).trans ((g_set_ne (by omega)).trans (fM15 bb hb))
set_option maxRecDepth 20000 in
theorem w_FM_feed (a : Int32) (b : Int32) (c : Int32) (u : Int32) (e : Int32) (M : gM) (R : Int32 × gM) (hr : FM_feed a b c u e M = some R) : ∀ bb, ¬ ((464 ≤ bb ∧ bb ≤ 465)) → R.2 bb = M bb := by
  unfold FM_feed at hr
  rcases g_ifo hr with ⟨h1, hr⟩ | ⟨h1, hr⟩
  ·
    exact fun bb hb => (w_FM_feed_L23 a b c u e 1000 (0 : Int32) (g_set M 464 0 (0 : Int32)) _ hr bb hb).trans ((g_set_ne (by omega)))
  ·
    cases hr; exact fun bb hb => (g_set_ne (by omega))
set_option maxRecDepth 20000 in
theorem w_FM_blanks_L0 : ∀ (k : Nat) (M : gM) (R : gM), FM_blanks_L0 k M = some R → ∀ bb, ¬ (bb = 464) → R bb = M bb := by
  intro k
  induction k with
  | zero => intro  M R hr; exact nomatch (show (none : Option (gM)) = some R from hr)
  | succ k ih =>
    intro  M R hr
    unfold FM_blanks_L0 at hr
    obtain ⟨s1, es1, hr⟩ := g_bd hr
    rcases g_ifo hr with ⟨h2, hr⟩ | ⟨h2, hr⟩
    ·
      exact fun bb hb => (ih (g_set M 464 4 ((M 464 4) + (1 : Int32))) _ hr bb hb).trans ((g_set_ne (by omega)))
    ·
      cases hr; exact fun bb hb => rfl
set_option maxRecDepth 20000 in
theorem w_FM_blanks  (M : gM) (R : gM) (hr : FM_blanks M = some R) : ∀ bb, ¬ (bb = 464) → R bb = M bb := by
  unfold FM_blanks at hr
  obtain ⟨s1, es1, hr⟩ := g_bd hr
  rcases g_ifo hr with ⟨h2, hr⟩ | ⟨h2, hr⟩
  ·
    exact fun bb hb => (w_FM_blanks_L0 1000 (g_set M 464 4 ((M 464 4) + (1 : Int32))) _ hr bb hb).trans ((g_set_ne (by omega)))
  ·
    cases hr; exact fun bb hb => rfl
set_option maxRecDepth 20000 in
theorem w_FM_wrong (what : Int32) (here : Int32) (M : gM) (R : gM) (hr : FM_wrong what here M = some R) : ∀ bb, ¬ (bb = 464) → R bb = M bb := by
  unfold FM_wrong at hr
  rcases g_ifo hr with ⟨h1, hr⟩ | ⟨h1, hr⟩
  ·
    cases hr; exact fun bb hb => (g_set_ne (by omega)).trans ((g_set_ne (by omega)))
  ·
    cases hr; exact fun bb hb => rfl
set_option maxRecDepth 20000 in
theorem w_FM_number_J122 (lo : Int32) (hi : Int32) (x4 : Int32) (M : gM) (R : Int32 × gM) (hr : FM_number_J122 lo hi x4 M = some R) : ∀ bb, ¬ (bb = 464) → R.2 bb = M bb := by
  unfold FM_number_J122 at hr
  rcases g_ifo hr with ⟨h1, hr⟩ | ⟨h1, hr⟩
  ·
    cases hr; exact fun bb hb => rfl
  ·
    cases hr; exact fun bb hb => rfl
set_option maxRecDepth 20000 in
theorem w_FM_number_L44 (lo : Int32) (hi : Int32) : ∀ (k : Nat) (x3 : Int32) (x4 : Int32) (M : gM) (R : Int32 × gM), FM_number_L44 lo hi k x3 x4 M = some R → ∀ bb, ¬ (bb = 464) → R.2 bb = M bb := by
  intro k
  induction k with
  | zero => intro x3 x4 M R hr; exact nomatch (show (none : Option (Int32 × gM)) = some R from hr)
  | succ k ih =>
    intro x3 x4 M R hr
    unfold FM_number_L44 at hr
    obtain ⟨s1, es1, hr⟩ := g_bd hr
    rcases g_ifo hr with ⟨h4, hr⟩ | ⟨h4, hr⟩
    ·
      rcases g_ifo hr with ⟨h7, hr⟩ | ⟨h7, hr⟩
      ·
        obtain ⟨s8, es8, hr⟩ := g_bd hr
        have fs8 : ∀ bb, ¬ (bb = 464) → s8 bb = M bb := fun bb hb => (w_FM_wrong (2 : Int32) x3 M _ es8 bb (by omega))
        exact fun bb hb => (w_FM_number_J122 lo hi x4 s8 _ hr bb hb).trans (fs8 bb hb)
      ·
        exact fun bb hb => (w_FM_number_J122 lo hi x4 M _ hr bb hb)
    ·
      obtain ⟨s9, es9, hr⟩ := g_bd hr
      rcases g_ifo hr with ⟨h10, hr⟩ | ⟨h10, hr⟩
      ·
        exact fun bb hb => (ih x3 ((((10 : Int32) * x4) + s9) - (48 : Int32)) (g_set M 464 4 ((M 464 4) + (1 : Int32))) _ hr bb hb).trans ((g_set_ne (by omega)))
      ·
        exact fun bb hb => (ih x3 (100000 : Int32) (g_set M 464 4 ((M 464 4) + (1 : Int32))) _ hr bb hb).trans ((g_set_ne (by omega)))
set_option maxRecDepth 20000 in
theorem w_FM_number (lo : Int32) (hi : Int32) (M : gM) (R : Int32 × gM) (hr : FM_number lo hi M = some R) : ∀ bb, ¬ (bb = 464) → R.2 bb = M bb := by
  unfold FM_number at hr
  rcases g_ifo hr with ⟨h1, hr⟩ | ⟨h1, hr⟩
  ·
    obtain ⟨s2, es2, hr⟩ := g_bd hr
    have fs2 : ∀ bb, ¬ (bb = 464) → s2 bb = M bb := fun bb hb => (w_FM_blanks M _ es2 bb (by omega))
    obtain ⟨s3, es3, hr⟩ := g_bd hr
    rcases g_ifo hr with ⟨h6, hr⟩ | ⟨h6, hr⟩
    ·
      obtain ⟨s7, es7, hr⟩ := g_bd hr
      have fs7 : ∀ bb, ¬ (bb = 464) → s7 bb = M bb := fun bb hb => (w_FM_wrong (1 : Int32) (s2 464 4) s2 _ es7 bb (by omega)).trans (fs2 bb hb)
      exact fun bb hb => (w_FM_number_L44 lo hi 1000 (s2 464 4) (0 : Int32) s7 _ hr bb hb).trans (fs7 bb hb)
    ·
      exact fun bb hb => (w_FM_number_L44 lo hi 1000 (s2 464 4) (0 : Int32) s2 _ hr bb hb).trans (fs2 bb hb)
  ·
    cases hr; exact fun bb hb => rfl
set_option maxRecDepth 20000 in
theorem w_FM_wordHere_L8 : ∀ (k : Nat) (x1 : Int32) (x2 : Int32) (M : gM) (R : Int32 × gM), FM_wordHere_L8 k x1 x2 M = some R → ∀ bb, ¬ (bb = 464) → R.2 bb = M bb := by
  intro k
  induction k with
  | zero => intro x1 x2 M R hr; exact nomatch (show (none : Option (Int32 × gM)) = some R from hr)
  | succ k ih =>
    intro x1 x2 M R hr
    unfold FM_wordHere_L8 at hr
    obtain ⟨s1, es1, hr⟩ := g_bd hr
    rcases g_ifo hr with ⟨h4, hr⟩ | ⟨h4, hr⟩
    ·
      rcases g_ifo hr with ⟨h5, hr⟩ | ⟨h5, hr⟩
      ·
        cases hr; exact fun bb hb => rfl
      ·
        cases hr; exact fun bb hb => rfl
    ·
      rcases g_ifo hr with ⟨h6, hr⟩ | ⟨h6, hr⟩
      ·
        exact fun bb hb => (ih x1 (x2 + (1 : Int32)) M _ hr bb hb)
      ·
        obtain ⟨s7, es7, hr⟩ := g_bd hr
        exact fun bb hb => (ih (((((27 : Int32) * x1) + s7) - (97 : Int32)) + (1 : Int32)) (x2 + (1 : Int32)) M _ hr bb hb)
set_option maxRecDepth 20000 in
theorem w_FM_wordHere  (M : gM) (R : Int32 × gM) (hr : FM_wordHere M = some R) : ∀ bb, ¬ (bb = 464) → R.2 bb = M bb := by
  unfold FM_wordHere at hr
  obtain ⟨s1, es1, hr⟩ := g_bd hr
  have fs1 : ∀ bb, ¬ (bb = 464) → s1 bb = M bb := fun bb hb => (w_FM_blanks M _ es1 bb (by omega))
  exact fun bb hb => (w_FM_wordHere_L8 1000 (0 : Int32) (0 : Int32) s1 _ hr bb hb).trans (fs1 bb hb)
set_option maxRecDepth 20000 in
theorem w_FM_isWord (a : Int32) (b : Int32) (c : Int32) (u : Int32) (e : Int32) (g : Int32) (M : gM) (R : Int32 × gM) (hr : FM_isWord a b c u e g M = some R) : ∀ bb, ¬ (bb = 464) → R.2 bb = M bb := by
  unfold FM_isWord at hr
  rcases g_ifo hr with ⟨h1, hr⟩ | ⟨h1, hr⟩
  ·
    obtain ⟨s2, es2, hr⟩ := g_bd hr
    have fs2_2 : ∀ bb, ¬ (bb = 464) → s2.2 bb = M bb := fun bb hb => (w_FM_wordHere M _ es2 bb (by omega))
    rcases g_ifo hr with ⟨h3, hr⟩ | ⟨h3, hr⟩
    ·
      cases hr; exact fun bb hb => fs2_2 bb hb
    ·
      cases hr; exact fun bb hb => fs2_2 bb hb
  ·
    cases hr; exact fun bb hb => rfl
set_option maxRecDepth 20000 in
theorem w_FM_skipWord_L0 : ∀ (k : Nat) (M : gM) (R : gM), FM_skipWord_L0 k M = some R → ∀ bb, ¬ (bb = 464) → R bb = M bb := by
  intro k
  induction k with
  | zero => intro  M R hr; exact nomatch (show (none : Option (gM)) = some R from hr)
  | succ k ih =>
    intro  M R hr
    unfold FM_skipWord_L0 at hr
    obtain ⟨s1, es1, hr⟩ := g_bd hr
    rcases g_ifo hr with ⟨h4, hr⟩ | ⟨h4, hr⟩
    ·
      cases hr; exact fun bb hb => rfl
    ·
      exact fun bb hb => (ih (g_set M 464 4 ((M 464 4) + (1 : Int32))) _ hr bb hb).trans ((g_set_ne (by omega)))
set_option maxRecDepth 20000 in
theorem w_FM_skipWord  (M : gM) (R : gM) (hr : FM_skipWord M = some R) : ∀ bb, ¬ (bb = 464) → R bb = M bb := by
  unfold FM_skipWord at hr
  obtain ⟨s1, es1, hr⟩ := g_bd hr
  rcases g_ifo hr with ⟨h4, hr⟩ | ⟨h4, hr⟩
  ·
    cases hr; exact fun bb hb => rfl
  ·
    exact fun bb hb => (w_FM_skipWord_L0 1000 (g_set M 464 4 ((M 464 4) + (1 : Int32))) _ hr bb hb).trans ((g_set_ne (by omega)))
set_option maxRecDepth 20000 in
theorem w_FM_takes (a : Int32) (b : Int32) (c : Int32) (u : Int32) (e : Int32) (g : Int32) (M : gM) (R : Int32 × gM) (hr : FM_takes a b c u e g M = some R) : ∀ bb, ¬ (bb = 464) → R.2 bb = M bb := by
  unfold FM_takes at hr
  obtain ⟨s1, es1, hr⟩ := g_bd hr
  have fs1_2 : ∀ bb, ¬ (bb = 464) → s1.2 bb = M bb := fun bb hb => (w_FM_isWord a b c u e g M _ es1 bb (by omega))
  rcases g_ifo hr with ⟨h3, hr⟩ | ⟨h3, hr⟩
  ·
    cases hr; exact fun bb hb => fs1_2 bb hb
  ·
    obtain ⟨s4, es4, hr⟩ := g_bd hr
    have fs4 : ∀ bb, ¬ (bb = 464) → s4 bb = M bb := fun bb hb => (w_FM_skipWord (s1.2) _ es4 bb (by omega)).trans (fs1_2 bb hb)
    cases hr; exact fun bb hb => fs4 bb hb
set_option maxRecDepth 20000 in
theorem w_FM_sign (c : Int32) (M : gM) (R : gM) (hr : FM_sign c M = some R) : ∀ bb, ¬ (bb = 464) → R bb = M bb := by
  unfold FM_sign at hr
  rcases g_ifo hr with ⟨h1, hr⟩ | ⟨h1, hr⟩
  ·
    obtain ⟨s2, es2, hr⟩ := g_bd hr
    have fs2 : ∀ bb, ¬ (bb = 464) → s2 bb = M bb := fun bb hb => (w_FM_blanks M _ es2 bb (by omega))
    obtain ⟨s3, es3, hr⟩ := g_bd hr
    rcases g_ifo hr with ⟨h4, hr⟩ | ⟨h4, hr⟩
    ·
      cases hr; exact fun bb hb => (g_set_ne (by omega)).trans (fs2 bb hb)
    ·
      obtain ⟨s5, es5, hr⟩ := g_bd hr
      have fs5 : ∀ bb, ¬ (bb = 464) → s5 bb = M bb := fun bb hb => (w_FM_wrong (1 : Int32) (s2 464 4) s2 _ es5 bb (by omega)).trans (fs2 bb hb)
      cases hr; exact fun bb hb => fs5 bb hb
  ·
    cases hr; exact fun bb hb => rfl
set_option maxRecDepth 20000 in
theorem w_FM_takesSign_J30 (c : Int32) (y0 : Int32) (M : gM) (R : Int32 × gM) (hr : FM_takesSign_J30 c y0 M = some R) : ∀ bb, ¬ (bb = 464) → R.2 bb = M bb := by
  unfold FM_takesSign_J30 at hr
  rcases g_ifo hr with ⟨h1, hr⟩ | ⟨h1, hr⟩
  ·
    cases hr; exact fun bb hb => rfl
  ·
    cases hr; exact fun bb hb => (g_set_ne (by omega))
set_option maxRecDepth 20000 in
theorem w_FM_takesSign (c : Int32) (M : gM) (R : Int32 × gM) (hr : FM_takesSign c M = some R) : ∀ bb, ¬ (bb = 464) → R.2 bb = M bb := by
  unfold FM_takesSign at hr
  rcases g_ifo hr with ⟨h1, hr⟩ | ⟨h1, hr⟩
  ·
    obtain ⟨s2, es2, hr⟩ := g_bd hr
    have fs2 : ∀ bb, ¬ (bb = 464) → s2 bb = M bb := fun bb hb => (w_FM_blanks M _ es2 bb (by omega))
    obtain ⟨s3, es3, hr⟩ := g_bd hr
    rcases g_ifo hr with ⟨h4, hr⟩ | ⟨h4, hr⟩
    ·
      exact fun bb hb => (w_FM_takesSign_J30 c (1 : Int32) s2 _ hr bb hb).trans (fs2 bb hb)
    ·
      exact fun bb hb => (w_FM_takesSign_J30 c (0 : Int32) s2 _ hr bb hb).trans (fs2 bb hb)
  ·
    cases hr; exact fun bb hb => rfl
set_option maxRecDepth 20000 in
theorem w_FM_starts (e : Int32) (M : gM) (R : gM) (hr : FM_starts e M = some R) : ∀ bb, ¬ (bb = 464) → R bb = M bb := by
  unfold FM_starts at hr
  obtain ⟨s1, es1, hr⟩ := g_bd hr
  have fs1 : ∀ bb, ¬ (bb = 464) → s1 bb = M bb := fun bb hb => (w_FM_blanks (g_set (g_set (g_set (g_set (g_set (g_set (g_set M 464 1 (0 : Int32)) 464 2 e) 464 4 (0 : Int32)) 464 5 (0 : Int32)) 464 6 (-1 : Int32)) 464 7 (0 : Int32)) 464 8 (0 : Int32)) _ es1 bb (by omega)).trans ((g_set_ne (by omega)).trans ((g_set_ne (by omega)).trans ((g_set_ne (by omega)).trans ((g_set_ne (by omega)).trans ((g_set_ne (by omega)).trans ((g_set_ne (by omega)).trans ((g_set_ne (by omega)))))))))
  cases hr; exact fun bb hb => fs1 bb hb
set_option maxRecDepth 20000 in
theorem w_FM_ends  (M : gM) (R : Int32 × gM) (hr : FM_ends M = some R) : ∀ bb, ¬ (bb = 464) → R.2 bb = M bb := by
  unfold FM_ends at hr
  cases hr; exact fun bb hb => (g_set_ne (by omega))
set_option maxRecDepth 20000 in
theorem w_FM_kindHere  (M : gM) (R : Int32 × gM) (hr : FM_kindHere M = some R) : ∀ bb, ¬ (bb = 464) → R.2 bb = M bb := by
  unfold FM_kindHere at hr
  obtain ⟨s1, es1, hr⟩ := g_bd hr
  have fs1_2 : ∀ bb, ¬ (bb = 464) → s1.2 bb = M bb := fun bb hb => (w_FM_isWord (23 : Int32) (1 : Int32) (12 : Int32) (11 : Int32) (0 : Int32) (0 : Int32) M _ es1 bb (by omega))
  rcases g_ifo hr with ⟨h3, hr⟩ | ⟨h3, hr⟩
  ·
    obtain ⟨s4, es4, hr⟩ := g_bd hr
    have fs4_2 : ∀ bb, ¬ (bb = 464) → s4.2 bb = M bb := fun bb hb => (w_FM_isWord (3 : Int32) (8 : Int32) (9 : Int32) (12 : Int32) (4 : Int32) (0 : Int32) (s1.2) _ es4 bb (by omega)).trans (fs1_2 bb hb)
    rcases g_ifo hr with ⟨h6, hr⟩ | ⟨h6, hr⟩
    ·
      obtain ⟨s7, es7, hr⟩ := g_bd hr
      have fs7_2 : ∀ bb, ¬ (bb = 464) → s7.2 bb = M bb := fun bb hb => (w_FM_isWord (8 : Int32) (15 : Int32) (15 : Int32) (16 : Int32) (0 : Int32) (0 : Int32) (s4.2) _ es7 bb (by omega)).trans (fs4_2 bb hb)
      rcases g_ifo hr with ⟨h9, hr⟩ | ⟨h9, hr⟩
      ·
        obtain ⟨s10, es10, hr⟩ := g_bd hr
        have fs10_2 : ∀ bb, ¬ (bb = 464) → s10.2 bb = M bb := fun bb hb => (w_FM_isWord (12 : Int32) (15 : Int32) (14 : Int32) (7 : Int32) (0 : Int32) (0 : Int32) (s7.2) _ es10 bb (by omega)).trans (fs7_2 bb hb)
        rcases g_ifo hr with ⟨h12, hr⟩ | ⟨h12, hr⟩
        ·
          obtain ⟨s13, es13, hr⟩ := g_bd hr
          have fs13_2 : ∀ bb, ¬ (bb = 464) → s13.2 bb = M bb := fun bb hb => (w_FM_isWord (6 : Int32) (9 : Int32) (14 : Int32) (5 : Int32) (0 : Int32) (0 : Int32) (s10.2) _ es13 bb (by omega)).trans (fs10_2 bb hb)
          rcases g_ifo hr with ⟨h15, hr⟩ | ⟨h15, hr⟩
          ·
            cases hr; exact fun bb hb => fs13_2 bb hb
          ·
            cases hr; exact fun bb hb => fs13_2 bb hb
        ·
          cases hr; exact fun bb hb => fs10_2 bb hb
      ·
        cases hr; exact fun bb hb => fs7_2 bb hb
    ·
      cases hr; exact fun bb hb => fs4_2 bb hb
  ·
    cases hr; exact fun bb hb => fs1_2 bb hb
set_option maxRecDepth 20000 in
theorem w_FM_clause_J265 (M : gM) (R : gM) (hr : FM_clause_J265 M = some R) : ∀ bb, ¬ (bb = 464 ∨ bb = 467 ∨ bb = 469 ∨ (472 ≤ bb ∧ bb ≤ 479) ∨ (490 ≤ bb ∧ bb ≤ 497)) → R bb = M bb := by
  unfold FM_clause_J265 at hr
  obtain ⟨s1, es1, hr⟩ := g_bd hr
  have fs1 : ∀ bb, ¬ (bb = 464 ∨ bb = 467 ∨ bb = 469 ∨ (472 ≤ bb ∧ bb ≤ 479) ∨ (490 ≤ bb ∧ bb ≤ 497)) → s1 bb = M bb := fun bb hb => (w_FM_sign (59 : Int32) M _ es1 bb (by omega))
  cases hr; exact fun bb hb => fs1 bb hb
set_option maxRecDepth 20000 in
theorem w_FM_clause_J263 (y0 : Int32) (y1 : Int32) (y2 : Int32) (M : gM) (R : gM) (hr : FM_clause_J263 y0 y1 y2 M = some R) : ∀ bb, ¬ (bb = 464 ∨ bb = 467 ∨ bb = 469 ∨ (472 ≤ bb ∧ bb ≤ 479) ∨ (490 ≤ bb ∧ bb ≤ 497)) → R bb = M bb := by
  unfold FM_clause_J263 at hr
  obtain ⟨j1, ej1, ij1, lj1, hr⟩ := g_ixo hr
  obtain ⟨M2, mM2, hr⟩ := g_leto hr
  have fM2 : ∀ bb, ¬ (bb = 464 ∨ bb = 467 ∨ bb = 469 ∨ (472 ≤ bb ∧ bb ≤ 479) ∨ (490 ≤ bb ∧ bb ≤ 497)) → M2 bb = M bb := fun bb hb => by rw [mM2]; exact (g_set_ne (by omega))
  exact fun bb hb => (w_FM_clause_J265 M2 _ hr bb hb).trans (fM2 bb hb)
set_option maxRecDepth 20000 in
theorem w_FM_clause_J239 (x1 : Int32) (M : gM) (R : gM) (hr : FM_clause_J239 x1 M = some R) : ∀ bb, ¬ (bb = 464 ∨ bb = 467 ∨ bb = 469 ∨ (472 ≤ bb ∧ bb ≤ 479) ∨ (490 ≤ bb ∧ bb ≤ 497)) → R bb = M bb := by
  unfold FM_clause_J239 at hr
  rcases g_ifo hr with ⟨h1, hr⟩ | ⟨h1, hr⟩
  ·
    exact fun bb hb => (w_FM_clause_J265 M _ hr bb hb)
  ·
    obtain ⟨j2, ej2, ij2, lj2, hr⟩ := g_ixo hr
    rcases g_ifo hr with ⟨h3, hr⟩ | ⟨h3, hr⟩
    ·
      exact fun bb hb => (w_FM_clause_J263 (1 : Int32) (M 467 j2) x1 M _ hr bb hb)
    ·
      exact fun bb hb => (w_FM_clause_J263 (0 : Int32) (M 467 j2) x1 M _ hr bb hb)
set_option maxRecDepth 20000 in
theorem w_FM_clause_J218 (x1 : Int32) (y0 : Int32) (y1 : Int32) (M : gM) (R : gM) (hr : FM_clause_J218 x1 y0 y1 M = some R) : ∀ bb, ¬ (bb = 464 ∨ bb = 467 ∨ bb = 469 ∨ (472 ≤ bb ∧ bb ≤ 479) ∨ (490 ≤ bb ∧ bb ≤ 497)) → R bb = M bb := by
  unfold FM_clause_J218 at hr
  obtain ⟨s1, es1, hr⟩ := g_bd hr
  have fs1_2 : ∀ bb, ¬ (bb = 464 ∨ bb = 467 ∨ bb = 469 ∨ (472 ≤ bb ∧ bb ≤ 479) ∨ (490 ≤ bb ∧ bb ≤ 497)) → s1.2 bb = M bb := fun bb hb => (w_FM_number y1 y0 M _ es1 bb (by omega))
  rcases g_ifo hr with ⟨h2, hr⟩ | ⟨h2, hr⟩
  ·
    obtain ⟨j3, ej3, ij3, lj3, hr⟩ := g_ixo hr
    obtain ⟨M4, mM4, hr⟩ := g_leto hr
    have fM4 : ∀ bb, ¬ (bb = 464 ∨ bb = 467 ∨ bb = 469 ∨ (472 ≤ bb ∧ bb ≤ 479) ∨ (490 ≤ bb ∧ bb ≤ 497)) → M4 bb = M bb := fun bb hb => by rw [mM4]; exact (g_set_ne (by omega)).trans (fs1_2 bb hb)
    exact fun bb hb => (w_FM_clause_J239 x1 M4 _ hr bb hb).trans (fM4 bb hb)
  ·
    exact fun bb hb => (w_FM_clause_J239 x1 (s1.2) _ hr bb hb).trans (fs1_2 bb hb)
set_option maxRecDepth 20000 in
theorem w_FM_clause_J205 (x1 : Int32) (y0 : Int32) (M : gM) (R : gM) (hr : FM_clause_J205 x1 y0 M = some R) : ∀ bb, ¬ (bb = 464 ∨ bb = 467 ∨ bb = 469 ∨ (472 ≤ bb ∧ bb ≤ 479) ∨ (490 ≤ bb ∧ bb ≤ 497)) → R bb = M bb := by
  unfold FM_clause_J205 at hr
  rcases g_ifo hr with ⟨h1, hr⟩ | ⟨h1, hr⟩
  ·
    exact fun bb hb => (w_FM_clause_J218 x1 (500 : Int32) y0 M _ hr bb hb)
  ·
    exact fun bb hb => (w_FM_clause_J218 x1 (20 : Int32) y0 M _ hr bb hb)
set_option maxRecDepth 20000 in
theorem w_FM_clause_J56 (x1 : Int32) (M : gM) (R : gM) (hr : FM_clause_J56 x1 M = some R) : ∀ bb, ¬ (bb = 464 ∨ bb = 467 ∨ bb = 469 ∨ (472 ≤ bb ∧ bb ≤ 479) ∨ (490 ≤ bb ∧ bb ≤ 497)) → R bb = M bb := by
  unfold FM_clause_J56 at hr
  rcases g_ifo hr with ⟨h1, hr⟩ | ⟨h1, hr⟩
  ·
    obtain ⟨s2, es2, hr⟩ := g_bd hr
    have fs2 : ∀ bb, ¬ (bb = 464 ∨ bb = 467 ∨ bb = 469 ∨ (472 ≤ bb ∧ bb ≤ 479) ∨ (490 ≤ bb ∧ bb ≤ 497)) → s2 bb = M bb := fun bb hb => (w_FM_skipWord M _ es2 bb (by omega))
    obtain ⟨j3, ej3, ij3, lj3, hr⟩ := g_ixo hr
    rcases g_ifo hr with ⟨h4, hr⟩ | ⟨h4, hr⟩
    ·
      obtain ⟨j5, ej5, ij5, lj5, hr⟩ := g_ixo hr
      obtain ⟨s6, es6, hr⟩ := g_bd hr
      have fs6_2 : ∀ bb, ¬ (bb = 464 ∨ bb = 467 ∨ bb = 469 ∨ (472 ≤ bb ∧ bb ≤ 479) ∨ (490 ≤ bb ∧ bb ≤ 497)) → s6.2 bb = M bb := fun bb hb => (w_FM_number (1 : Int32) (20 : Int32) (g_set s2 464 7 ((s2 464 7) + (1 : Int32))) _ es6 bb (by omega)).trans ((g_set_ne (by omega)).trans (fs2 bb hb))
      obtain ⟨M7, mM7, hr⟩ := g_leto hr
      have fM7 : ∀ bb, ¬ (bb = 464 ∨ bb = 467 ∨ bb = 469 ∨ (472 ≤ bb ∧ bb ≤ 479) ∨ (490 ≤ bb ∧ bb ≤ 497)) → M7 bb = M bb := fun bb hb => by rw [mM7]; exact (g_set_ne (by omega)).trans (fs6_2 bb hb)
      obtain ⟨j8, ej8, ij8, lj8, hr⟩ := g_ixo hr
      obtain ⟨s9, es9, hr⟩ := g_bd hr
      have fs9_2 : ∀ bb, ¬ (bb = 464 ∨ bb = 467 ∨ bb = 469 ∨ (472 ≤ bb ∧ bb ≤ 479) ∨ (490 ≤ bb ∧ bb ≤ 497)) → s9.2 bb = M bb := fun bb hb => (w_FM_number (0 : Int32) (16 : Int32) M7 _ es9 bb (by omega)).trans (fM7 bb hb)
      obtain ⟨M10, mM10, hr⟩ := g_leto hr
      have fM10 : ∀ bb, ¬ (bb = 464 ∨ bb = 467 ∨ bb = 469 ∨ (472 ≤ bb ∧ bb ≤ 479) ∨ (490 ≤ bb ∧ bb ≤ 497)) → M10 bb = M bb := fun bb hb => by rw [mM10]; exact (g_set_ne (by omega)).trans (fs9_2 bb hb)
      exact fun bb hb => (w_FM_clause_J239 x1 M10 _ hr bb hb).trans (fM10 bb hb)
    rcases g_ifo hr with ⟨h11, hr⟩ | ⟨h11, hr⟩
    ·
      obtain ⟨j12, ej12, ij12, lj12, hr⟩ := g_ixo hr
      obtain ⟨s13, es13, hr⟩ := g_bd hr
      have fs13_2 : ∀ bb, ¬ (bb = 464 ∨ bb = 467 ∨ bb = 469 ∨ (472 ≤ bb ∧ bb ≤ 479) ∨ (490 ≤ bb ∧ bb ≤ 497)) → s13.2 bb = M bb := fun bb hb => (w_FM_number (1 : Int32) (9 : Int32) (g_set s2 464 7 ((s2 464 7) + (1 : Int32))) _ es13 bb (by omega)).trans ((g_set_ne (by omega)).trans (fs2 bb hb))
      obtain ⟨M14, mM14, hr⟩ := g_leto hr
      have fM14 : ∀ bb, ¬ (bb = 464 ∨ bb = 467 ∨ bb = 469 ∨ (472 ≤ bb ∧ bb ≤ 479) ∨ (490 ≤ bb ∧ bb ≤ 497)) → M14 bb = M bb := fun bb hb => by rw [mM14]; exact (g_set_ne (by omega)).trans (fs13_2 bb hb)
      obtain ⟨j15, ej15, ij15, lj15, hr⟩ := g_ixo hr
      obtain ⟨s16, es16, hr⟩ := g_bd hr
      have fs16_2 : ∀ bb, ¬ (bb = 464 ∨ bb = 467 ∨ bb = 469 ∨ (472 ≤ bb ∧ bb ≤ 479) ∨ (490 ≤ bb ∧ bb ≤ 497)) → s16.2 bb = M bb := fun bb hb => (w_FM_number (3 : Int32) (14 : Int32) M14 _ es16 bb (by omega)).trans (fM14 bb hb)
      obtain ⟨M17, mM17, hr⟩ := g_leto hr
      have fM17 : ∀ bb, ¬ (bb = 464 ∨ bb = 467 ∨ bb = 469 ∨ (472 ≤ bb ∧ bb ≤ 479) ∨ (490 ≤ bb ∧ bb ≤ 497)) → M17 bb = M bb := fun bb hb => by rw [mM17]; exact (g_set_ne (by omega)).trans (fs16_2 bb hb)
      exact fun bb hb => (w_FM_clause_J239 x1 M17 _ hr bb hb).trans (fM17 bb hb)
    rcases g_ifo hr with ⟨h18, hr⟩ | ⟨h18, hr⟩
    ·
      obtain ⟨s19, es19, hr⟩ := g_bd hr
      have fs19_2 : ∀ bb, ¬ (bb = 464 ∨ bb = 467 ∨ bb = 469 ∨ (472 ≤ bb ∧ bb ≤ 479) ∨ (490 ≤ bb ∧ bb ≤ 497)) → s19.2 bb = M bb := fun bb hb => (w_FM_number (1 : Int32) (9 : Int32) (g_set s2 464 7 ((s2 464 7) + (1 : Int32))) _ es19 bb (by omega)).trans ((g_set_ne (by omega)).trans (fs2 bb hb))
      obtain ⟨j20, ej20, ij20, lj20, hr⟩ := g_ixo hr
      obtain ⟨M21, mM21, hr⟩ := g_leto hr
      have fM21 : ∀ bb, ¬ (bb = 464 ∨ bb = 467 ∨ bb = 469 ∨ (472 ≤ bb ∧ bb ≤ 479) ∨ (490 ≤ bb ∧ bb ≤ 497)) → M21 bb = M bb := fun bb hb => by rw [mM21]; exact (g_set_ne (by omega)).trans (fs19_2 bb hb)
      exact fun bb hb => (w_FM_clause_J239 x1 M21 _ hr bb hb).trans (fM21 bb hb)
    rcases g_ifo hr with ⟨h22, hr⟩ | ⟨h22, hr⟩
    ·
      exact fun bb hb => (w_FM_clause_J205 x1 (1 : Int32) (g_set s2 464 7 ((s2 464 7) + (1 : Int32))) _ hr bb hb).trans ((g_set_ne (by omega)).trans (fs2 bb hb))
    ·
      exact fun bb hb => (w_FM_clause_J205 x1 (0 : Int32) (g_set s2 464 7 ((s2 464 7) + (1 : Int32))) _ hr bb hb).trans ((g_set_ne (by omega)).trans (fs2 bb hb))
  ·
    cases hr; exact fun bb hb => rfl
set_option maxRecDepth 20000 in
theorem w_FM_clause_J47 (x1 : Int32) (M : gM) (R : gM) (hr : FM_clause_J47 x1 M = some R) : ∀ bb, ¬ (bb = 464 ∨ bb = 467 ∨ bb = 469 ∨ (472 ≤ bb ∧ bb ≤ 479) ∨ (490 ≤ bb ∧ bb ≤ 497)) → R bb = M bb := by
  unfold FM_clause_J47 at hr
  obtain ⟨s1, es1, hr⟩ := g_bd hr
  have fs1 : ∀ bb, ¬ (bb = 464 ∨ bb = 467 ∨ bb = 469 ∨ (472 ≤ bb ∧ bb ≤ 479) ∨ (490 ≤ bb ∧ bb ≤ 497)) → s1 bb = M bb := fun bb hb => (w_FM_wrong (3 : Int32) (M 464 4) M _ es1 bb (by omega))
  exact fun bb hb => (w_FM_clause_J56 x1 s1 _ hr bb hb).trans (fs1 bb hb)
set_option maxRecDepth 20000 in
theorem w_FM_clause  (M : gM) (R : gM) (hr : FM_clause M = some R) : ∀ bb, ¬ (bb = 464 ∨ bb = 467 ∨ bb = 469 ∨ (472 ≤ bb ∧ bb ≤ 479) ∨ (490 ≤ bb ∧ bb ≤ 497)) → R bb = M bb := by
  unfold FM_clause at hr
  obtain ⟨s1, es1, hr⟩ := g_bd hr
  have fs1_2 : ∀ bb, ¬ (bb = 464 ∨ bb = 467 ∨ bb = 469 ∨ (472 ≤ bb ∧ bb ≤ 479) ∨ (490 ≤ bb ∧ bb ≤ 497)) → s1.2 bb = M bb := fun bb hb => (w_FM_kindHere M _ es1 bb (by omega))
  rcases g_ifo hr with ⟨h2, hr⟩ | ⟨h2, hr⟩
  ·
    obtain ⟨s7, es7, hr⟩ := g_bd hr
    have fs7 : ∀ bb, ¬ (bb = 464 ∨ bb = 467 ∨ bb = 469 ∨ (472 ≤ bb ∧ bb ≤ 479) ∨ (490 ≤ bb ∧ bb ≤ 497)) → s7 bb = M bb := fun bb hb => (w_FM_wrong (1 : Int32) ((s1.2) 464 4) (s1.2) _ es7 bb (by omega)).trans (fs1_2 bb hb)
    exact fun bb hb => (w_FM_clause_J56 s1.1 s7 _ hr bb hb).trans (fs7 bb hb)
  ·
    rcases g_ifo hr with ⟨h3, hr⟩ | ⟨h3, hr⟩
    ·
      exact fun bb hb => (w_FM_clause_J47 s1.1 (s1.2) _ hr bb hb).trans (fs1_2 bb hb)
    ·
      rcases g_ifo hr with ⟨h4, hr⟩ | ⟨h4, hr⟩
      ·
        exact fun bb hb => (w_FM_clause_J56 s1.1 (s1.2) _ hr bb hb).trans (fs1_2 bb hb)
      ·
        obtain ⟨j5, ej5, ij5, lj5, hr⟩ := g_ixo hr
        rcases g_ifo hr with ⟨h6, hr⟩ | ⟨h6, hr⟩
        ·
          exact fun bb hb => (w_FM_clause_J47 s1.1 (s1.2) _ hr bb hb).trans (fs1_2 bb hb)
        ·
          exact fun bb hb => (w_FM_clause_J56 s1.1 (s1.2) _ hr bb hb).trans (fs1_2 bb hb)
set_option maxRecDepth 20000 in
theorem w_FM_laysW_L10 (many : Int32) (c2 : Int32 → gM → Option (gM)) (gc2 : ∀ (x3 : Int32) (M : gM) (R : gM), c2 x3 M = some R → ∀ bb, ¬ ((481 ≤ bb ∧ bb ≤ 488)) → R bb = M bb) : ∀ (k : Nat) (x3 : Int32) (x4 : Int32) (M : gM) (R : gM), FM_laysW_L10 many c2 k x3 x4 M = some R → ∀ bb, ¬ ((481 ≤ bb ∧ bb ≤ 488)) → R bb = M bb := by
  intro k
  induction k with
  | zero => intro x3 x4 M R hr; exact nomatch (show (none : Option (gM)) = some R from hr)
  | succ k ih =>
    intro x3 x4 M R hr
    unfold FM_laysW_L10 at hr
    obtain ⟨j1, ej1, ij1, lj1, hr⟩ := g_ixo hr
    rcases g_ifo hr with ⟨h2, hr⟩ | ⟨h2, hr⟩
    ·
      exact fun bb hb => (gc2 (x3 + (1 : Int32)) M _ hr bb hb)
    ·
      obtain ⟨j3, ej3, ij3, lj3, hr⟩ := g_ixo hr
      obtain ⟨j4, ej4, ij4, lj4, hr⟩ := g_ixo hr
      obtain ⟨j5, ej5, ij5, lj5, hr⟩ := g_ixo hr
      obtain ⟨j6, ej6, ij6, lj6, hr⟩ := g_ixo hr
      obtain ⟨M7, mM7, hr⟩ := g_leto hr
      have fM7 : ∀ bb, ¬ ((481 ≤ bb ∧ bb ≤ 488)) → M7 bb = M bb := fun bb hb => by rw [mM7]; exact (g_set_ne (by omega))
      exact fun bb hb => (ih x3 (x4 + (1 : Int32)) M7 _ hr bb hb).trans (fM7 bb hb)
set_option maxRecDepth 20000 in
theorem w_FM_laysW_L2 (many : Int32) : ∀ (k : Nat) (x3 : Int32) (M : gM) (R : gM), FM_laysW_L2 many k x3 M = some R → ∀ bb, ¬ ((481 ≤ bb ∧ bb ≤ 488)) → R bb = M bb := by
  intro k
  induction k with
  | zero => intro x3 M R hr; exact nomatch (show (none : Option (gM)) = some R from hr)
  | succ k ih =>
    intro x3 M R hr
    unfold FM_laysW_L2 at hr
    rcases g_ifo hr with ⟨h1, hr⟩ | ⟨h1, hr⟩
    ·
      cases hr; exact fun bb hb => rfl
    ·
      exact fun bb hb => (w_FM_laysW_L10 many (FM_laysW_L2 many k) ih 1000 x3 (0 : Int32) M _ hr bb hb)
set_option maxRecDepth 20000 in
theorem w_FM_laysW (many : Int32) (M : gM) (R : gM) (hr : FM_laysW many M = some R) : ∀ bb, ¬ ((481 ≤ bb ∧ bb ≤ 488)) → R bb = M bb := by
  unfold FM_laysW at hr
  exact fun bb hb => (w_FM_laysW_L2 many 1000 (0 : Int32) M _ hr bb hb)
set_option maxRecDepth 20000 in
theorem w_FM_laysC_L10 (many : Int32) (c2 : Int32 → gM → Option (gM)) (gc2 : ∀ (x3 : Int32) (M : gM) (R : gM), c2 x3 M = some R → ∀ bb, ¬ ((499 ≤ bb ∧ bb ≤ 506)) → R bb = M bb) : ∀ (k : Nat) (x3 : Int32) (x4 : Int32) (M : gM) (R : gM), FM_laysC_L10 many c2 k x3 x4 M = some R → ∀ bb, ¬ ((499 ≤ bb ∧ bb ≤ 506)) → R bb = M bb := by
  intro k
  induction k with
  | zero => intro x3 x4 M R hr; exact nomatch (show (none : Option (gM)) = some R from hr)
  | succ k ih =>
    intro x3 x4 M R hr
    unfold FM_laysC_L10 at hr
    obtain ⟨j1, ej1, ij1, lj1, hr⟩ := g_ixo hr
    rcases g_ifo hr with ⟨h2, hr⟩ | ⟨h2, hr⟩
    ·
      exact fun bb hb => (gc2 (x3 + (1 : Int32)) M _ hr bb hb)
    ·
      obtain ⟨j3, ej3, ij3, lj3, hr⟩ := g_ixo hr
      obtain ⟨j4, ej4, ij4, lj4, hr⟩ := g_ixo hr
      obtain ⟨j5, ej5, ij5, lj5, hr⟩ := g_ixo hr
      obtain ⟨j6, ej6, ij6, lj6, hr⟩ := g_ixo hr
      obtain ⟨M7, mM7, hr⟩ := g_leto hr
      have fM7 : ∀ bb, ¬ ((499 ≤ bb ∧ bb ≤ 506)) → M7 bb = M bb := fun bb hb => by rw [mM7]; exact (g_set_ne (by omega))
      exact fun bb hb => (ih x3 (x4 + (1 : Int32)) M7 _ hr bb hb).trans (fM7 bb hb)
set_option maxRecDepth 20000 in
theorem w_FM_laysC_L2 (many : Int32) : ∀ (k : Nat) (x3 : Int32) (M : gM) (R : gM), FM_laysC_L2 many k x3 M = some R → ∀ bb, ¬ ((499 ≤ bb ∧ bb ≤ 506)) → R bb = M bb := by
  intro k
  induction k with
  | zero => intro x3 M R hr; exact nomatch (show (none : Option (gM)) = some R from hr)
  | succ k ih =>
    intro x3 M R hr
    unfold FM_laysC_L2 at hr
    rcases g_ifo hr with ⟨h1, hr⟩ | ⟨h1, hr⟩
    ·
      cases hr; exact fun bb hb => rfl
    ·
      exact fun bb hb => (w_FM_laysC_L10 many (FM_laysC_L2 many k) ih 1000 x3 (0 : Int32) M _ hr bb hb)
set_option maxRecDepth 20000 in
theorem w_FM_laysC (many : Int32) (M : gM) (R : gM) (hr : FM_laysC many M = some R) : ∀ bb, ¬ ((499 ≤ bb ∧ bb ≤ 506)) → R bb = M bb := by
  unfold FM_laysC at hr
  exact fun bb hb => (w_FM_laysC_L2 many 1000 (0 : Int32) M _ hr bb hb)
set_option maxRecDepth 20000 in
theorem w_FM_laysL_L10 (many : Int32) (c2 : Int32 → gM → Option (gM)) (gc2 : ∀ (x3 : Int32) (M : gM) (R : gM), c2 x3 M = some R → ∀ bb, ¬ ((508 ≤ bb ∧ bb ≤ 667)) → R bb = M bb) : ∀ (k : Nat) (x3 : Int32) (x4 : Int32) (M : gM) (R : gM), FM_laysL_L10 many c2 k x3 x4 M = some R → ∀ bb, ¬ ((508 ≤ bb ∧ bb ≤ 667)) → R bb = M bb := by
  intro k
  induction k with
  | zero => intro x3 x4 M R hr; exact nomatch (show (none : Option (gM)) = some R from hr)
  | succ k ih =>
    intro x3 x4 M R hr
    unfold FM_laysL_L10 at hr
    obtain ⟨j1, ej1, ij1, lj1, hr⟩ := g_ixo hr
    rcases g_ifo hr with ⟨h2, hr⟩ | ⟨h2, hr⟩
    ·
      exact fun bb hb => (gc2 (x3 + (1 : Int32)) M _ hr bb hb)
    ·
      obtain ⟨j3, ej3, ij3, lj3, hr⟩ := g_ixo hr
      obtain ⟨j4, ej4, ij4, lj4, hr⟩ := g_ixo hr
      obtain ⟨j5, ej5, ij5, lj5, hr⟩ := g_ixo hr
      obtain ⟨j6, ej6, ij6, lj6, hr⟩ := g_ixo hr
      obtain ⟨M7, mM7, hr⟩ := g_leto hr
      have fM7 : ∀ bb, ¬ ((508 ≤ bb ∧ bb ≤ 667)) → M7 bb = M bb := fun bb hb => by rw [mM7]; exact (g_set_ne (by omega))
      exact fun bb hb => (ih x3 (x4 + (1 : Int32)) M7 _ hr bb hb).trans (fM7 bb hb)
set_option maxRecDepth 20000 in
theorem w_FM_laysL_L2 (many : Int32) : ∀ (k : Nat) (x3 : Int32) (M : gM) (R : gM), FM_laysL_L2 many k x3 M = some R → ∀ bb, ¬ ((508 ≤ bb ∧ bb ≤ 667)) → R bb = M bb := by
  intro k
  induction k with
  | zero => intro x3 M R hr; exact nomatch (show (none : Option (gM)) = some R from hr)
  | succ k ih =>
    intro x3 M R hr
    unfold FM_laysL_L2 at hr
    rcases g_ifo hr with ⟨h1, hr⟩ | ⟨h1, hr⟩
    ·
      cases hr; exact fun bb hb => rfl
    ·
      exact fun bb hb => (w_FM_laysL_L10 many (FM_laysL_L2 many k) ih 1000 x3 (0 : Int32) M _ hr bb hb)
set_option maxRecDepth 20000 in
theorem w_FM_laysL (many : Int32) (M : gM) (R : gM) (hr : FM_laysL many M = some R) : ∀ bb, ¬ ((508 ≤ bb ∧ bb ≤ 667)) → R bb = M bb := by
  unfold FM_laysL at hr
  exact fun bb hb => (w_FM_laysL_L2 many 1000 (0 : Int32) M _ hr bb hb)
set_option maxRecDepth 20000 in
theorem w_FM_laysS_L10 (many : Int32) (c2 : Int32 → gM → Option (gM)) (gc2 : ∀ (x3 : Int32) (M : gM) (R : gM), c2 x3 M = some R → ∀ bb, ¬ ((830 ≤ bb ∧ bb ≤ 837)) → R bb = M bb) : ∀ (k : Nat) (x3 : Int32) (x4 : Int32) (M : gM) (R : gM), FM_laysS_L10 many c2 k x3 x4 M = some R → ∀ bb, ¬ ((830 ≤ bb ∧ bb ≤ 837)) → R bb = M bb := by
  intro k
  induction k with
  | zero => intro x3 x4 M R hr; exact nomatch (show (none : Option (gM)) = some R from hr)
  | succ k ih =>
    intro x3 x4 M R hr
    unfold FM_laysS_L10 at hr
    obtain ⟨j1, ej1, ij1, lj1, hr⟩ := g_ixo hr
    rcases g_ifo hr with ⟨h2, hr⟩ | ⟨h2, hr⟩
    ·
      exact fun bb hb => (gc2 (x3 + (1 : Int32)) M _ hr bb hb)
    ·
      obtain ⟨j3, ej3, ij3, lj3, hr⟩ := g_ixo hr
      obtain ⟨j4, ej4, ij4, lj4, hr⟩ := g_ixo hr
      obtain ⟨j5, ej5, ij5, lj5, hr⟩ := g_ixo hr
      obtain ⟨j6, ej6, ij6, lj6, hr⟩ := g_ixo hr
      obtain ⟨M7, mM7, hr⟩ := g_leto hr
      have fM7 : ∀ bb, ¬ ((830 ≤ bb ∧ bb ≤ 837)) → M7 bb = M bb := fun bb hb => by rw [mM7]; exact (g_set_ne (by omega))
      exact fun bb hb => (ih x3 (x4 + (1 : Int32)) M7 _ hr bb hb).trans (fM7 bb hb)
set_option maxRecDepth 20000 in
theorem w_FM_laysS_L2 (many : Int32) : ∀ (k : Nat) (x3 : Int32) (M : gM) (R : gM), FM_laysS_L2 many k x3 M = some R → ∀ bb, ¬ ((830 ≤ bb ∧ bb ≤ 837)) → R bb = M bb := by
  intro k
  induction k with
  | zero => intro x3 M R hr; exact nomatch (show (none : Option (gM)) = some R from hr)
  | succ k ih =>
    intro x3 M R hr
    unfold FM_laysS_L2 at hr
    rcases g_ifo hr with ⟨h1, hr⟩ | ⟨h1, hr⟩
    ·
      cases hr; exact fun bb hb => rfl
    ·
      exact fun bb hb => (w_FM_laysS_L10 many (FM_laysS_L2 many k) ih 1000 x3 (0 : Int32) M _ hr bb hb)
set_option maxRecDepth 20000 in
theorem w_FM_laysS (many : Int32) (M : gM) (R : gM) (hr : FM_laysS many M = some R) : ∀ bb, ¬ ((830 ≤ bb ∧ bb ≤ 837)) → R bb = M bb := by
  unfold FM_laysS at hr
  exact fun bb hb => (w_FM_laysS_L2 many 1000 (0 : Int32) M _ hr bb hb)
set_option maxRecDepth 20000 in
theorem w_FM_copies_L2 (a : Nat) (b : Nat) : ∀ (k : Nat) (x2 : Int32) (M : gM) (R : gM), FM_copies_L2 a b k x2 M = some R → ∀ bb, ¬ (bb = b) → R bb = M bb := by
  intro k
  induction k with
  | zero => intro x2 M R hr; exact nomatch (show (none : Option (gM)) = some R from hr)
  | succ k ih =>
    intro x2 M R hr
    unfold FM_copies_L2 at hr
    rcases g_ifo hr with ⟨h1, hr⟩ | ⟨h1, hr⟩
    ·
      cases hr; exact fun bb hb => rfl
    ·
      obtain ⟨j2, ej2, ij2, lj2, hr⟩ := g_ixo hr
      obtain ⟨j3, ej3, ij3, lj3, hr⟩ := g_ixo hr
      obtain ⟨M4, mM4, hr⟩ := g_leto hr
      have fM4 : ∀ bb, ¬ (bb = b) → M4 bb = M bb := fun bb hb => by rw [mM4]; exact (g_set_ne (by omega))
      exact fun bb hb => (ih (x2 + (1 : Int32)) M4 _ hr bb hb).trans (fM4 bb hb)
set_option maxRecDepth 20000 in
theorem w_FM_copies (a : Nat) (b : Nat) (M : gM) (R : gM) (hr : FM_copies a b M = some R) : ∀ bb, ¬ (bb = b) → R bb = M bb := by
  unfold FM_copies at hr
  exact fun bb hb => (w_FM_copies_L2 a b 1000 (0 : Int32) M _ hr bb hb)
set_option maxRecDepth 20000 in
theorem w_FM_beginsAnew_L91 : ∀ (k : Nat) (x1 : Int32) (M : gM) (R : gM), FM_beginsAnew_L91 k x1 M = some R → ∀ bb, ¬ (bb = 464 ∨ bb = 468 ∨ bb = 470 ∨ (481 ≤ bb ∧ bb ≤ 488) ∨ (499 ≤ bb ∧ bb ≤ 506) ∨ bb = 930) → R bb = M bb := by
  intro k
  induction k with
  | zero => intro x1 M R hr; exact nomatch (show (none : Option (gM)) = some R from hr)
  | succ k ih =>
    intro x1 M R hr
    unfold FM_beginsAnew_L91 at hr
    rcases g_ifo hr with ⟨h1, hr⟩ | ⟨h1, hr⟩
    ·
      cases hr; exact fun bb hb => (g_set_ne (by omega)).trans ((g_set_ne (by omega)).trans ((g_set_ne (by omega)).trans ((g_set_ne (by omega)).trans ((g_set_ne (by omega))))))
    ·
      rcases g_ifo hr with ⟨h2, hr⟩ | ⟨h2, hr⟩
      ·
        obtain ⟨j3, ej3, ij3, lj3, hr⟩ := g_ixo hr
        obtain ⟨M4, mM4, hr⟩ := g_leto hr
        have fM4 : ∀ bb, ¬ (bb = 464 ∨ bb = 468 ∨ bb = 470 ∨ (481 ≤ bb ∧ bb ≤ 488) ∨ (499 ≤ bb ∧ bb ≤ 506) ∨ bb = 930) → M4 bb = M bb := fun bb hb => by rw [mM4]; exact (g_set_ne (by omega))
        exact fun bb hb => (ih (x1 + (1 : Int32)) M4 _ hr bb hb).trans (fM4 bb hb)
      ·
        obtain ⟨j5, ej5, ij5, lj5, hr⟩ := g_ixo hr
        obtain ⟨M6, mM6, hr⟩ := g_leto hr
        have fM6 : ∀ bb, ¬ (bb = 464 ∨ bb = 468 ∨ bb = 470 ∨ (481 ≤ bb ∧ bb ≤ 488) ∨ (499 ≤ bb ∧ bb ≤ 506) ∨ bb = 930) → M6 bb = M bb := fun bb hb => by rw [mM6]; exact (g_set_ne (by omega))
        exact fun bb hb => (ih (x1 + (1 : Int32)) M6 _ hr bb hb).trans (fM6 bb hb)
set_option maxRecDepth 20000 in
theorem w_FM_beginsAnew_L61 : ∀ (k : Nat) (x1 : Int32) (M : gM) (R : gM), FM_beginsAnew_L61 k x1 M = some R → ∀ bb, ¬ (bb = 464 ∨ bb = 468 ∨ bb = 470 ∨ (481 ≤ bb ∧ bb ≤ 488) ∨ (499 ≤ bb ∧ bb ≤ 506) ∨ bb = 930) → R bb = M bb := by
  intro k
  induction k with
  | zero => intro x1 M R hr; exact nomatch (show (none : Option (gM)) = some R from hr)
  | succ k ih =>
    intro x1 M R hr
    unfold FM_beginsAnew_L61 at hr
    rcases g_ifo hr with ⟨h1, hr⟩ | ⟨h1, hr⟩
    ·
      exact fun bb hb => (w_FM_beginsAnew_L91 1000 (0 : Int32) M _ hr bb hb)
    ·
      obtain ⟨j2, ej2, ij2, lj2, hr⟩ := g_ixo hr
      obtain ⟨j3, ej3, ij3, lj3, hr⟩ := g_ixo hr
      obtain ⟨M4, mM4, hr⟩ := g_leto hr
      have fM4 : ∀ bb, ¬ (bb = 464 ∨ bb = 468 ∨ bb = 470 ∨ (481 ≤ bb ∧ bb ≤ 488) ∨ (499 ≤ bb ∧ bb ≤ 506) ∨ bb = 930) → M4 bb = M bb := fun bb hb => by rw [mM4]; exact (g_set_ne (by omega))
      exact fun bb hb => (ih (x1 + (1 : Int32)) M4 _ hr bb hb).trans (fM4 bb hb)
set_option maxRecDepth 20000 in
theorem w_FM_beginsAnew_L2 : ∀ (k : Nat) (x1 : Int32) (M : gM) (R : gM), FM_beginsAnew_L2 k x1 M = some R → ∀ bb, ¬ (bb = 464 ∨ bb = 468 ∨ bb = 470 ∨ (481 ≤ bb ∧ bb ≤ 488) ∨ (499 ≤ bb ∧ bb ≤ 506) ∨ bb = 930) → R bb = M bb := by
  intro k
  induction k with
  | zero => intro x1 M R hr; exact nomatch (show (none : Option (gM)) = some R from hr)
  | succ k ih =>
    intro x1 M R hr
    unfold FM_beginsAnew_L2 at hr
    rcases g_ifo hr with ⟨h1, hr⟩ | ⟨h1, hr⟩
    ·
      obtain ⟨s2, es2, hr⟩ := g_bd hr
      have fs2 : ∀ bb, ¬ (bb = 464 ∨ bb = 468 ∨ bb = 470 ∨ (481 ≤ bb ∧ bb ≤ 488) ∨ (499 ≤ bb ∧ bb ≤ 506) ∨ bb = 930) → s2 bb = M bb := fun bb hb => (w_FM_laysW (M 468 0) M _ es2 bb (by omega))
      obtain ⟨s3, es3, hr⟩ := g_bd hr
      have fs3 : ∀ bb, ¬ (bb = 464 ∨ bb = 468 ∨ bb = 470 ∨ (481 ≤ bb ∧ bb ≤ 488) ∨ (499 ≤ bb ∧ bb ≤ 506) ∨ bb = 930) → s3 bb = M bb := fun bb hb => (w_FM_laysC (s2 468 1) s2 _ es3 bb (by omega)).trans (fs2 bb hb)
      exact fun bb hb => (w_FM_beginsAnew_L61 1000 (0 : Int32) s3 _ hr bb hb).trans (fs3 bb hb)
    ·
      obtain ⟨j4, ej4, ij4, lj4, hr⟩ := g_ixo hr
      obtain ⟨j5, ej5, ij5, lj5, hr⟩ := g_ixo hr
      obtain ⟨M6, mM6, hr⟩ := g_leto hr
      have fM6 : ∀ bb, ¬ (bb = 464 ∨ bb = 468 ∨ bb = 470 ∨ (481 ≤ bb ∧ bb ≤ 488) ∨ (499 ≤ bb ∧ bb ≤ 506) ∨ bb = 930) → M6 bb = M bb := fun bb hb => by rw [mM6]; exact (g_set_ne (by omega))
      exact fun bb hb => (ih (x1 + (1 : Int32)) M6 _ hr bb hb).trans (fM6 bb hb)
set_option maxRecDepth 20000 in
theorem w_FM_beginsAnew  (M : gM) (R : gM) (hr : FM_beginsAnew M = some R) : ∀ bb, ¬ (bb = 464 ∨ bb = 468 ∨ bb = 470 ∨ (481 ≤ bb ∧ bb ≤ 488) ∨ (499 ≤ bb ∧ bb ≤ 506) ∨ bb = 930) → R bb = M bb := by
  unfold FM_beginsAnew at hr
  exact fun bb hb => (w_FM_beginsAnew_L2 1000 (0 : Int32) M _ hr bb hb)
set_option maxRecDepth 20000 in
theorem w_FM_park_J71 (n : Int32) (M : gM) (R : Int32 × gM) (hr : FM_park_J71 n M = some R) : ∀ bb, ¬ (bb = 464 ∨ (466 ≤ bb ∧ bb ≤ 470) ∨ (472 ≤ bb ∧ bb ≤ 479) ∨ (481 ≤ bb ∧ bb ≤ 488) ∨ (490 ≤ bb ∧ bb ≤ 497) ∨ (499 ≤ bb ∧ bb ≤ 506) ∨ bb = 930) → R.2 bb = M bb := by
  unfold FM_park_J71 at hr
  rcases g_ifo hr with ⟨h1, hr⟩ | ⟨h1, hr⟩
  ·
    obtain ⟨s2, es2, hr⟩ := g_bd hr
    have fs2 : ∀ bb, ¬ (bb = 464 ∨ (466 ≤ bb ∧ bb ≤ 470) ∨ (472 ≤ bb ∧ bb ≤ 479) ∨ (481 ≤ bb ∧ bb ≤ 488) ∨ (490 ≤ bb ∧ bb ≤ 497) ∨ (499 ≤ bb ∧ bb ≤ 506) ∨ bb = 930) → s2 bb = M bb := fun bb hb => (w_FM_beginsAnew (g_set M 464 3 (-1 : Int32)) _ es2 bb (by omega)).trans ((g_set_ne (by omega)))
    cases hr; exact fun bb hb => fs2 bb hb
  ·
    obtain ⟨s3, es3, hr⟩ := g_bd hr
    have fs3_2 : ∀ bb, ¬ (bb = 464 ∨ (466 ≤ bb ∧ bb ≤ 470) ∨ (472 ≤ bb ∧ bb ≤ 479) ∨ (481 ≤ bb ∧ bb ≤ 488) ∨ (490 ≤ bb ∧ bb ≤ 497) ∨ (499 ≤ bb ∧ bb ≤ 506) ∨ bb = 930) → s3.2 bb = M bb := fun bb hb => (w_FM_ends M _ es3 bb (by omega))
    cases hr; exact fun bb hb => fs3_2 bb hb
set_option maxRecDepth 20000 in
theorem w_FM_park_L42 (n : Int32) : ∀ (k : Nat) (M : gM) (R : Int32 × gM), FM_park_L42 n k M = some R → ∀ bb, ¬ (bb = 464 ∨ (466 ≤ bb ∧ bb ≤ 470) ∨ (472 ≤ bb ∧ bb ≤ 479) ∨ (481 ≤ bb ∧ bb ≤ 488) ∨ (490 ≤ bb ∧ bb ≤ 497) ∨ (499 ≤ bb ∧ bb ≤ 506) ∨ bb = 930) → R.2 bb = M bb := by
  intro k
  induction k with
  | zero => intro  M R hr; exact nomatch (show (none : Option (Int32 × gM)) = some R from hr)
  | succ k ih =>
    intro  M R hr
    unfold FM_park_L42 at hr
    rcases g_ifo hr with ⟨h1, hr⟩ | ⟨h1, hr⟩
    ·
      rcases g_ifo hr with ⟨h2, hr⟩ | ⟨h2, hr⟩
      ·
        exact fun bb hb => (w_FM_park_J71 n M _ hr bb hb)
      ·
        obtain ⟨s3, es3, hr⟩ := g_bd hr
        have fs3 : ∀ bb, ¬ (bb = 464 ∨ (466 ≤ bb ∧ bb ≤ 470) ∨ (472 ≤ bb ∧ bb ≤ 479) ∨ (481 ≤ bb ∧ bb ≤ 488) ∨ (490 ≤ bb ∧ bb ≤ 497) ∨ (499 ≤ bb ∧ bb ≤ 506) ∨ bb = 930) → s3 bb = M bb := fun bb hb => (w_FM_clause M _ es3 bb (by omega))
        obtain ⟨s4, es4, hr⟩ := g_bd hr
        have fs4 : ∀ bb, ¬ (bb = 464 ∨ (466 ≤ bb ∧ bb ≤ 470) ∨ (472 ≤ bb ∧ bb ≤ 479) ∨ (481 ≤ bb ∧ bb ≤ 488) ∨ (490 ≤ bb ∧ bb ≤ 497) ∨ (499 ≤ bb ∧ bb ≤ 506) ∨ bb = 930) → s4 bb = M bb := fun bb hb => (w_FM_blanks s3 _ es4 bb (by omega)).trans (fs3 bb hb)
        exact fun bb hb => (ih s4 _ hr bb hb).trans (fs4 bb hb)
    ·
      exact fun bb hb => (w_FM_park_J71 n M _ hr bb hb)
set_option maxRecDepth 20000 in
theorem w_FM_park_J23 (n : Int32) (y0 : Int32) (M : gM) (R : Int32 × gM) (hr : FM_park_J23 n y0 M = some R) : ∀ bb, ¬ (bb = 464 ∨ (466 ≤ bb ∧ bb ≤ 470) ∨ (472 ≤ bb ∧ bb ≤ 479) ∨ (481 ≤ bb ∧ bb ≤ 488) ∨ (490 ≤ bb ∧ bb ≤ 497) ∨ (499 ≤ bb ∧ bb ≤ 506) ∨ bb = 930) → R.2 bb = M bb := by
  unfold FM_park_J23 at hr
  obtain ⟨s1, es1, hr⟩ := g_bd hr
  have fs1_2 : ∀ bb, ¬ (bb = 464 ∨ (466 ≤ bb ∧ bb ≤ 470) ∨ (472 ≤ bb ∧ bb ≤ 479) ∨ (481 ≤ bb ∧ bb ≤ 488) ∨ (490 ≤ bb ∧ bb ≤ 497) ∨ (499 ≤ bb ∧ bb ≤ 506) ∨ bb = 930) → s1.2 bb = M bb := fun bb hb => (w_FM_bad y0 (1 : Int32) (1 : Int32) M _ es1 bb (by omega))
  rcases g_ifo hr with ⟨h3, hr⟩ | ⟨h3, hr⟩
  ·
    obtain ⟨s4, es4, hr⟩ := g_bd hr
    have fs4 : ∀ bb, ¬ (bb = 464 ∨ (466 ≤ bb ∧ bb ≤ 470) ∨ (472 ≤ bb ∧ bb ≤ 479) ∨ (481 ≤ bb ∧ bb ≤ 488) ∨ (490 ≤ bb ∧ bb ≤ 497) ∨ (499 ≤ bb ∧ bb ≤ 506) ∨ bb = 930) → s4 bb = M bb := fun bb hb => (w_FM_starts n (s1.2) _ es4 bb (by omega)).trans (fs1_2 bb hb)
    obtain ⟨s5, es5, hr⟩ := g_bd hr
    have fs5 : ∀ bb, ¬ (bb = 464 ∨ (466 ≤ bb ∧ bb ≤ 470) ∨ (472 ≤ bb ∧ bb ≤ 479) ∨ (481 ≤ bb ∧ bb ≤ 488) ∨ (490 ≤ bb ∧ bb ≤ 497) ∨ (499 ≤ bb ∧ bb ≤ 506) ∨ bb = 930) → s5 bb = M bb := fun bb hb => (w_FM_tellsNothing s4 _ es5 bb (by omega)).trans (fs4 bb hb)
    exact fun bb hb => (w_FM_park_L42 n 1000 s5 _ hr bb hb).trans (fs5 bb hb)
  ·
    cases hr; exact fun bb hb => fs1_2 bb hb
set_option maxRecDepth 20000 in
theorem w_FM_park (n : Int32) (M : gM) (R : Int32 × gM) (hr : FM_park n M = some R) : ∀ bb, ¬ (bb = 464 ∨ (466 ≤ bb ∧ bb ≤ 470) ∨ (472 ≤ bb ∧ bb ≤ 479) ∨ (481 ≤ bb ∧ bb ≤ 488) ∨ (490 ≤ bb ∧ bb ≤ 497) ∨ (499 ≤ bb ∧ bb ≤ 506) ∨ bb = 930) → R.2 bb = M bb := by
  unfold FM_park at hr
  rcases g_ifo hr with ⟨h3, hr⟩ | ⟨h3, hr⟩
  ·
    exact fun bb hb => (w_FM_park_J23 n (1 : Int32) (g_set M 464 0 (0 : Int32)) _ hr bb hb).trans ((g_set_ne (by omega)))
  ·
    exact fun bb hb => (w_FM_park_J23 n (0 : Int32) (g_set M 464 0 (0 : Int32)) _ hr bb hb).trans ((g_set_ne (by omega)))
set_option maxRecDepth 20000 in
theorem w_FM_notes (what : Int32) (v : Int32) (M : gM) (R : gM) (hr : FM_notes what v M = some R) : ∀ bb, ¬ (bb = 464 ∨ (669 ≤ bb ∧ bb ≤ 828)) → R bb = M bb := by
  unfold FM_notes at hr
  rcases g_ifo hr with ⟨h1, hr⟩ | ⟨h1, hr⟩
  ·
    obtain ⟨j2, ej2, ij2, lj2, hr⟩ := g_ixo hr
    obtain ⟨M3, mM3, hr⟩ := g_leto hr
    have fM3 : ∀ bb, ¬ (bb = 464 ∨ (669 ≤ bb ∧ bb ≤ 828)) → M3 bb = M bb := fun bb hb => by rw [mM3]; exact (g_set_ne (by omega))
    obtain ⟨j4, ej4, ij4, lj4, hr⟩ := g_ixo hr
    obtain ⟨M5, mM5, hr⟩ := g_leto hr
    have fM5 : ∀ bb, ¬ (bb = 464 ∨ (669 ≤ bb ∧ bb ≤ 828)) → M5 bb = M bb := fun bb hb => by rw [mM5]; exact (g_set_ne (by omega)).trans (fM3 bb hb)
    cases hr; exact fun bb hb => (g_set_ne (by omega)).trans (fM5 bb hb)
  ·
    cases hr; exact fun bb hb => rfl
set_option maxRecDepth 20000 in
theorem w_FM_opensOne_J45 (M : gM) (R : Int32 × gM) (hr : FM_opensOne_J45 M = some R) : ∀ bb, ¬ (bb = 464) → R.2 bb = M bb := by
  unfold FM_opensOne_J45 at hr
  rcases g_ifo hr with ⟨h1, hr⟩ | ⟨h1, hr⟩
  ·
    cases hr; exact fun bb hb => rfl
  ·
    cases hr; exact fun bb hb => rfl
set_option maxRecDepth 20000 in
theorem w_FM_opensOne_J28 (M : gM) (R : Int32 × gM) (hr : FM_opensOne_J28 M = some R) : ∀ bb, ¬ (bb = 464) → R.2 bb = M bb := by
  unfold FM_opensOne_J28 at hr
  rcases g_ifo hr with ⟨h1, hr⟩ | ⟨h1, hr⟩
  ·
    exact fun bb hb => (w_FM_opensOne_J45 (g_set M 464 8 ((M 464 8) + (1 : Int32))) _ hr bb hb).trans ((g_set_ne (by omega)))
  ·
    exact fun bb hb => (w_FM_opensOne_J45 M _ hr bb hb)
set_option maxRecDepth 20000 in
theorem w_FM_opensOne  (M : gM) (R : Int32 × gM) (hr : FM_opensOne M = some R) : ∀ bb, ¬ (bb = 464) → R.2 bb = M bb := by
  unfold FM_opensOne at hr
  rcases g_ifo hr with ⟨h1, hr⟩ | ⟨h1, hr⟩
  ·
    rcases g_ifo hr with ⟨h2, hr⟩ | ⟨h2, hr⟩
    ·
      obtain ⟨s3, es3, hr⟩ := g_bd hr
      have fs3 : ∀ bb, ¬ (bb = 464) → s3 bb = M bb := fun bb hb => (w_FM_wrong (3 : Int32) (M 464 4) M _ es3 bb (by omega))
      exact fun bb hb => (w_FM_opensOne_J45 s3 _ hr bb hb).trans (fs3 bb hb)
    ·
      exact fun bb hb => (w_FM_opensOne_J28 M _ hr bb hb)
  ·
    exact fun bb hb => (w_FM_opensOne_J28 M _ hr bb hb)
set_option maxRecDepth 20000 in
theorem w_FM_knownHere  (M : gM) (R : Int32 × gM) (hr : FM_knownHere M = some R) : ∀ bb, ¬ (bb = 464) → R.2 bb = M bb := by
  unfold FM_knownHere at hr
  obtain ⟨s1, es1, hr⟩ := g_bd hr
  have fs1_2 : ∀ bb, ¬ (bb = 464) → s1.2 bb = M bb := fun bb hb => (w_FM_takes (12 : Int32) (5 : Int32) (14 : Int32) (7 : Int32) (20 : Int32) (8 : Int32) M _ es1 bb (by omega))
  rcases g_ifo hr with ⟨h3, hr⟩ | ⟨h3, hr⟩
  ·
    obtain ⟨s4, es4, hr⟩ := g_bd hr
    have fs4_2 : ∀ bb, ¬ (bb = 464) → s4.2 bb = M bb := fun bb hb => (w_FM_takes (16 : Int32) (1 : Int32) (3 : Int32) (5 : Int32) (0 : Int32) (0 : Int32) (s1.2) _ es4 bb (by omega)).trans (fs1_2 bb hb)
    rcases g_ifo hr with ⟨h6, hr⟩ | ⟨h6, hr⟩
    ·
      obtain ⟨s7, es7, hr⟩ := g_bd hr
      have fs7_2 : ∀ bb, ¬ (bb = 464) → s7.2 bb = M bb := fun bb hb => (w_FM_takes (1 : Int32) (7 : Int32) (5 : Int32) (0 : Int32) (0 : Int32) (0 : Int32) (s4.2) _ es7 bb (by omega)).trans (fs4_2 bb hb)
      rcases g_ifo hr with ⟨h9, hr⟩ | ⟨h9, hr⟩
      ·
        obtain ⟨s10, es10, hr⟩ := g_bd hr
        have fs10_2 : ∀ bb, ¬ (bb = 464) → s10.2 bb = M bb := fun bb hb => (w_FM_takes (23 : Int32) (5 : Int32) (9 : Int32) (7 : Int32) (8 : Int32) (20 : Int32) (s7.2) _ es10 bb (by omega)).trans (fs7_2 bb hb)
        rcases g_ifo hr with ⟨h12, hr⟩ | ⟨h12, hr⟩
        ·
          obtain ⟨s13, es13, hr⟩ := g_bd hr
          have fs13_2 : ∀ bb, ¬ (bb = 464) → s13.2 bb = M bb := fun bb hb => (w_FM_takes (20 : Int32) (9 : Int32) (18 : Int32) (5 : Int32) (4 : Int32) (0 : Int32) (s10.2) _ es13 bb (by omega)).trans (fs10_2 bb hb)
          rcases g_ifo hr with ⟨h15, hr⟩ | ⟨h15, hr⟩
          ·
            obtain ⟨s16, es16, hr⟩ := g_bd hr
            have fs16_2 : ∀ bb, ¬ (bb = 464) → s16.2 bb = M bb := fun bb hb => (w_FM_takes (18 : Int32) (1 : Int32) (9 : Int32) (14 : Int32) (0 : Int32) (0 : Int32) (s13.2) _ es16 bb (by omega)).trans (fs13_2 bb hb)
            rcases g_ifo hr with ⟨h18, hr⟩ | ⟨h18, hr⟩
            ·
              obtain ⟨s19, es19, hr⟩ := g_bd hr
              have fs19_2 : ∀ bb, ¬ (bb = 464) → s19.2 bb = M bb := fun bb hb => (w_FM_takes (23 : Int32) (1 : Int32) (12 : Int32) (11 : Int32) (0 : Int32) (0 : Int32) (s16.2) _ es19 bb (by omega)).trans (fs16_2 bb hb)
              rcases g_ifo hr with ⟨h21, hr⟩ | ⟨h21, hr⟩
              ·
                obtain ⟨s22, es22, hr⟩ := g_bd hr
                have fs22_2 : ∀ bb, ¬ (bb = 464) → s22.2 bb = M bb := fun bb hb => (w_FM_takes (8 : Int32) (15 : Int32) (15 : Int32) (16 : Int32) (0 : Int32) (0 : Int32) (s19.2) _ es22 bb (by omega)).trans (fs19_2 bb hb)
                rcases g_ifo hr with ⟨h24, hr⟩ | ⟨h24, hr⟩
                ·
                  obtain ⟨s25, es25, hr⟩ := g_bd hr
                  have fs25_2 : ∀ bb, ¬ (bb = 464) → s25.2 bb = M bb := fun bb hb => (w_FM_takes (2 : Int32) (18 : Int32) (9 : Int32) (2 : Int32) (5 : Int32) (0 : Int32) (s22.2) _ es25 bb (by omega)).trans (fs22_2 bb hb)
                  rcases g_ifo hr with ⟨h27, hr⟩ | ⟨h27, hr⟩
                  ·
                    cases hr; exact fun bb hb => fs25_2 bb hb
                  ·
                    cases hr; exact fun bb hb => fs25_2 bb hb
                ·
                  cases hr; exact fun bb hb => fs22_2 bb hb
              ·
                cases hr; exact fun bb hb => fs19_2 bb hb
            ·
              cases hr; exact fun bb hb => fs16_2 bb hb
          ·
            cases hr; exact fun bb hb => fs13_2 bb hb
        ·
          cases hr; exact fun bb hb => fs10_2 bb hb
      ·
        cases hr; exact fun bb hb => fs7_2 bb hb
    ·
      cases hr; exact fun bb hb => fs4_2 bb hb
  ·
    cases hr; exact fun bb hb => fs1_2 bb hb
set_option maxRecDepth 20000 in
theorem w_FM_sum_J38 (rproduct : gM → Option (gM)) (grproduct : ∀ (M : gM) (R : gM), rproduct M = some R → ∀ bb, ¬ (bb = 464 ∨ (669 ≤ bb ∧ bb ≤ 828)) → R bb = M bb) (c4 : gM → Option (gM)) (gc4 : ∀ (M : gM) (R : gM), c4 M = some R → ∀ bb, ¬ (bb = 464 ∨ (669 ≤ bb ∧ bb ≤ 828)) → R bb = M bb) (y0 : Int32) (M : gM) (R : gM) (hr : FM_sum_J38 rproduct c4 y0 M = some R) : ∀ bb, ¬ (bb = 464 ∨ (669 ≤ bb ∧ bb ≤ 828)) → R bb = M bb := by
  unfold FM_sum_J38 at hr
  rcases g_ifo hr with ⟨h1, hr⟩ | ⟨h1, hr⟩
  ·
    cases hr; exact fun bb hb => rfl
  ·
    obtain ⟨s2, es2, hr⟩ := g_bd hr
    have fs2 : ∀ bb, ¬ (bb = 464 ∨ (669 ≤ bb ∧ bb ≤ 828)) → s2 bb = M bb := fun bb hb => (grproduct M _ es2 bb hb)
    obtain ⟨s3, es3, hr⟩ := g_bd hr
    have fs3 : ∀ bb, ¬ (bb = 464 ∨ (669 ≤ bb ∧ bb ≤ 828)) → s3 bb = M bb := fun bb hb => (w_FM_notes y0 (0 : Int32) s2 _ es3 bb (by omega)).trans (fs2 bb hb)
    exact fun bb hb => (gc4 s3 _ hr bb hb).trans (fs3 bb hb)
set_option maxRecDepth 20000 in
theorem w_FM_sum_L4 (rproduct : gM → Option (gM)) (grproduct : ∀ (M : gM) (R : gM), rproduct M = some R → ∀ bb, ¬ (bb = 464 ∨ (669 ≤ bb ∧ bb ≤ 828)) → R bb = M bb) : ∀ (k : Nat) (M : gM) (R : gM), FM_sum_L4 rproduct k M = some R → ∀ bb, ¬ (bb = 464 ∨ (669 ≤ bb ∧ bb ≤ 828)) → R bb = M bb := by
  intro k
  induction k with
  | zero => intro  M R hr; exact nomatch (show (none : Option (gM)) = some R from hr)
  | succ k ih =>
    intro  M R hr
    unfold FM_sum_L4 at hr
    rcases g_ifo hr with ⟨h1, hr⟩ | ⟨h1, hr⟩
    ·
      obtain ⟨s2, es2, hr⟩ := g_bd hr
      have fs2_2 : ∀ bb, ¬ (bb = 464 ∨ (669 ≤ bb ∧ bb ≤ 828)) → s2.2 bb = M bb := fun bb hb => (w_FM_takesSign (43 : Int32) M _ es2 bb (by omega))
      rcases g_ifo hr with ⟨h4, hr⟩ | ⟨h4, hr⟩
      ·
        obtain ⟨s5, es5, hr⟩ := g_bd hr
        have fs5_2 : ∀ bb, ¬ (bb = 464 ∨ (669 ≤ bb ∧ bb ≤ 828)) → s5.2 bb = M bb := fun bb hb => (w_FM_takesSign (45 : Int32) (s2.2) _ es5 bb (by omega)).trans (fs2_2 bb hb)
        rcases g_ifo hr with ⟨h7, hr⟩ | ⟨h7, hr⟩
        ·
          exact fun bb hb => (w_FM_sum_J38 rproduct grproduct (FM_sum_L4 rproduct k) ih (-1 : Int32) (s5.2) _ hr bb hb).trans (fs5_2 bb hb)
        ·
          exact fun bb hb => (w_FM_sum_J38 rproduct grproduct (FM_sum_L4 rproduct k) ih (3 : Int32) (s5.2) _ hr bb hb).trans (fs5_2 bb hb)
      ·
        exact fun bb hb => (w_FM_sum_J38 rproduct grproduct (FM_sum_L4 rproduct k) ih (2 : Int32) (s2.2) _ hr bb hb).trans (fs2_2 bb hb)
    ·
      cases hr; exact fun bb hb => rfl
set_option maxRecDepth 20000 in
theorem w_FM_sum_B (rproduct : gM → Option (gM)) (grproduct : ∀ (M : gM) (R : gM), rproduct M = some R → ∀ bb, ¬ (bb = 464 ∨ (669 ≤ bb ∧ bb ≤ 828)) → R bb = M bb)  (M : gM) (R : gM) (hr : FM_sum_B rproduct M = some R) : ∀ bb, ¬ (bb = 464 ∨ (669 ≤ bb ∧ bb ≤ 828)) → R bb = M bb := by
  unfold FM_sum_B at hr
  obtain ⟨s1, es1, hr⟩ := g_bd hr
  have fs1 : ∀ bb, ¬ (bb = 464 ∨ (669 ≤ bb ∧ bb ≤ 828)) → s1 bb = M bb := fun bb hb => (grproduct M _ es1 bb hb)
  exact fun bb hb => (w_FM_sum_L4 rproduct grproduct 1000 s1 _ hr bb hb).trans (fs1 bb hb)
set_option maxRecDepth 20000 in
theorem w_FM_product_J52 (rone : gM → Option (gM)) (grone : ∀ (M : gM) (R : gM), rone M = some R → ∀ bb, ¬ (bb = 464 ∨ (669 ≤ bb ∧ bb ≤ 828)) → R bb = M bb) (c4 : gM → Option (gM)) (gc4 : ∀ (M : gM) (R : gM), c4 M = some R → ∀ bb, ¬ (bb = 464 ∨ (669 ≤ bb ∧ bb ≤ 828)) → R bb = M bb) (y0 : Int32) (M : gM) (R : gM) (hr : FM_product_J52 rone c4 y0 M = some R) : ∀ bb, ¬ (bb = 464 ∨ (669 ≤ bb ∧ bb ≤ 828)) → R bb = M bb := by
  unfold FM_product_J52 at hr
  rcases g_ifo hr with ⟨h1, hr⟩ | ⟨h1, hr⟩
  ·
    cases hr; exact fun bb hb => rfl
  ·
    obtain ⟨s2, es2, hr⟩ := g_bd hr
    have fs2 : ∀ bb, ¬ (bb = 464 ∨ (669 ≤ bb ∧ bb ≤ 828)) → s2 bb = M bb := fun bb hb => (grone M _ es2 bb hb)
    obtain ⟨s3, es3, hr⟩ := g_bd hr
    have fs3 : ∀ bb, ¬ (bb = 464 ∨ (669 ≤ bb ∧ bb ≤ 828)) → s3 bb = M bb := fun bb hb => (w_FM_notes y0 (0 : Int32) s2 _ es3 bb (by omega)).trans (fs2 bb hb)
    exact fun bb hb => (gc4 s3 _ hr bb hb).trans (fs3 bb hb)
set_option maxRecDepth 20000 in
theorem w_FM_product_L4 (rone : gM → Option (gM)) (grone : ∀ (M : gM) (R : gM), rone M = some R → ∀ bb, ¬ (bb = 464 ∨ (669 ≤ bb ∧ bb ≤ 828)) → R bb = M bb) : ∀ (k : Nat) (M : gM) (R : gM), FM_product_L4 rone k M = some R → ∀ bb, ¬ (bb = 464 ∨ (669 ≤ bb ∧ bb ≤ 828)) → R bb = M bb := by
  intro k
  induction k with
  | zero => intro  M R hr; exact nomatch (show (none : Option (gM)) = some R from hr)
  | succ k ih =>
    intro  M R hr
    unfold FM_product_L4 at hr
    rcases g_ifo hr with ⟨h1, hr⟩ | ⟨h1, hr⟩
    ·
      obtain ⟨s2, es2, hr⟩ := g_bd hr
      have fs2_2 : ∀ bb, ¬ (bb = 464 ∨ (669 ≤ bb ∧ bb ≤ 828)) → s2.2 bb = M bb := fun bb hb => (w_FM_takesSign (42 : Int32) M _ es2 bb (by omega))
      rcases g_ifo hr with ⟨h4, hr⟩ | ⟨h4, hr⟩
      ·
        obtain ⟨s5, es5, hr⟩ := g_bd hr
        have fs5_2 : ∀ bb, ¬ (bb = 464 ∨ (669 ≤ bb ∧ bb ≤ 828)) → s5.2 bb = M bb := fun bb hb => (w_FM_takesSign (47 : Int32) (s2.2) _ es5 bb (by omega)).trans (fs2_2 bb hb)
        rcases g_ifo hr with ⟨h7, hr⟩ | ⟨h7, hr⟩
        ·
          obtain ⟨s8, es8, hr⟩ := g_bd hr
          have fs8_2 : ∀ bb, ¬ (bb = 464 ∨ (669 ≤ bb ∧ bb ≤ 828)) → s8.2 bb = M bb := fun bb hb => (w_FM_takesSign (37 : Int32) (s5.2) _ es8 bb (by omega)).trans (fs5_2 bb hb)
          rcases g_ifo hr with ⟨h10, hr⟩ | ⟨h10, hr⟩
          ·
            exact fun bb hb => (w_FM_product_J52 rone grone (FM_product_L4 rone k) ih (-1 : Int32) (s8.2) _ hr bb hb).trans (fs8_2 bb hb)
          ·
            exact fun bb hb => (w_FM_product_J52 rone grone (FM_product_L4 rone k) ih (6 : Int32) (s8.2) _ hr bb hb).trans (fs8_2 bb hb)
        ·
          exact fun bb hb => (w_FM_product_J52 rone grone (FM_product_L4 rone k) ih (5 : Int32) (s5.2) _ hr bb hb).trans (fs5_2 bb hb)
      ·
        exact fun bb hb => (w_FM_product_J52 rone grone (FM_product_L4 rone k) ih (4 : Int32) (s2.2) _ hr bb hb).trans (fs2_2 bb hb)
    ·
      cases hr; exact fun bb hb => rfl
set_option maxRecDepth 20000 in
theorem w_FM_product_B (rone : gM → Option (gM)) (grone : ∀ (M : gM) (R : gM), rone M = some R → ∀ bb, ¬ (bb = 464 ∨ (669 ≤ bb ∧ bb ≤ 828)) → R bb = M bb)  (M : gM) (R : gM) (hr : FM_product_B rone M = some R) : ∀ bb, ¬ (bb = 464 ∨ (669 ≤ bb ∧ bb ≤ 828)) → R bb = M bb := by
  unfold FM_product_B at hr
  obtain ⟨s1, es1, hr⟩ := g_bd hr
  have fs1 : ∀ bb, ¬ (bb = 464 ∨ (669 ≤ bb ∧ bb ≤ 828)) → s1 bb = M bb := fun bb hb => (grone M _ es1 bb hb)
  exact fun bb hb => (w_FM_product_L4 rone grone 1000 s1 _ hr bb hb).trans (fs1 bb hb)
set_option maxRecDepth 20000 in
theorem w_FM_one_J56 (rsum : gM → Option (gM)) (grsum : ∀ (M : gM) (R : gM), rsum M = some R → ∀ bb, ¬ (bb = 464 ∨ (669 ≤ bb ∧ bb ≤ 828)) → R bb = M bb) (y0 : Int32) (M : gM) (R : gM) (hr : FM_one_J56 rsum y0 M = some R) : ∀ bb, ¬ (bb = 464 ∨ (669 ≤ bb ∧ bb ≤ 828)) → R bb = M bb := by
  unfold FM_one_J56 at hr
  rcases g_ifo hr with ⟨h1, hr⟩ | ⟨h1, hr⟩
  ·
    obtain ⟨s2, es2, hr⟩ := g_bd hr
    rcases g_ifo hr with ⟨h3, hr⟩ | ⟨h3, hr⟩
    ·
      obtain ⟨s9, es9, hr⟩ := g_bd hr
      have fs9_2 : ∀ bb, ¬ (bb = 464 ∨ (669 ≤ bb ∧ bb ≤ 828)) → s9.2 bb = M bb := fun bb hb => (w_FM_opensOne M _ es9 bb (by omega))
      rcases g_ifo hr with ⟨h11, hr⟩ | ⟨h11, hr⟩
      ·
        cases hr; exact fun bb hb => fs9_2 bb hb
      ·
        obtain ⟨s12, es12, hr⟩ := g_bd hr
        have fs12 : ∀ bb, ¬ (bb = 464 ∨ (669 ≤ bb ∧ bb ≤ 828)) → s12 bb = M bb := fun bb hb => (grsum (g_set (s9.2) 464 4 (((s9.2) 464 4) + (1 : Int32))) _ es12 bb hb).trans ((g_set_ne (by omega)).trans (fs9_2 bb hb))
        obtain ⟨s13, es13, hr⟩ := g_bd hr
        have fs13 : ∀ bb, ¬ (bb = 464 ∨ (669 ≤ bb ∧ bb ≤ 828)) → s13 bb = M bb := fun bb hb => (w_FM_sign (41 : Int32) s12 _ es13 bb (by omega)).trans (fs12 bb hb)
        cases hr; exact fun bb hb => (g_set_ne (by omega)).trans (fs13 bb hb)
    ·
      obtain ⟨s4, es4, hr⟩ := g_bd hr
      have fs4_2 : ∀ bb, ¬ (bb = 464 ∨ (669 ≤ bb ∧ bb ≤ 828)) → s4.2 bb = M bb := fun bb hb => (w_FM_knownHere M _ es4 bb (by omega))
      rcases g_ifo hr with ⟨h5, hr⟩ | ⟨h5, hr⟩
      ·
        obtain ⟨s6, es6, hr⟩ := g_bd hr
        have fs6_2 : ∀ bb, ¬ (bb = 464 ∨ (669 ≤ bb ∧ bb ≤ 828)) → s6.2 bb = M bb := fun bb hb => (w_FM_number (0 : Int32) (999 : Int32) (s4.2) _ es6 bb (by omega)).trans (fs4_2 bb hb)
        obtain ⟨s7, es7, hr⟩ := g_bd hr
        have fs7 : ∀ bb, ¬ (bb = 464 ∨ (669 ≤ bb ∧ bb ≤ 828)) → s7 bb = M bb := fun bb hb => (w_FM_notes (0 : Int32) s6.1 (s6.2) _ es7 bb (by omega)).trans (fs6_2 bb hb)
        cases hr; exact fun bb hb => fs7 bb hb
      ·
        obtain ⟨s8, es8, hr⟩ := g_bd hr
        have fs8 : ∀ bb, ¬ (bb = 464 ∨ (669 ≤ bb ∧ bb ≤ 828)) → s8 bb = M bb := fun bb hb => (w_FM_notes (1 : Int32) s4.1 (s4.2) _ es8 bb (by omega)).trans (fs4_2 bb hb)
        cases hr; exact fun bb hb => fs8 bb hb
  ·
    obtain ⟨s14, es14, hr⟩ := g_bd hr
    have fs14_2 : ∀ bb, ¬ (bb = 464 ∨ (669 ≤ bb ∧ bb ≤ 828)) → s14.2 bb = M bb := fun bb hb => (w_FM_opensOne M _ es14 bb (by omega))
    rcases g_ifo hr with ⟨h16, hr⟩ | ⟨h16, hr⟩
    ·
      cases hr; exact fun bb hb => fs14_2 bb hb
    ·
      obtain ⟨s17, es17, hr⟩ := g_bd hr
      have fs17 : ∀ bb, ¬ (bb = 464 ∨ (669 ≤ bb ∧ bb ≤ 828)) → s17 bb = M bb := fun bb hb => (w_FM_skipWord (s14.2) _ es17 bb (by omega)).trans (fs14_2 bb hb)
      obtain ⟨s18, es18, hr⟩ := g_bd hr
      have fs18 : ∀ bb, ¬ (bb = 464 ∨ (669 ≤ bb ∧ bb ≤ 828)) → s18 bb = M bb := fun bb hb => (w_FM_sign (91 : Int32) s17 _ es18 bb (by omega)).trans (fs17 bb hb)
      obtain ⟨s19, es19, hr⟩ := g_bd hr
      have fs19 : ∀ bb, ¬ (bb = 464 ∨ (669 ≤ bb ∧ bb ≤ 828)) → s19 bb = M bb := fun bb hb => (grsum s18 _ es19 bb hb).trans (fs18 bb hb)
      obtain ⟨s20, es20, hr⟩ := g_bd hr
      have fs20 : ∀ bb, ¬ (bb = 464 ∨ (669 ≤ bb ∧ bb ≤ 828)) → s20 bb = M bb := fun bb hb => (w_FM_sign (44 : Int32) s19 _ es20 bb (by omega)).trans (fs19 bb hb)
      obtain ⟨s21, es21, hr⟩ := g_bd hr
      have fs21 : ∀ bb, ¬ (bb = 464 ∨ (669 ≤ bb ∧ bb ≤ 828)) → s21 bb = M bb := fun bb hb => (grsum s20 _ es21 bb hb).trans (fs20 bb hb)
      obtain ⟨s22, es22, hr⟩ := g_bd hr
      have fs22 : ∀ bb, ¬ (bb = 464 ∨ (669 ≤ bb ∧ bb ≤ 828)) → s22 bb = M bb := fun bb hb => (w_FM_sign (93 : Int32) s21 _ es22 bb (by omega)).trans (fs21 bb hb)
      obtain ⟨s23, es23, hr⟩ := g_bd hr
      have fs23 : ∀ bb, ¬ (bb = 464 ∨ (669 ≤ bb ∧ bb ≤ 828)) → s23 bb = M bb := fun bb hb => (w_FM_notes y0 (0 : Int32) s22 _ es23 bb (by omega)).trans (fs22 bb hb)
      cases hr; exact fun bb hb => (g_set_ne (by omega)).trans (fs23 bb hb)
set_option maxRecDepth 20000 in
theorem w_FM_one_B (rsum : gM → Option (gM)) (grsum : ∀ (M : gM) (R : gM), rsum M = some R → ∀ bb, ¬ (bb = 464 ∨ (669 ≤ bb ∧ bb ≤ 828)) → R bb = M bb)  (M : gM) (R : gM) (hr : FM_one_B rsum M = some R) : ∀ bb, ¬ (bb = 464 ∨ (669 ≤ bb ∧ bb ≤ 828)) → R bb = M bb := by
  unfold FM_one_B at hr
  rcases g_ifo hr with ⟨h1, hr⟩ | ⟨h1, hr⟩
  ·
    obtain ⟨s2, es2, hr⟩ := g_bd hr
    have fs2 : ∀ bb, ¬ (bb = 464 ∨ (669 ≤ bb ∧ bb ≤ 828)) → s2 bb = M bb := fun bb hb => (w_FM_blanks M _ es2 bb (by omega))
    obtain ⟨s3, es3, hr⟩ := g_bd hr
    have fs3_2 : ∀ bb, ¬ (bb = 464 ∨ (669 ≤ bb ∧ bb ≤ 828)) → s3.2 bb = M bb := fun bb hb => (w_FM_isWord (12 : Int32) (5 : Int32) (1 : Int32) (19 : Int32) (20 : Int32) (0 : Int32) s2 _ es3 bb (by omega)).trans (fs2 bb hb)
    rcases g_ifo hr with ⟨h5, hr⟩ | ⟨h5, hr⟩
    ·
      obtain ⟨s6, es6, hr⟩ := g_bd hr
      have fs6_2 : ∀ bb, ¬ (bb = 464 ∨ (669 ≤ bb ∧ bb ≤ 828)) → s6.2 bb = M bb := fun bb hb => (w_FM_isWord (13 : Int32) (15 : Int32) (19 : Int32) (20 : Int32) (0 : Int32) (0 : Int32) (s3.2) _ es6 bb (by omega)).trans (fs3_2 bb hb)
      rcases g_ifo hr with ⟨h8, hr⟩ | ⟨h8, hr⟩
      ·
        exact fun bb hb => (w_FM_one_J56 rsum grsum (-1 : Int32) (s6.2) _ hr bb hb).trans (fs6_2 bb hb)
      ·
        exact fun bb hb => (w_FM_one_J56 rsum grsum (8 : Int32) (s6.2) _ hr bb hb).trans (fs6_2 bb hb)
    ·
      exact fun bb hb => (w_FM_one_J56 rsum grsum (7 : Int32) (s3.2) _ hr bb hb).trans (fs3_2 bb hb)
  ·
    cases hr; exact fun bb hb => rfl
theorem w_FM_reads : ∀ f : Nat, (∀ (M : gM) (R : gM), FM_sum f  M = some R → ∀ bb, ¬ (bb = 464 ∨ (669 ≤ bb ∧ bb ≤ 828)) → R bb = M bb) ∧ (∀ (M : gM) (R : gM), FM_product f  M = some R → ∀ bb, ¬ (bb = 464 ∨ (669 ≤ bb ∧ bb ≤ 828)) → R bb = M bb) ∧ (∀ (M : gM) (R : gM), FM_one f  M = some R → ∀ bb, ¬ (bb = 464 ∨ (669 ≤ bb ∧ bb ≤ 828)) → R bb = M bb) := by
  intro f
  induction f with
  | zero => exact ⟨fun  M R hr => (nomatch (show (none : Option (gM)) = some R from hr)), fun  M R hr => (nomatch (show (none : Option (gM)) = some R from hr)), fun  M R hr => (nomatch (show (none : Option (gM)) = some R from hr))⟩
  | succ f ih => exact ⟨fun  M R hr => w_FM_sum_B (FM_product f) (fun M R hr => ih.2.1 M R hr)  M R hr, fun  M R hr => w_FM_product_B (FM_one f) (fun M R hr => ih.2.2 M R hr)  M R hr, fun  M R hr => w_FM_one_B (FM_sum f) (fun M R hr => ih.1 M R hr)  M R hr⟩
theorem w_FM_sum (f : Nat)  (M : gM) (R : gM) (hr : FM_sum f  M = some R) : ∀ bb, ¬ (bb = 464 ∨ (669 ≤ bb ∧ bb ≤ 828)) → R bb = M bb := (w_FM_reads f).1  M R hr
theorem w_FM_product (f : Nat)  (M : gM) (R : gM) (hr : FM_product f  M = some R) : ∀ bb, ¬ (bb = 464 ∨ (669 ≤ bb ∧ bb ≤ 828)) → R bb = M bb := (w_FM_reads f).2.1  M R hr
theorem w_FM_one (f : Nat)  (M : gM) (R : gM) (hr : FM_one f  M = some R) : ∀ bb, ¬ (bb = 464 ∨ (669 ≤ bb ∧ bb ≤ 828)) → R bb = M bb := (w_FM_reads f).2.2  M R hr
set_option maxRecDepth 20000 in
theorem w_FM_law_J85 (n : Int32) (M : gM) (R : Int32 × gM) (hr : FM_law_J85 n M = some R) : ∀ bb, ¬ (bb = 464 ∨ bb = 466 ∨ (508 ≤ bb ∧ bb ≤ 667) ∨ (669 ≤ bb ∧ bb ≤ 828)) → R.2 bb = M bb := by
  unfold FM_law_J85 at hr
  rcases g_ifo hr with ⟨h1, hr⟩ | ⟨h1, hr⟩
  ·
    obtain ⟨s2, es2, hr⟩ := g_bd hr
    have fs2 : ∀ bb, ¬ (bb = 464 ∨ bb = 466 ∨ (508 ≤ bb ∧ bb ≤ 667) ∨ (669 ≤ bb ∧ bb ≤ 828)) → s2 bb = M bb := fun bb hb => (w_FM_laysL (M 464 20) (g_set (g_set M 464 3 (-1 : Int32)) 464 19 (M 464 20)) _ es2 bb (by omega)).trans ((g_set_ne (by omega)).trans ((g_set_ne (by omega))))
    cases hr; exact fun bb hb => fs2 bb hb
  ·
    obtain ⟨s3, es3, hr⟩ := g_bd hr
    have fs3_2 : ∀ bb, ¬ (bb = 464 ∨ bb = 466 ∨ (508 ≤ bb ∧ bb ≤ 667) ∨ (669 ≤ bb ∧ bb ≤ 828)) → s3.2 bb = M bb := fun bb hb => (w_FM_ends M _ es3 bb (by omega))
    cases hr; exact fun bb hb => fs3_2 bb hb
set_option maxRecDepth 20000 in
theorem w_FM_law_J30 (n : Int32) (y0 : Int32) (M : gM) (R : Int32 × gM) (hr : FM_law_J30 n y0 M = some R) : ∀ bb, ¬ (bb = 464 ∨ bb = 466 ∨ (508 ≤ bb ∧ bb ≤ 667) ∨ (669 ≤ bb ∧ bb ≤ 828)) → R.2 bb = M bb := by
  unfold FM_law_J30 at hr
  obtain ⟨s1, es1, hr⟩ := g_bd hr
  have fs1_2 : ∀ bb, ¬ (bb = 464 ∨ bb = 466 ∨ (508 ≤ bb ∧ bb ≤ 667) ∨ (669 ≤ bb ∧ bb ≤ 828)) → s1.2 bb = M bb := fun bb hb => (w_FM_bad y0 (1 : Int32) (1 : Int32) M _ es1 bb (by omega))
  rcases g_ifo hr with ⟨h3, hr⟩ | ⟨h3, hr⟩
  ·
    obtain ⟨s4, es4, hr⟩ := g_bd hr
    have fs4 : ∀ bb, ¬ (bb = 464 ∨ bb = 466 ∨ (508 ≤ bb ∧ bb ≤ 667) ∨ (669 ≤ bb ∧ bb ≤ 828)) → s4 bb = M bb := fun bb hb => (w_FM_starts n (s1.2) _ es4 bb (by omega)).trans (fs1_2 bb hb)
    obtain ⟨s5, es5, hr⟩ := g_bd hr
    have fs5 : ∀ bb, ¬ (bb = 464 ∨ bb = 466 ∨ (508 ≤ bb ∧ bb ≤ 667) ∨ (669 ≤ bb ∧ bb ≤ 828)) → s5 bb = M bb := fun bb hb => (w_FM_sum 40 (g_set s4 464 20 (0 : Int32)) _ es5 bb (by omega)).trans ((g_set_ne (by omega)).trans (fs4 bb hb))
    obtain ⟨s6, es6, hr⟩ := g_bd hr
    have fs6 : ∀ bb, ¬ (bb = 464 ∨ bb = 466 ∨ (508 ≤ bb ∧ bb ≤ 667) ∨ (669 ≤ bb ∧ bb ≤ 828)) → s6 bb = M bb := fun bb hb => (w_FM_blanks s5 _ es6 bb (by omega)).trans (fs5 bb hb)
    rcases g_ifo hr with ⟨h7, hr⟩ | ⟨h7, hr⟩
    ·
      rcases g_ifo hr with ⟨h8, hr⟩ | ⟨h8, hr⟩
      ·
        exact fun bb hb => (w_FM_law_J85 n s6 _ hr bb hb).trans (fs6 bb hb)
      ·
        obtain ⟨s9, es9, hr⟩ := g_bd hr
        have fs9 : ∀ bb, ¬ (bb = 464 ∨ bb = 466 ∨ (508 ≤ bb ∧ bb ≤ 667) ∨ (669 ≤ bb ∧ bb ≤ 828)) → s9 bb = M bb := fun bb hb => (w_FM_wrong (1 : Int32) (s6 464 4) s6 _ es9 bb (by omega)).trans (fs6 bb hb)
        exact fun bb hb => (w_FM_law_J85 n s9 _ hr bb hb).trans (fs9 bb hb)
    ·
      exact fun bb hb => (w_FM_law_J85 n s6 _ hr bb hb).trans (fs6 bb hb)
  ·
    cases hr; exact fun bb hb => fs1_2 bb hb
set_option maxRecDepth 20000 in
theorem w_FM_law_J25 (n : Int32) (M : gM) (R : Int32 × gM) (hr : FM_law_J25 n M = some R) : ∀ bb, ¬ (bb = 464 ∨ bb = 466 ∨ (508 ≤ bb ∧ bb ≤ 667) ∨ (669 ≤ bb ∧ bb ≤ 828)) → R.2 bb = M bb := by
  unfold FM_law_J25 at hr
  exact fun bb hb => (w_FM_law_J30 n (1 : Int32) M _ hr bb hb)
set_option maxRecDepth 20000 in
theorem w_FM_law (n : Int32) (M : gM) (R : Int32 × gM) (hr : FM_law n M = some R) : ∀ bb, ¬ (bb = 464 ∨ bb = 466 ∨ (508 ≤ bb ∧ bb ≤ 667) ∨ (669 ≤ bb ∧ bb ≤ 828)) → R.2 bb = M bb := by
  unfold FM_law at hr
  rcases g_ifo hr with ⟨h3, hr⟩ | ⟨h3, hr⟩
  ·
    exact fun bb hb => (w_FM_law_J25 n (g_set M 464 0 (0 : Int32)) _ hr bb hb).trans ((g_set_ne (by omega)))
  ·
    rcases g_ifo hr with ⟨h4, hr⟩ | ⟨h4, hr⟩
    ·
      exact fun bb hb => (w_FM_law_J30 n (0 : Int32) (g_set M 464 0 (0 : Int32)) _ hr bb hb).trans ((g_set_ne (by omega)))
    ·
      exact fun bb hb => (w_FM_law_J25 n (g_set M 464 0 (0 : Int32)) _ hr bb hb).trans ((g_set_ne (by omega)))
set_option maxRecDepth 20000 in
theorem w_FM_byLaw_L44 : ∀ (k : Nat) (x1 : Int32) (x2 : Int32) (M : gM) (R : Int32 × gM), FM_byLaw_L44 k x1 x2 M = some R → ∀ bb, ¬ (bb = 847) → R.2 bb = M bb := by
  intro k
  induction k with
  | zero => intro x1 x2 M R hr; exact nomatch (show (none : Option (Int32 × gM)) = some R from hr)
  | succ k ih =>
    intro x1 x2 M R hr
    unfold FM_byLaw_L44 at hr
    rcases g_ifo hr with ⟨h1, hr⟩ | ⟨h1, hr⟩
    ·
      cases hr; exact fun bb hb => rfl
    ·
      obtain ⟨j2, ej2, ij2, lj2, hr⟩ := g_ixo hr
      rcases g_ifo hr with ⟨h3, hr⟩ | ⟨h3, hr⟩
      ·
        obtain ⟨j4, ej4, ij4, lj4, hr⟩ := g_ixo hr
        obtain ⟨j5, ej5, ij5, lj5, hr⟩ := g_ixo hr
        obtain ⟨j6, ej6, ij6, lj6, hr⟩ := g_ixo hr
        obtain ⟨s7, es7, hr⟩ := g_bd hr
        obtain ⟨j8, ej8, ij8, lj8, hr⟩ := g_ixo hr
        obtain ⟨M9, mM9, hr⟩ := g_leto hr
        have fM9 : ∀ bb, ¬ (bb = 847) → M9 bb = M bb := fun bb hb => by rw [mM9]; exact (g_set_ne (by omega))
        exact fun bb hb => (ih (x1 + (-1 : Int32)) (x2 + (1 : Int32)) M9 _ hr bb hb).trans (fM9 bb hb)
      ·
        obtain ⟨j10, ej10, ij10, lj10, hr⟩ := g_ixo hr
        rcases g_ifo hr with ⟨h11, hr⟩ | ⟨h11, hr⟩
        ·
          obtain ⟨j16, ej16, ij16, lj16, hr⟩ := g_ixo hr
          obtain ⟨j17, ej17, ij17, lj17, hr⟩ := g_ixo hr
          obtain ⟨M18, mM18, hr⟩ := g_leto hr
          have fM18 : ∀ bb, ¬ (bb = 847) → M18 bb = M bb := fun bb hb => by rw [mM18]; exact (g_set_ne (by omega))
          exact fun bb hb => (ih (x1 + (1 : Int32)) (x2 + (1 : Int32)) M18 _ hr bb hb).trans (fM18 bb hb)
        ·
          obtain ⟨j12, ej12, ij12, lj12, hr⟩ := g_ixo hr
          obtain ⟨j13, ej13, ij13, lj13, hr⟩ := g_ixo hr
          obtain ⟨j14, ej14, ij14, lj14, hr⟩ := g_ixo hr
          obtain ⟨M15, mM15, hr⟩ := g_leto hr
          have fM15 : ∀ bb, ¬ (bb = 847) → M15 bb = M bb := fun bb hb => by rw [mM15]; exact (g_set_ne (by omega))
          exact fun bb hb => (ih (x1 + (1 : Int32)) (x2 + (1 : Int32)) M15 _ hr bb hb).trans (fM15 bb hb)
set_option maxRecDepth 20000 in
theorem w_FM_byLaw  (M : gM) (R : Int32 × gM) (hr : FM_byLaw M = some R) : ∀ bb, ¬ (bb = 847) → R.2 bb = M bb := by
  unfold FM_byLaw at hr
  obtain ⟨h1, hr⟩ := g_nz hr
  obtain ⟨M2, mM2, hr⟩ := g_leto hr
  have fM2 : ∀ bb, ¬ (bb = 847) → M2 bb = M bb := fun bb hb => by rw [mM2]; exact (g_set_ne (by omega))
  exact fun bb hb => (w_FM_byLaw_L44 1000 (0 : Int32) (0 : Int32) M2 _ hr bb hb).trans (fM2 bb hb)
set_option maxRecDepth 20000 in
theorem w_FM_stepHere  (M : gM) (R : Int32 × gM) (hr : FM_stepHere M = some R) : ∀ bb, ¬ (bb = 464) → R.2 bb = M bb := by
  unfold FM_stepHere at hr
  obtain ⟨s1, es1, hr⟩ := g_bd hr
  have fs1_2 : ∀ bb, ¬ (bb = 464) → s1.2 bb = M bb := fun bb hb => (w_FM_isWord (7 : Int32) (9 : Int32) (22 : Int32) (5 : Int32) (0 : Int32) (0 : Int32) M _ es1 bb (by omega))
  rcases g_ifo hr with ⟨h3, hr⟩ | ⟨h3, hr⟩
  ·
    obtain ⟨s4, es4, hr⟩ := g_bd hr
    have fs4_2 : ∀ bb, ¬ (bb = 464) → s4.2 bb = M bb := fun bb hb => (w_FM_isWord (18 : Int32) (15 : Int32) (12 : Int32) (12 : Int32) (0 : Int32) (0 : Int32) (s1.2) _ es4 bb (by omega)).trans (fs1_2 bb hb)
    rcases g_ifo hr with ⟨h6, hr⟩ | ⟨h6, hr⟩
    ·
      obtain ⟨s7, es7, hr⟩ := g_bd hr
      have fs7_2 : ∀ bb, ¬ (bb = 464) → s7.2 bb = M bb := fun bb hb => (w_FM_isWord (18 : Int32) (1 : Int32) (9 : Int32) (14 : Int32) (0 : Int32) (0 : Int32) (s4.2) _ es7 bb (by omega)).trans (fs4_2 bb hb)
      rcases g_ifo hr with ⟨h9, hr⟩ | ⟨h9, hr⟩
      ·
        obtain ⟨s10, es10, hr⟩ := g_bd hr
        have fs10_2 : ∀ bb, ¬ (bb = 464) → s10.2 bb = M bb := fun bb hb => (w_FM_isWord (18 : Int32) (5 : Int32) (19 : Int32) (20 : Int32) (0 : Int32) (0 : Int32) (s7.2) _ es10 bb (by omega)).trans (fs7_2 bb hb)
        rcases g_ifo hr with ⟨h12, hr⟩ | ⟨h12, hr⟩
        ·
          obtain ⟨s13, es13, hr⟩ := g_bd hr
          have fs13_2 : ∀ bb, ¬ (bb = 464) → s13.2 bb = M bb := fun bb hb => (w_FM_isWord (2 : Int32) (18 : Int32) (9 : Int32) (2 : Int32) (5 : Int32) (0 : Int32) (s10.2) _ es13 bb (by omega)).trans (fs10_2 bb hb)
          rcases g_ifo hr with ⟨h15, hr⟩ | ⟨h15, hr⟩
          ·
            obtain ⟨s16, es16, hr⟩ := g_bd hr
            have fs16_2 : ∀ bb, ¬ (bb = 464) → s16.2 bb = M bb := fun bb hb => (w_FM_isWord (1 : Int32) (7 : Int32) (1 : Int32) (9 : Int32) (14 : Int32) (0 : Int32) (s13.2) _ es16 bb (by omega)).trans (fs13_2 bb hb)
            rcases g_ifo hr with ⟨h18, hr⟩ | ⟨h18, hr⟩
            ·
              cases hr; exact fun bb hb => fs16_2 bb hb
            ·
              cases hr; exact fun bb hb => fs16_2 bb hb
          ·
            cases hr; exact fun bb hb => fs13_2 bb hb
        ·
          cases hr; exact fun bb hb => fs10_2 bb hb
      ·
        cases hr; exact fun bb hb => fs7_2 bb hb
    ·
      cases hr; exact fun bb hb => fs4_2 bb hb
  ·
    cases hr; exact fun bb hb => fs1_2 bb hb
set_option maxRecDepth 20000 in
theorem w_FM_readsStep_J205 (rreadsStep : gM → Option (gM)) (grreadsStep : ∀ (M : gM) (R : gM), rreadsStep M = some R → ∀ bb, ¬ (bb = 464 ∨ (850 ≤ bb ∧ bb ≤ 929)) → R bb = M bb) (x2 : Nat) (M : gM) (rx2 : 850 ≤ x2 ∧ x2 ≤ 929) (R : gM) (hr : FM_readsStep_J205 rreadsStep x2 M = some R) : ∀ bb, ¬ (bb = 464 ∨ (850 ≤ bb ∧ bb ≤ 929)) → R bb = M bb := by
  unfold FM_readsStep_J205 at hr
  obtain ⟨M1, mM1, hr⟩ := g_leto hr
  have fM1 : ∀ bb, ¬ (bb = 464 ∨ (850 ≤ bb ∧ bb ≤ 929)) → M1 bb = M bb := fun bb hb => by rw [mM1]; exact (g_set_ne (by omega))
  obtain ⟨s2, es2, hr⟩ := g_bd hr
  have fs2 : ∀ bb, ¬ (bb = 464 ∨ (850 ≤ bb ∧ bb ≤ 929)) → s2 bb = M bb := fun bb hb => (w_FM_sign (59 : Int32) M1 _ es2 bb (by omega)).trans (fM1 bb hb)
  cases hr; exact fun bb hb => fs2 bb hb
set_option maxRecDepth 20000 in
theorem w_FM_readsStep_J189 (rreadsStep : gM → Option (gM)) (grreadsStep : ∀ (M : gM) (R : gM), rreadsStep M = some R → ∀ bb, ¬ (bb = 464 ∨ (850 ≤ bb ∧ bb ≤ 929)) → R bb = M bb) (x2 : Nat) (M : gM) (rx2 : 850 ≤ x2 ∧ x2 ≤ 929) (R : gM) (hr : FM_readsStep_J189 rreadsStep x2 M = some R) : ∀ bb, ¬ (bb = 464 ∨ (850 ≤ bb ∧ bb ≤ 929)) → R bb = M bb := by
  unfold FM_readsStep_J189 at hr
  obtain ⟨s1, es1, hr⟩ := g_bd hr
  have fs1 : ∀ bb, ¬ (bb = 464 ∨ (850 ≤ bb ∧ bb ≤ 929)) → s1 bb = M bb := fun bb hb => (w_FM_sign (93 : Int32) M _ es1 bb (by omega))
  exact fun bb hb => (w_FM_readsStep_J205 rreadsStep grreadsStep x2 (g_set s1 464 8 ((s1 464 8) - (1 : Int32))) (by omega) _ hr bb hb).trans ((g_set_ne (by omega)).trans (fs1 bb hb))
set_option maxRecDepth 20000 in
theorem w_FM_readsStep_L158 (rreadsStep : gM → Option (gM)) (grreadsStep : ∀ (M : gM) (R : gM), rreadsStep M = some R → ∀ bb, ¬ (bb = 464 ∨ (850 ≤ bb ∧ bb ≤ 929)) → R bb = M bb) : ∀ (k : Nat) (x2 : Nat) (M : gM) (rx2 : 850 ≤ x2 ∧ x2 ≤ 929) (R : gM), FM_readsStep_L158 rreadsStep k x2 M = some R → ∀ bb, ¬ (bb = 464 ∨ (850 ≤ bb ∧ bb ≤ 929)) → R bb = M bb := by
  intro k
  induction k with
  | zero => intro x2 M rx2 R hr; exact nomatch (show (none : Option (gM)) = some R from hr)
  | succ k ih =>
    intro x2 M rx2 R hr
    unfold FM_readsStep_L158 at hr
    rcases g_ifo hr with ⟨h1, hr⟩ | ⟨h1, hr⟩
    ·
      obtain ⟨s2, es2, hr⟩ := g_bd hr
      rcases g_ifo hr with ⟨h3, hr⟩ | ⟨h3, hr⟩
      ·
        exact fun bb hb => (w_FM_readsStep_J189 rreadsStep grreadsStep x2 M (by omega) _ hr bb hb)
      ·
        obtain ⟨s4, es4, hr⟩ := g_bd hr
        have fs4 : ∀ bb, ¬ (bb = 464 ∨ (850 ≤ bb ∧ bb ≤ 929)) → s4 bb = M bb := fun bb hb => (grreadsStep M _ es4 bb hb)
        obtain ⟨s5, es5, hr⟩ := g_bd hr
        have fs5 : ∀ bb, ¬ (bb = 464 ∨ (850 ≤ bb ∧ bb ≤ 929)) → s5 bb = M bb := fun bb hb => (w_FM_blanks s4 _ es5 bb (by omega)).trans (fs4 bb hb)
        exact fun bb hb => (ih x2 s5 (by omega) _ hr bb hb).trans (fs5 bb hb)
    ·
      exact fun bb hb => (w_FM_readsStep_J189 rreadsStep grreadsStep x2 M (by omega) _ hr bb hb)
set_option maxRecDepth 20000 in
theorem w_FM_readsStep_J133 (rreadsStep : gM → Option (gM)) (grreadsStep : ∀ (M : gM) (R : gM), rreadsStep M = some R → ∀ bb, ¬ (bb = 464 ∨ (850 ≤ bb ∧ bb ≤ 929)) → R bb = M bb) (x1 : Int32) (x2 : Nat) (M : gM) (rx2 : 850 ≤ x2 ∧ x2 ≤ 929) (R : gM) (hr : FM_readsStep_J133 rreadsStep x1 x2 M = some R) : ∀ bb, ¬ (bb = 464 ∨ (850 ≤ bb ∧ bb ≤ 929)) → R bb = M bb := by
  unfold FM_readsStep_J133 at hr
  rcases g_ifo hr with ⟨h1, hr⟩ | ⟨h1, hr⟩
  ·
    obtain ⟨s2, es2, hr⟩ := g_bd hr
    have fs2_2 : ∀ bb, ¬ (bb = 464 ∨ (850 ≤ bb ∧ bb ≤ 929)) → s2.2 bb = M bb := fun bb hb => (w_FM_number (0 : Int32) (60 : Int32) M _ es2 bb (by omega))
    obtain ⟨M3, mM3, hr⟩ := g_leto hr
    have fM3 : ∀ bb, ¬ (bb = 464 ∨ (850 ≤ bb ∧ bb ≤ 929)) → M3 bb = M bb := fun bb hb => by rw [mM3]; exact (g_set_ne (by omega)).trans (fs2_2 bb hb)
    obtain ⟨s4, es4, hr⟩ := g_bd hr
    have fs4 : ∀ bb, ¬ (bb = 464 ∨ (850 ≤ bb ∧ bb ≤ 929)) → s4 bb = M bb := fun bb hb => (w_FM_sign (91 : Int32) M3 _ es4 bb (by omega)).trans (fM3 bb hb)
    obtain ⟨s5, es5, hr⟩ := g_bd hr
    have fs5 : ∀ bb, ¬ (bb = 464 ∨ (850 ≤ bb ∧ bb ≤ 929)) → s5 bb = M bb := fun bb hb => (w_FM_blanks s4 _ es5 bb (by omega)).trans (fs4 bb hb)
    exact fun bb hb => (w_FM_readsStep_L158 rreadsStep grreadsStep 1000 x2 s5 (by omega) _ hr bb hb).trans (fs5 bb hb)
  ·
    exact fun bb hb => (w_FM_readsStep_J205 rreadsStep grreadsStep x2 M (by omega) _ hr bb hb)
set_option maxRecDepth 20000 in
theorem w_FM_readsStep_J118 (rreadsStep : gM → Option (gM)) (grreadsStep : ∀ (M : gM) (R : gM), rreadsStep M = some R → ∀ bb, ¬ (bb = 464 ∨ (850 ≤ bb ∧ bb ≤ 929)) → R bb = M bb) (x1 : Int32) (x2 : Nat) (M : gM) (rx2 : 850 ≤ x2 ∧ x2 ≤ 929) (R : gM) (hr : FM_readsStep_J118 rreadsStep x1 x2 M = some R) : ∀ bb, ¬ (bb = 464 ∨ (850 ≤ bb ∧ bb ≤ 929)) → R bb = M bb := by
  unfold FM_readsStep_J118 at hr
  rcases g_ifo hr with ⟨h1, hr⟩ | ⟨h1, hr⟩
  ·
    obtain ⟨s2, es2, hr⟩ := g_bd hr
    have fs2_2 : ∀ bb, ¬ (bb = 464 ∨ (850 ≤ bb ∧ bb ≤ 929)) → s2.2 bb = M bb := fun bb hb => (w_FM_number (1 : Int32) (9 : Int32) M _ es2 bb (by omega))
    obtain ⟨M3, mM3, hr⟩ := g_leto hr
    have fM3 : ∀ bb, ¬ (bb = 464 ∨ (850 ≤ bb ∧ bb ≤ 929)) → M3 bb = M bb := fun bb hb => by rw [mM3]; exact (g_set_ne (by omega)).trans (fs2_2 bb hb)
    exact fun bb hb => (w_FM_readsStep_J133 rreadsStep grreadsStep x1 x2 M3 (by omega) _ hr bb hb).trans (fM3 bb hb)
  ·
    exact fun bb hb => (w_FM_readsStep_J133 rreadsStep grreadsStep x1 x2 M (by omega) _ hr bb hb)
set_option maxRecDepth 20000 in
theorem w_FM_readsStep_J102 (rreadsStep : gM → Option (gM)) (grreadsStep : ∀ (M : gM) (R : gM), rreadsStep M = some R → ∀ bb, ¬ (bb = 464 ∨ (850 ≤ bb ∧ bb ≤ 929)) → R bb = M bb) (x1 : Int32) (x2 : Nat) (M : gM) (rx2 : 850 ≤ x2 ∧ x2 ≤ 929) (R : gM) (hr : FM_readsStep_J102 rreadsStep x1 x2 M = some R) : ∀ bb, ¬ (bb = 464 ∨ (850 ≤ bb ∧ bb ≤ 929)) → R bb = M bb := by
  unfold FM_readsStep_J102 at hr
  obtain ⟨s1, es1, hr⟩ := g_bd hr
  have fs1_2 : ∀ bb, ¬ (bb = 464 ∨ (850 ≤ bb ∧ bb ≤ 929)) → s1.2 bb = M bb := fun bb hb => (w_FM_number (0 : Int32) ((M 468 1) - (1 : Int32)) M _ es1 bb (by omega))
  obtain ⟨M2, mM2, hr⟩ := g_leto hr
  have fM2 : ∀ bb, ¬ (bb = 464 ∨ (850 ≤ bb ∧ bb ≤ 929)) → M2 bb = M bb := fun bb hb => by rw [mM2]; exact (g_set_ne (by omega)).trans (fs1_2 bb hb)
  exact fun bb hb => (w_FM_readsStep_J118 rreadsStep grreadsStep x1 x2 M2 (by omega) _ hr bb hb).trans (fM2 bb hb)
set_option maxRecDepth 20000 in
theorem w_FM_readsStep_J88 (rreadsStep : gM → Option (gM)) (grreadsStep : ∀ (M : gM) (R : gM), rreadsStep M = some R → ∀ bb, ¬ (bb = 464 ∨ (850 ≤ bb ∧ bb ≤ 929)) → R bb = M bb) (x1 : Int32) (x2 : Nat) (M : gM) (rx2 : 850 ≤ x2 ∧ x2 ≤ 929) (R : gM) (hr : FM_readsStep_J88 rreadsStep x1 x2 M = some R) : ∀ bb, ¬ (bb = 464 ∨ (850 ≤ bb ∧ bb ≤ 929)) → R bb = M bb := by
  unfold FM_readsStep_J88 at hr
  rcases g_ifo hr with ⟨h1, hr⟩ | ⟨h1, hr⟩
  ·
    exact fun bb hb => (w_FM_readsStep_J102 rreadsStep grreadsStep x1 x2 M (by omega) _ hr bb hb)
  ·
    rcases g_ifo hr with ⟨h2, hr⟩ | ⟨h2, hr⟩
    ·
      exact fun bb hb => (w_FM_readsStep_J102 rreadsStep grreadsStep x1 x2 M (by omega) _ hr bb hb)
    ·
      rcases g_ifo hr with ⟨h3, hr⟩ | ⟨h3, hr⟩
      ·
        exact fun bb hb => (w_FM_readsStep_J102 rreadsStep grreadsStep x1 x2 M (by omega) _ hr bb hb)
      ·
        exact fun bb hb => (w_FM_readsStep_J118 rreadsStep grreadsStep x1 x2 M (by omega) _ hr bb hb)
set_option maxRecDepth 20000 in
theorem w_FM_readsStep_J32 (rreadsStep : gM → Option (gM)) (grreadsStep : ∀ (M : gM) (R : gM), rreadsStep M = some R → ∀ bb, ¬ (bb = 464 ∨ (850 ≤ bb ∧ bb ≤ 929)) → R bb = M bb) (x1 : Int32) (M : gM) (R : gM) (hr : FM_readsStep_J32 rreadsStep x1 M = some R) : ∀ bb, ¬ (bb = 464 ∨ (850 ≤ bb ∧ bb ≤ 929)) → R bb = M bb := by
  unfold FM_readsStep_J32 at hr
  rcases g_ifo hr with ⟨h1, hr⟩ | ⟨h1, hr⟩
  ·
    obtain ⟨s2, es2, hr⟩ := g_bd hr
    have fs2 : ∀ bb, ¬ (bb = 464 ∨ (850 ≤ bb ∧ bb ≤ 929)) → s2 bb = M bb := fun bb hb => (w_FM_skipWord M _ es2 bb (by omega))
    obtain ⟨j3, ej3, ij3, lj3, hr⟩ := g_ixo hr
    obtain ⟨M4, mM4, hr⟩ := g_leto hr
    have fM4 : ∀ bb, ¬ (bb = 464 ∨ (850 ≤ bb ∧ bb ≤ 929)) → M4 bb = M bb := fun bb hb => by rw [mM4]; exact (g_set_ne (by omega)).trans ((g_set_ne (by omega)).trans (fs2 bb hb))
    rcases g_ifo hr with ⟨h5, hr⟩ | ⟨h5, hr⟩
    ·
      obtain ⟨s6, es6, hr⟩ := g_bd hr
      have fs6_2 : ∀ bb, ¬ (bb = 464 ∨ (850 ≤ bb ∧ bb ≤ 929)) → s6.2 bb = M bb := fun bb hb => (w_FM_number (0 : Int32) ((M4 468 2) - (1 : Int32)) M4 _ es6 bb (by omega)).trans (fM4 bb hb)
      obtain ⟨M7, mM7, hr⟩ := g_leto hr
      have fM7 : ∀ bb, ¬ (bb = 464 ∨ (850 ≤ bb ∧ bb ≤ 929)) → M7 bb = M bb := fun bb hb => by rw [mM7]; exact (g_set_ne (by omega)).trans (fs6_2 bb hb)
      exact fun bb hb => (w_FM_readsStep_J88 rreadsStep grreadsStep x1 (850 + j3) M7 (by omega) _ hr bb hb).trans (fM7 bb hb)
    ·
      exact fun bb hb => (w_FM_readsStep_J88 rreadsStep grreadsStep x1 (850 + j3) M4 (by omega) _ hr bb hb).trans (fM4 bb hb)
  ·
    cases hr; exact fun bb hb => rfl
set_option maxRecDepth 20000 in
theorem w_FM_readsStep_J19 (rreadsStep : gM → Option (gM)) (grreadsStep : ∀ (M : gM) (R : gM), rreadsStep M = some R → ∀ bb, ¬ (bb = 464 ∨ (850 ≤ bb ∧ bb ≤ 929)) → R bb = M bb) (x1 : Int32) (M : gM) (R : gM) (hr : FM_readsStep_J19 rreadsStep x1 M = some R) : ∀ bb, ¬ (bb = 464 ∨ (850 ≤ bb ∧ bb ≤ 929)) → R bb = M bb := by
  unfold FM_readsStep_J19 at hr
  rcases g_ifo hr with ⟨h1, hr⟩ | ⟨h1, hr⟩
  ·
    obtain ⟨s2, es2, hr⟩ := g_bd hr
    have fs2_2 : ∀ bb, ¬ (bb = 464 ∨ (850 ≤ bb ∧ bb ≤ 929)) → s2.2 bb = M bb := fun bb hb => (w_FM_opensOne M _ es2 bb (by omega))
    rcases g_ifo hr with ⟨h4, hr⟩ | ⟨h4, hr⟩
    ·
      cases hr; exact fun bb hb => fs2_2 bb hb
    ·
      exact fun bb hb => (w_FM_readsStep_J32 rreadsStep grreadsStep x1 (s2.2) _ hr bb hb).trans (fs2_2 bb hb)
  ·
    exact fun bb hb => (w_FM_readsStep_J32 rreadsStep grreadsStep x1 M _ hr bb hb)
set_option maxRecDepth 20000 in
theorem w_FM_readsStep_B (rreadsStep : gM → Option (gM)) (grreadsStep : ∀ (M : gM) (R : gM), rreadsStep M = some R → ∀ bb, ¬ (bb = 464 ∨ (850 ≤ bb ∧ bb ≤ 929)) → R bb = M bb)  (M : gM) (R : gM) (hr : FM_readsStep_B rreadsStep M = some R) : ∀ bb, ¬ (bb = 464 ∨ (850 ≤ bb ∧ bb ≤ 929)) → R bb = M bb := by
  unfold FM_readsStep_B at hr
  obtain ⟨s1, es1, hr⟩ := g_bd hr
  have fs1_2 : ∀ bb, ¬ (bb = 464 ∨ (850 ≤ bb ∧ bb ≤ 929)) → s1.2 bb = M bb := fun bb hb => (w_FM_stepHere M _ es1 bb (by omega))
  rcases g_ifo hr with ⟨h2, hr⟩ | ⟨h2, hr⟩
  ·
    obtain ⟨s3, es3, hr⟩ := g_bd hr
    have fs3 : ∀ bb, ¬ (bb = 464 ∨ (850 ≤ bb ∧ bb ≤ 929)) → s3 bb = M bb := fun bb hb => (w_FM_wrong (1 : Int32) ((s1.2) 464 4) (s1.2) _ es3 bb (by omega)).trans (fs1_2 bb hb)
    exact fun bb hb => (w_FM_readsStep_J19 rreadsStep grreadsStep s1.1 s3 _ hr bb hb).trans (fs3 bb hb)
  ·
    exact fun bb hb => (w_FM_readsStep_J19 rreadsStep grreadsStep s1.1 (s1.2) _ hr bb hb).trans (fs1_2 bb hb)
theorem w_FM_readSteps : ∀ f : Nat, (∀ (M : gM) (R : gM), FM_readsStep f  M = some R → ∀ bb, ¬ (bb = 464 ∨ (850 ≤ bb ∧ bb ≤ 929)) → R bb = M bb) := by
  intro f
  induction f with
  | zero => exact fun  M R hr => (nomatch (show (none : Option (gM)) = some R from hr))
  | succ f ih => exact fun  M R hr => w_FM_readsStep_B (FM_readsStep f) (fun M R hr => ih M R hr)  M R hr
theorem w_FM_readsStep (f : Nat)  (M : gM) (R : gM) (hr : FM_readsStep f  M = some R) : ∀ bb, ¬ (bb = 464 ∨ (850 ≤ bb ∧ bb ≤ 929)) → R bb = M bb := (w_FM_readSteps f)  M R hr
set_option maxRecDepth 20000 in
theorem w_FM_songs_J170 (n : Int32) (x2 : Int32) (M : gM) (R : Int32 × gM) (hr : FM_songs_J170 n x2 M = some R) : ∀ bb, ¬ (bb = 464 ∨ bb = 466 ∨ (830 ≤ bb ∧ bb ≤ 837) ∨ (839 ≤ bb ∧ bb ≤ 846)) → R.2 bb = M bb := by
  unfold FM_songs_J170 at hr
  rcases g_ifo hr with ⟨h1, hr⟩ | ⟨h1, hr⟩
  ·
    obtain ⟨s2, es2, hr⟩ := g_bd hr
    have fs2 : ∀ bb, ¬ (bb = 464 ∨ bb = 466 ∨ (830 ≤ bb ∧ bb ≤ 837) ∨ (839 ≤ bb ∧ bb ≤ 846)) → s2 bb = M bb := fun bb hb => (w_FM_laysS x2 (g_set (g_set M 464 3 (-1 : Int32)) 464 33 x2) _ es2 bb (by omega)).trans ((g_set_ne (by omega)).trans ((g_set_ne (by omega))))
    cases hr; exact fun bb hb => fs2 bb hb
  ·
    obtain ⟨s3, es3, hr⟩ := g_bd hr
    have fs3_2 : ∀ bb, ¬ (bb = 464 ∨ bb = 466 ∨ (830 ≤ bb ∧ bb ≤ 837) ∨ (839 ≤ bb ∧ bb ≤ 846)) → s3.2 bb = M bb := fun bb hb => (w_FM_ends M _ es3 bb (by omega))
    cases hr; exact fun bb hb => fs3_2 bb hb
set_option maxRecDepth 20000 in
theorem w_FM_songs_J163 (n : Int32) (c48 : Int32 → Int32 → gM → Option (Int32 × gM)) (gc48 : ∀ (x2 : Int32) (x3 : Int32) (M : gM) (R : Int32 × gM), c48 x2 x3 M = some R → ∀ bb, ¬ (bb = 464 ∨ bb = 466 ∨ (830 ≤ bb ∧ bb ≤ 837) ∨ (839 ≤ bb ∧ bb ≤ 846)) → R.2 bb = M bb) (x2 : Int32) (x3 : Int32) (M : gM) (R : Int32 × gM) (hr : FM_songs_J163 n c48 x2 x3 M = some R) : ∀ bb, ¬ (bb = 464 ∨ bb = 466 ∨ (830 ≤ bb ∧ bb ≤ 837) ∨ (839 ≤ bb ∧ bb ≤ 846)) → R.2 bb = M bb := by
  unfold FM_songs_J163 at hr
  obtain ⟨s1, es1, hr⟩ := g_bd hr
  have fs1 : ∀ bb, ¬ (bb = 464 ∨ bb = 466 ∨ (830 ≤ bb ∧ bb ≤ 837) ∨ (839 ≤ bb ∧ bb ≤ 846)) → s1 bb = M bb := fun bb hb => (w_FM_blanks M _ es1 bb (by omega))
  exact fun bb hb => (gc48 x2 x3 s1 _ hr bb hb).trans (fs1 bb hb)
set_option maxRecDepth 20000 in
theorem w_FM_songs_J110 (n : Int32) (c48 : Int32 → Int32 → gM → Option (Int32 × gM)) (gc48 : ∀ (x2 : Int32) (x3 : Int32) (M : gM) (R : Int32 × gM), c48 x2 x3 M = some R → ∀ bb, ¬ (bb = 464 ∨ bb = 466 ∨ (830 ≤ bb ∧ bb ≤ 837) ∨ (839 ≤ bb ∧ bb ≤ 846)) → R.2 bb = M bb) (x2 : Int32) (x3 : Int32) (x5 : Int32) (M : gM) (R : Int32 × gM) (hr : FM_songs_J110 n c48 x2 x3 x5 M = some R) : ∀ bb, ¬ (bb = 464 ∨ bb = 466 ∨ (830 ≤ bb ∧ bb ≤ 837) ∨ (839 ≤ bb ∧ bb ≤ 846)) → R.2 bb = M bb := by
  unfold FM_songs_J110 at hr
  obtain ⟨s1, es1, hr⟩ := g_bd hr
  have fs1_2 : ∀ bb, ¬ (bb = 464 ∨ bb = 466 ∨ (830 ≤ bb ∧ bb ≤ 837) ∨ (839 ≤ bb ∧ bb ≤ 846)) → s1.2 bb = M bb := fun bb hb => (w_FM_number (0 : Int32) (999 : Int32) M _ es1 bb (by omega))
  obtain ⟨s2, es2, hr⟩ := g_bd hr
  have fs2 : ∀ bb, ¬ (bb = 464 ∨ bb = 466 ∨ (830 ≤ bb ∧ bb ≤ 837) ∨ (839 ≤ bb ∧ bb ≤ 846)) → s2 bb = M bb := fun bb hb => (w_FM_sign (59 : Int32) (s1.2) _ es2 bb (by omega)).trans (fs1_2 bb hb)
  rcases g_ifo hr with ⟨h3, hr⟩ | ⟨h3, hr⟩
  ·
    obtain ⟨j4, ej4, ij4, lj4, hr⟩ := g_ixo hr
    obtain ⟨M5, mM5, hr⟩ := g_leto hr
    have fM5 : ∀ bb, ¬ (bb = 464 ∨ bb = 466 ∨ (830 ≤ bb ∧ bb ≤ 837) ∨ (839 ≤ bb ∧ bb ≤ 846)) → M5 bb = M bb := fun bb hb => by rw [mM5]; exact (g_set_ne (by omega)).trans (fs2 bb hb)
    obtain ⟨j6, ej6, ij6, lj6, hr⟩ := g_ixo hr
    obtain ⟨M7, mM7, hr⟩ := g_leto hr
    have fM7 : ∀ bb, ¬ (bb = 464 ∨ bb = 466 ∨ (830 ≤ bb ∧ bb ≤ 837) ∨ (839 ≤ bb ∧ bb ≤ 846)) → M7 bb = M bb := fun bb hb => by rw [mM7]; exact (g_set_ne (by omega)).trans (fM5 bb hb)
    exact fun bb hb => (w_FM_songs_J163 n c48 gc48 (x2 + (1 : Int32)) (x3 ||| ((1 : Int32) <<< (x5 &&& 31))) M7 _ hr bb hb).trans (fM7 bb hb)
  ·
    exact fun bb hb => (w_FM_songs_J163 n c48 gc48 x2 x3 s2 _ hr bb hb).trans (fs2 bb hb)
set_option maxRecDepth 20000 in
theorem w_FM_songs_L48 (n : Int32) : ∀ (k : Nat) (x2 : Int32) (x3 : Int32) (M : gM) (R : Int32 × gM), FM_songs_L48 n k x2 x3 M = some R → ∀ bb, ¬ (bb = 464 ∨ bb = 466 ∨ (830 ≤ bb ∧ bb ≤ 837) ∨ (839 ≤ bb ∧ bb ≤ 846)) → R.2 bb = M bb := by
  intro k
  induction k with
  | zero => intro x2 x3 M R hr; exact nomatch (show (none : Option (Int32 × gM)) = some R from hr)
  | succ k ih =>
    intro x2 x3 M R hr
    unfold FM_songs_L48 at hr
    rcases g_ifo hr with ⟨h1, hr⟩ | ⟨h1, hr⟩
    ·
      rcases g_ifo hr with ⟨h2, hr⟩ | ⟨h2, hr⟩
      ·
        exact fun bb hb => (w_FM_songs_J170 n x2 M _ hr bb hb)
      ·
        obtain ⟨s3, es3, hr⟩ := g_bd hr
        have fs3_2 : ∀ bb, ¬ (bb = 464 ∨ bb = 466 ∨ (830 ≤ bb ∧ bb ≤ 837) ∨ (839 ≤ bb ∧ bb ≤ 846)) → s3.2 bb = M bb := fun bb hb => (w_FM_number (1 : Int32) ((M 468 0) - (1 : Int32)) M _ es3 bb (by omega))
        rcases g_ifo hr with ⟨h4, hr⟩ | ⟨h4, hr⟩
        ·
          rcases g_ifo hr with ⟨h7, hr⟩ | ⟨h7, hr⟩
          ·
            exact fun bb hb => (w_FM_songs_J110 n (FM_songs_L48 n k) ih x2 x3 s3.1 (s3.2) _ hr bb hb).trans (fs3_2 bb hb)
          ·
            obtain ⟨s8, es8, hr⟩ := g_bd hr
            have fs8 : ∀ bb, ¬ (bb = 464 ∨ bb = 466 ∨ (830 ≤ bb ∧ bb ≤ 837) ∨ (839 ≤ bb ∧ bb ≤ 846)) → s8 bb = M bb := fun bb hb => (w_FM_wrong (2 : Int32) (M 464 4) (s3.2) _ es8 bb (by omega)).trans (fs3_2 bb hb)
            exact fun bb hb => (w_FM_songs_J110 n (FM_songs_L48 n k) ih x2 x3 s3.1 s8 _ hr bb hb).trans (fs8 bb hb)
        ·
          exact fun bb hb => (w_FM_songs_J110 n (FM_songs_L48 n k) ih x2 x3 s3.1 (s3.2) _ hr bb hb).trans (fs3_2 bb hb)
    ·
      exact fun bb hb => (w_FM_songs_J170 n x2 M _ hr bb hb)
set_option maxRecDepth 20000 in
theorem w_FM_songs_J29 (n : Int32) (y0 : Int32) (M : gM) (R : Int32 × gM) (hr : FM_songs_J29 n y0 M = some R) : ∀ bb, ¬ (bb = 464 ∨ bb = 466 ∨ (830 ≤ bb ∧ bb ≤ 837) ∨ (839 ≤ bb ∧ bb ≤ 846)) → R.2 bb = M bb := by
  unfold FM_songs_J29 at hr
  obtain ⟨s1, es1, hr⟩ := g_bd hr
  have fs1_2 : ∀ bb, ¬ (bb = 464 ∨ bb = 466 ∨ (830 ≤ bb ∧ bb ≤ 837) ∨ (839 ≤ bb ∧ bb ≤ 846)) → s1.2 bb = M bb := fun bb hb => (w_FM_bad y0 (1 : Int32) (1 : Int32) M _ es1 bb (by omega))
  rcases g_ifo hr with ⟨h3, hr⟩ | ⟨h3, hr⟩
  ·
    obtain ⟨s4, es4, hr⟩ := g_bd hr
    have fs4 : ∀ bb, ¬ (bb = 464 ∨ bb = 466 ∨ (830 ≤ bb ∧ bb ≤ 837) ∨ (839 ≤ bb ∧ bb ≤ 846)) → s4 bb = M bb := fun bb hb => (w_FM_starts n (s1.2) _ es4 bb (by omega)).trans (fs1_2 bb hb)
    exact fun bb hb => (w_FM_songs_L48 n 1000 (0 : Int32) (0 : Int32) s4 _ hr bb hb).trans (fs4 bb hb)
  ·
    cases hr; exact fun bb hb => fs1_2 bb hb
set_option maxRecDepth 20000 in
theorem w_FM_songs_J24 (n : Int32) (M : gM) (R : Int32 × gM) (hr : FM_songs_J24 n M = some R) : ∀ bb, ¬ (bb = 464 ∨ bb = 466 ∨ (830 ≤ bb ∧ bb ≤ 837) ∨ (839 ≤ bb ∧ bb ≤ 846)) → R.2 bb = M bb := by
  unfold FM_songs_J24 at hr
  exact fun bb hb => (w_FM_songs_J29 n (1 : Int32) M _ hr bb hb)
set_option maxRecDepth 20000 in
theorem w_FM_songs (n : Int32) (M : gM) (R : Int32 × gM) (hr : FM_songs n M = some R) : ∀ bb, ¬ (bb = 464 ∨ bb = 466 ∨ (830 ≤ bb ∧ bb ≤ 837) ∨ (839 ≤ bb ∧ bb ≤ 846)) → R.2 bb = M bb := by
  unfold FM_songs at hr
  rcases g_ifo hr with ⟨h3, hr⟩ | ⟨h3, hr⟩
  ·
    exact fun bb hb => (w_FM_songs_J24 n (g_set M 464 0 (0 : Int32)) _ hr bb hb).trans ((g_set_ne (by omega)))
  ·
    rcases g_ifo hr with ⟨h4, hr⟩ | ⟨h4, hr⟩
    ·
      exact fun bb hb => (w_FM_songs_J29 n (0 : Int32) (g_set M 464 0 (0 : Int32)) _ hr bb hb).trans ((g_set_ne (by omega)))
    ·
      exact fun bb hb => (w_FM_songs_J24 n (g_set M 464 0 (0 : Int32)) _ hr bb hb).trans ((g_set_ne (by omega)))
set_option maxRecDepth 20000 in
theorem w_FM_fault  (M : gM) (R : Int32 × gM) (hr : FM_fault M = some R) : ∀ bb, ¬ (bb = 464) → R.2 bb = M bb := by
  unfold FM_fault at hr
  cases hr; exact fun bb hb => (g_set_ne (by omega))
set_option maxRecDepth 20000 in
theorem w_FM_minutesBy (w : Int32) (c : Int32) (h : Int32) (t : Int32) (rain : Int32) (sweet : Int32) (M : gM) (R : Int32 × gM) (hr : FM_minutesBy w c h t rain sweet M = some R) : ∀ bb, ¬ ((847 ≤ bb ∧ bb ≤ 848)) → R.2 bb = M bb := by
  unfold FM_minutesBy at hr
  obtain ⟨j1, ej1, ij1, lj1, hr⟩ := g_ixo hr
  obtain ⟨M2, mM2, hr⟩ := g_leto hr
  have fM2 : ∀ bb, ¬ ((847 ≤ bb ∧ bb ≤ 848)) → M2 bb = M bb := fun bb hb => by rw [mM2]; exact (g_set_ne (by omega))
  obtain ⟨j3, ej3, ij3, lj3, hr⟩ := g_ixo hr
  obtain ⟨M4, mM4, hr⟩ := g_leto hr
  have fM4 : ∀ bb, ¬ ((847 ≤ bb ∧ bb ≤ 848)) → M4 bb = M bb := fun bb hb => by rw [mM4]; exact (g_set_ne (by omega)).trans (fM2 bb hb)
  obtain ⟨j5, ej5, ij5, lj5, hr⟩ := g_ixo hr
  obtain ⟨M6, mM6, hr⟩ := g_leto hr
  have fM6 : ∀ bb, ¬ ((847 ≤ bb ∧ bb ≤ 848)) → M6 bb = M bb := fun bb hb => by rw [mM6]; exact (g_set_ne (by omega)).trans (fM4 bb hb)
  obtain ⟨j7, ej7, ij7, lj7, hr⟩ := g_ixo hr
  obtain ⟨M8, mM8, hr⟩ := g_leto hr
  have fM8 : ∀ bb, ¬ ((847 ≤ bb ∧ bb ≤ 848)) → M8 bb = M bb := fun bb hb => by rw [mM8]; exact (g_set_ne (by omega)).trans (fM6 bb hb)
  obtain ⟨M9, mM9, hr⟩ := g_leto hr
  have fM9 : ∀ bb, ¬ ((847 ≤ bb ∧ bb ≤ 848)) → M9 bb = M bb := fun bb hb => by rw [mM9]; exact (g_set_ne (by omega)).trans (fM8 bb hb)
  obtain ⟨M10, mM10, hr⟩ := g_leto hr
  have fM10 : ∀ bb, ¬ ((847 ≤ bb ∧ bb ≤ 848)) → M10 bb = M bb := fun bb hb => by rw [mM10]; exact (g_set_ne (by omega)).trans (fM9 bb hb)
  obtain ⟨M11, mM11, hr⟩ := g_leto hr
  have fM11 : ∀ bb, ¬ ((847 ≤ bb ∧ bb ≤ 848)) → M11 bb = M bb := fun bb hb => by rw [mM11]; exact (g_set_ne (by omega)).trans (fM10 bb hb)
  obtain ⟨M12, mM12, hr⟩ := g_leto hr
  have fM12 : ∀ bb, ¬ ((847 ≤ bb ∧ bb ≤ 848)) → M12 bb = M bb := fun bb hb => by rw [mM12]; exact (g_set_ne (by omega)).trans (fM11 bb hb)
  obtain ⟨M13, mM13, hr⟩ := g_leto hr
  have fM13 : ∀ bb, ¬ ((847 ≤ bb ∧ bb ≤ 848)) → M13 bb = M bb := fun bb hb => by rw [mM13]; exact (g_set_ne (by omega)).trans (fM12 bb hb)
  obtain ⟨s14, es14, hr⟩ := g_bd hr
  have fs14_2 : ∀ bb, ¬ ((847 ≤ bb ∧ bb ≤ 848)) → s14.2 bb = M bb := fun bb hb => (w_FM_byLaw M13 _ es14 bb (by omega)).trans (fM13 bb hb)
  cases hr; exact fun bb hb => fs14_2 bb hb
set_option maxRecDepth 20000 in
theorem w_FM_minutesOf (a : Nat) (w : Int32) (c : Int32) (h : Int32) (M : gM) (R : Int32 × gM) (hr : FM_minutesOf a w c h M = some R) : ∀ bb, ¬ ((847 ≤ bb ∧ bb ≤ 848)) → R.2 bb = M bb := by
  unfold FM_minutesOf at hr
  obtain ⟨j1, ej1, ij1, lj1, hr⟩ := g_ixo hr
  obtain ⟨j2, ej2, ij2, lj2, hr⟩ := g_ixo hr
  obtain ⟨s3, es3, hr⟩ := g_bd hr
  have fs3_2 : ∀ bb, ¬ ((847 ≤ bb ∧ bb ≤ 848)) → s3.2 bb = M bb := fun bb hb => (w_FM_minutesBy w c h (M a j1) (M a 45) (M a j2) M _ es3 bb (by omega))
  cases hr; exact fun bb hb => fs3_2 bb hb
set_option maxRecDepth 20000 in
theorem w_FM_hourEnds_J85 (a : Nat) (h : Int32) (c : Int32) (y0 : Int32) (y1 : Int32) (M : gM) (R : gM) (hr : FM_hourEnds_J85 a h c y0 y1 M = some R) : ∀ bb, ¬ (bb = a) → R bb = M bb := by
  unfold FM_hourEnds_J85 at hr
  obtain ⟨j1, ej1, ij1, lj1, hr⟩ := g_ixo hr
  obtain ⟨M2, mM2, hr⟩ := g_leto hr
  have fM2 : ∀ bb, ¬ (bb = a) → M2 bb = M bb := fun bb hb => by rw [mM2]; exact (g_set_ne (by omega))
  rcases g_ifo hr with ⟨h3, hr⟩ | ⟨h3, hr⟩
  ·
    obtain ⟨M4, mM4, hr⟩ := g_leto hr
    have fM4 : ∀ bb, ¬ (bb = a) → M4 bb = M bb := fun bb hb => by rw [mM4]; exact (g_set_ne (by omega)).trans (fM2 bb hb)
    obtain ⟨M5, mM5, hr⟩ := g_leto hr
    have fM5 : ∀ bb, ¬ (bb = a) → M5 bb = M bb := fun bb hb => by rw [mM5]; exact (g_set_ne (by omega)).trans (fM4 bb hb)
    cases hr; exact fun bb hb => fM5 bb hb
  ·
    cases hr; exact fun bb hb => fM2 bb hb
set_option maxRecDepth 20000 in
theorem w_FM_hourEnds_J46 (a : Nat) (h : Int32) (c : Int32) (M : gM) (R : gM) (hr : FM_hourEnds_J46 a h c M = some R) : ∀ bb, ¬ (bb = a) → R bb = M bb := by
  unfold FM_hourEnds_J46 at hr
  obtain ⟨j1, ej1, ij1, lj1, hr⟩ := g_ixo hr
  obtain ⟨M2, mM2, hr⟩ := g_leto hr
  have fM2 : ∀ bb, ¬ (bb = a) → M2 bb = M bb := fun bb hb => by rw [mM2]; exact (g_set_ne (by omega))
  obtain ⟨M3, mM3, hr⟩ := g_leto hr
  have fM3 : ∀ bb, ¬ (bb = a) → M3 bb = M bb := fun bb hb => by rw [mM3]; exact (g_set_ne (by omega)).trans (fM2 bb hb)
  obtain ⟨M4, mM4, hr⟩ := g_leto hr
  have fM4 : ∀ bb, ¬ (bb = a) → M4 bb = M bb := fun bb hb => by rw [mM4]; exact (g_set_ne (by omega)).trans (fM3 bb hb)
  rcases g_ifo hr with ⟨h5, hr⟩ | ⟨h5, hr⟩
  ·
    exact fun bb hb => (w_FM_hourEnds_J85 a h c (0 : Int32) (40 : Int32) M4 _ hr bb hb).trans (fM4 bb hb)
  ·
    exact fun bb hb => (w_FM_hourEnds_J85 a h c (h + (1 : Int32)) (40 : Int32) M4 _ hr bb hb).trans (fM4 bb hb)
set_option maxRecDepth 20000 in
theorem w_FM_hourEnds (a : Nat) (h : Int32) (c : Int32) (M : gM) (R : gM) (hr : FM_hourEnds a h c M = some R) : ∀ bb, ¬ (bb = a) → R bb = M bb := by
  unfold FM_hourEnds at hr
  obtain ⟨j1, ej1, ij1, lj1, hr⟩ := g_ixo hr
  obtain ⟨M2, mM2, hr⟩ := g_leto hr
  have fM2 : ∀ bb, ¬ (bb = a) → M2 bb = M bb := fun bb hb => by rw [mM2]; exact (g_set_ne (by omega))
  rcases g_ifo hr with ⟨h3, hr⟩ | ⟨h3, hr⟩
  ·
    exact fun bb hb => (w_FM_hourEnds_J46 a h c M2 _ hr bb hb).trans (fM2 bb hb)
  ·
    obtain ⟨j4, ej4, ij4, lj4, hr⟩ := g_ixo hr
    obtain ⟨j5, ej5, ij5, lj5, hr⟩ := g_ixo hr
    obtain ⟨M6, mM6, hr⟩ := g_leto hr
    have fM6 : ∀ bb, ¬ (bb = a) → M6 bb = M bb := fun bb hb => by rw [mM6]; exact (g_set_ne (by omega)).trans (fM2 bb hb)
    obtain ⟨M7, mM7, hr⟩ := g_leto hr
    have fM7 : ∀ bb, ¬ (bb = a) → M7 bb = M bb := fun bb hb => by rw [mM7]; exact (g_set_ne (by omega)).trans (fM6 bb hb)
    exact fun bb hb => (w_FM_hourEnds_J46 a h c M7 _ hr bb hb).trans (fM7 bb hb)
set_option maxRecDepth 20000 in
theorem w_FM_rolls (a : Nat) (longer : Int32) (M : gM) (R : Int32 × gM) (hr : FM_rolls a longer M = some R) : ∀ bb, ¬ ((847 ≤ bb ∧ bb ≤ 848) ∨ bb = a) → R.2 bb = M bb := by
  unfold FM_rolls at hr
  obtain ⟨j1, ej1, ij1, lj1, hr⟩ := g_ixo hr
  obtain ⟨s2, es2, hr⟩ := g_bd hr
  have fs2_2 : ∀ bb, ¬ ((847 ≤ bb ∧ bb ≤ 848) ∨ bb = a) → s2.2 bb = M bb := fun bb hb => (w_FM_minutesOf a (M a 41) (M a j1) (M a 40) M _ es2 bb (by omega))
  obtain ⟨j3, ej3, ij3, lj3, hr⟩ := g_ixo hr
  obtain ⟨j4, ej4, ij4, lj4, hr⟩ := g_ixo hr
  obtain ⟨M5, mM5, hr⟩ := g_leto hr
  have fM5 : ∀ bb, ¬ ((847 ≤ bb ∧ bb ≤ 848) ∨ bb = a) → M5 bb = M bb := fun bb hb => by rw [mM5]; exact (g_set_ne (by omega)).trans (fs2_2 bb hb)
  obtain ⟨M6, mM6, hr⟩ := g_leto hr
  have fM6 : ∀ bb, ¬ ((847 ≤ bb ∧ bb ≤ 848) ∨ bb = a) → M6 bb = M bb := fun bb hb => by rw [mM6]; exact (g_set_ne (by omega)).trans (fM5 bb hb)
  obtain ⟨M7, mM7, hr⟩ := g_leto hr
  have fM7 : ∀ bb, ¬ ((847 ≤ bb ∧ bb ≤ 848) ∨ bb = a) → M7 bb = M bb := fun bb hb => by rw [mM7]; exact (g_set_ne (by omega)).trans (fM6 bb hb)
  obtain ⟨M8, mM8, hr⟩ := g_leto hr
  have fM8 : ∀ bb, ¬ ((847 ≤ bb ∧ bb ≤ 848) ∨ bb = a) → M8 bb = M bb := fun bb hb => by rw [mM8]; exact (g_set_ne (by omega)).trans (fM7 bb hb)
  obtain ⟨M9, mM9, hr⟩ := g_leto hr
  have fM9 : ∀ bb, ¬ ((847 ≤ bb ∧ bb ≤ 848) ∨ bb = a) → M9 bb = M bb := fun bb hb => by rw [mM9]; exact (g_set_ne (by omega)).trans (fM8 bb hb)
  rcases g_ifo hr with ⟨h10, hr⟩ | ⟨h10, hr⟩
  ·
    obtain ⟨s11, es11, hr⟩ := g_bd hr
    have fs11 : ∀ bb, ¬ ((847 ≤ bb ∧ bb ≤ 848) ∨ bb = a) → s11 bb = M bb := fun bb hb => (w_FM_hourEnds a (M a 40) (M a j1) M9 _ es11 bb (by omega)).trans (fM9 bb hb)
    cases hr; exact fun bb hb => fs11 bb hb
  ·
    cases hr; exact fun bb hb => fM9 bb hb
set_option maxRecDepth 20000 in
theorem w_FM_does (a : Nat) (b : Nat) (M : gM) (R : Int32 × gM) (hr : FM_does a b M = some R) : ∀ bb, ¬ ((847 ≤ bb ∧ bb ≤ 848) ∨ bb = a) → R.2 bb = M bb := by
  unfold FM_does at hr
  rcases g_ifo hr with ⟨h1, hr⟩ | ⟨h1, hr⟩
  ·
    obtain ⟨j2, ej2, ij2, lj2, hr⟩ := g_ixo hr
    rcases g_ifo hr with ⟨h3, hr⟩ | ⟨h3, hr⟩
    ·
      cases hr; exact fun bb hb => rfl
    ·
      obtain ⟨j4, ej4, ij4, lj4, hr⟩ := g_ixo hr
      obtain ⟨M5, mM5, hr⟩ := g_leto hr
      have fM5 : ∀ bb, ¬ ((847 ≤ bb ∧ bb ≤ 848) ∨ bb = a) → M5 bb = M bb := fun bb hb => by rw [mM5]; exact (g_set_ne (by omega))
      cases hr; exact fun bb hb => fM5 bb hb
  rcases g_ifo hr with ⟨h6, hr⟩ | ⟨h6, hr⟩
  ·
    rcases g_ifo hr with ⟨h7, hr⟩ | ⟨h7, hr⟩
    ·
      cases hr; exact fun bb hb => rfl
    ·
      obtain ⟨s8, es8, hr⟩ := g_bd hr
      rcases g_ifo hr with ⟨h10, hr⟩ | ⟨h10, hr⟩
      ·
        cases hr; exact fun bb hb => rfl
      ·
        obtain ⟨s11, es11, hr⟩ := g_bd hr
        have fs11_2 : ∀ bb, ¬ ((847 ≤ bb ∧ bb ≤ 848) ∨ bb = a) → s11.2 bb = M bb := fun bb hb => (w_FM_rolls a (0 : Int32) M _ es11 bb (by omega))
        cases hr; exact fun bb hb => fs11_2 bb hb
  rcases g_ifo hr with ⟨h12, hr⟩ | ⟨h12, hr⟩
  ·
    obtain ⟨M13, mM13, hr⟩ := g_leto hr
    have fM13 : ∀ bb, ¬ ((847 ≤ bb ∧ bb ≤ 848) ∨ bb = a) → M13 bb = M bb := fun bb hb => by rw [mM13]; exact (g_set_ne (by omega))
    cases hr; exact fun bb hb => fM13 bb hb
  rcases g_ifo hr with ⟨h14, hr⟩ | ⟨h14, hr⟩
  ·
    obtain ⟨j15, ej15, ij15, lj15, hr⟩ := g_ixo hr
    rcases g_ifo hr with ⟨h16, hr⟩ | ⟨h16, hr⟩
    ·
      cases hr; exact fun bb hb => rfl
    ·
      obtain ⟨j17, ej17, ij17, lj17, hr⟩ := g_ixo hr
      obtain ⟨M18, mM18, hr⟩ := g_leto hr
      have fM18 : ∀ bb, ¬ ((847 ≤ bb ∧ bb ≤ 848) ∨ bb = a) → M18 bb = M bb := fun bb hb => by rw [mM18]; exact (g_set_ne (by omega))
      cases hr; exact fun bb hb => fM18 bb hb
  obtain ⟨j19, ej19, ij19, lj19, hr⟩ := g_ixo hr
  rcases g_ifo hr with ⟨h20, hr⟩ | ⟨h20, hr⟩
  ·
    cases hr; exact fun bb hb => rfl
  ·
    obtain ⟨j21, ej21, ij21, lj21, hr⟩ := g_ixo hr
    obtain ⟨j22, ej22, ij22, lj22, hr⟩ := g_ixo hr
    obtain ⟨M23, mM23, hr⟩ := g_leto hr
    have fM23 : ∀ bb, ¬ ((847 ≤ bb ∧ bb ≤ 848) ∨ bb = a) → M23 bb = M bb := fun bb hb => by rw [mM23]; exact (g_set_ne (by omega))
    cases hr; exact fun bb hb => fM23 bb hb
set_option maxRecDepth 20000 in
theorem w_FM_goes_J120 (p : Int32) (q : Int32) (rgoes : Int32 → Int32 → gM → Option (gM)) (grgoes : ∀ (v1 : Int32) (v2 : Int32) (M : gM) (R : gM), rgoes v1 v2 M = some R → ∀ bb, ¬ (bb = 464 ∨ (847 ≤ bb ∧ bb ≤ 848) ∨ bb = 930) → R bb = M bb) (c2 : Int32 → gM → Option (gM)) (gc2 : ∀ (x3 : Int32) (M : gM) (R : gM), c2 x3 M = some R → ∀ bb, ¬ (bb = 464 ∨ (847 ≤ bb ∧ bb ≤ 848) ∨ bb = 930) → R bb = M bb) (x3 : Int32) (x4 : Int32) (y0 : Int32) (y1 : Int32) (M : gM) (R : gM) (hr : FM_goes_J120 p q rgoes c2 x3 x4 y0 y1 M = some R) : ∀ bb, ¬ (bb = 464 ∨ (847 ≤ bb ∧ bb ≤ 848) ∨ bb = 930) → R bb = M bb := by
  unfold FM_goes_J120 at hr
  rcases g_ifo hr with ⟨h1, hr⟩ | ⟨h1, hr⟩
  ·
    obtain ⟨j2, ej2, ij2, lj2, hr⟩ := g_ixo hr
    exact fun bb hb => (gc2 ((g_set (g_set M 464 40 (y1 + y0)) 464 35 ((M 464 35) + (1 : Int32))) (850 + j2) 3) (g_set (g_set M 464 40 (y1 + y0)) 464 35 ((M 464 35) + (1 : Int32))) _ hr bb hb).trans ((g_set_ne (by omega)).trans ((g_set_ne (by omega))))
  ·
    obtain ⟨j3, ej3, ij3, lj3, hr⟩ := g_ixo hr
    exact fun bb hb => (gc2 ((g_set (g_set M 464 40 (y1 + y0)) 464 35 ((M 464 35) + (0 : Int32))) (850 + j3) 3) (g_set (g_set M 464 40 (y1 + y0)) 464 35 ((M 464 35) + (0 : Int32))) _ hr bb hb).trans ((g_set_ne (by omega)).trans ((g_set_ne (by omega))))
set_option maxRecDepth 20000 in
theorem w_FM_goes_L42 (p : Int32) (q : Int32) (rgoes : Int32 → Int32 → gM → Option (gM)) (grgoes : ∀ (v1 : Int32) (v2 : Int32) (M : gM) (R : gM), rgoes v1 v2 M = some R → ∀ bb, ¬ (bb = 464 ∨ (847 ≤ bb ∧ bb ≤ 848) ∨ bb = 930) → R bb = M bb) (c2 : Int32 → gM → Option (gM)) (gc2 : ∀ (x3 : Int32) (M : gM) (R : gM), c2 x3 M = some R → ∀ bb, ¬ (bb = 464 ∨ (847 ≤ bb ∧ bb ≤ 848) ∨ bb = 930) → R bb = M bb) : ∀ (k : Nat) (x3 : Int32) (x4 : Int32) (M : gM) (R : gM), FM_goes_L42 p q rgoes c2 k x3 x4 M = some R → ∀ bb, ¬ (bb = 464 ∨ (847 ≤ bb ∧ bb ≤ 848) ∨ bb = 930) → R bb = M bb := by
  intro k
  induction k with
  | zero => intro x3 x4 M R hr; exact nomatch (show (none : Option (gM)) = some R from hr)
  | succ k ih =>
    intro x3 x4 M R hr
    unfold FM_goes_L42 at hr
    obtain ⟨j1, ej1, ij1, lj1, hr⟩ := g_ixo hr
    rcases g_ifo hr with ⟨h2, hr⟩ | ⟨h2, hr⟩
    ·
      obtain ⟨j3, ej3, ij3, lj3, hr⟩ := g_ixo hr
      exact fun bb hb => (gc2 (M (850 + j3) 3) M _ hr bb hb)
    ·
      rcases g_ifo hr with ⟨h4, hr⟩ | ⟨h4, hr⟩
      ·
        obtain ⟨j5, ej5, ij5, lj5, hr⟩ := g_ixo hr
        exact fun bb hb => (gc2 (M (850 + j5) 3) M _ hr bb hb)
      ·
        obtain ⟨j6, ej6, ij6, lj6, hr⟩ := g_ixo hr
        obtain ⟨s7, es7, hr⟩ := g_bd hr
        have fs7 : ∀ bb, ¬ (bb = 464 ∨ (847 ≤ bb ∧ bb ≤ 848) ∨ bb = 930) → s7 bb = M bb := fun bb hb => (grgoes (x3 + (1 : Int32)) (M (850 + j6) 3) M _ es7 bb hb)
        exact fun bb hb => (ih x3 (x4 + (1 : Int32)) s7 _ hr bb hb).trans (fs7 bb hb)
set_option maxRecDepth 20000 in
theorem w_FM_goes_L2 (p : Int32) (q : Int32) (rgoes : Int32 → Int32 → gM → Option (gM)) (grgoes : ∀ (v1 : Int32) (v2 : Int32) (M : gM) (R : gM), rgoes v1 v2 M = some R → ∀ bb, ¬ (bb = 464 ∨ (847 ≤ bb ∧ bb ≤ 848) ∨ bb = 930) → R bb = M bb) : ∀ (k : Nat) (x3 : Int32) (M : gM) (R : gM), FM_goes_L2 p q rgoes k x3 M = some R → ∀ bb, ¬ (bb = 464 ∨ (847 ≤ bb ∧ bb ≤ 848) ∨ bb = 930) → R bb = M bb := by
  intro k
  induction k with
  | zero => intro x3 M R hr; exact nomatch (show (none : Option (gM)) = some R from hr)
  | succ k ih =>
    intro x3 M R hr
    unfold FM_goes_L2 at hr
    rcases g_ifo hr with ⟨h1, hr⟩ | ⟨h1, hr⟩
    ·
      cases hr; exact fun bb hb => rfl
    ·
      rcases g_ifo hr with ⟨h2, hr⟩ | ⟨h2, hr⟩
      ·
        cases hr; exact fun bb hb => rfl
      ·
        obtain ⟨j3, ej3, ij3, lj3, hr⟩ := g_ixo hr
        rcases g_ifo hr with ⟨h4, hr⟩ | ⟨h4, hr⟩
        ·
          exact fun bb hb => (w_FM_goes_L42 p q rgoes grgoes (FM_goes_L2 p q rgoes k) ih 1000 x3 (0 : Int32) (g_set M 464 39 ((M 464 39) + (1 : Int32))) _ hr bb hb).trans ((g_set_ne (by omega)))
        ·
          obtain ⟨j5, ej5, ij5, lj5, hr⟩ := g_ixo hr
          obtain ⟨s6, es6, hr⟩ := g_bd hr
          have fs6_2 : ∀ bb, ¬ (bb = 464 ∨ (847 ≤ bb ∧ bb ≤ 848) ∨ bb = 930) → s6.2 bb = M bb := fun bb hb => (w_FM_does 930 (850 + j5) (g_set M 464 39 ((M 464 39) + (1 : Int32))) _ es6 bb (by omega)).trans ((g_set_ne (by omega)))
          rcases g_ifo hr with ⟨h8, hr⟩ | ⟨h8, hr⟩
          ·
            exact fun bb hb => (w_FM_goes_J120 p q rgoes grgoes (FM_goes_L2 p q rgoes k) ih x3 s6.1 (0 : Int32) ((s6.2) 464 40) (s6.2) _ hr bb hb).trans (fs6_2 bb hb)
          ·
            exact fun bb hb => (w_FM_goes_J120 p q rgoes grgoes (FM_goes_L2 p q rgoes k) ih x3 s6.1 (1 : Int32) ((s6.2) 464 40) (s6.2) _ hr bb hb).trans (fs6_2 bb hb)
set_option maxRecDepth 20000 in
theorem w_FM_goes_B (rgoes : Int32 → Int32 → gM → Option (gM)) (grgoes : ∀ (v1 : Int32) (v2 : Int32) (M : gM) (R : gM), rgoes v1 v2 M = some R → ∀ bb, ¬ (bb = 464 ∨ (847 ≤ bb ∧ bb ≤ 848) ∨ bb = 930) → R bb = M bb) (p : Int32) (q : Int32) (M : gM) (R : gM) (hr : FM_goes_B rgoes p q M = some R) : ∀ bb, ¬ (bb = 464 ∨ (847 ≤ bb ∧ bb ≤ 848) ∨ bb = 930) → R bb = M bb := by
  unfold FM_goes_B at hr
  exact fun bb hb => (w_FM_goes_L2 p q rgoes grgoes 1000 p M _ hr bb hb)
theorem w_FM_going : ∀ f : Nat, (∀ (p : Int32) (q : Int32) (M : gM) (R : gM), FM_goes f p q M = some R → ∀ bb, ¬ (bb = 464 ∨ (847 ≤ bb ∧ bb ≤ 848) ∨ bb = 930) → R bb = M bb) := by
  intro f
  induction f with
  | zero => exact fun _ _ M R hr => (nomatch (show (none : Option (gM)) = some R from hr))
  | succ f ih => exact fun p q M R hr => w_FM_goes_B (FM_goes f) (fun v1 v2 M R hr => ih v1 v2 M R hr) p q M R hr
theorem w_FM_goes (f : Nat) (p : Int32) (q : Int32) (M : gM) (R : gM) (hr : FM_goes f p q M = some R) : ∀ bb, ¬ (bb = 464 ∨ (847 ≤ bb ∧ bb ≤ 848) ∨ bb = 930) → R bb = M bb := (w_FM_going f) p q M R hr
set_option maxRecDepth 20000 in
theorem w_FM_work_J101 (n : Int32) (M : gM) (R : Int32 × gM) (hr : FM_work_J101 n M = some R) : ∀ bb, ¬ (bb = 464 ∨ bb = 466 ∨ (847 ≤ bb ∧ bb ≤ 848) ∨ (850 ≤ bb ∧ bb ≤ 930) ∨ (933 ≤ bb ∧ bb ≤ 948)) → R.2 bb = M bb := by
  unfold FM_work_J101 at hr
  rcases g_ifo hr with ⟨h1, hr⟩ | ⟨h1, hr⟩
  ·
    obtain ⟨j2, ej2, ij2, lj2, hr⟩ := g_ixo hr
    obtain ⟨s3, es3, hr⟩ := g_bd hr
    have fs3 : ∀ bb, ¬ (bb = 464 ∨ bb = 466 ∨ (847 ≤ bb ∧ bb ≤ 848) ∨ (850 ≤ bb ∧ bb ≤ 930) ∨ (933 ≤ bb ∧ bb ≤ 948)) → s3 bb = M bb := fun bb hb => (w_FM_copies 930 (933 + j2) (g_set M 464 3 (-1 : Int32)) _ es3 bb (by omega)).trans ((g_set_ne (by omega)))
    obtain ⟨s4, es4, hr⟩ := g_bd hr
    have fs4 : ∀ bb, ¬ (bb = 464 ∨ bb = 466 ∨ (847 ≤ bb ∧ bb ≤ 848) ∨ (850 ≤ bb ∧ bb ≤ 930) ∨ (933 ≤ bb ∧ bb ≤ 948)) → s4 bb = M bb := fun bb hb => (w_FM_goes 12 (0 : Int32) (s3 464 28) (g_set (g_set (g_set (g_set s3 464 34 ((s3 464 34) + (1 : Int32))) 464 39 (0 : Int32)) 464 40 (0 : Int32)) 464 35 (0 : Int32)) _ es4 bb (by omega)).trans ((g_set_ne (by omega)).trans ((g_set_ne (by omega)).trans ((g_set_ne (by omega)).trans ((g_set_ne (by omega)).trans (fs3 bb hb)))))
    cases hr; exact fun bb hb => fs4 bb hb
  ·
    obtain ⟨s5, es5, hr⟩ := g_bd hr
    have fs5_2 : ∀ bb, ¬ (bb = 464 ∨ bb = 466 ∨ (847 ≤ bb ∧ bb ≤ 848) ∨ (850 ≤ bb ∧ bb ≤ 930) ∨ (933 ≤ bb ∧ bb ≤ 948)) → s5.2 bb = M bb := fun bb hb => (w_FM_ends M _ es5 bb (by omega))
    cases hr; exact fun bb hb => fs5_2 bb hb
set_option maxRecDepth 20000 in
theorem w_FM_work_L72 (n : Int32) : ∀ (k : Nat) (M : gM) (R : Int32 × gM), FM_work_L72 n k M = some R → ∀ bb, ¬ (bb = 464 ∨ bb = 466 ∨ (847 ≤ bb ∧ bb ≤ 848) ∨ (850 ≤ bb ∧ bb ≤ 930) ∨ (933 ≤ bb ∧ bb ≤ 948)) → R.2 bb = M bb := by
  intro k
  induction k with
  | zero => intro  M R hr; exact nomatch (show (none : Option (Int32 × gM)) = some R from hr)
  | succ k ih =>
    intro  M R hr
    unfold FM_work_L72 at hr
    rcases g_ifo hr with ⟨h1, hr⟩ | ⟨h1, hr⟩
    ·
      rcases g_ifo hr with ⟨h2, hr⟩ | ⟨h2, hr⟩
      ·
        exact fun bb hb => (w_FM_work_J101 n M _ hr bb hb)
      ·
        obtain ⟨s3, es3, hr⟩ := g_bd hr
        have fs3 : ∀ bb, ¬ (bb = 464 ∨ bb = 466 ∨ (847 ≤ bb ∧ bb ≤ 848) ∨ (850 ≤ bb ∧ bb ≤ 930) ∨ (933 ≤ bb ∧ bb ≤ 948)) → s3 bb = M bb := fun bb hb => (w_FM_readsStep 10 M _ es3 bb (by omega))
        obtain ⟨s4, es4, hr⟩ := g_bd hr
        have fs4 : ∀ bb, ¬ (bb = 464 ∨ bb = 466 ∨ (847 ≤ bb ∧ bb ≤ 848) ∨ (850 ≤ bb ∧ bb ≤ 930) ∨ (933 ≤ bb ∧ bb ≤ 948)) → s4 bb = M bb := fun bb hb => (w_FM_blanks s3 _ es4 bb (by omega)).trans (fs3 bb hb)
        exact fun bb hb => (ih s4 _ hr bb hb).trans (fs4 bb hb)
    ·
      exact fun bb hb => (w_FM_work_J101 n M _ hr bb hb)
set_option maxRecDepth 20000 in
theorem w_FM_work_J30 (n : Int32) (y0 : Int32) (M : gM) (R : Int32 × gM) (hr : FM_work_J30 n y0 M = some R) : ∀ bb, ¬ (bb = 464 ∨ bb = 466 ∨ (847 ≤ bb ∧ bb ≤ 848) ∨ (850 ≤ bb ∧ bb ≤ 930) ∨ (933 ≤ bb ∧ bb ≤ 948)) → R.2 bb = M bb := by
  unfold FM_work_J30 at hr
  obtain ⟨s1, es1, hr⟩ := g_bd hr
  have fs1_2 : ∀ bb, ¬ (bb = 464 ∨ bb = 466 ∨ (847 ≤ bb ∧ bb ≤ 848) ∨ (850 ≤ bb ∧ bb ≤ 930) ∨ (933 ≤ bb ∧ bb ≤ 948)) → s1.2 bb = M bb := fun bb hb => (w_FM_bad y0 (1 : Int32) (1 : Int32) M _ es1 bb (by omega))
  rcases g_ifo hr with ⟨h3, hr⟩ | ⟨h3, hr⟩
  ·
    rcases g_ifo hr with ⟨h4, hr⟩ | ⟨h4, hr⟩
    ·
      cases hr; exact fun bb hb => (g_set_ne (by omega)).trans ((g_set_ne (by omega)).trans (fs1_2 bb hb))
    ·
      obtain ⟨s5, es5, hr⟩ := g_bd hr
      have fs5 : ∀ bb, ¬ (bb = 464 ∨ bb = 466 ∨ (847 ≤ bb ∧ bb ≤ 848) ∨ (850 ≤ bb ∧ bb ≤ 930) ∨ (933 ≤ bb ∧ bb ≤ 948)) → s5 bb = M bb := fun bb hb => (w_FM_starts n (s1.2) _ es5 bb (by omega)).trans (fs1_2 bb hb)
      exact fun bb hb => (w_FM_work_L72 n 1000 (g_set s5 464 28 (0 : Int32)) _ hr bb hb).trans ((g_set_ne (by omega)).trans (fs5 bb hb))
  ·
    cases hr; exact fun bb hb => fs1_2 bb hb
set_option maxRecDepth 20000 in
theorem w_FM_work_J25 (n : Int32) (M : gM) (R : Int32 × gM) (hr : FM_work_J25 n M = some R) : ∀ bb, ¬ (bb = 464 ∨ bb = 466 ∨ (847 ≤ bb ∧ bb ≤ 848) ∨ (850 ≤ bb ∧ bb ≤ 930) ∨ (933 ≤ bb ∧ bb ≤ 948)) → R.2 bb = M bb := by
  unfold FM_work_J25 at hr
  exact fun bb hb => (w_FM_work_J30 n (1 : Int32) M _ hr bb hb)
set_option maxRecDepth 20000 in
theorem w_FM_work (n : Int32) (M : gM) (R : Int32 × gM) (hr : FM_work n M = some R) : ∀ bb, ¬ (bb = 464 ∨ bb = 466 ∨ (847 ≤ bb ∧ bb ≤ 848) ∨ (850 ≤ bb ∧ bb ≤ 930) ∨ (933 ≤ bb ∧ bb ≤ 948)) → R.2 bb = M bb := by
  unfold FM_work at hr
  rcases g_ifo hr with ⟨h3, hr⟩ | ⟨h3, hr⟩
  ·
    exact fun bb hb => (w_FM_work_J25 n (g_set M 464 0 (0 : Int32)) _ hr bb hb).trans ((g_set_ne (by omega)))
  ·
    rcases g_ifo hr with ⟨h4, hr⟩ | ⟨h4, hr⟩
    ·
      exact fun bb hb => (w_FM_work_J30 n (0 : Int32) (g_set M 464 0 (0 : Int32)) _ hr bb hb).trans ((g_set_ne (by omega)))
    ·
      exact fun bb hb => (w_FM_work_J25 n (g_set M 464 0 (0 : Int32)) _ hr bb hb).trans ((g_set_ne (by omega)))
set_option maxRecDepth 20000 in
theorem w_FM_undo  (M : gM) (R : Int32 × gM) (hr : FM_undo M = some R) : ∀ bb, ¬ (bb = 464 ∨ bb = 930) → R.2 bb = M bb := by
  unfold FM_undo at hr
  rcases g_ifo hr with ⟨h1, hr⟩ | ⟨h1, hr⟩
  ·
    cases hr; exact fun bb hb => (g_set_ne (by omega))
  ·
    obtain ⟨j2, ej2, ij2, lj2, hr⟩ := g_ixo hr
    obtain ⟨s3, es3, hr⟩ := g_bd hr
    have fs3 : ∀ bb, ¬ (bb = 464 ∨ bb = 930) → s3 bb = M bb := fun bb hb => (w_FM_copies (933 + j2) 930 (g_set (g_set M 464 0 (0 : Int32)) 464 34 ((M 464 34) - (1 : Int32))) _ es3 bb (by omega)).trans ((g_set_ne (by omega)).trans ((g_set_ne (by omega))))
    cases hr; exact fun bb hb => (g_set_ne (by omega)).trans (fs3 bb hb)
set_option maxRecDepth 20000 in
theorem w_FM_told_J21 (what : Int32) (y0 : Int32) (M : gM) (R : Int32 × gM) (hr : FM_told_J21 what y0 M = some R) : ∀ bb, ¬ (bb = 464 ∨ bb = 466) → R.2 bb = M bb := by
  unfold FM_told_J21 at hr
  obtain ⟨s1, es1, hr⟩ := g_bd hr
  have fs1_2 : ∀ bb, ¬ (bb = 464 ∨ bb = 466) → s1.2 bb = M bb := fun bb hb => (w_FM_bad y0 (1 : Int32) (1 : Int32) M _ es1 bb (by omega))
  rcases g_ifo hr with ⟨h3, hr⟩ | ⟨h3, hr⟩
  ·
    rcases g_ifo hr with ⟨h4, hr⟩ | ⟨h4, hr⟩
    ·
      obtain ⟨j5, ej5, ij5, lj5, hr⟩ := g_ixo hr
      cases hr; exact fun bb hb => fs1_2 bb hb
    rcases g_ifo hr with ⟨h6, hr⟩ | ⟨h6, hr⟩
    ·
      obtain ⟨j7, ej7, ij7, lj7, hr⟩ := g_ixo hr
      cases hr; exact fun bb hb => fs1_2 bb hb
    rcases g_ifo hr with ⟨h8, hr⟩ | ⟨h8, hr⟩
    ·
      obtain ⟨j9, ej9, ij9, lj9, hr⟩ := g_ixo hr
      cases hr; exact fun bb hb => fs1_2 bb hb
    rcases g_ifo hr with ⟨h10, hr⟩ | ⟨h10, hr⟩
    ·
      cases hr; exact fun bb hb => fs1_2 bb hb
    rcases g_ifo hr with ⟨h11, hr⟩ | ⟨h11, hr⟩
    ·
      cases hr; exact fun bb hb => fs1_2 bb hb
    rcases g_ifo hr with ⟨h12, hr⟩ | ⟨h12, hr⟩
    ·
      cases hr; exact fun bb hb => fs1_2 bb hb
    rcases g_ifo hr with ⟨h13, hr⟩ | ⟨h13, hr⟩
    ·
      cases hr; exact fun bb hb => fs1_2 bb hb
    rcases g_ifo hr with ⟨h14, hr⟩ | ⟨h14, hr⟩
    ·
      cases hr; exact fun bb hb => fs1_2 bb hb
    rcases g_ifo hr with ⟨h15, hr⟩ | ⟨h15, hr⟩
    ·
      cases hr; exact fun bb hb => fs1_2 bb hb
    rcases g_ifo hr with ⟨h16, hr⟩ | ⟨h16, hr⟩
    ·
      obtain ⟨s17, es17, hr⟩ := g_bd hr
      cases hr; exact fun bb hb => fs1_2 bb hb
    rcases g_ifo hr with ⟨h18, hr⟩ | ⟨h18, hr⟩
    ·
      cases hr; exact fun bb hb => fs1_2 bb hb
    rcases g_ifo hr with ⟨h19, hr⟩ | ⟨h19, hr⟩
    ·
      cases hr; exact fun bb hb => fs1_2 bb hb
    cases hr; exact fun bb hb => fs1_2 bb hb
  ·
    cases hr; exact fun bb hb => fs1_2 bb hb
set_option maxRecDepth 20000 in
theorem w_FM_told (what : Int32) (M : gM) (R : Int32 × gM) (hr : FM_told what M = some R) : ∀ bb, ¬ (bb = 464 ∨ bb = 466) → R.2 bb = M bb := by
  unfold FM_told at hr
  rcases g_ifo hr with ⟨h3, hr⟩ | ⟨h3, hr⟩
  ·
    exact fun bb hb => (w_FM_told_J21 what (1 : Int32) (g_set M 464 0 (0 : Int32)) _ hr bb hb).trans ((g_set_ne (by omega)))
  ·
    exact fun bb hb => (w_FM_told_J21 what (0 : Int32) (g_set M 464 0 (0 : Int32)) _ hr bb hb).trans ((g_set_ne (by omega)))
set_option maxRecDepth 20000 in
theorem w_FM_walk_J42 (w : Int32) (what : Int32) (y0 : Int32) (M : gM) (R : Int32 × gM) (hr : FM_walk_J42 w what y0 M = some R) : ∀ bb, ¬ (bb = 464 ∨ bb = 466) → R.2 bb = M bb := by
  unfold FM_walk_J42 at hr
  obtain ⟨s1, es1, hr⟩ := g_bd hr
  have fs1_2 : ∀ bb, ¬ (bb = 464 ∨ bb = 466) → s1.2 bb = M bb := fun bb hb => (w_FM_bad y0 (2 : Int32) (1 : Int32) M _ es1 bb (by omega))
  rcases g_ifo hr with ⟨h3, hr⟩ | ⟨h3, hr⟩
  ·
    obtain ⟨j4, ej4, ij4, lj4, hr⟩ := g_ixo hr
    obtain ⟨j5, ej5, ij5, lj5, hr⟩ := g_ixo hr
    cases hr; exact fun bb hb => fs1_2 bb hb
  ·
    cases hr; exact fun bb hb => fs1_2 bb hb
set_option maxRecDepth 20000 in
theorem w_FM_walk_J19 (w : Int32) (what : Int32) (y0 : Int32) (M : gM) (R : Int32 × gM) (hr : FM_walk_J19 w what y0 M = some R) : ∀ bb, ¬ (bb = 464 ∨ bb = 466) → R.2 bb = M bb := by
  unfold FM_walk_J19 at hr
  obtain ⟨s1, es1, hr⟩ := g_bd hr
  have fs1_2 : ∀ bb, ¬ (bb = 464 ∨ bb = 466) → s1.2 bb = M bb := fun bb hb => (w_FM_bad y0 (1 : Int32) (0 : Int32) M _ es1 bb (by omega))
  rcases g_ifo hr with ⟨h3, hr⟩ | ⟨h3, hr⟩
  ·
    rcases g_ifo hr with ⟨h6, hr⟩ | ⟨h6, hr⟩
    ·
      exact fun bb hb => (w_FM_walk_J42 w what (1 : Int32) (s1.2) _ hr bb hb).trans (fs1_2 bb hb)
    ·
      exact fun bb hb => (w_FM_walk_J42 w what (0 : Int32) (s1.2) _ hr bb hb).trans (fs1_2 bb hb)
  ·
    cases hr; exact fun bb hb => fs1_2 bb hb
set_option maxRecDepth 20000 in
theorem w_FM_walk (w : Int32) (what : Int32) (M : gM) (R : Int32 × gM) (hr : FM_walk w what M = some R) : ∀ bb, ¬ (bb = 464 ∨ bb = 466) → R.2 bb = M bb := by
  unfold FM_walk at hr
  rcases g_ifo hr with ⟨h3, hr⟩ | ⟨h3, hr⟩
  ·
    exact fun bb hb => (w_FM_walk_J19 w what (1 : Int32) (g_set M 464 0 (0 : Int32)) _ hr bb hb).trans ((g_set_ne (by omega)))
  ·
    exact fun bb hb => (w_FM_walk_J19 w what (0 : Int32) (g_set M 464 0 (0 : Int32)) _ hr bb hb).trans ((g_set_ne (by omega)))
set_option maxRecDepth 20000 in
theorem w_FM_child_L57 (c : Int32) (what : Int32) : ∀ (k : Nat) (x3 : Int32) (x4 : Int32) (M : gM) (R : Int32 × gM), FM_child_L57 c what k x3 x4 M = some R → ∀ bb, ¬ (bb = 464 ∨ bb = 466) → R.2 bb = M bb := by
  intro k
  induction k with
  | zero => intro x3 x4 M R hr; exact nomatch (show (none : Option (Int32 × gM)) = some R from hr)
  | succ k ih =>
    intro x3 x4 M R hr
    unfold FM_child_L57 at hr
    rcases g_ifo hr with ⟨h1, hr⟩ | ⟨h1, hr⟩
    ·
      rcases g_ifo hr with ⟨h2, hr⟩ | ⟨h2, hr⟩
      ·
        obtain ⟨j3, ej3, ij3, lj3, hr⟩ := g_ixo hr
        cases hr; exact fun bb hb => rfl
      rcases g_ifo hr with ⟨h4, hr⟩ | ⟨h4, hr⟩
      ·
        obtain ⟨j5, ej5, ij5, lj5, hr⟩ := g_ixo hr
        cases hr; exact fun bb hb => rfl
      rcases g_ifo hr with ⟨h6, hr⟩ | ⟨h6, hr⟩
      ·
        obtain ⟨j7, ej7, ij7, lj7, hr⟩ := g_ixo hr
        cases hr; exact fun bb hb => rfl
      rcases g_ifo hr with ⟨h8, hr⟩ | ⟨h8, hr⟩
      ·
        cases hr; exact fun bb hb => rfl
      obtain ⟨j9, ej9, ij9, lj9, hr⟩ := g_ixo hr
      obtain ⟨j10, ej10, ij10, lj10, hr⟩ := g_ixo hr
      cases hr; exact fun bb hb => rfl
    ·
      obtain ⟨j11, ej11, ij11, lj11, hr⟩ := g_ixo hr
      rcases g_ifo hr with ⟨h12, hr⟩ | ⟨h12, hr⟩
      ·
        exact fun bb hb => (ih (x3 ||| ((1 : Int32) <<< (x4 &&& 31))) (x4 + (1 : Int32)) M _ hr bb hb)
      ·
        exact fun bb hb => (ih (x3 ||| (0 : Int32)) (x4 + (1 : Int32)) M _ hr bb hb)
set_option maxRecDepth 20000 in
theorem w_FM_child_J42 (c : Int32) (what : Int32) (y0 : Int32) (M : gM) (R : Int32 × gM) (hr : FM_child_J42 c what y0 M = some R) : ∀ bb, ¬ (bb = 464 ∨ bb = 466) → R.2 bb = M bb := by
  unfold FM_child_J42 at hr
  obtain ⟨s1, es1, hr⟩ := g_bd hr
  have fs1_2 : ∀ bb, ¬ (bb = 464 ∨ bb = 466) → s1.2 bb = M bb := fun bb hb => (w_FM_bad y0 (2 : Int32) (1 : Int32) M _ es1 bb (by omega))
  rcases g_ifo hr with ⟨h3, hr⟩ | ⟨h3, hr⟩
  ·
    exact fun bb hb => (w_FM_child_L57 c what 1000 (0 : Int32) (0 : Int32) (s1.2) _ hr bb hb).trans (fs1_2 bb hb)
  ·
    cases hr; exact fun bb hb => fs1_2 bb hb
set_option maxRecDepth 20000 in
theorem w_FM_child_J19 (c : Int32) (what : Int32) (y0 : Int32) (M : gM) (R : Int32 × gM) (hr : FM_child_J19 c what y0 M = some R) : ∀ bb, ¬ (bb = 464 ∨ bb = 466) → R.2 bb = M bb := by
  unfold FM_child_J19 at hr
  obtain ⟨s1, es1, hr⟩ := g_bd hr
  have fs1_2 : ∀ bb, ¬ (bb = 464 ∨ bb = 466) → s1.2 bb = M bb := fun bb hb => (w_FM_bad y0 (1 : Int32) (0 : Int32) M _ es1 bb (by omega))
  rcases g_ifo hr with ⟨h3, hr⟩ | ⟨h3, hr⟩
  ·
    rcases g_ifo hr with ⟨h6, hr⟩ | ⟨h6, hr⟩
    ·
      exact fun bb hb => (w_FM_child_J42 c what (1 : Int32) (s1.2) _ hr bb hb).trans (fs1_2 bb hb)
    ·
      exact fun bb hb => (w_FM_child_J42 c what (0 : Int32) (s1.2) _ hr bb hb).trans (fs1_2 bb hb)
  ·
    cases hr; exact fun bb hb => fs1_2 bb hb
set_option maxRecDepth 20000 in
theorem w_FM_child (c : Int32) (what : Int32) (M : gM) (R : Int32 × gM) (hr : FM_child c what M = some R) : ∀ bb, ¬ (bb = 464 ∨ bb = 466) → R.2 bb = M bb := by
  unfold FM_child at hr
  rcases g_ifo hr with ⟨h3, hr⟩ | ⟨h3, hr⟩
  ·
    exact fun bb hb => (w_FM_child_J19 c what (1 : Int32) (g_set M 464 0 (0 : Int32)) _ hr bb hb).trans ((g_set_ne (by omega)))
  ·
    exact fun bb hb => (w_FM_child_J19 c what (0 : Int32) (g_set M 464 0 (0 : Int32)) _ hr bb hb).trans ((g_set_ne (by omega)))
set_option maxRecDepth 20000 in
theorem w_FM_hoop_J42 (h : Int32) (what : Int32) (y0 : Int32) (M : gM) (R : Int32 × gM) (hr : FM_hoop_J42 h what y0 M = some R) : ∀ bb, ¬ (bb = 464 ∨ bb = 466) → R.2 bb = M bb := by
  unfold FM_hoop_J42 at hr
  obtain ⟨s1, es1, hr⟩ := g_bd hr
  have fs1_2 : ∀ bb, ¬ (bb = 464 ∨ bb = 466) → s1.2 bb = M bb := fun bb hb => (w_FM_bad y0 (2 : Int32) (1 : Int32) M _ es1 bb (by omega))
  rcases g_ifo hr with ⟨h3, hr⟩ | ⟨h3, hr⟩
  ·
    rcases g_ifo hr with ⟨h4, hr⟩ | ⟨h4, hr⟩
    ·
      obtain ⟨j8, ej8, ij8, lj8, hr⟩ := g_ixo hr
      cases hr; exact fun bb hb => fs1_2 bb hb
    ·
      rcases g_ifo hr with ⟨h5, hr⟩ | ⟨h5, hr⟩
      ·
        obtain ⟨j7, ej7, ij7, lj7, hr⟩ := g_ixo hr
        cases hr; exact fun bb hb => fs1_2 bb hb
      ·
        obtain ⟨j6, ej6, ij6, lj6, hr⟩ := g_ixo hr
        cases hr; exact fun bb hb => fs1_2 bb hb
  ·
    cases hr; exact fun bb hb => fs1_2 bb hb
set_option maxRecDepth 20000 in
theorem w_FM_hoop_J19 (h : Int32) (what : Int32) (y0 : Int32) (M : gM) (R : Int32 × gM) (hr : FM_hoop_J19 h what y0 M = some R) : ∀ bb, ¬ (bb = 464 ∨ bb = 466) → R.2 bb = M bb := by
  unfold FM_hoop_J19 at hr
  obtain ⟨s1, es1, hr⟩ := g_bd hr
  have fs1_2 : ∀ bb, ¬ (bb = 464 ∨ bb = 466) → s1.2 bb = M bb := fun bb hb => (w_FM_bad y0 (1 : Int32) (0 : Int32) M _ es1 bb (by omega))
  rcases g_ifo hr with ⟨h3, hr⟩ | ⟨h3, hr⟩
  ·
    rcases g_ifo hr with ⟨h6, hr⟩ | ⟨h6, hr⟩
    ·
      exact fun bb hb => (w_FM_hoop_J42 h what (1 : Int32) (s1.2) _ hr bb hb).trans (fs1_2 bb hb)
    ·
      exact fun bb hb => (w_FM_hoop_J42 h what (0 : Int32) (s1.2) _ hr bb hb).trans (fs1_2 bb hb)
  ·
    cases hr; exact fun bb hb => fs1_2 bb hb
set_option maxRecDepth 20000 in
theorem w_FM_hoop (h : Int32) (what : Int32) (M : gM) (R : Int32 × gM) (hr : FM_hoop h what M = some R) : ∀ bb, ¬ (bb = 464 ∨ bb = 466) → R.2 bb = M bb := by
  unfold FM_hoop at hr
  rcases g_ifo hr with ⟨h3, hr⟩ | ⟨h3, hr⟩
  ·
    exact fun bb hb => (w_FM_hoop_J19 h what (1 : Int32) (g_set M 464 0 (0 : Int32)) _ hr bb hb).trans ((g_set_ne (by omega)))
  ·
    exact fun bb hb => (w_FM_hoop_J19 h what (0 : Int32) (g_set M 464 0 (0 : Int32)) _ hr bb hb).trans ((g_set_ne (by omega)))
set_option maxRecDepth 20000 in
theorem w_FM_minutes_J35 (w : Int32) (c : Int32) (h : Int32) (y0 : Int32) (M : gM) (R : Int32 × gM) (hr : FM_minutes_J35 w c h y0 M = some R) : ∀ bb, ¬ (bb = 464 ∨ bb = 466 ∨ (847 ≤ bb ∧ bb ≤ 848)) → R.2 bb = M bb := by
  unfold FM_minutes_J35 at hr
  obtain ⟨s1, es1, hr⟩ := g_bd hr
  have fs1_2 : ∀ bb, ¬ (bb = 464 ∨ bb = 466 ∨ (847 ≤ bb ∧ bb ≤ 848)) → s1.2 bb = M bb := fun bb hb => (w_FM_bad y0 (1 : Int32) (0 : Int32) M _ es1 bb (by omega))
  rcases g_ifo hr with ⟨h3, hr⟩ | ⟨h3, hr⟩
  ·
    obtain ⟨s4, es4, hr⟩ := g_bd hr
    have fs4_2 : ∀ bb, ¬ (bb = 464 ∨ bb = 466 ∨ (847 ≤ bb ∧ bb ≤ 848)) → s4.2 bb = M bb := fun bb hb => (w_FM_minutesOf 930 w c h (s1.2) _ es4 bb (by omega)).trans (fs1_2 bb hb)
    cases hr; exact fun bb hb => fs4_2 bb hb
  ·
    cases hr; exact fun bb hb => fs1_2 bb hb
set_option maxRecDepth 20000 in
theorem w_FM_minutes_J30 (w : Int32) (c : Int32) (h : Int32) (M : gM) (R : Int32 × gM) (hr : FM_minutes_J30 w c h M = some R) : ∀ bb, ¬ (bb = 464 ∨ bb = 466 ∨ (847 ≤ bb ∧ bb ≤ 848)) → R.2 bb = M bb := by
  unfold FM_minutes_J30 at hr
  exact fun bb hb => (w_FM_minutes_J35 w c h (1 : Int32) M _ hr bb hb)
set_option maxRecDepth 20000 in
theorem w_FM_minutes (w : Int32) (c : Int32) (h : Int32) (M : gM) (R : Int32 × gM) (hr : FM_minutes w c h M = some R) : ∀ bb, ¬ (bb = 464 ∨ bb = 466 ∨ (847 ≤ bb ∧ bb ≤ 848)) → R.2 bb = M bb := by
  unfold FM_minutes at hr
  rcases g_ifo hr with ⟨h3, hr⟩ | ⟨h3, hr⟩
  ·
    exact fun bb hb => (w_FM_minutes_J30 w c h (g_set M 464 0 (0 : Int32)) _ hr bb hb).trans ((g_set_ne (by omega)))
  ·
    rcases g_ifo hr with ⟨h6, hr⟩ | ⟨h6, hr⟩
    ·
      exact fun bb hb => (w_FM_minutes_J30 w c h (g_set M 464 0 (0 : Int32)) _ hr bb hb).trans ((g_set_ne (by omega)))
    ·
      rcases g_ifo hr with ⟨h9, hr⟩ | ⟨h9, hr⟩
      ·
        exact fun bb hb => (w_FM_minutes_J30 w c h (g_set M 464 0 (0 : Int32)) _ hr bb hb).trans ((g_set_ne (by omega)))
      ·
        exact fun bb hb => (w_FM_minutes_J35 w c h (0 : Int32) (g_set M 464 0 (0 : Int32)) _ hr bb hb).trans ((g_set_ne (by omega)))
set_option maxRecDepth 20000 in
theorem w_FM_would_J84 (len : Int32) (pace : Int32) (age : Int32) (heavy : Int32) (tired : Int32) (rain : Int32) (bribe : Int32) (y0 : Int32) (M : gM) (R : Int32 × gM) (hr : FM_would_J84 len pace age heavy tired rain bribe y0 M = some R) : ∀ bb, ¬ (bb = 464 ∨ bb = 466 ∨ (847 ≤ bb ∧ bb ≤ 848)) → R.2 bb = M bb := by
  unfold FM_would_J84 at hr
  obtain ⟨s1, es1, hr⟩ := g_bd hr
  have fs1_2 : ∀ bb, ¬ (bb = 464 ∨ bb = 466 ∨ (847 ≤ bb ∧ bb ≤ 848)) → s1.2 bb = M bb := fun bb hb => (w_FM_bad y0 (1 : Int32) (1 : Int32) M _ es1 bb (by omega))
  rcases g_ifo hr with ⟨h3, hr⟩ | ⟨h3, hr⟩
  ·
    obtain ⟨M4, mM4, hr⟩ := g_leto hr
    have fM4 : ∀ bb, ¬ (bb = 464 ∨ bb = 466 ∨ (847 ≤ bb ∧ bb ≤ 848)) → M4 bb = M bb := fun bb hb => by rw [mM4]; exact (g_set_ne (by omega)).trans (fs1_2 bb hb)
    obtain ⟨M5, mM5, hr⟩ := g_leto hr
    have fM5 : ∀ bb, ¬ (bb = 464 ∨ bb = 466 ∨ (847 ≤ bb ∧ bb ≤ 848)) → M5 bb = M bb := fun bb hb => by rw [mM5]; exact (g_set_ne (by omega)).trans (fM4 bb hb)
    obtain ⟨M6, mM6, hr⟩ := g_leto hr
    have fM6 : ∀ bb, ¬ (bb = 464 ∨ bb = 466 ∨ (847 ≤ bb ∧ bb ≤ 848)) → M6 bb = M bb := fun bb hb => by rw [mM6]; exact (g_set_ne (by omega)).trans (fM5 bb hb)
    obtain ⟨M7, mM7, hr⟩ := g_leto hr
    have fM7 : ∀ bb, ¬ (bb = 464 ∨ bb = 466 ∨ (847 ≤ bb ∧ bb ≤ 848)) → M7 bb = M bb := fun bb hb => by rw [mM7]; exact (g_set_ne (by omega)).trans (fM6 bb hb)
    obtain ⟨M8, mM8, hr⟩ := g_leto hr
    have fM8 : ∀ bb, ¬ (bb = 464 ∨ bb = 466 ∨ (847 ≤ bb ∧ bb ≤ 848)) → M8 bb = M bb := fun bb hb => by rw [mM8]; exact (g_set_ne (by omega)).trans (fM7 bb hb)
    obtain ⟨M9, mM9, hr⟩ := g_leto hr
    have fM9 : ∀ bb, ¬ (bb = 464 ∨ bb = 466 ∨ (847 ≤ bb ∧ bb ≤ 848)) → M9 bb = M bb := fun bb hb => by rw [mM9]; exact (g_set_ne (by omega)).trans (fM8 bb hb)
    obtain ⟨M10, mM10, hr⟩ := g_leto hr
    have fM10 : ∀ bb, ¬ (bb = 464 ∨ bb = 466 ∨ (847 ≤ bb ∧ bb ≤ 848)) → M10 bb = M bb := fun bb hb => by rw [mM10]; exact (g_set_ne (by omega)).trans (fM9 bb hb)
    obtain ⟨M11, mM11, hr⟩ := g_leto hr
    have fM11 : ∀ bb, ¬ (bb = 464 ∨ bb = 466 ∨ (847 ≤ bb ∧ bb ≤ 848)) → M11 bb = M bb := fun bb hb => by rw [mM11]; exact (g_set_ne (by omega)).trans (fM10 bb hb)
    obtain ⟨M12, mM12, hr⟩ := g_leto hr
    have fM12 : ∀ bb, ¬ (bb = 464 ∨ bb = 466 ∨ (847 ≤ bb ∧ bb ≤ 848)) → M12 bb = M bb := fun bb hb => by rw [mM12]; exact (g_set_ne (by omega)).trans (fM11 bb hb)
    obtain ⟨s13, es13, hr⟩ := g_bd hr
    have fs13_2 : ∀ bb, ¬ (bb = 464 ∨ bb = 466 ∨ (847 ≤ bb ∧ bb ≤ 848)) → s13.2 bb = M bb := fun bb hb => (w_FM_byLaw M12 _ es13 bb (by omega)).trans (fM12 bb hb)
    cases hr; exact fun bb hb => fs13_2 bb hb
  ·
    cases hr; exact fun bb hb => fs1_2 bb hb
set_option maxRecDepth 20000 in
theorem w_FM_would_J79 (len : Int32) (pace : Int32) (age : Int32) (heavy : Int32) (tired : Int32) (rain : Int32) (bribe : Int32) (M : gM) (R : Int32 × gM) (hr : FM_would_J79 len pace age heavy tired rain bribe M = some R) : ∀ bb, ¬ (bb = 464 ∨ bb = 466 ∨ (847 ≤ bb ∧ bb ≤ 848)) → R.2 bb = M bb := by
  unfold FM_would_J79 at hr
  exact fun bb hb => (w_FM_would_J84 len pace age heavy tired rain bribe (1 : Int32) M _ hr bb hb)
set_option maxRecDepth 20000 in
theorem w_FM_would (len : Int32) (pace : Int32) (age : Int32) (heavy : Int32) (tired : Int32) (rain : Int32) (bribe : Int32) (M : gM) (R : Int32 × gM) (hr : FM_would len pace age heavy tired rain bribe M = some R) : ∀ bb, ¬ (bb = 464 ∨ bb = 466 ∨ (847 ≤ bb ∧ bb ≤ 848)) → R.2 bb = M bb := by
  unfold FM_would at hr
  rcases g_ifo hr with ⟨h3, hr⟩ | ⟨h3, hr⟩
  ·
    exact fun bb hb => (w_FM_would_J79 len pace age heavy tired rain bribe (g_set M 464 0 (0 : Int32)) _ hr bb hb).trans ((g_set_ne (by omega)))
  ·
    rcases g_ifo hr with ⟨h6, hr⟩ | ⟨h6, hr⟩
    ·
      exact fun bb hb => (w_FM_would_J79 len pace age heavy tired rain bribe (g_set M 464 0 (0 : Int32)) _ hr bb hb).trans ((g_set_ne (by omega)))
    ·
      rcases g_ifo hr with ⟨h9, hr⟩ | ⟨h9, hr⟩
      ·
        exact fun bb hb => (w_FM_would_J79 len pace age heavy tired rain bribe (g_set M 464 0 (0 : Int32)) _ hr bb hb).trans ((g_set_ne (by omega)))
      ·
        rcases g_ifo hr with ⟨h12, hr⟩ | ⟨h12, hr⟩
        ·
          exact fun bb hb => (w_FM_would_J79 len pace age heavy tired rain bribe (g_set M 464 0 (0 : Int32)) _ hr bb hb).trans ((g_set_ne (by omega)))
        ·
          rcases g_ifo hr with ⟨h15, hr⟩ | ⟨h15, hr⟩
          ·
            exact fun bb hb => (w_FM_would_J79 len pace age heavy tired rain bribe (g_set M 464 0 (0 : Int32)) _ hr bb hb).trans ((g_set_ne (by omega)))
          ·
            rcases g_ifo hr with ⟨h18, hr⟩ | ⟨h18, hr⟩
            ·
              exact fun bb hb => (w_FM_would_J79 len pace age heavy tired rain bribe (g_set M 464 0 (0 : Int32)) _ hr bb hb).trans ((g_set_ne (by omega)))
            ·
              rcases g_ifo hr with ⟨h21, hr⟩ | ⟨h21, hr⟩
              ·
                exact fun bb hb => (w_FM_would_J79 len pace age heavy tired rain bribe (g_set M 464 0 (0 : Int32)) _ hr bb hb).trans ((g_set_ne (by omega)))
              ·
                exact fun bb hb => (w_FM_would_J84 len pace age heavy tired rain bribe (0 : Int32) (g_set M 464 0 (0 : Int32)) _ hr bb hb).trans ((g_set_ne (by omega)))
set_option maxRecDepth 20000 in
theorem w_FM_lastsBy_L6 (h : Int32) (c : Int32) (walks : Int32) (tired : Int32) : ∀ (k : Nat) (x5 : Int32) (x6 : Int32) (M : gM) (R : Int32 × gM), FM_lastsBy_L6 h c walks tired k x5 x6 M = some R → ∀ bb, ¬ ((847 ≤ bb ∧ bb ≤ 848)) → R.2 bb = M bb := by
  intro k
  induction k with
  | zero => intro x5 x6 M R hr; exact nomatch (show (none : Option (Int32 × gM)) = some R from hr)
  | succ k ih =>
    intro x5 x6 M R hr
    unfold FM_lastsBy_L6 at hr
    rcases g_ifo hr with ⟨h1, hr⟩ | ⟨h1, hr⟩
    ·
      cases hr; exact fun bb hb => rfl
    ·
      obtain ⟨j2, ej2, ij2, lj2, hr⟩ := g_ixo hr
      obtain ⟨s3, es3, hr⟩ := g_bd hr
      have fs3_2 : ∀ bb, ¬ ((847 ≤ bb ∧ bb ≤ 848)) → s3.2 bb = M bb := fun bb hb => (w_FM_minutesBy x6 c h (FM_less (99 : Int32) (tired + x6)) (M 930 45) (M 930 j2) M _ es3 bb (by omega))
      exact fun bb hb => (ih (x5 + s3.1) (x6 + (1 : Int32)) (s3.2) _ hr bb hb).trans (fs3_2 bb hb)
set_option maxRecDepth 20000 in
theorem w_FM_lastsBy (h : Int32) (c : Int32) (walks : Int32) (tired : Int32) (M : gM) (R : Int32 × gM) (hr : FM_lastsBy h c walks tired M = some R) : ∀ bb, ¬ ((847 ≤ bb ∧ bb ≤ 848)) → R.2 bb = M bb := by
  unfold FM_lastsBy at hr
  exact fun bb hb => (w_FM_lastsBy_L6 h c walks tired 1000 (0 : Int32) (0 : Int32) M _ hr bb hb)
set_option maxRecDepth 20000 in
theorem w_FM_longOf (h : Int32) (c : Int32) (M : gM) (R : Int32 × gM) (hr : FM_longOf h c M = some R) : ∀ bb, ¬ ((847 ≤ bb ∧ bb ≤ 848)) → R.2 bb = M bb := by
  unfold FM_longOf at hr
  obtain ⟨j1, ej1, ij1, lj1, hr⟩ := g_ixo hr
  obtain ⟨s2, es2, hr⟩ := g_bd hr
  have fs2_2 : ∀ bb, ¬ ((847 ≤ bb ∧ bb ≤ 848)) → s2.2 bb = M bb := fun bb hb => (w_FM_lastsBy h c (M 468 0) (M 930 j1) M _ es2 bb (by omega))
  cases hr; exact fun bb hb => fs2_2 bb hb
set_option maxRecDepth 20000 in
theorem w_FM_lasts_J27 (h : Int32) (c : Int32) (y0 : Int32) (M : gM) (R : Int32 × gM) (hr : FM_lasts_J27 h c y0 M = some R) : ∀ bb, ¬ (bb = 464 ∨ bb = 466 ∨ (847 ≤ bb ∧ bb ≤ 848)) → R.2 bb = M bb := by
  unfold FM_lasts_J27 at hr
  obtain ⟨s1, es1, hr⟩ := g_bd hr
  have fs1_2 : ∀ bb, ¬ (bb = 464 ∨ bb = 466 ∨ (847 ≤ bb ∧ bb ≤ 848)) → s1.2 bb = M bb := fun bb hb => (w_FM_bad y0 (1 : Int32) (0 : Int32) M _ es1 bb (by omega))
  rcases g_ifo hr with ⟨h3, hr⟩ | ⟨h3, hr⟩
  ·
    obtain ⟨s4, es4, hr⟩ := g_bd hr
    have fs4_2 : ∀ bb, ¬ (bb = 464 ∨ bb = 466 ∨ (847 ≤ bb ∧ bb ≤ 848)) → s4.2 bb = M bb := fun bb hb => (w_FM_longOf h c (s1.2) _ es4 bb (by omega)).trans (fs1_2 bb hb)
    cases hr; exact fun bb hb => fs4_2 bb hb
  ·
    cases hr; exact fun bb hb => fs1_2 bb hb
set_option maxRecDepth 20000 in
theorem w_FM_lasts_J22 (h : Int32) (c : Int32) (M : gM) (R : Int32 × gM) (hr : FM_lasts_J22 h c M = some R) : ∀ bb, ¬ (bb = 464 ∨ bb = 466 ∨ (847 ≤ bb ∧ bb ≤ 848)) → R.2 bb = M bb := by
  unfold FM_lasts_J22 at hr
  exact fun bb hb => (w_FM_lasts_J27 h c (1 : Int32) M _ hr bb hb)
set_option maxRecDepth 20000 in
theorem w_FM_lasts (h : Int32) (c : Int32) (M : gM) (R : Int32 × gM) (hr : FM_lasts h c M = some R) : ∀ bb, ¬ (bb = 464 ∨ bb = 466 ∨ (847 ≤ bb ∧ bb ≤ 848)) → R.2 bb = M bb := by
  unfold FM_lasts at hr
  rcases g_ifo hr with ⟨h3, hr⟩ | ⟨h3, hr⟩
  ·
    exact fun bb hb => (w_FM_lasts_J22 h c (g_set M 464 0 (0 : Int32)) _ hr bb hb).trans ((g_set_ne (by omega)))
  ·
    rcases g_ifo hr with ⟨h6, hr⟩ | ⟨h6, hr⟩
    ·
      exact fun bb hb => (w_FM_lasts_J22 h c (g_set M 464 0 (0 : Int32)) _ hr bb hb).trans ((g_set_ne (by omega)))
    ·
      exact fun bb hb => (w_FM_lasts_J27 h c (0 : Int32) (g_set M 464 0 (0 : Int32)) _ hr bb hb).trans ((g_set_ne (by omega)))
set_option maxRecDepth 20000 in
theorem w_FM_ahead_J86 (n : Int32) (what : Int32) (x3 : Int32) (M : gM) (R : Int32 × gM) (hr : FM_ahead_J86 n what x3 M = some R) : ∀ bb, ¬ (bb = 464 ∨ bb = 466 ∨ (847 ≤ bb ∧ bb ≤ 848) ∨ bb = 931) → R.2 bb = M bb := by
  unfold FM_ahead_J86 at hr
  rcases g_ifo hr with ⟨h1, hr⟩ | ⟨h1, hr⟩
  ·
    cases hr; exact fun bb hb => rfl
  rcases g_ifo hr with ⟨h2, hr⟩ | ⟨h2, hr⟩
  ·
    cases hr; exact fun bb hb => rfl
  rcases g_ifo hr with ⟨h3, hr⟩ | ⟨h3, hr⟩
  ·
    cases hr; exact fun bb hb => rfl
  rcases g_ifo hr with ⟨h4, hr⟩ | ⟨h4, hr⟩
  ·
    obtain ⟨s5, es5, hr⟩ := g_bd hr
    obtain ⟨s6, es6, hr⟩ := g_bd hr
    cases hr; exact fun bb hb => rfl
  cases hr; exact fun bb hb => rfl
set_option maxRecDepth 20000 in
theorem w_FM_ahead_L54 (n : Int32) (what : Int32) : ∀ (k : Nat) (x3 : Int32) (M : gM) (R : Int32 × gM), FM_ahead_L54 n what k x3 M = some R → ∀ bb, ¬ (bb = 464 ∨ bb = 466 ∨ (847 ≤ bb ∧ bb ≤ 848) ∨ bb = 931) → R.2 bb = M bb := by
  intro k
  induction k with
  | zero => intro x3 M R hr; exact nomatch (show (none : Option (Int32 × gM)) = some R from hr)
  | succ k ih =>
    intro x3 M R hr
    unfold FM_ahead_L54 at hr
    rcases g_ifo hr with ⟨h1, hr⟩ | ⟨h1, hr⟩
    ·
      exact fun bb hb => (w_FM_ahead_J86 n what x3 M _ hr bb hb)
    ·
      obtain ⟨s2, es2, hr⟩ := g_bd hr
      rcases g_ifo hr with ⟨h4, hr⟩ | ⟨h4, hr⟩
      ·
        exact fun bb hb => (w_FM_ahead_J86 n what x3 M _ hr bb hb)
      ·
        obtain ⟨s5, es5, hr⟩ := g_bd hr
        have fs5_2 : ∀ bb, ¬ (bb = 464 ∨ bb = 466 ∨ (847 ≤ bb ∧ bb ≤ 848) ∨ bb = 931) → s5.2 bb = M bb := fun bb hb => (w_FM_rolls 931 (0 : Int32) M _ es5 bb (by omega))
        exact fun bb hb => (ih (x3 + (1 : Int32)) (s5.2) _ hr bb hb).trans (fs5_2 bb hb)
set_option maxRecDepth 20000 in
theorem w_FM_ahead_J31 (n : Int32) (what : Int32) (y0 : Int32) (M : gM) (R : Int32 × gM) (hr : FM_ahead_J31 n what y0 M = some R) : ∀ bb, ¬ (bb = 464 ∨ bb = 466 ∨ (847 ≤ bb ∧ bb ≤ 848) ∨ bb = 931) → R.2 bb = M bb := by
  unfold FM_ahead_J31 at hr
  obtain ⟨s1, es1, hr⟩ := g_bd hr
  have fs1_2 : ∀ bb, ¬ (bb = 464 ∨ bb = 466 ∨ (847 ≤ bb ∧ bb ≤ 848) ∨ bb = 931) → s1.2 bb = M bb := fun bb hb => (w_FM_bad y0 (1 : Int32) (1 : Int32) M _ es1 bb (by omega))
  rcases g_ifo hr with ⟨h3, hr⟩ | ⟨h3, hr⟩
  ·
    obtain ⟨s4, es4, hr⟩ := g_bd hr
    have fs4 : ∀ bb, ¬ (bb = 464 ∨ bb = 466 ∨ (847 ≤ bb ∧ bb ≤ 848) ∨ bb = 931) → s4 bb = M bb := fun bb hb => (w_FM_copies 930 931 (s1.2) _ es4 bb (by omega)).trans (fs1_2 bb hb)
    exact fun bb hb => (w_FM_ahead_L54 n what 1000 (0 : Int32) s4 _ hr bb hb).trans (fs4 bb hb)
  ·
    cases hr; exact fun bb hb => fs1_2 bb hb
set_option maxRecDepth 20000 in
theorem w_FM_ahead_J26 (n : Int32) (what : Int32) (M : gM) (R : Int32 × gM) (hr : FM_ahead_J26 n what M = some R) : ∀ bb, ¬ (bb = 464 ∨ bb = 466 ∨ (847 ≤ bb ∧ bb ≤ 848) ∨ bb = 931) → R.2 bb = M bb := by
  unfold FM_ahead_J26 at hr
  exact fun bb hb => (w_FM_ahead_J31 n what (1 : Int32) M _ hr bb hb)
set_option maxRecDepth 20000 in
theorem w_FM_ahead (n : Int32) (what : Int32) (M : gM) (R : Int32 × gM) (hr : FM_ahead n what M = some R) : ∀ bb, ¬ (bb = 464 ∨ bb = 466 ∨ (847 ≤ bb ∧ bb ≤ 848) ∨ bb = 931) → R.2 bb = M bb := by
  unfold FM_ahead at hr
  rcases g_ifo hr with ⟨h3, hr⟩ | ⟨h3, hr⟩
  ·
    exact fun bb hb => (w_FM_ahead_J26 n what (g_set M 464 0 (0 : Int32)) _ hr bb hb).trans ((g_set_ne (by omega)))
  ·
    rcases g_ifo hr with ⟨h6, hr⟩ | ⟨h6, hr⟩
    ·
      exact fun bb hb => (w_FM_ahead_J26 n what (g_set M 464 0 (0 : Int32)) _ hr bb hb).trans ((g_set_ne (by omega)))
    ·
      exact fun bb hb => (w_FM_ahead_J31 n what (0 : Int32) (g_set M 464 0 (0 : Int32)) _ hr bb hb).trans ((g_set_ne (by omega)))
set_option maxRecDepth 20000 in
theorem w_FM_due_J86 (h : Int32) (c42 : Int32 → gM → Option (Int32 × gM)) (gc42 : ∀ (x2 : Int32) (M : gM) (R : Int32 × gM), c42 x2 M = some R → ∀ bb, ¬ (bb = 464 ∨ bb = 466 ∨ (847 ≤ bb ∧ bb ≤ 848) ∨ bb = 931) → R.2 bb = M bb) (x2 : Int32) (M : gM) (R : Int32 × gM) (hr : FM_due_J86 h c42 x2 M = some R) : ∀ bb, ¬ (bb = 464 ∨ bb = 466 ∨ (847 ≤ bb ∧ bb ≤ 848) ∨ bb = 931) → R.2 bb = M bb := by
  unfold FM_due_J86 at hr
  obtain ⟨s1, es1, hr⟩ := g_bd hr
  rcases g_ifo hr with ⟨h3, hr⟩ | ⟨h3, hr⟩
  ·
    cases hr; exact fun bb hb => rfl
  ·
    obtain ⟨s4, es4, hr⟩ := g_bd hr
    have fs4_2 : ∀ bb, ¬ (bb = 464 ∨ bb = 466 ∨ (847 ≤ bb ∧ bb ≤ 848) ∨ bb = 931) → s4.2 bb = M bb := fun bb hb => (w_FM_rolls 931 (0 : Int32) M _ es4 bb (by omega))
    exact fun bb hb => (gc42 (x2 + (1 : Int32)) (s4.2) _ hr bb hb).trans (fs4_2 bb hb)
set_option maxRecDepth 20000 in
theorem w_FM_due_L42 (h : Int32) : ∀ (k : Nat) (x2 : Int32) (M : gM) (R : Int32 × gM), FM_due_L42 h k x2 M = some R → ∀ bb, ¬ (bb = 464 ∨ bb = 466 ∨ (847 ≤ bb ∧ bb ≤ 848) ∨ bb = 931) → R.2 bb = M bb := by
  intro k
  induction k with
  | zero => intro x2 M R hr; exact nomatch (show (none : Option (Int32 × gM)) = some R from hr)
  | succ k ih =>
    intro x2 M R hr
    unfold FM_due_L42 at hr
    rcases g_ifo hr with ⟨h1, hr⟩ | ⟨h1, hr⟩
    ·
      cases hr; exact fun bb hb => rfl
    ·
      rcases g_ifo hr with ⟨h2, hr⟩ | ⟨h2, hr⟩
      ·
        rcases g_ifo hr with ⟨h3, hr⟩ | ⟨h3, hr⟩
        ·
          cases hr; exact fun bb hb => rfl
        ·
          exact fun bb hb => (w_FM_due_J86 h (FM_due_L42 h k) ih x2 M _ hr bb hb)
      ·
        exact fun bb hb => (w_FM_due_J86 h (FM_due_L42 h k) ih x2 M _ hr bb hb)
set_option maxRecDepth 20000 in
theorem w_FM_due_J19 (h : Int32) (y0 : Int32) (M : gM) (R : Int32 × gM) (hr : FM_due_J19 h y0 M = some R) : ∀ bb, ¬ (bb = 464 ∨ bb = 466 ∨ (847 ≤ bb ∧ bb ≤ 848) ∨ bb = 931) → R.2 bb = M bb := by
  unfold FM_due_J19 at hr
  obtain ⟨s1, es1, hr⟩ := g_bd hr
  have fs1_2 : ∀ bb, ¬ (bb = 464 ∨ bb = 466 ∨ (847 ≤ bb ∧ bb ≤ 848) ∨ bb = 931) → s1.2 bb = M bb := fun bb hb => (w_FM_bad y0 (1 : Int32) (0 : Int32) M _ es1 bb (by omega))
  rcases g_ifo hr with ⟨h3, hr⟩ | ⟨h3, hr⟩
  ·
    obtain ⟨s4, es4, hr⟩ := g_bd hr
    have fs4 : ∀ bb, ¬ (bb = 464 ∨ bb = 466 ∨ (847 ≤ bb ∧ bb ≤ 848) ∨ bb = 931) → s4 bb = M bb := fun bb hb => (w_FM_copies 930 931 (s1.2) _ es4 bb (by omega)).trans (fs1_2 bb hb)
    exact fun bb hb => (w_FM_due_L42 h 1000 (0 : Int32) s4 _ hr bb hb).trans (fs4 bb hb)
  ·
    cases hr; exact fun bb hb => fs1_2 bb hb
set_option maxRecDepth 20000 in
theorem w_FM_due (h : Int32) (M : gM) (R : Int32 × gM) (hr : FM_due h M = some R) : ∀ bb, ¬ (bb = 464 ∨ bb = 466 ∨ (847 ≤ bb ∧ bb ≤ 848) ∨ bb = 931) → R.2 bb = M bb := by
  unfold FM_due at hr
  rcases g_ifo hr with ⟨h3, hr⟩ | ⟨h3, hr⟩
  ·
    exact fun bb hb => (w_FM_due_J19 h (1 : Int32) (g_set M 464 0 (0 : Int32)) _ hr bb hb).trans ((g_set_ne (by omega)))
  ·
    exact fun bb hb => (w_FM_due_J19 h (0 : Int32) (g_set M 464 0 (0 : Int32)) _ hr bb hb).trans ((g_set_ne (by omega)))
set_option maxRecDepth 20000 in
theorem w_FM_hour_L45 (m : Int32) : ∀ (k : Nat) (x2 : Int32) (M : gM) (R : Int32 × gM), FM_hour_L45 m k x2 M = some R → ∀ bb, ¬ (bb = 464 ∨ bb = 466 ∨ (847 ≤ bb ∧ bb ≤ 848) ∨ bb = 931) → R.2 bb = M bb := by
  intro k
  induction k with
  | zero => intro x2 M R hr; exact nomatch (show (none : Option (Int32 × gM)) = some R from hr)
  | succ k ih =>
    intro x2 M R hr
    unfold FM_hour_L45 at hr
    rcases g_ifo hr with ⟨h1, hr⟩ | ⟨h1, hr⟩
    ·
      cases hr; exact fun bb hb => rfl
    ·
      obtain ⟨s2, es2, hr⟩ := g_bd hr
      rcases g_ifo hr with ⟨h4, hr⟩ | ⟨h4, hr⟩
      ·
        cases hr; exact fun bb hb => rfl
      ·
        obtain ⟨s5, es5, hr⟩ := g_bd hr
        have fs5_2 : ∀ bb, ¬ (bb = 464 ∨ bb = 466 ∨ (847 ≤ bb ∧ bb ≤ 848) ∨ bb = 931) → s5.2 bb = M bb := fun bb hb => (w_FM_rolls 931 (0 : Int32) M _ es5 bb (by omega))
        rcases g_ifo hr with ⟨h6, hr⟩ | ⟨h6, hr⟩
        ·
          exact fun bb hb => (ih (x2 + (1 : Int32)) (s5.2) _ hr bb hb).trans (fs5_2 bb hb)
        ·
          cases hr; exact fun bb hb => fs5_2 bb hb
set_option maxRecDepth 20000 in
theorem w_FM_hour_J22 (m : Int32) (y0 : Int32) (M : gM) (R : Int32 × gM) (hr : FM_hour_J22 m y0 M = some R) : ∀ bb, ¬ (bb = 464 ∨ bb = 466 ∨ (847 ≤ bb ∧ bb ≤ 848) ∨ bb = 931) → R.2 bb = M bb := by
  unfold FM_hour_J22 at hr
  obtain ⟨s1, es1, hr⟩ := g_bd hr
  have fs1_2 : ∀ bb, ¬ (bb = 464 ∨ bb = 466 ∨ (847 ≤ bb ∧ bb ≤ 848) ∨ bb = 931) → s1.2 bb = M bb := fun bb hb => (w_FM_bad y0 (1 : Int32) (1 : Int32) M _ es1 bb (by omega))
  rcases g_ifo hr with ⟨h3, hr⟩ | ⟨h3, hr⟩
  ·
    obtain ⟨s4, es4, hr⟩ := g_bd hr
    have fs4 : ∀ bb, ¬ (bb = 464 ∨ bb = 466 ∨ (847 ≤ bb ∧ bb ≤ 848) ∨ bb = 931) → s4 bb = M bb := fun bb hb => (w_FM_copies 930 931 (s1.2) _ es4 bb (by omega)).trans (fs1_2 bb hb)
    exact fun bb hb => (w_FM_hour_L45 m 1000 (0 : Int32) s4 _ hr bb hb).trans (fs4 bb hb)
  ·
    cases hr; exact fun bb hb => fs1_2 bb hb
set_option maxRecDepth 20000 in
theorem w_FM_hour (m : Int32) (M : gM) (R : Int32 × gM) (hr : FM_hour m M = some R) : ∀ bb, ¬ (bb = 464 ∨ bb = 466 ∨ (847 ≤ bb ∧ bb ≤ 848) ∨ bb = 931) → R.2 bb = M bb := by
  unfold FM_hour at hr
  rcases g_ifo hr with ⟨h3, hr⟩ | ⟨h3, hr⟩
  ·
    exact fun bb hb => (w_FM_hour_J22 m (1 : Int32) (g_set M 464 0 (0 : Int32)) _ hr bb hb).trans ((g_set_ne (by omega)))
  ·
    exact fun bb hb => (w_FM_hour_J22 m (0 : Int32) (g_set M 464 0 (0 : Int32)) _ hr bb hb).trans ((g_set_ne (by omega)))
set_option maxRecDepth 20000 in
theorem w_FM_late_L18 : ∀ (k : Nat) (x1 : Int32) (M : gM) (R : Int32 × gM), FM_late_L18 k x1 M = some R → ∀ bb, ¬ (bb = 464 ∨ (847 ≤ bb ∧ bb ≤ 848) ∨ bb = 931) → R.2 bb = M bb := by
  intro k
  induction k with
  | zero => intro x1 M R hr; exact nomatch (show (none : Option (Int32 × gM)) = some R from hr)
  | succ k ih =>
    intro x1 M R hr
    unfold FM_late_L18 at hr
    rcases g_ifo hr with ⟨h1, hr⟩ | ⟨h1, hr⟩
    ·
      cases hr; exact fun bb hb => rfl
    ·
      obtain ⟨s2, es2, hr⟩ := g_bd hr
      rcases g_ifo hr with ⟨h4, hr⟩ | ⟨h4, hr⟩
      ·
        cases hr; exact fun bb hb => rfl
      ·
        obtain ⟨s5, es5, hr⟩ := g_bd hr
        have fs5_2 : ∀ bb, ¬ (bb = 464 ∨ (847 ≤ bb ∧ bb ≤ 848) ∨ bb = 931) → s5.2 bb = M bb := fun bb hb => (w_FM_rolls 931 (0 : Int32) M _ es5 bb (by omega))
        rcases g_ifo hr with ⟨h6, hr⟩ | ⟨h6, hr⟩
        ·
          exact fun bb hb => (ih (x1 + (1 : Int32)) (s5.2) _ hr bb hb).trans (fs5_2 bb hb)
        ·
          cases hr; exact fun bb hb => fs5_2 bb hb
set_option maxRecDepth 20000 in
theorem w_FM_late  (M : gM) (R : Int32 × gM) (hr : FM_late M = some R) : ∀ bb, ¬ (bb = 464 ∨ (847 ≤ bb ∧ bb ≤ 848) ∨ bb = 931) → R.2 bb = M bb := by
  unfold FM_late at hr
  obtain ⟨s1, es1, hr⟩ := g_bd hr
  have fs1 : ∀ bb, ¬ (bb = 464 ∨ (847 ≤ bb ∧ bb ≤ 848) ∨ bb = 931) → s1 bb = M bb := fun bb hb => (w_FM_copies 930 931 (g_set M 464 0 (0 : Int32)) _ es1 bb (by omega)).trans ((g_set_ne (by omega)))
  exact fun bb hb => (w_FM_late_L18 1000 (0 : Int32) s1 _ hr bb hb).trans (fs1 bb hb)
set_option maxRecDepth 20000 in
theorem w_FM_bowls_J111 (c : Int32) (n : Int32) (c70 : Int32 → Int32 → gM → Option (Int32 × gM)) (gc70 : ∀ (x3 : Int32) (x4 : Int32) (M : gM) (R : Int32 × gM), c70 x3 x4 M = some R → ∀ bb, ¬ (bb = 464 ∨ bb = 466 ∨ (847 ≤ bb ∧ bb ≤ 848) ∨ bb = 931) → R.2 bb = M bb) (x4 : Int32) (y0 : Int32) (y1 : Int32) (M : gM) (R : Int32 × gM) (hr : FM_bowls_J111 c n c70 x4 y0 y1 M = some R) : ∀ bb, ¬ (bb = 464 ∨ bb = 466 ∨ (847 ≤ bb ∧ bb ≤ 848) ∨ bb = 931) → R.2 bb = M bb := by
  unfold FM_bowls_J111 at hr
  obtain ⟨s1, es1, hr⟩ := g_bd hr
  have fs1_2 : ∀ bb, ¬ (bb = 464 ∨ bb = 466 ∨ (847 ≤ bb ∧ bb ≤ 848) ∨ bb = 931) → s1.2 bb = M bb := fun bb hb => (w_FM_rolls 931 (0 : Int32) M _ es1 bb (by omega))
  exact fun bb hb => (gc70 (y1 + y0) (x4 + (1 : Int32)) (s1.2) _ hr bb hb).trans (fs1_2 bb hb)
set_option maxRecDepth 20000 in
theorem w_FM_bowls_L70 (c : Int32) (n : Int32) : ∀ (k : Nat) (x3 : Int32) (x4 : Int32) (M : gM) (R : Int32 × gM), FM_bowls_L70 c n k x3 x4 M = some R → ∀ bb, ¬ (bb = 464 ∨ bb = 466 ∨ (847 ≤ bb ∧ bb ≤ 848) ∨ bb = 931) → R.2 bb = M bb := by
  intro k
  induction k with
  | zero => intro x3 x4 M R hr; exact nomatch (show (none : Option (Int32 × gM)) = some R from hr)
  | succ k ih =>
    intro x3 x4 M R hr
    unfold FM_bowls_L70 at hr
    rcases g_ifo hr with ⟨h1, hr⟩ | ⟨h1, hr⟩
    ·
      cases hr; exact fun bb hb => rfl
    ·
      obtain ⟨s2, es2, hr⟩ := g_bd hr
      rcases g_ifo hr with ⟨h4, hr⟩ | ⟨h4, hr⟩
      ·
        cases hr; exact fun bb hb => rfl
      ·
        obtain ⟨j5, ej5, ij5, lj5, hr⟩ := g_ixo hr
        rcases g_ifo hr with ⟨h6, hr⟩ | ⟨h6, hr⟩
        ·
          exact fun bb hb => (w_FM_bowls_J111 c n (FM_bowls_L70 c n k) ih x4 (1 : Int32) x3 M _ hr bb hb)
        ·
          exact fun bb hb => (w_FM_bowls_J111 c n (FM_bowls_L70 c n k) ih x4 (0 : Int32) x3 M _ hr bb hb)
set_option maxRecDepth 20000 in
theorem w_FM_bowls_J44 (c : Int32) (n : Int32) (y0 : Int32) (M : gM) (R : Int32 × gM) (hr : FM_bowls_J44 c n y0 M = some R) : ∀ bb, ¬ (bb = 464 ∨ bb = 466 ∨ (847 ≤ bb ∧ bb ≤ 848) ∨ bb = 931) → R.2 bb = M bb := by
  unfold FM_bowls_J44 at hr
  obtain ⟨s1, es1, hr⟩ := g_bd hr
  have fs1_2 : ∀ bb, ¬ (bb = 464 ∨ bb = 466 ∨ (847 ≤ bb ∧ bb ≤ 848) ∨ bb = 931) → s1.2 bb = M bb := fun bb hb => (w_FM_bad y0 (2 : Int32) (1 : Int32) M _ es1 bb (by omega))
  rcases g_ifo hr with ⟨h3, hr⟩ | ⟨h3, hr⟩
  ·
    obtain ⟨s4, es4, hr⟩ := g_bd hr
    have fs4 : ∀ bb, ¬ (bb = 464 ∨ bb = 466 ∨ (847 ≤ bb ∧ bb ≤ 848) ∨ bb = 931) → s4 bb = M bb := fun bb hb => (w_FM_copies 930 931 (s1.2) _ es4 bb (by omega)).trans (fs1_2 bb hb)
    exact fun bb hb => (w_FM_bowls_L70 c n 1000 (0 : Int32) (0 : Int32) s4 _ hr bb hb).trans (fs4 bb hb)
  ·
    cases hr; exact fun bb hb => fs1_2 bb hb
set_option maxRecDepth 20000 in
theorem w_FM_bowls_J19 (c : Int32) (n : Int32) (y0 : Int32) (M : gM) (R : Int32 × gM) (hr : FM_bowls_J19 c n y0 M = some R) : ∀ bb, ¬ (bb = 464 ∨ bb = 466 ∨ (847 ≤ bb ∧ bb ≤ 848) ∨ bb = 931) → R.2 bb = M bb := by
  unfold FM_bowls_J19 at hr
  obtain ⟨s1, es1, hr⟩ := g_bd hr
  have fs1_2 : ∀ bb, ¬ (bb = 464 ∨ bb = 466 ∨ (847 ≤ bb ∧ bb ≤ 848) ∨ bb = 931) → s1.2 bb = M bb := fun bb hb => (w_FM_bad y0 (1 : Int32) (0 : Int32) M _ es1 bb (by omega))
  rcases g_ifo hr with ⟨h3, hr⟩ | ⟨h3, hr⟩
  ·
    rcases g_ifo hr with ⟨h6, hr⟩ | ⟨h6, hr⟩
    ·
      exact fun bb hb => (w_FM_bowls_J44 c n (1 : Int32) (s1.2) _ hr bb hb).trans (fs1_2 bb hb)
    ·
      exact fun bb hb => (w_FM_bowls_J44 c n (0 : Int32) (s1.2) _ hr bb hb).trans (fs1_2 bb hb)
  ·
    cases hr; exact fun bb hb => fs1_2 bb hb
set_option maxRecDepth 20000 in
theorem w_FM_bowls (c : Int32) (n : Int32) (M : gM) (R : Int32 × gM) (hr : FM_bowls c n M = some R) : ∀ bb, ¬ (bb = 464 ∨ bb = 466 ∨ (847 ≤ bb ∧ bb ≤ 848) ∨ bb = 931) → R.2 bb = M bb := by
  unfold FM_bowls at hr
  rcases g_ifo hr with ⟨h3, hr⟩ | ⟨h3, hr⟩
  ·
    exact fun bb hb => (w_FM_bowls_J19 c n (1 : Int32) (g_set M 464 0 (0 : Int32)) _ hr bb hb).trans ((g_set_ne (by omega)))
  ·
    exact fun bb hb => (w_FM_bowls_J19 c n (0 : Int32) (g_set M 464 0 (0 : Int32)) _ hr bb hb).trans ((g_set_ne (by omega)))
set_option maxRecDepth 20000 in
theorem w_FM_load_L33 (c : Int32) : ∀ (k : Nat) (x2 : Int32) (x3 : Int32) (M : gM) (R : Int32 × gM), FM_load_L33 c k x2 x3 M = some R → ∀ bb, ¬ (bb = 464 ∨ bb = 466) → R.2 bb = M bb := by
  intro k
  induction k with
  | zero => intro x2 x3 M R hr; exact nomatch (show (none : Option (Int32 × gM)) = some R from hr)
  | succ k ih =>
    intro x2 x3 M R hr
    unfold FM_load_L33 at hr
    rcases g_ifo hr with ⟨h1, hr⟩ | ⟨h1, hr⟩
    ·
      cases hr; exact fun bb hb => rfl
    ·
      obtain ⟨j2, ej2, ij2, lj2, hr⟩ := g_ixo hr
      rcases g_ifo hr with ⟨h3, hr⟩ | ⟨h3, hr⟩
      ·
        obtain ⟨j4, ej4, ij4, lj4, hr⟩ := g_ixo hr
        exact fun bb hb => (ih (x2 + (M 470 j4)) (x3 + (1 : Int32)) M _ hr bb hb)
      ·
        exact fun bb hb => (ih (x2 + (0 : Int32)) (x3 + (1 : Int32)) M _ hr bb hb)
set_option maxRecDepth 20000 in
theorem w_FM_load_J19 (c : Int32) (y0 : Int32) (M : gM) (R : Int32 × gM) (hr : FM_load_J19 c y0 M = some R) : ∀ bb, ¬ (bb = 464 ∨ bb = 466) → R.2 bb = M bb := by
  unfold FM_load_J19 at hr
  obtain ⟨s1, es1, hr⟩ := g_bd hr
  have fs1_2 : ∀ bb, ¬ (bb = 464 ∨ bb = 466) → s1.2 bb = M bb := fun bb hb => (w_FM_bad y0 (1 : Int32) (0 : Int32) M _ es1 bb (by omega))
  rcases g_ifo hr with ⟨h3, hr⟩ | ⟨h3, hr⟩
  ·
    exact fun bb hb => (w_FM_load_L33 c 1000 (0 : Int32) (0 : Int32) (s1.2) _ hr bb hb).trans (fs1_2 bb hb)
  ·
    cases hr; exact fun bb hb => fs1_2 bb hb
set_option maxRecDepth 20000 in
theorem w_FM_load (c : Int32) (M : gM) (R : Int32 × gM) (hr : FM_load c M = some R) : ∀ bb, ¬ (bb = 464 ∨ bb = 466) → R.2 bb = M bb := by
  unfold FM_load at hr
  rcases g_ifo hr with ⟨h3, hr⟩ | ⟨h3, hr⟩
  ·
    exact fun bb hb => (w_FM_load_J19 c (1 : Int32) (g_set M 464 0 (0 : Int32)) _ hr bb hb).trans ((g_set_ne (by omega)))
  ·
    exact fun bb hb => (w_FM_load_J19 c (0 : Int32) (g_set M 464 0 (0 : Int32)) _ hr bb hb).trans ((g_set_ne (by omega)))
set_option maxRecDepth 20000 in
theorem w_FM_slowest_J80 (what : Int32) (c37 : Int32 → Int32 → Int32 → gM → Option (Int32 × gM)) (gc37 : ∀ (x2 : Int32) (x3 : Int32) (x4 : Int32) (M : gM) (R : Int32 × gM), c37 x2 x3 x4 M = some R → ∀ bb, ¬ (bb = 464 ∨ bb = 466 ∨ (847 ≤ bb ∧ bb ≤ 848)) → R.2 bb = M bb) (x2 : Int32) (x3 : Int32) (x4 : Int32) (y0 : Int32) (M : gM) (R : Int32 × gM) (hr : FM_slowest_J80 what c37 x2 x3 x4 y0 M = some R) : ∀ bb, ¬ (bb = 464 ∨ bb = 466 ∨ (847 ≤ bb ∧ bb ≤ 848)) → R.2 bb = M bb := by
  unfold FM_slowest_J80 at hr
  rcases g_ifo hr with ⟨h1, hr⟩ | ⟨h1, hr⟩
  ·
    exact fun bb hb => (gc37 x4 y0 (x4 + (1 : Int32)) M _ hr bb hb)
  ·
    exact fun bb hb => (gc37 x2 x3 (x4 + (1 : Int32)) M _ hr bb hb)
set_option maxRecDepth 20000 in
theorem w_FM_slowest_L37 (what : Int32) : ∀ (k : Nat) (x2 : Int32) (x3 : Int32) (x4 : Int32) (M : gM) (R : Int32 × gM), FM_slowest_L37 what k x2 x3 x4 M = some R → ∀ bb, ¬ (bb = 464 ∨ bb = 466 ∨ (847 ≤ bb ∧ bb ≤ 848)) → R.2 bb = M bb := by
  intro k
  induction k with
  | zero => intro x2 x3 x4 M R hr; exact nomatch (show (none : Option (Int32 × gM)) = some R from hr)
  | succ k ih =>
    intro x2 x3 x4 M R hr
    unfold FM_slowest_L37 at hr
    rcases g_ifo hr with ⟨h1, hr⟩ | ⟨h1, hr⟩
    ·
      rcases g_ifo hr with ⟨h2, hr⟩ | ⟨h2, hr⟩
      ·
        cases hr; exact fun bb hb => rfl
      ·
        cases hr; exact fun bb hb => rfl
    ·
      obtain ⟨j3, ej3, ij3, lj3, hr⟩ := g_ixo hr
      rcases g_ifo hr with ⟨h4, hr⟩ | ⟨h4, hr⟩
      ·
        exact fun bb hb => (w_FM_slowest_J80 what (FM_slowest_L37 what k) ih x2 x3 x4 (-1 : Int32) M _ hr bb hb)
      ·
        obtain ⟨j5, ej5, ij5, lj5, hr⟩ := g_ixo hr
        obtain ⟨s6, es6, hr⟩ := g_bd hr
        have fs6_2 : ∀ bb, ¬ (bb = 464 ∨ bb = 466 ∨ (847 ≤ bb ∧ bb ≤ 848)) → s6.2 bb = M bb := fun bb hb => (w_FM_longOf x4 (M 930 j5) M _ es6 bb (by omega))
        exact fun bb hb => (w_FM_slowest_J80 what (FM_slowest_L37 what k) ih x2 x3 x4 s6.1 (s6.2) _ hr bb hb).trans (fs6_2 bb hb)
set_option maxRecDepth 20000 in
theorem w_FM_slowest_J20 (what : Int32) (y0 : Int32) (M : gM) (R : Int32 × gM) (hr : FM_slowest_J20 what y0 M = some R) : ∀ bb, ¬ (bb = 464 ∨ bb = 466 ∨ (847 ≤ bb ∧ bb ≤ 848)) → R.2 bb = M bb := by
  unfold FM_slowest_J20 at hr
  obtain ⟨s1, es1, hr⟩ := g_bd hr
  have fs1_2 : ∀ bb, ¬ (bb = 464 ∨ bb = 466 ∨ (847 ≤ bb ∧ bb ≤ 848)) → s1.2 bb = M bb := fun bb hb => (w_FM_bad y0 (1 : Int32) (1 : Int32) M _ es1 bb (by omega))
  rcases g_ifo hr with ⟨h3, hr⟩ | ⟨h3, hr⟩
  ·
    exact fun bb hb => (w_FM_slowest_L37 what 1000 (-1 : Int32) (-1 : Int32) (0 : Int32) (s1.2) _ hr bb hb).trans (fs1_2 bb hb)
  ·
    cases hr; exact fun bb hb => fs1_2 bb hb
set_option maxRecDepth 20000 in
theorem w_FM_slowest (what : Int32) (M : gM) (R : Int32 × gM) (hr : FM_slowest what M = some R) : ∀ bb, ¬ (bb = 464 ∨ bb = 466 ∨ (847 ≤ bb ∧ bb ≤ 848)) → R.2 bb = M bb := by
  unfold FM_slowest at hr
  rcases g_ifo hr with ⟨h3, hr⟩ | ⟨h3, hr⟩
  ·
    exact fun bb hb => (w_FM_slowest_J20 what (1 : Int32) (g_set M 464 0 (0 : Int32)) _ hr bb hb).trans ((g_set_ne (by omega)))
  ·
    exact fun bb hb => (w_FM_slowest_J20 what (0 : Int32) (g_set M 464 0 (0 : Int32)) _ hr bb hb).trans ((g_set_ne (by omega)))
set_option maxRecDepth 20000 in
theorem w_FM_quickest_L60 (h : Int32) (what : Int32) : ∀ (k : Nat) (x3 : Int32) (x4 : Int32) (x5 : Int32) (M : gM) (R : Int32 × gM), FM_quickest_L60 h what k x3 x4 x5 M = some R → ∀ bb, ¬ (bb = 464 ∨ bb = 466 ∨ (847 ≤ bb ∧ bb ≤ 848)) → R.2 bb = M bb := by
  intro k
  induction k with
  | zero => intro x3 x4 x5 M R hr; exact nomatch (show (none : Option (Int32 × gM)) = some R from hr)
  | succ k ih =>
    intro x3 x4 x5 M R hr
    unfold FM_quickest_L60 at hr
    rcases g_ifo hr with ⟨h1, hr⟩ | ⟨h1, hr⟩
    ·
      rcases g_ifo hr with ⟨h2, hr⟩ | ⟨h2, hr⟩
      ·
        cases hr; exact fun bb hb => rfl
      ·
        cases hr; exact fun bb hb => rfl
    ·
      obtain ⟨s3, es3, hr⟩ := g_bd hr
      have fs3_2 : ∀ bb, ¬ (bb = 464 ∨ bb = 466 ∨ (847 ≤ bb ∧ bb ≤ 848)) → s3.2 bb = M bb := fun bb hb => (w_FM_longOf h x5 M _ es3 bb (by omega))
      rcases g_ifo hr with ⟨h4, hr⟩ | ⟨h4, hr⟩
      ·
        exact fun bb hb => (ih x5 s3.1 (x5 + (1 : Int32)) (s3.2) _ hr bb hb).trans (fs3_2 bb hb)
      ·
        rcases g_ifo hr with ⟨h5, hr⟩ | ⟨h5, hr⟩
        ·
          exact fun bb hb => (ih x5 s3.1 (x5 + (1 : Int32)) (s3.2) _ hr bb hb).trans (fs3_2 bb hb)
        ·
          exact fun bb hb => (ih x3 x4 (x5 + (1 : Int32)) (s3.2) _ hr bb hb).trans (fs3_2 bb hb)
set_option maxRecDepth 20000 in
theorem w_FM_quickest_J42 (h : Int32) (what : Int32) (y0 : Int32) (M : gM) (R : Int32 × gM) (hr : FM_quickest_J42 h what y0 M = some R) : ∀ bb, ¬ (bb = 464 ∨ bb = 466 ∨ (847 ≤ bb ∧ bb ≤ 848)) → R.2 bb = M bb := by
  unfold FM_quickest_J42 at hr
  obtain ⟨s1, es1, hr⟩ := g_bd hr
  have fs1_2 : ∀ bb, ¬ (bb = 464 ∨ bb = 466 ∨ (847 ≤ bb ∧ bb ≤ 848)) → s1.2 bb = M bb := fun bb hb => (w_FM_bad y0 (2 : Int32) (1 : Int32) M _ es1 bb (by omega))
  rcases g_ifo hr with ⟨h3, hr⟩ | ⟨h3, hr⟩
  ·
    exact fun bb hb => (w_FM_quickest_L60 h what 1000 (-1 : Int32) (-1 : Int32) (0 : Int32) (s1.2) _ hr bb hb).trans (fs1_2 bb hb)
  ·
    cases hr; exact fun bb hb => fs1_2 bb hb
set_option maxRecDepth 20000 in
theorem w_FM_quickest_J19 (h : Int32) (what : Int32) (y0 : Int32) (M : gM) (R : Int32 × gM) (hr : FM_quickest_J19 h what y0 M = some R) : ∀ bb, ¬ (bb = 464 ∨ bb = 466 ∨ (847 ≤ bb ∧ bb ≤ 848)) → R.2 bb = M bb := by
  unfold FM_quickest_J19 at hr
  obtain ⟨s1, es1, hr⟩ := g_bd hr
  have fs1_2 : ∀ bb, ¬ (bb = 464 ∨ bb = 466 ∨ (847 ≤ bb ∧ bb ≤ 848)) → s1.2 bb = M bb := fun bb hb => (w_FM_bad y0 (1 : Int32) (0 : Int32) M _ es1 bb (by omega))
  rcases g_ifo hr with ⟨h3, hr⟩ | ⟨h3, hr⟩
  ·
    rcases g_ifo hr with ⟨h6, hr⟩ | ⟨h6, hr⟩
    ·
      exact fun bb hb => (w_FM_quickest_J42 h what (1 : Int32) (s1.2) _ hr bb hb).trans (fs1_2 bb hb)
    ·
      exact fun bb hb => (w_FM_quickest_J42 h what (0 : Int32) (s1.2) _ hr bb hb).trans (fs1_2 bb hb)
  ·
    cases hr; exact fun bb hb => fs1_2 bb hb
set_option maxRecDepth 20000 in
theorem w_FM_quickest (h : Int32) (what : Int32) (M : gM) (R : Int32 × gM) (hr : FM_quickest h what M = some R) : ∀ bb, ¬ (bb = 464 ∨ bb = 466 ∨ (847 ≤ bb ∧ bb ≤ 848)) → R.2 bb = M bb := by
  unfold FM_quickest at hr
  rcases g_ifo hr with ⟨h3, hr⟩ | ⟨h3, hr⟩
  ·
    exact fun bb hb => (w_FM_quickest_J19 h what (1 : Int32) (g_set M 464 0 (0 : Int32)) _ hr bb hb).trans ((g_set_ne (by omega)))
  ·
    exact fun bb hb => (w_FM_quickest_J19 h what (0 : Int32) (g_set M 464 0 (0 : Int32)) _ hr bb hb).trans ((g_set_ne (by omega)))
set_option maxRecDepth 20000 in
theorem w_FM_debtor_L37 (what : Int32) : ∀ (k : Nat) (x2 : Int32) (x3 : Int32) (x4 : Int32) (M : gM) (R : Int32 × gM), FM_debtor_L37 what k x2 x3 x4 M = some R → ∀ bb, ¬ (bb = 464 ∨ bb = 466) → R.2 bb = M bb := by
  intro k
  induction k with
  | zero => intro x2 x3 x4 M R hr; exact nomatch (show (none : Option (Int32 × gM)) = some R from hr)
  | succ k ih =>
    intro x2 x3 x4 M R hr
    unfold FM_debtor_L37 at hr
    rcases g_ifo hr with ⟨h1, hr⟩ | ⟨h1, hr⟩
    ·
      rcases g_ifo hr with ⟨h2, hr⟩ | ⟨h2, hr⟩
      ·
        cases hr; exact fun bb hb => rfl
      ·
        rcases g_ifo hr with ⟨h3, hr⟩ | ⟨h3, hr⟩
        ·
          cases hr; exact fun bb hb => rfl
        ·
          cases hr; exact fun bb hb => rfl
    ·
      obtain ⟨j4, ej4, ij4, lj4, hr⟩ := g_ixo hr
      rcases g_ifo hr with ⟨h5, hr⟩ | ⟨h5, hr⟩
      ·
        obtain ⟨j6, ej6, ij6, lj6, hr⟩ := g_ixo hr
        exact fun bb hb => (ih x4 (M 930 j6) (x4 + (1 : Int32)) M _ hr bb hb)
      ·
        exact fun bb hb => (ih x2 x3 (x4 + (1 : Int32)) M _ hr bb hb)
set_option maxRecDepth 20000 in
theorem w_FM_debtor_J20 (what : Int32) (y0 : Int32) (M : gM) (R : Int32 × gM) (hr : FM_debtor_J20 what y0 M = some R) : ∀ bb, ¬ (bb = 464 ∨ bb = 466) → R.2 bb = M bb := by
  unfold FM_debtor_J20 at hr
  obtain ⟨s1, es1, hr⟩ := g_bd hr
  have fs1_2 : ∀ bb, ¬ (bb = 464 ∨ bb = 466) → s1.2 bb = M bb := fun bb hb => (w_FM_bad y0 (1 : Int32) (1 : Int32) M _ es1 bb (by omega))
  rcases g_ifo hr with ⟨h3, hr⟩ | ⟨h3, hr⟩
  ·
    exact fun bb hb => (w_FM_debtor_L37 what 1000 (-1 : Int32) (0 : Int32) (0 : Int32) (s1.2) _ hr bb hb).trans (fs1_2 bb hb)
  ·
    cases hr; exact fun bb hb => fs1_2 bb hb
set_option maxRecDepth 20000 in
theorem w_FM_debtor (what : Int32) (M : gM) (R : Int32 × gM) (hr : FM_debtor what M = some R) : ∀ bb, ¬ (bb = 464 ∨ bb = 466) → R.2 bb = M bb := by
  unfold FM_debtor at hr
  rcases g_ifo hr with ⟨h3, hr⟩ | ⟨h3, hr⟩
  ·
    exact fun bb hb => (w_FM_debtor_J20 what (1 : Int32) (g_set M 464 0 (0 : Int32)) _ hr bb hb).trans ((g_set_ne (by omega)))
  ·
    exact fun bb hb => (w_FM_debtor_J20 what (0 : Int32) (g_set M 464 0 (0 : Int32)) _ hr bb hb).trans ((g_set_ne (by omega)))
set_option maxRecDepth 20000 in
theorem w_FM_idle_L18 : ∀ (k : Nat) (x1 : Int32) (x2 : Int32) (M : gM) (R : Int32 × gM), FM_idle_L18 k x1 x2 M = some R → ∀ bb, ¬ (bb = 464) → R.2 bb = M bb := by
  intro k
  induction k with
  | zero => intro x1 x2 M R hr; exact nomatch (show (none : Option (Int32 × gM)) = some R from hr)
  | succ k ih =>
    intro x1 x2 M R hr
    unfold FM_idle_L18 at hr
    rcases g_ifo hr with ⟨h1, hr⟩ | ⟨h1, hr⟩
    ·
      cases hr; exact fun bb hb => rfl
    ·
      obtain ⟨j2, ej2, ij2, lj2, hr⟩ := g_ixo hr
      rcases g_ifo hr with ⟨h3, hr⟩ | ⟨h3, hr⟩
      ·
        exact fun bb hb => (ih (x1 &&& x1) (x2 + (1 : Int32)) M _ hr bb hb)
      ·
        obtain ⟨j4, ej4, ij4, lj4, hr⟩ := g_ixo hr
        exact fun bb hb => (ih (x1 &&& (((1 : Int32) <<< ((M 930 j4) &&& 31)) ^^^ (-1 : Int32))) (x2 + (1 : Int32)) M _ hr bb hb)
set_option maxRecDepth 20000 in
theorem w_FM_idle  (M : gM) (R : Int32 × gM) (hr : FM_idle M = some R) : ∀ bb, ¬ (bb = 464) → R.2 bb = M bb := by
  unfold FM_idle at hr
  exact fun bb hb => (w_FM_idle_L18 1000 (((1 : Int32) <<< ((M 468 1) &&& 31)) - (1 : Int32)) (0 : Int32) (g_set M 464 0 (0 : Int32)) _ hr bb hb).trans ((g_set_ne (by omega)))
set_option maxRecDepth 20000 in
theorem w_FM_gives_L95 (hoops : Int32) (h : Int32) (taken : Int32) (sum : Int32) (m : Int32) (rgives : Int32 → Int32 → Int32 → Int32 → Int32 → gM → Option (gM)) (grgives : ∀ (v1 : Int32) (v2 : Int32) (v3 : Int32) (v4 : Int32) (v5 : Int32) (M : gM) (R : gM), rgives v1 v2 v3 v4 v5 M = some R → ∀ bb, ¬ (bb = 464 ∨ (847 ≤ bb ∧ bb ≤ 848) ∨ (953 ≤ bb ∧ bb ≤ 954)) → R bb = M bb) : ∀ (k : Nat) (x6 : Int32) (M : gM) (R : gM), FM_gives_L95 hoops h taken sum m rgives k x6 M = some R → ∀ bb, ¬ (bb = 464 ∨ (847 ≤ bb ∧ bb ≤ 848) ∨ (953 ≤ bb ∧ bb ≤ 954)) → R bb = M bb := by
  intro k
  induction k with
  | zero => intro x6 M R hr; exact nomatch (show (none : Option (gM)) = some R from hr)
  | succ k ih =>
    intro x6 M R hr
    unfold FM_gives_L95 at hr
    rcases g_ifo hr with ⟨h1, hr⟩ | ⟨h1, hr⟩
    ·
      cases hr; exact fun bb hb => rfl
    ·
      rcases g_ifo hr with ⟨h4, hr⟩ | ⟨h4, hr⟩
      ·
        cases hr; exact fun bb hb => rfl
      ·
        rcases g_ifo hr with ⟨h7, hr⟩ | ⟨h7, hr⟩
        ·
          obtain ⟨j8, ej8, ij8, lj8, hr⟩ := g_ixo hr
          obtain ⟨M9, mM9, hr⟩ := g_leto hr
          have fM9 : ∀ bb, ¬ (bb = 464 ∨ (847 ≤ bb ∧ bb ≤ 848) ∨ (953 ≤ bb ∧ bb ≤ 954)) → M9 bb = M bb := fun bb hb => by rw [mM9]; exact (g_set_ne (by omega))
          obtain ⟨s10, es10, hr⟩ := g_bd hr
          have fs10_2 : ∀ bb, ¬ (bb = 464 ∨ (847 ≤ bb ∧ bb ≤ 848) ∨ (953 ≤ bb ∧ bb ≤ 954)) → s10.2 bb = M bb := fun bb hb => (w_FM_longOf h x6 M9 _ es10 bb (by omega)).trans (fM9 bb hb)
          obtain ⟨s11, es11, hr⟩ := g_bd hr
          have fs11 : ∀ bb, ¬ (bb = 464 ∨ (847 ≤ bb ∧ bb ≤ 848) ∨ (953 ≤ bb ∧ bb ≤ 954)) → s11 bb = M bb := fun bb hb => (grgives hoops (h + (1 : Int32)) (taken ||| ((1 : Int32) <<< (x6 &&& 31))) (sum + (FM_away s10.1 m)) m (s10.2) _ es11 bb hb).trans (fs10_2 bb hb)
          exact fun bb hb => (ih (x6 + (1 : Int32)) s11 _ hr bb hb).trans (fs11 bb hb)
        ·
          exact fun bb hb => (ih (x6 + (1 : Int32)) M _ hr bb hb)
set_option maxRecDepth 20000 in
theorem w_FM_gives_L37 (hoops : Int32) (h : Int32) (taken : Int32) (sum : Int32) (m : Int32) (rgives : Int32 → Int32 → Int32 → Int32 → Int32 → gM → Option (gM)) (grgives : ∀ (v1 : Int32) (v2 : Int32) (v3 : Int32) (v4 : Int32) (v5 : Int32) (M : gM) (R : gM), rgives v1 v2 v3 v4 v5 M = some R → ∀ bb, ¬ (bb = 464 ∨ (847 ≤ bb ∧ bb ≤ 848) ∨ (953 ≤ bb ∧ bb ≤ 954)) → R bb = M bb) : ∀ (k : Nat) (x6 : Int32) (M : gM) (R : gM), FM_gives_L37 hoops h taken sum m rgives k x6 M = some R → ∀ bb, ¬ (bb = 464 ∨ (847 ≤ bb ∧ bb ≤ 848) ∨ (953 ≤ bb ∧ bb ≤ 954)) → R bb = M bb := by
  intro k
  induction k with
  | zero => intro x6 M R hr; exact nomatch (show (none : Option (gM)) = some R from hr)
  | succ k ih =>
    intro x6 M R hr
    unfold FM_gives_L37 at hr
    rcases g_ifo hr with ⟨h1, hr⟩ | ⟨h1, hr⟩
    ·
      cases hr; exact fun bb hb => rfl
    ·
      obtain ⟨j2, ej2, ij2, lj2, hr⟩ := g_ixo hr
      obtain ⟨j3, ej3, ij3, lj3, hr⟩ := g_ixo hr
      obtain ⟨M4, mM4, hr⟩ := g_leto hr
      have fM4 : ∀ bb, ¬ (bb = 464 ∨ (847 ≤ bb ∧ bb ≤ 848) ∨ (953 ≤ bb ∧ bb ≤ 954)) → M4 bb = M bb := fun bb hb => by rw [mM4]; exact (g_set_ne (by omega))
      exact fun bb hb => (ih (x6 + (1 : Int32)) M4 _ hr bb hb).trans (fM4 bb hb)
set_option maxRecDepth 20000 in
theorem w_FM_gives_J18 (hoops : Int32) (h : Int32) (taken : Int32) (sum : Int32) (m : Int32) (rgives : Int32 → Int32 → Int32 → Int32 → Int32 → gM → Option (gM)) (grgives : ∀ (v1 : Int32) (v2 : Int32) (v3 : Int32) (v4 : Int32) (v5 : Int32) (M : gM) (R : gM), rgives v1 v2 v3 v4 v5 M = some R → ∀ bb, ¬ (bb = 464 ∨ (847 ≤ bb ∧ bb ≤ 848) ∨ (953 ≤ bb ∧ bb ≤ 954)) → R bb = M bb) (M : gM) (R : gM) (hr : FM_gives_J18 hoops h taken sum m rgives M = some R) : ∀ bb, ¬ (bb = 464 ∨ (847 ≤ bb ∧ bb ≤ 848) ∨ (953 ≤ bb ∧ bb ≤ 954)) → R bb = M bb := by
  unfold FM_gives_J18 at hr
  rcases g_ifo hr with ⟨h1, hr⟩ | ⟨h1, hr⟩
  ·
    exact fun bb hb => (w_FM_gives_L37 hoops h taken sum m rgives grgives 1000 (0 : Int32) (g_set M 464 43 sum) _ hr bb hb).trans ((g_set_ne (by omega)))
  ·
    obtain ⟨j2, ej2, ij2, lj2, hr⟩ := g_ixo hr
    obtain ⟨M3, mM3, hr⟩ := g_leto hr
    have fM3 : ∀ bb, ¬ (bb = 464 ∨ (847 ≤ bb ∧ bb ≤ 848) ∨ (953 ≤ bb ∧ bb ≤ 954)) → M3 bb = M bb := fun bb hb => by rw [mM3]; exact (g_set_ne (by omega))
    rcases g_ifo hr with ⟨h6, hr⟩ | ⟨h6, hr⟩
    ·
      obtain ⟨s7, es7, hr⟩ := g_bd hr
      have fs7 : ∀ bb, ¬ (bb = 464 ∨ (847 ≤ bb ∧ bb ≤ 848) ∨ (953 ≤ bb ∧ bb ≤ 954)) → s7 bb = M bb := fun bb hb => (grgives hoops (h + (1 : Int32)) taken sum m M3 _ es7 bb hb).trans (fM3 bb hb)
      exact fun bb hb => (w_FM_gives_L95 hoops h taken sum m rgives grgives 1000 (0 : Int32) s7 _ hr bb hb).trans (fs7 bb hb)
    ·
      exact fun bb hb => (w_FM_gives_L95 hoops h taken sum m rgives grgives 1000 (0 : Int32) M3 _ hr bb hb).trans (fM3 bb hb)
set_option maxRecDepth 20000 in
theorem w_FM_gives_B (rgives : Int32 → Int32 → Int32 → Int32 → Int32 → gM → Option (gM)) (grgives : ∀ (v1 : Int32) (v2 : Int32) (v3 : Int32) (v4 : Int32) (v5 : Int32) (M : gM) (R : gM), rgives v1 v2 v3 v4 v5 M = some R → ∀ bb, ¬ (bb = 464 ∨ (847 ≤ bb ∧ bb ≤ 848) ∨ (953 ≤ bb ∧ bb ≤ 954)) → R bb = M bb) (hoops : Int32) (h : Int32) (taken : Int32) (sum : Int32) (m : Int32) (M : gM) (R : gM) (hr : FM_gives_B rgives hoops h taken sum m M = some R) : ∀ bb, ¬ (bb = 464 ∨ (847 ≤ bb ∧ bb ≤ 848) ∨ (953 ≤ bb ∧ bb ≤ 954)) → R bb = M bb := by
  unfold FM_gives_B at hr
  rcases g_ifo hr with ⟨h1, hr⟩ | ⟨h1, hr⟩
  ·
    exact fun bb hb => (w_FM_gives_J18 hoops h taken sum m rgives grgives M _ hr bb hb)
  ·
    rcases g_ifo hr with ⟨h2, hr⟩ | ⟨h2, hr⟩
    ·
      exact fun bb hb => (w_FM_gives_J18 hoops h taken sum m rgives grgives M _ hr bb hb)
    ·
      cases hr; exact fun bb hb => rfl
theorem w_FM_giving : ∀ f : Nat, (∀ (hoops : Int32) (h : Int32) (taken : Int32) (sum : Int32) (m : Int32) (M : gM) (R : gM), FM_gives f hoops h taken sum m M = some R → ∀ bb, ¬ (bb = 464 ∨ (847 ≤ bb ∧ bb ≤ 848) ∨ (953 ≤ bb ∧ bb ≤ 954)) → R bb = M bb) := by
  intro f
  induction f with
  | zero => exact fun _ _ _ _ _ M R hr => (nomatch (show (none : Option (gM)) = some R from hr))
  | succ f ih => exact fun hoops h taken sum m M R hr => w_FM_gives_B (FM_gives f) (fun v1 v2 v3 v4 v5 M R hr => ih v1 v2 v3 v4 v5 M R hr) hoops h taken sum m M R hr
theorem w_FM_gives (f : Nat) (hoops : Int32) (h : Int32) (taken : Int32) (sum : Int32) (m : Int32) (M : gM) (R : gM) (hr : FM_gives f hoops h taken sum m M = some R) : ∀ bb, ¬ (bb = 464 ∨ (847 ≤ bb ∧ bb ≤ 848) ∨ (953 ≤ bb ∧ bb ≤ 954)) → R bb = M bb := (w_FM_giving f) hoops h taken sum m M R hr
set_option maxRecDepth 20000 in
theorem w_FM_matches_L7 (hoops : Int32) (m : Int32) : ∀ (k : Nat) (x3 : Int32) (M : gM) (R : gM), FM_matches_L7 hoops m k x3 M = some R → ∀ bb, ¬ (bb = 464 ∨ (847 ≤ bb ∧ bb ≤ 848) ∨ (953 ≤ bb ∧ bb ≤ 954)) → R bb = M bb := by
  intro k
  induction k with
  | zero => intro x3 M R hr; exact nomatch (show (none : Option (gM)) = some R from hr)
  | succ k ih =>
    intro x3 M R hr
    unfold FM_matches_L7 at hr
    rcases g_ifo hr with ⟨h1, hr⟩ | ⟨h1, hr⟩
    ·
      obtain ⟨s2, es2, hr⟩ := g_bd hr
      have fs2 : ∀ bb, ¬ (bb = 464 ∨ (847 ≤ bb ∧ bb ≤ 848) ∨ (953 ≤ bb ∧ bb ≤ 954)) → s2 bb = M bb := fun bb hb => (w_FM_gives 12 hoops (0 : Int32) (0 : Int32) (0 : Int32) m M _ es2 bb (by omega))
      cases hr; exact fun bb hb => fs2 bb hb
    ·
      obtain ⟨j3, ej3, ij3, lj3, hr⟩ := g_ixo hr
      obtain ⟨M4, mM4, hr⟩ := g_leto hr
      have fM4 : ∀ bb, ¬ (bb = 464 ∨ (847 ≤ bb ∧ bb ≤ 848) ∨ (953 ≤ bb ∧ bb ≤ 954)) → M4 bb = M bb := fun bb hb => by rw [mM4]; exact (g_set_ne (by omega))
      exact fun bb hb => (ih (x3 + (1 : Int32)) M4 _ hr bb hb).trans (fM4 bb hb)
set_option maxRecDepth 20000 in
theorem w_FM_matches (hoops : Int32) (m : Int32) (M : gM) (R : gM) (hr : FM_matches hoops m M = some R) : ∀ bb, ¬ (bb = 464 ∨ (847 ≤ bb ∧ bb ≤ 848) ∨ (953 ≤ bb ∧ bb ≤ 954)) → R bb = M bb := by
  unfold FM_matches at hr
  exact fun bb hb => (w_FM_matches_L7 hoops m 1000 (0 : Int32) (g_set M 464 43 (-1 : Int32)) _ hr bb hb).trans ((g_set_ne (by omega)))
set_option maxRecDepth 20000 in
theorem w_FM_match_J30 (hoops : Int32) (m : Int32) (y0 : Int32) (M : gM) (R : Int32 × gM) (hr : FM_match_J30 hoops m y0 M = some R) : ∀ bb, ¬ (bb = 464 ∨ bb = 466 ∨ (847 ≤ bb ∧ bb ≤ 848) ∨ (953 ≤ bb ∧ bb ≤ 954)) → R.2 bb = M bb := by
  unfold FM_match_J30 at hr
  obtain ⟨s1, es1, hr⟩ := g_bd hr
  have fs1_2 : ∀ bb, ¬ (bb = 464 ∨ bb = 466 ∨ (847 ≤ bb ∧ bb ≤ 848) ∨ (953 ≤ bb ∧ bb ≤ 954)) → s1.2 bb = M bb := fun bb hb => (w_FM_bad y0 (1 : Int32) (1 : Int32) M _ es1 bb (by omega))
  rcases g_ifo hr with ⟨h3, hr⟩ | ⟨h3, hr⟩
  ·
    obtain ⟨s4, es4, hr⟩ := g_bd hr
    have fs4 : ∀ bb, ¬ (bb = 464 ∨ bb = 466 ∨ (847 ≤ bb ∧ bb ≤ 848) ∨ (953 ≤ bb ∧ bb ≤ 954)) → s4 bb = M bb := fun bb hb => (w_FM_matches hoops m (s1.2) _ es4 bb (by omega)).trans (fs1_2 bb hb)
    cases hr; exact fun bb hb => fs4 bb hb
  ·
    cases hr; exact fun bb hb => fs1_2 bb hb
set_option maxRecDepth 20000 in
theorem w_FM_match_J25 (hoops : Int32) (m : Int32) (M : gM) (R : Int32 × gM) (hr : FM_match_J25 hoops m M = some R) : ∀ bb, ¬ (bb = 464 ∨ bb = 466 ∨ (847 ≤ bb ∧ bb ≤ 848) ∨ (953 ≤ bb ∧ bb ≤ 954)) → R.2 bb = M bb := by
  unfold FM_match_J25 at hr
  exact fun bb hb => (w_FM_match_J30 hoops m (1 : Int32) M _ hr bb hb)
set_option maxRecDepth 20000 in
theorem w_FM_match (hoops : Int32) (m : Int32) (M : gM) (R : Int32 × gM) (hr : FM_match hoops m M = some R) : ∀ bb, ¬ (bb = 464 ∨ bb = 466 ∨ (847 ≤ bb ∧ bb ≤ 848) ∨ (953 ≤ bb ∧ bb ≤ 954)) → R.2 bb = M bb := by
  unfold FM_match at hr
  rcases g_ifo hr with ⟨h3, hr⟩ | ⟨h3, hr⟩
  ·
    exact fun bb hb => (w_FM_match_J25 hoops m (g_set M 464 0 (0 : Int32)) _ hr bb hb).trans ((g_set_ne (by omega)))
  ·
    rcases g_ifo hr with ⟨h6, hr⟩ | ⟨h6, hr⟩
    ·
      exact fun bb hb => (w_FM_match_J25 hoops m (g_set M 464 0 (0 : Int32)) _ hr bb hb).trans ((g_set_ne (by omega)))
    ·
      exact fun bb hb => (w_FM_match_J30 hoops m (0 : Int32) (g_set M 464 0 (0 : Int32)) _ hr bb hb).trans ((g_set_ne (by omega)))
set_option maxRecDepth 20000 in
theorem w_FM_matched_J52 (hoops : Int32) (m : Int32) (h : Int32) (y0 : Int32) (M : gM) (R : Int32 × gM) (hr : FM_matched_J52 hoops m h y0 M = some R) : ∀ bb, ¬ (bb = 464 ∨ bb = 466 ∨ (847 ≤ bb ∧ bb ≤ 848) ∨ (953 ≤ bb ∧ bb ≤ 954)) → R.2 bb = M bb := by
  unfold FM_matched_J52 at hr
  obtain ⟨s1, es1, hr⟩ := g_bd hr
  have fs1_2 : ∀ bb, ¬ (bb = 464 ∨ bb = 466 ∨ (847 ≤ bb ∧ bb ≤ 848) ∨ (953 ≤ bb ∧ bb ≤ 954)) → s1.2 bb = M bb := fun bb hb => (w_FM_bad y0 (2 : Int32) (1 : Int32) M _ es1 bb (by omega))
  rcases g_ifo hr with ⟨h3, hr⟩ | ⟨h3, hr⟩
  ·
    obtain ⟨s4, es4, hr⟩ := g_bd hr
    have fs4 : ∀ bb, ¬ (bb = 464 ∨ bb = 466 ∨ (847 ≤ bb ∧ bb ≤ 848) ∨ (953 ≤ bb ∧ bb ≤ 954)) → s4 bb = M bb := fun bb hb => (w_FM_matches hoops m (s1.2) _ es4 bb (by omega)).trans (fs1_2 bb hb)
    obtain ⟨j5, ej5, ij5, lj5, hr⟩ := g_ixo hr
    cases hr; exact fun bb hb => fs4 bb hb
  ·
    cases hr; exact fun bb hb => fs1_2 bb hb
set_option maxRecDepth 20000 in
theorem w_FM_matched_J47 (hoops : Int32) (m : Int32) (h : Int32) (M : gM) (R : Int32 × gM) (hr : FM_matched_J47 hoops m h M = some R) : ∀ bb, ¬ (bb = 464 ∨ bb = 466 ∨ (847 ≤ bb ∧ bb ≤ 848) ∨ (953 ≤ bb ∧ bb ≤ 954)) → R.2 bb = M bb := by
  unfold FM_matched_J47 at hr
  exact fun bb hb => (w_FM_matched_J52 hoops m h (1 : Int32) M _ hr bb hb)
set_option maxRecDepth 20000 in
theorem w_FM_matched_J19 (hoops : Int32) (m : Int32) (h : Int32) (y0 : Int32) (M : gM) (R : Int32 × gM) (hr : FM_matched_J19 hoops m h y0 M = some R) : ∀ bb, ¬ (bb = 464 ∨ bb = 466 ∨ (847 ≤ bb ∧ bb ≤ 848) ∨ (953 ≤ bb ∧ bb ≤ 954)) → R.2 bb = M bb := by
  unfold FM_matched_J19 at hr
  obtain ⟨s1, es1, hr⟩ := g_bd hr
  have fs1_2 : ∀ bb, ¬ (bb = 464 ∨ bb = 466 ∨ (847 ≤ bb ∧ bb ≤ 848) ∨ (953 ≤ bb ∧ bb ≤ 954)) → s1.2 bb = M bb := fun bb hb => (w_FM_bad y0 (1 : Int32) (0 : Int32) M _ es1 bb (by omega))
  rcases g_ifo hr with ⟨h3, hr⟩ | ⟨h3, hr⟩
  ·
    rcases g_ifo hr with ⟨h6, hr⟩ | ⟨h6, hr⟩
    ·
      exact fun bb hb => (w_FM_matched_J47 hoops m h (s1.2) _ hr bb hb).trans (fs1_2 bb hb)
    ·
      rcases g_ifo hr with ⟨h9, hr⟩ | ⟨h9, hr⟩
      ·
        exact fun bb hb => (w_FM_matched_J47 hoops m h (s1.2) _ hr bb hb).trans (fs1_2 bb hb)
      ·
        exact fun bb hb => (w_FM_matched_J52 hoops m h (0 : Int32) (s1.2) _ hr bb hb).trans (fs1_2 bb hb)
  ·
    cases hr; exact fun bb hb => fs1_2 bb hb
set_option maxRecDepth 20000 in
theorem w_FM_matched (hoops : Int32) (m : Int32) (h : Int32) (M : gM) (R : Int32 × gM) (hr : FM_matched hoops m h M = some R) : ∀ bb, ¬ (bb = 464 ∨ bb = 466 ∨ (847 ≤ bb ∧ bb ≤ 848) ∨ (953 ≤ bb ∧ bb ≤ 954)) → R.2 bb = M bb := by
  unfold FM_matched at hr
  rcases g_ifo hr with ⟨h3, hr⟩ | ⟨h3, hr⟩
  ·
    exact fun bb hb => (w_FM_matched_J19 hoops m h (1 : Int32) (g_set M 464 0 (0 : Int32)) _ hr bb hb).trans ((g_set_ne (by omega)))
  ·
    exact fun bb hb => (w_FM_matched_J19 hoops m h (0 : Int32) (g_set M 464 0 (0 : Int32)) _ hr bb hb).trans ((g_set_ne (by omega)))
set_option maxRecDepth 20000 in
theorem w_FM_isSung_L2 (c : Int32) (h : Int32) : ∀ (k : Nat) (x3 : Int32) (M : gM) (R : Int32 × gM), FM_isSung_L2 c h k x3 M = some R → ∀ bb, ¬ ((847 ≤ bb ∧ bb ≤ 848)) → R.2 bb = M bb := by
  intro k
  induction k with
  | zero => intro x3 M R hr; exact nomatch (show (none : Option (Int32 × gM)) = some R from hr)
  | succ k ih =>
    intro x3 M R hr
    unfold FM_isSung_L2 at hr
    rcases g_ifo hr with ⟨h1, hr⟩ | ⟨h1, hr⟩
    ·
      cases hr; exact fun bb hb => rfl
    ·
      obtain ⟨j2, ej2, ij2, lj2, hr⟩ := g_ixo hr
      obtain ⟨s3, es3, hr⟩ := g_bd hr
      have fs3_2 : ∀ bb, ¬ ((847 ≤ bb ∧ bb ≤ 848)) → s3.2 bb = M bb := fun bb hb => (w_FM_lastsBy h c (M (830 + j2) 0) (0 : Int32) M _ es3 bb (by omega))
      obtain ⟨j4, ej4, ij4, lj4, hr⟩ := g_ixo hr
      rcases g_ifo hr with ⟨h5, hr⟩ | ⟨h5, hr⟩
      ·
        exact fun bb hb => (ih (x3 + (1 : Int32)) (s3.2) _ hr bb hb).trans (fs3_2 bb hb)
      ·
        cases hr; exact fun bb hb => fs3_2 bb hb
set_option maxRecDepth 20000 in
theorem w_FM_isSung (c : Int32) (h : Int32) (M : gM) (R : Int32 × gM) (hr : FM_isSung c h M = some R) : ∀ bb, ¬ ((847 ≤ bb ∧ bb ≤ 848)) → R.2 bb = M bb := by
  unfold FM_isSung at hr
  exact fun bb hb => (w_FM_isSung_L2 c h 1000 (0 : Int32) M _ hr bb hb)
set_option maxRecDepth 20000 in
theorem w_FM_fits_L51 (what : Int32) (c37 : Int32 → Int32 → Int32 → gM → Option (Int32 × gM)) (gc37 : ∀ (x2 : Int32) (x3 : Int32) (x4 : Int32) (M : gM) (R : Int32 × gM), c37 x2 x3 x4 M = some R → ∀ bb, ¬ (bb = 464 ∨ bb = 466 ∨ (847 ≤ bb ∧ bb ≤ 848)) → R.2 bb = M bb) : ∀ (k : Nat) (x2 : Int32) (x3 : Int32) (x4 : Int32) (x5 : Int32) (M : gM) (R : Int32 × gM), FM_fits_L51 what c37 k x2 x3 x4 x5 M = some R → ∀ bb, ¬ (bb = 464 ∨ bb = 466 ∨ (847 ≤ bb ∧ bb ≤ 848)) → R.2 bb = M bb := by
  intro k
  induction k with
  | zero => intro x2 x3 x4 x5 M R hr; exact nomatch (show (none : Option (Int32 × gM)) = some R from hr)
  | succ k ih =>
    intro x2 x3 x4 x5 M R hr
    unfold FM_fits_L51 at hr
    rcases g_ifo hr with ⟨h1, hr⟩ | ⟨h1, hr⟩
    ·
      exact fun bb hb => (gc37 x2 x3 (x4 + (1 : Int32)) M _ hr bb hb)
    ·
      obtain ⟨s2, es2, hr⟩ := g_bd hr
      have fs2_2 : ∀ bb, ¬ (bb = 464 ∨ bb = 466 ∨ (847 ≤ bb ∧ bb ≤ 848)) → s2.2 bb = M bb := fun bb hb => (w_FM_isSung x4 x5 M _ es2 bb (by omega))
      rcases g_ifo hr with ⟨h4, hr⟩ | ⟨h4, hr⟩
      ·
        exact fun bb hb => (ih x2 x3 x4 (x5 + (1 : Int32)) (s2.2) _ hr bb hb).trans (fs2_2 bb hb)
      ·
        rcases g_ifo hr with ⟨h5, hr⟩ | ⟨h5, hr⟩
        ·
          exact fun bb hb => (ih (x2 + (1 : Int32)) (((10 : Int32) * x4) + x5) x4 (x5 + (1 : Int32)) (s2.2) _ hr bb hb).trans (fs2_2 bb hb)
        ·
          exact fun bb hb => (ih (x2 + (1 : Int32)) x3 x4 (x5 + (1 : Int32)) (s2.2) _ hr bb hb).trans (fs2_2 bb hb)
set_option maxRecDepth 20000 in
theorem w_FM_fits_L37 (what : Int32) : ∀ (k : Nat) (x2 : Int32) (x3 : Int32) (x4 : Int32) (M : gM) (R : Int32 × gM), FM_fits_L37 what k x2 x3 x4 M = some R → ∀ bb, ¬ (bb = 464 ∨ bb = 466 ∨ (847 ≤ bb ∧ bb ≤ 848)) → R.2 bb = M bb := by
  intro k
  induction k with
  | zero => intro x2 x3 x4 M R hr; exact nomatch (show (none : Option (Int32 × gM)) = some R from hr)
  | succ k ih =>
    intro x2 x3 x4 M R hr
    unfold FM_fits_L37 at hr
    rcases g_ifo hr with ⟨h1, hr⟩ | ⟨h1, hr⟩
    ·
      rcases g_ifo hr with ⟨h2, hr⟩ | ⟨h2, hr⟩
      ·
        cases hr; exact fun bb hb => rfl
      ·
        cases hr; exact fun bb hb => rfl
    ·
      exact fun bb hb => (w_FM_fits_L51 what (FM_fits_L37 what k) ih 1000 x2 x3 x4 (0 : Int32) M _ hr bb hb)
set_option maxRecDepth 20000 in
theorem w_FM_fits_J20 (what : Int32) (y0 : Int32) (M : gM) (R : Int32 × gM) (hr : FM_fits_J20 what y0 M = some R) : ∀ bb, ¬ (bb = 464 ∨ bb = 466 ∨ (847 ≤ bb ∧ bb ≤ 848)) → R.2 bb = M bb := by
  unfold FM_fits_J20 at hr
  obtain ⟨s1, es1, hr⟩ := g_bd hr
  have fs1_2 : ∀ bb, ¬ (bb = 464 ∨ bb = 466 ∨ (847 ≤ bb ∧ bb ≤ 848)) → s1.2 bb = M bb := fun bb hb => (w_FM_bad y0 (1 : Int32) (1 : Int32) M _ es1 bb (by omega))
  rcases g_ifo hr with ⟨h3, hr⟩ | ⟨h3, hr⟩
  ·
    exact fun bb hb => (w_FM_fits_L37 what 1000 (0 : Int32) (-1 : Int32) (0 : Int32) (s1.2) _ hr bb hb).trans (fs1_2 bb hb)
  ·
    cases hr; exact fun bb hb => fs1_2 bb hb
set_option maxRecDepth 20000 in
theorem w_FM_fits (what : Int32) (M : gM) (R : Int32 × gM) (hr : FM_fits what M = some R) : ∀ bb, ¬ (bb = 464 ∨ bb = 466 ∨ (847 ≤ bb ∧ bb ≤ 848)) → R.2 bb = M bb := by
  unfold FM_fits at hr
  rcases g_ifo hr with ⟨h3, hr⟩ | ⟨h3, hr⟩
  ·
    exact fun bb hb => (w_FM_fits_J20 what (1 : Int32) (g_set M 464 0 (0 : Int32)) _ hr bb hb).trans ((g_set_ne (by omega)))
  ·
    exact fun bb hb => (w_FM_fits_J20 what (0 : Int32) (g_set M 464 0 (0 : Int32)) _ hr bb hb).trans ((g_set_ne (by omega)))
set_option maxRecDepth 20000 in
theorem w_FM_worstAt_L92 (g : Int32) : ∀ (k : Nat) (x2 : Int32) (x3 : Int32) (M : gM) (R : Int32 × gM), FM_worstAt_L92 g k x2 x3 M = some R → ∀ bb, ¬ ((847 ≤ bb ∧ bb ≤ 848) ∨ bb = 955) → R.2 bb = M bb := by
  intro k
  induction k with
  | zero => intro x2 x3 M R hr; exact nomatch (show (none : Option (Int32 × gM)) = some R from hr)
  | succ k ih =>
    intro x2 x3 M R hr
    unfold FM_worstAt_L92 at hr
    rcases g_ifo hr with ⟨h1, hr⟩ | ⟨h1, hr⟩
    ·
      cases hr; exact fun bb hb => rfl
    ·
      obtain ⟨j2, ej2, ij2, lj2, hr⟩ := g_ixo hr
      exact fun bb hb => (ih (FM_more x2 (M 955 j2)) (x3 + (1 : Int32)) M _ hr bb hb)
set_option maxRecDepth 20000 in
theorem w_FM_worstAt_L39 (g : Int32) (c26 : Int32 → Int32 → gM → Option (Int32 × gM)) (gc26 : ∀ (x2 : Int32) (x3 : Int32) (M : gM) (R : Int32 × gM), c26 x2 x3 M = some R → ∀ bb, ¬ ((847 ≤ bb ∧ bb ≤ 848) ∨ bb = 955) → R.2 bb = M bb) : ∀ (k : Nat) (x2 : Int32) (x3 : Int32) (x4 : Int32) (M : gM) (R : Int32 × gM), FM_worstAt_L39 g c26 k x2 x3 x4 M = some R → ∀ bb, ¬ ((847 ≤ bb ∧ bb ≤ 848) ∨ bb = 955) → R.2 bb = M bb := by
  intro k
  induction k with
  | zero => intro x2 x3 x4 M R hr; exact nomatch (show (none : Option (Int32 × gM)) = some R from hr)
  | succ k ih =>
    intro x2 x3 x4 M R hr
    unfold FM_worstAt_L39 at hr
    rcases g_ifo hr with ⟨h1, hr⟩ | ⟨h1, hr⟩
    ·
      exact fun bb hb => (gc26 x2 (x3 + (1 : Int32)) M _ hr bb hb)
    ·
      obtain ⟨s2, es2, hr⟩ := g_bd hr
      have fs2_2 : ∀ bb, ¬ ((847 ≤ bb ∧ bb ≤ 848) ∨ bb = 955) → s2.2 bb = M bb := fun bb hb => (w_FM_isSung x3 x4 M _ es2 bb (by omega))
      rcases g_ifo hr with ⟨h4, hr⟩ | ⟨h4, hr⟩
      ·
        exact fun bb hb => (ih x2 x3 (x4 + (1 : Int32)) (s2.2) _ hr bb hb).trans (fs2_2 bb hb)
      ·
        obtain ⟨s5, es5, hr⟩ := g_bd hr
        have fs5_2 : ∀ bb, ¬ ((847 ≤ bb ∧ bb ≤ 848) ∨ bb = 955) → s5.2 bb = M bb := fun bb hb => (w_FM_lastsBy x4 x3 g (0 : Int32) (s2.2) _ es5 bb (by omega)).trans (fs2_2 bb hb)
        obtain ⟨j6, ej6, ij6, lj6, hr⟩ := g_ixo hr
        obtain ⟨j7, ej7, ij7, lj7, hr⟩ := g_ixo hr
        obtain ⟨M8, mM8, hr⟩ := g_leto hr
        have fM8 : ∀ bb, ¬ ((847 ≤ bb ∧ bb ≤ 848) ∨ bb = 955) → M8 bb = M bb := fun bb hb => by rw [mM8]; exact (g_set_ne (by omega)).trans (fs5_2 bb hb)
        exact fun bb hb => (ih x2 x3 (x4 + (1 : Int32)) M8 _ hr bb hb).trans (fM8 bb hb)
set_option maxRecDepth 20000 in
theorem w_FM_worstAt_L26 (g : Int32) : ∀ (k : Nat) (x2 : Int32) (x3 : Int32) (M : gM) (R : Int32 × gM), FM_worstAt_L26 g k x2 x3 M = some R → ∀ bb, ¬ ((847 ≤ bb ∧ bb ≤ 848) ∨ bb = 955) → R.2 bb = M bb := by
  intro k
  induction k with
  | zero => intro x2 x3 M R hr; exact nomatch (show (none : Option (Int32 × gM)) = some R from hr)
  | succ k ih =>
    intro x2 x3 M R hr
    unfold FM_worstAt_L26 at hr
    rcases g_ifo hr with ⟨h1, hr⟩ | ⟨h1, hr⟩
    ·
      exact fun bb hb => (w_FM_worstAt_L92 g 1000 x2 (0 : Int32) M _ hr bb hb)
    ·
      exact fun bb hb => (w_FM_worstAt_L39 g (FM_worstAt_L26 g k) ih 1000 x2 x3 (0 : Int32) M _ hr bb hb)
set_option maxRecDepth 20000 in
theorem w_FM_worstAt_L4 (g : Int32) : ∀ (k : Nat) (x2 : Int32) (x3 : Int32) (M : gM) (R : Int32 × gM), FM_worstAt_L4 g k x2 x3 M = some R → ∀ bb, ¬ ((847 ≤ bb ∧ bb ≤ 848) ∨ bb = 955) → R.2 bb = M bb := by
  intro k
  induction k with
  | zero => intro x2 x3 M R hr; exact nomatch (show (none : Option (Int32 × gM)) = some R from hr)
  | succ k ih =>
    intro x2 x3 M R hr
    unfold FM_worstAt_L4 at hr
    rcases g_ifo hr with ⟨h1, hr⟩ | ⟨h1, hr⟩
    ·
      exact fun bb hb => (w_FM_worstAt_L26 g 1000 x2 (0 : Int32) M _ hr bb hb)
    ·
      obtain ⟨j2, ej2, ij2, lj2, hr⟩ := g_ixo hr
      obtain ⟨M3, mM3, hr⟩ := g_leto hr
      have fM3 : ∀ bb, ¬ ((847 ≤ bb ∧ bb ≤ 848) ∨ bb = 955) → M3 bb = M bb := fun bb hb => by rw [mM3]; exact (g_set_ne (by omega))
      exact fun bb hb => (ih x2 (x3 + (1 : Int32)) M3 _ hr bb hb).trans (fM3 bb hb)
set_option maxRecDepth 20000 in
theorem w_FM_worstAt (g : Int32) (M : gM) (R : Int32 × gM) (hr : FM_worstAt g M = some R) : ∀ bb, ¬ ((847 ≤ bb ∧ bb ≤ 848) ∨ bb = 955) → R.2 bb = M bb := by
  unfold FM_worstAt at hr
  exact fun bb hb => (w_FM_worstAt_L4 g 1000 (0 : Int32) (0 : Int32) M _ hr bb hb)
set_option maxRecDepth 20000 in
theorem w_FM_listen_L37 (what : Int32) : ∀ (k : Nat) (x2 : Int32) (x3 : Int32) (x4 : Int32) (M : gM) (R : Int32 × gM), FM_listen_L37 what k x2 x3 x4 M = some R → ∀ bb, ¬ (bb = 464 ∨ bb = 466 ∨ (847 ≤ bb ∧ bb ≤ 848) ∨ bb = 955) → R.2 bb = M bb := by
  intro k
  induction k with
  | zero => intro x2 x3 x4 M R hr; exact nomatch (show (none : Option (Int32 × gM)) = some R from hr)
  | succ k ih =>
    intro x2 x3 x4 M R hr
    unfold FM_listen_L37 at hr
    rcases g_ifo hr with ⟨h1, hr⟩ | ⟨h1, hr⟩
    ·
      rcases g_ifo hr with ⟨h2, hr⟩ | ⟨h2, hr⟩
      ·
        cases hr; exact fun bb hb => rfl
      ·
        cases hr; exact fun bb hb => rfl
    ·
      obtain ⟨s3, es3, hr⟩ := g_bd hr
      rcases g_ifo hr with ⟨h5, hr⟩ | ⟨h5, hr⟩
      ·
        obtain ⟨s6, es6, hr⟩ := g_bd hr
        have fs6_2 : ∀ bb, ¬ (bb = 464 ∨ bb = 466 ∨ (847 ≤ bb ∧ bb ≤ 848) ∨ bb = 955) → s6.2 bb = M bb := fun bb hb => (w_FM_worstAt x4 M _ es6 bb (by omega))
        rcases g_ifo hr with ⟨h7, hr⟩ | ⟨h7, hr⟩
        ·
          exact fun bb hb => (ih x4 s6.1 (x4 + (1 : Int32)) (s6.2) _ hr bb hb).trans (fs6_2 bb hb)
        ·
          rcases g_ifo hr with ⟨h8, hr⟩ | ⟨h8, hr⟩
          ·
            exact fun bb hb => (ih x4 s6.1 (x4 + (1 : Int32)) (s6.2) _ hr bb hb).trans (fs6_2 bb hb)
          ·
            exact fun bb hb => (ih x2 x3 (x4 + (1 : Int32)) (s6.2) _ hr bb hb).trans (fs6_2 bb hb)
      ·
        exact fun bb hb => (ih x2 x3 (x4 + (1 : Int32)) M _ hr bb hb)
set_option maxRecDepth 20000 in
theorem w_FM_listen_J20 (what : Int32) (y0 : Int32) (M : gM) (R : Int32 × gM) (hr : FM_listen_J20 what y0 M = some R) : ∀ bb, ¬ (bb = 464 ∨ bb = 466 ∨ (847 ≤ bb ∧ bb ≤ 848) ∨ bb = 955) → R.2 bb = M bb := by
  unfold FM_listen_J20 at hr
  obtain ⟨s1, es1, hr⟩ := g_bd hr
  have fs1_2 : ∀ bb, ¬ (bb = 464 ∨ bb = 466 ∨ (847 ≤ bb ∧ bb ≤ 848) ∨ bb = 955) → s1.2 bb = M bb := fun bb hb => (w_FM_bad y0 (1 : Int32) (1 : Int32) M _ es1 bb (by omega))
  rcases g_ifo hr with ⟨h3, hr⟩ | ⟨h3, hr⟩
  ·
    exact fun bb hb => (w_FM_listen_L37 what 1000 (-1 : Int32) (-1 : Int32) (1 : Int32) (s1.2) _ hr bb hb).trans (fs1_2 bb hb)
  ·
    cases hr; exact fun bb hb => fs1_2 bb hb
set_option maxRecDepth 20000 in
theorem w_FM_listen (what : Int32) (M : gM) (R : Int32 × gM) (hr : FM_listen what M = some R) : ∀ bb, ¬ (bb = 464 ∨ bb = 466 ∨ (847 ≤ bb ∧ bb ≤ 848) ∨ bb = 955) → R.2 bb = M bb := by
  unfold FM_listen at hr
  rcases g_ifo hr with ⟨h3, hr⟩ | ⟨h3, hr⟩
  ·
    exact fun bb hb => (w_FM_listen_J20 what (1 : Int32) (g_set M 464 0 (0 : Int32)) _ hr bb hb).trans ((g_set_ne (by omega)))
  ·
    exact fun bb hb => (w_FM_listen_J20 what (0 : Int32) (g_set M 464 0 (0 : Int32)) _ hr bb hb).trans ((g_set_ne (by omega)))
set_option maxRecDepth 20000 in
theorem w_FM_safe_L46 (walks : Int32) (part : Int32) : ∀ (k : Nat) (x3 : Int64) (x5 : Int64) (x7 : Int32) (M : gM) (R : Int64 × gM), FM_safe_L46 walks part k x3 x5 x7 M = some R → ∀ bb, ¬ (bb = 464 ∨ bb = 466) → R.2 bb = M bb := by
  intro k
  induction k with
  | zero => intro x3 x5 x7 M R hr; exact nomatch (show (none : Option (Int64 × gM)) = some R from hr)
  | succ k ih =>
    intro x3 x5 x7 M R hr
    unfold FM_safe_L46 at hr
    rcases g_ifo hr with ⟨h1, hr⟩ | ⟨h1, hr⟩
    ·
      obtain ⟨s2, es2, hr⟩ := g_bd hr
      cases hr; exact fun bb hb => rfl
    ·
      rcases g_ifo hr with ⟨h5, hr⟩ | ⟨h5, hr⟩
      ·
        exact fun bb hb => (ih x3 x5 (x7 + (1 : Int32)) M _ hr bb hb)
      ·
        obtain ⟨j6, ej6, ij6, lj6, hr⟩ := g_ixo hr
        exact fun bb hb => (ih (x3 * (((16 : Int32) - (M (481 + j6) 1)).toInt64)) (x5 * (16 : Int64)) (x7 + (1 : Int32)) M _ hr bb hb)
set_option maxRecDepth 20000 in
theorem w_FM_safe_J28 (walks : Int32) (part : Int32) (y0 : Int32) (M : gM) (R : Int64 × gM) (hr : FM_safe_J28 walks part y0 M = some R) : ∀ bb, ¬ (bb = 464 ∨ bb = 466) → R.2 bb = M bb := by
  unfold FM_safe_J28 at hr
  obtain ⟨s1, es1, hr⟩ := g_bd hr
  have fs1_2 : ∀ bb, ¬ (bb = 464 ∨ bb = 466) → s1.2 bb = M bb := fun bb hb => (w_FM_bad y0 (1 : Int32) (1 : Int32) M _ es1 bb (by omega))
  rcases g_ifo hr with ⟨h3, hr⟩ | ⟨h3, hr⟩
  ·
    exact fun bb hb => (w_FM_safe_L46 walks part 1000 (1 : Int64) (1 : Int64) (0 : Int32) (s1.2) _ hr bb hb).trans (fs1_2 bb hb)
  ·
    cases hr; exact fun bb hb => fs1_2 bb hb
set_option maxRecDepth 20000 in
theorem w_FM_safe_J23 (walks : Int32) (part : Int32) (M : gM) (R : Int64 × gM) (hr : FM_safe_J23 walks part M = some R) : ∀ bb, ¬ (bb = 464 ∨ bb = 466) → R.2 bb = M bb := by
  unfold FM_safe_J23 at hr
  exact fun bb hb => (w_FM_safe_J28 walks part (1 : Int32) M _ hr bb hb)
set_option maxRecDepth 20000 in
theorem w_FM_safe (walks : Int32) (part : Int32) (M : gM) (R : Int64 × gM) (hr : FM_safe walks part M = some R) : ∀ bb, ¬ (bb = 464 ∨ bb = 466) → R.2 bb = M bb := by
  unfold FM_safe at hr
  rcases g_ifo hr with ⟨h3, hr⟩ | ⟨h3, hr⟩
  ·
    exact fun bb hb => (w_FM_safe_J23 walks part (g_set M 464 0 (0 : Int32)) _ hr bb hb).trans ((g_set_ne (by omega)))
  ·
    rcases g_ifo hr with ⟨h6, hr⟩ | ⟨h6, hr⟩
    ·
      exact fun bb hb => (w_FM_safe_J23 walks part (g_set M 464 0 (0 : Int32)) _ hr bb hb).trans ((g_set_ne (by omega)))
    ·
      exact fun bb hb => (w_FM_safe_J28 walks part (0 : Int32) (g_set M 464 0 (0 : Int32)) _ hr bb hb).trans ((g_set_ne (by omega)))
set_option maxRecDepth 20000 in
theorem w_FM_mean_J30 (n : Int32) (part : Int32) (y0 : Int32) (M : gM) (R : Int32 × gM) (hr : FM_mean_J30 n part y0 M = some R) : ∀ bb, ¬ (bb = 464 ∨ bb = 466) → R.2 bb = M bb := by
  unfold FM_mean_J30 at hr
  obtain ⟨s1, es1, hr⟩ := g_bd hr
  have fs1_2 : ∀ bb, ¬ (bb = 464 ∨ bb = 466) → s1.2 bb = M bb := fun bb hb => (w_FM_bad y0 (1 : Int32) (1 : Int32) M _ es1 bb (by omega))
  rcases g_ifo hr with ⟨h3, hr⟩ | ⟨h3, hr⟩
  ·
    obtain ⟨s4, es4, hr⟩ := g_bd hr
    obtain ⟨s5, es5, hr⟩ := g_bd hr
    cases hr; exact fun bb hb => fs1_2 bb hb
  ·
    cases hr; exact fun bb hb => fs1_2 bb hb
set_option maxRecDepth 20000 in
theorem w_FM_mean_J25 (n : Int32) (part : Int32) (M : gM) (R : Int32 × gM) (hr : FM_mean_J25 n part M = some R) : ∀ bb, ¬ (bb = 464 ∨ bb = 466) → R.2 bb = M bb := by
  unfold FM_mean_J25 at hr
  exact fun bb hb => (w_FM_mean_J30 n part (1 : Int32) M _ hr bb hb)
set_option maxRecDepth 20000 in
theorem w_FM_mean (n : Int32) (part : Int32) (M : gM) (R : Int32 × gM) (hr : FM_mean n part M = some R) : ∀ bb, ¬ (bb = 464 ∨ bb = 466) → R.2 bb = M bb := by
  unfold FM_mean at hr
  rcases g_ifo hr with ⟨h3, hr⟩ | ⟨h3, hr⟩
  ·
    exact fun bb hb => (w_FM_mean_J25 n part (g_set M 464 0 (0 : Int32)) _ hr bb hb).trans ((g_set_ne (by omega)))
  ·
    rcases g_ifo hr with ⟨h6, hr⟩ | ⟨h6, hr⟩
    ·
      exact fun bb hb => (w_FM_mean_J25 n part (g_set M 464 0 (0 : Int32)) _ hr bb hb).trans ((g_set_ne (by omega)))
    ·
      exact fun bb hb => (w_FM_mean_J30 n part (0 : Int32) (g_set M 464 0 (0 : Int32)) _ hr bb hb).trans ((g_set_ne (by omega)))
set_option maxRecDepth 20000 in
theorem w_FM_stands_L59 (q : Int32) (n : Int32) (part : Int32) : ∀ (k : Nat) (x4 : Int64) (x6 : Int64) (x8 : Int32) (M : gM) (R : Int64 × gM), FM_stands_L59 q n part k x4 x6 x8 M = some R → ∀ bb, ¬ (bb = 464 ∨ bb = 466) → R.2 bb = M bb := by
  intro k
  induction k with
  | zero => intro x4 x6 x8 M R hr; exact nomatch (show (none : Option (Int64 × gM)) = some R from hr)
  | succ k ih =>
    intro x4 x6 x8 M R hr
    unfold FM_stands_L59 at hr
    rcases g_ifo hr with ⟨h1, hr⟩ | ⟨h1, hr⟩
    ·
      obtain ⟨s2, es2, hr⟩ := g_bd hr
      cases hr; exact fun bb hb => rfl
    ·
      exact fun bb hb => (ih (x4 * (((16 : Int32) - q).toInt64)) (x6 * (16 : Int64)) (x8 + (1 : Int32)) M _ hr bb hb)
set_option maxRecDepth 20000 in
theorem w_FM_stands_J40 (q : Int32) (n : Int32) (part : Int32) (y0 : Int32) (M : gM) (R : Int64 × gM) (hr : FM_stands_J40 q n part y0 M = some R) : ∀ bb, ¬ (bb = 464 ∨ bb = 466) → R.2 bb = M bb := by
  unfold FM_stands_J40 at hr
  obtain ⟨s1, es1, hr⟩ := g_bd hr
  have fs1_2 : ∀ bb, ¬ (bb = 464 ∨ bb = 466) → s1.2 bb = M bb := fun bb hb => (w_FM_bad y0 (1 : Int32) (1 : Int32) M _ es1 bb (by omega))
  rcases g_ifo hr with ⟨h3, hr⟩ | ⟨h3, hr⟩
  ·
    exact fun bb hb => (w_FM_stands_L59 q n part 1000 (1 : Int64) (1 : Int64) (0 : Int32) (s1.2) _ hr bb hb).trans (fs1_2 bb hb)
  ·
    cases hr; exact fun bb hb => fs1_2 bb hb
set_option maxRecDepth 20000 in
theorem w_FM_stands_J35 (q : Int32) (n : Int32) (part : Int32) (M : gM) (R : Int64 × gM) (hr : FM_stands_J35 q n part M = some R) : ∀ bb, ¬ (bb = 464 ∨ bb = 466) → R.2 bb = M bb := by
  unfold FM_stands_J35 at hr
  exact fun bb hb => (w_FM_stands_J40 q n part (1 : Int32) M _ hr bb hb)
set_option maxRecDepth 20000 in
theorem w_FM_stands (q : Int32) (n : Int32) (part : Int32) (M : gM) (R : Int64 × gM) (hr : FM_stands q n part M = some R) : ∀ bb, ¬ (bb = 464 ∨ bb = 466) → R.2 bb = M bb := by
  unfold FM_stands at hr
  rcases g_ifo hr with ⟨h3, hr⟩ | ⟨h3, hr⟩
  ·
    exact fun bb hb => (w_FM_stands_J35 q n part (g_set M 464 0 (0 : Int32)) _ hr bb hb).trans ((g_set_ne (by omega)))
  ·
    rcases g_ifo hr with ⟨h6, hr⟩ | ⟨h6, hr⟩
    ·
      exact fun bb hb => (w_FM_stands_J35 q n part (g_set M 464 0 (0 : Int32)) _ hr bb hb).trans ((g_set_ne (by omega)))
    ·
      rcases g_ifo hr with ⟨h9, hr⟩ | ⟨h9, hr⟩
      ·
        exact fun bb hb => (w_FM_stands_J35 q n part (g_set M 464 0 (0 : Int32)) _ hr bb hb).trans ((g_set_ne (by omega)))
      ·
        exact fun bb hb => (w_FM_stands_J40 q n part (0 : Int32) (g_set M 464 0 (0 : Int32)) _ hr bb hb).trans ((g_set_ne (by omega)))
set_option maxRecDepth 20000 in
theorem w_FM_cover_L42 (walks : Int32) : ∀ (k : Nat) (x2 : Int32) (x3 : Int32) (M : gM) (R : Int32 × gM), FM_cover_L42 walks k x2 x3 M = some R → ∀ bb, ¬ (bb = 464 ∨ bb = 466) → R.2 bb = M bb := by
  intro k
  induction k with
  | zero => intro x2 x3 M R hr; exact nomatch (show (none : Option (Int32 × gM)) = some R from hr)
  | succ k ih =>
    intro x2 x3 M R hr
    unfold FM_cover_L42 at hr
    rcases g_ifo hr with ⟨h1, hr⟩ | ⟨h1, hr⟩
    ·
      cases hr; exact fun bb hb => rfl
    ·
      obtain ⟨s2, es2, hr⟩ := g_bd hr
      rcases g_ifo hr with ⟨h4, hr⟩ | ⟨h4, hr⟩
      ·
        exact fun bb hb => (ih x2 (x3 + (-1 : Int32)) M _ hr bb hb)
      ·
        obtain ⟨s5, es5, hr⟩ := g_bd hr
        obtain ⟨s6, es6, hr⟩ := g_bd hr
        rcases g_ifo hr with ⟨h7, hr⟩ | ⟨h7, hr⟩
        ·
          exact fun bb hb => (ih x2 (x3 + (-1 : Int32)) M _ hr bb hb)
        ·
          exact fun bb hb => (ih x3 (x3 + (-1 : Int32)) M _ hr bb hb)
set_option maxRecDepth 20000 in
theorem w_FM_cover_J19 (walks : Int32) (y0 : Int32) (M : gM) (R : Int32 × gM) (hr : FM_cover_J19 walks y0 M = some R) : ∀ bb, ¬ (bb = 464 ∨ bb = 466) → R.2 bb = M bb := by
  unfold FM_cover_J19 at hr
  obtain ⟨s1, es1, hr⟩ := g_bd hr
  have fs1_2 : ∀ bb, ¬ (bb = 464 ∨ bb = 466) → s1.2 bb = M bb := fun bb hb => (w_FM_bad y0 (1 : Int32) (1 : Int32) M _ es1 bb (by omega))
  rcases g_ifo hr with ⟨h3, hr⟩ | ⟨h3, hr⟩
  ·
    exact fun bb hb => (w_FM_cover_L42 walks 1000 (((1 : Int32) <<< (((s1.2) 468 0) &&& 31)) - (1 : Int32)) (((1 : Int32) <<< (((s1.2) 468 0) &&& 31)) - (1 : Int32)) (s1.2) _ hr bb hb).trans (fs1_2 bb hb)
  ·
    cases hr; exact fun bb hb => fs1_2 bb hb
set_option maxRecDepth 20000 in
theorem w_FM_cover (walks : Int32) (M : gM) (R : Int32 × gM) (hr : FM_cover walks M = some R) : ∀ bb, ¬ (bb = 464 ∨ bb = 466) → R.2 bb = M bb := by
  unfold FM_cover at hr
  rcases g_ifo hr with ⟨h3, hr⟩ | ⟨h3, hr⟩
  ·
    exact fun bb hb => (w_FM_cover_J19 walks (1 : Int32) (g_set M 464 0 (0 : Int32)) _ hr bb hb).trans ((g_set_ne (by omega)))
  ·
    exact fun bb hb => (w_FM_cover_J19 walks (0 : Int32) (g_set M 464 0 (0 : Int32)) _ hr bb hb).trans ((g_set_ne (by omega)))
set_option maxRecDepth 20000 in
theorem w_FM_watch_L48 (n : Int32) (what : Int32) : ∀ (k : Nat) (x3 : Int32) (x4 : Int32) (x5 : Int32) (M : gM) (R : Int32 × gM), FM_watch_L48 n what k x3 x4 x5 M = some R → ∀ bb, ¬ (bb = 464 ∨ bb = 466) → R.2 bb = M bb := by
  intro k
  induction k with
  | zero => intro x3 x4 x5 M R hr; exact nomatch (show (none : Option (Int32 × gM)) = some R from hr)
  | succ k ih =>
    intro x3 x4 x5 M R hr
    unfold FM_watch_L48 at hr
    rcases g_ifo hr with ⟨h1, hr⟩ | ⟨h1, hr⟩
    ·
      rcases g_ifo hr with ⟨h2, hr⟩ | ⟨h2, hr⟩
      ·
        cases hr; exact fun bb hb => rfl
      ·
        cases hr; exact fun bb hb => rfl
    ·
      obtain ⟨s3, es3, hr⟩ := g_bd hr
      rcases g_ifo hr with ⟨h4, hr⟩ | ⟨h4, hr⟩
      ·
        obtain ⟨s5, es5, hr⟩ := g_bd hr
        rcases g_ifo hr with ⟨h6, hr⟩ | ⟨h6, hr⟩
        ·
          obtain ⟨s7, es7, hr⟩ := g_bd hr
          exact fun bb hb => (ih x5 s7 (x5 + (1 : Int32)) M _ hr bb hb)
        ·
          exact fun bb hb => (ih x3 x4 (x5 + (1 : Int32)) M _ hr bb hb)
      ·
        exact fun bb hb => (ih x3 x4 (x5 + (1 : Int32)) M _ hr bb hb)
set_option maxRecDepth 20000 in
theorem w_FM_watch_J30 (n : Int32) (what : Int32) (y0 : Int32) (M : gM) (R : Int32 × gM) (hr : FM_watch_J30 n what y0 M = some R) : ∀ bb, ¬ (bb = 464 ∨ bb = 466) → R.2 bb = M bb := by
  unfold FM_watch_J30 at hr
  obtain ⟨s1, es1, hr⟩ := g_bd hr
  have fs1_2 : ∀ bb, ¬ (bb = 464 ∨ bb = 466) → s1.2 bb = M bb := fun bb hb => (w_FM_bad y0 (1 : Int32) (1 : Int32) M _ es1 bb (by omega))
  rcases g_ifo hr with ⟨h3, hr⟩ | ⟨h3, hr⟩
  ·
    exact fun bb hb => (w_FM_watch_L48 n what 1000 (-1 : Int32) (-1 : Int32) (0 : Int32) (s1.2) _ hr bb hb).trans (fs1_2 bb hb)
  ·
    cases hr; exact fun bb hb => fs1_2 bb hb
set_option maxRecDepth 20000 in
theorem w_FM_watch_J25 (n : Int32) (what : Int32) (M : gM) (R : Int32 × gM) (hr : FM_watch_J25 n what M = some R) : ∀ bb, ¬ (bb = 464 ∨ bb = 466) → R.2 bb = M bb := by
  unfold FM_watch_J25 at hr
  exact fun bb hb => (w_FM_watch_J30 n what (1 : Int32) M _ hr bb hb)
set_option maxRecDepth 20000 in
theorem w_FM_watch (n : Int32) (what : Int32) (M : gM) (R : Int32 × gM) (hr : FM_watch n what M = some R) : ∀ bb, ¬ (bb = 464 ∨ bb = 466) → R.2 bb = M bb := by
  unfold FM_watch at hr
  rcases g_ifo hr with ⟨h3, hr⟩ | ⟨h3, hr⟩
  ·
    exact fun bb hb => (w_FM_watch_J25 n what (g_set M 464 0 (0 : Int32)) _ hr bb hb).trans ((g_set_ne (by omega)))
  ·
    rcases g_ifo hr with ⟨h6, hr⟩ | ⟨h6, hr⟩
    ·
      exact fun bb hb => (w_FM_watch_J25 n what (g_set M 464 0 (0 : Int32)) _ hr bb hb).trans ((g_set_ne (by omega)))
    ·
      exact fun bb hb => (w_FM_watch_J30 n what (0 : Int32) (g_set M 464 0 (0 : Int32)) _ hr bb hb).trans ((g_set_ne (by omega)))
set_option maxRecDepth 20000 in
theorem w_FM_toffee_J144 (h : Int32) (k0 : Int32) (what : Int32) (c83 : Int32 → Int32 → Int32 → Int32 → Int32 → gM → Option (Int32 × gM)) (gc83 : ∀ (x4 : Int32) (x5 : Int32) (x6 : Int32) (x7 : Int32) (x8 : Int32) (M : gM) (R : Int32 × gM), c83 x4 x5 x6 x7 x8 M = some R → ∀ bb, ¬ (bb = 464 ∨ bb = 466) → R.2 bb = M bb) (x4 : Int32) (x6 : Int32) (x7 : Int32) (x8 : Int32) (y0 : Int32) (M : gM) (R : Int32 × gM) (hr : FM_toffee_J144 h k0 what c83 x4 x6 x7 x8 y0 M = some R) : ∀ bb, ¬ (bb = 464 ∨ bb = 466) → R.2 bb = M bb := by
  unfold FM_toffee_J144 at hr
  rcases g_ifo hr with ⟨h1, hr⟩ | ⟨h1, hr⟩
  ·
    obtain ⟨j2, ej2, ij2, lj2, hr⟩ := g_ixo hr
    obtain ⟨j3, ej3, ij3, lj3, hr⟩ := g_ixo hr
    exact fun bb hb => (gc83 (x4 + (1 : Int32)) y0 ((FM_hasBy x7 x8 (M 470 j2)) + (FM_hasBy x8 x7 (M 470 j3))) x7 (x8 + (1 : Int32)) M _ hr bb hb)
  ·
    exact fun bb hb => (gc83 (x4 + (1 : Int32)) y0 x6 x7 (x8 + (1 : Int32)) M _ hr bb hb)
set_option maxRecDepth 20000 in
theorem w_FM_toffee_L83 (h : Int32) (k0 : Int32) (what : Int32) (c74 : Int32 → Int32 → Int32 → Int32 → gM → Option (Int32 × gM)) (gc74 : ∀ (x4 : Int32) (x5 : Int32) (x6 : Int32) (x7 : Int32) (M : gM) (R : Int32 × gM), c74 x4 x5 x6 x7 M = some R → ∀ bb, ¬ (bb = 464 ∨ bb = 466) → R.2 bb = M bb) : ∀ (k : Nat) (x4 : Int32) (x5 : Int32) (x6 : Int32) (x7 : Int32) (x8 : Int32) (M : gM) (R : Int32 × gM), FM_toffee_L83 h k0 what c74 k x4 x5 x6 x7 x8 M = some R → ∀ bb, ¬ (bb = 464 ∨ bb = 466) → R.2 bb = M bb := by
  intro k
  induction k with
  | zero => intro x4 x5 x6 x7 x8 M R hr; exact nomatch (show (none : Option (Int32 × gM)) = some R from hr)
  | succ k ih =>
    intro x4 x5 x6 x7 x8 M R hr
    unfold FM_toffee_L83 at hr
    rcases g_ifo hr with ⟨h1, hr⟩ | ⟨h1, hr⟩
    ·
      exact fun bb hb => (gc74 x4 x5 x6 (x7 + (1 : Int32)) M _ hr bb hb)
    ·
      obtain ⟨j2, ej2, ij2, lj2, hr⟩ := g_ixo hr
      obtain ⟨s3, es3, hr⟩ := g_bd hr
      rcases g_ifo hr with ⟨h5, hr⟩ | ⟨h5, hr⟩
      ·
        exact fun bb hb => (ih x4 x5 x6 x7 (x8 + (1 : Int32)) M _ hr bb hb)
      ·
        obtain ⟨j6, ej6, ij6, lj6, hr⟩ := g_ixo hr
        obtain ⟨s7, es7, hr⟩ := g_bd hr
        rcases g_ifo hr with ⟨h9, hr⟩ | ⟨h9, hr⟩
        ·
          exact fun bb hb => (ih x4 x5 x6 x7 (x8 + (1 : Int32)) M _ hr bb hb)
        ·
          rcases g_ifo hr with ⟨h10, hr⟩ | ⟨h10, hr⟩
          ·
            exact fun bb hb => (w_FM_toffee_J144 h k0 what (FM_toffee_L83 h k0 what c74 k) ih x4 x6 x7 x8 (((10 : Int32) * x7) + x8) M _ hr bb hb)
          ·
            exact fun bb hb => (w_FM_toffee_J144 h k0 what (FM_toffee_L83 h k0 what c74 k) ih x4 x6 x7 x8 x5 M _ hr bb hb)
set_option maxRecDepth 20000 in
theorem w_FM_toffee_L74 (h : Int32) (k0 : Int32) (what : Int32) : ∀ (k : Nat) (x4 : Int32) (x5 : Int32) (x6 : Int32) (x7 : Int32) (M : gM) (R : Int32 × gM), FM_toffee_L74 h k0 what k x4 x5 x6 x7 M = some R → ∀ bb, ¬ (bb = 464 ∨ bb = 466) → R.2 bb = M bb := by
  intro k
  induction k with
  | zero => intro x4 x5 x6 x7 M R hr; exact nomatch (show (none : Option (Int32 × gM)) = some R from hr)
  | succ k ih =>
    intro x4 x5 x6 x7 M R hr
    unfold FM_toffee_L74 at hr
    rcases g_ifo hr with ⟨h1, hr⟩ | ⟨h1, hr⟩
    ·
      rcases g_ifo hr with ⟨h2, hr⟩ | ⟨h2, hr⟩
      ·
        cases hr; exact fun bb hb => rfl
      ·
        rcases g_ifo hr with ⟨h3, hr⟩ | ⟨h3, hr⟩
        ·
          cases hr; exact fun bb hb => rfl
        ·
          cases hr; exact fun bb hb => rfl
    ·
      exact fun bb hb => (w_FM_toffee_L83 h k0 what (FM_toffee_L74 h k0 what k) ih 1000 x4 x5 x6 x7 (0 : Int32) M _ hr bb hb)
set_option maxRecDepth 20000 in
theorem w_FM_toffee_J52 (h : Int32) (k0 : Int32) (what : Int32) (y0 : Int32) (M : gM) (R : Int32 × gM) (hr : FM_toffee_J52 h k0 what y0 M = some R) : ∀ bb, ¬ (bb = 464 ∨ bb = 466) → R.2 bb = M bb := by
  unfold FM_toffee_J52 at hr
  obtain ⟨s1, es1, hr⟩ := g_bd hr
  have fs1_2 : ∀ bb, ¬ (bb = 464 ∨ bb = 466) → s1.2 bb = M bb := fun bb hb => (w_FM_bad y0 (2 : Int32) (1 : Int32) M _ es1 bb (by omega))
  rcases g_ifo hr with ⟨h3, hr⟩ | ⟨h3, hr⟩
  ·
    exact fun bb hb => (w_FM_toffee_L74 h k0 what 1000 (0 : Int32) (-1 : Int32) (0 : Int32) (0 : Int32) (s1.2) _ hr bb hb).trans (fs1_2 bb hb)
  ·
    cases hr; exact fun bb hb => fs1_2 bb hb
set_option maxRecDepth 20000 in
theorem w_FM_toffee_J47 (h : Int32) (k0 : Int32) (what : Int32) (M : gM) (R : Int32 × gM) (hr : FM_toffee_J47 h k0 what M = some R) : ∀ bb, ¬ (bb = 464 ∨ bb = 466) → R.2 bb = M bb := by
  unfold FM_toffee_J47 at hr
  exact fun bb hb => (w_FM_toffee_J52 h k0 what (1 : Int32) M _ hr bb hb)
set_option maxRecDepth 20000 in
theorem w_FM_toffee_J19 (h : Int32) (k0 : Int32) (what : Int32) (y0 : Int32) (M : gM) (R : Int32 × gM) (hr : FM_toffee_J19 h k0 what y0 M = some R) : ∀ bb, ¬ (bb = 464 ∨ bb = 466) → R.2 bb = M bb := by
  unfold FM_toffee_J19 at hr
  obtain ⟨s1, es1, hr⟩ := g_bd hr
  have fs1_2 : ∀ bb, ¬ (bb = 464 ∨ bb = 466) → s1.2 bb = M bb := fun bb hb => (w_FM_bad y0 (1 : Int32) (0 : Int32) M _ es1 bb (by omega))
  rcases g_ifo hr with ⟨h3, hr⟩ | ⟨h3, hr⟩
  ·
    rcases g_ifo hr with ⟨h6, hr⟩ | ⟨h6, hr⟩
    ·
      exact fun bb hb => (w_FM_toffee_J47 h k0 what (s1.2) _ hr bb hb).trans (fs1_2 bb hb)
    ·
      rcases g_ifo hr with ⟨h9, hr⟩ | ⟨h9, hr⟩
      ·
        exact fun bb hb => (w_FM_toffee_J47 h k0 what (s1.2) _ hr bb hb).trans (fs1_2 bb hb)
      ·
        exact fun bb hb => (w_FM_toffee_J52 h k0 what (0 : Int32) (s1.2) _ hr bb hb).trans (fs1_2 bb hb)
  ·
    cases hr; exact fun bb hb => fs1_2 bb hb
set_option maxRecDepth 20000 in
theorem w_FM_toffee (h : Int32) (k0 : Int32) (what : Int32) (M : gM) (R : Int32 × gM) (hr : FM_toffee h k0 what M = some R) : ∀ bb, ¬ (bb = 464 ∨ bb = 466) → R.2 bb = M bb := by
  unfold FM_toffee at hr
  rcases g_ifo hr with ⟨h3, hr⟩ | ⟨h3, hr⟩
  ·
    exact fun bb hb => (w_FM_toffee_J19 h k0 what (1 : Int32) (g_set M 464 0 (0 : Int32)) _ hr bb hb).trans ((g_set_ne (by omega)))
  ·
    exact fun bb hb => (w_FM_toffee_J19 h k0 what (0 : Int32) (g_set M 464 0 (0 : Int32)) _ hr bb hb).trans ((g_set_ne (by omega)))
set_option maxRecDepth 20000 in
theorem w_FM_share_J100 (c : Int32) (children : Int32) (n : Int32) (x4 : Int32) (M : gM) (R : Int32 × gM) (hr : FM_share_J100 c children n x4 M = some R) : ∀ bb, ¬ (bb = 464 ∨ bb = 466) → R.2 bb = M bb := by
  unfold FM_share_J100 at hr
  rcases g_ifo hr with ⟨h3, hr⟩ | ⟨h3, hr⟩
  ·
    cases hr; exact fun bb hb => rfl
  ·
    obtain ⟨j4, ej4, ij4, lj4, hr⟩ := g_ixo hr
    cases hr; exact fun bb hb => rfl
set_option maxRecDepth 20000 in
theorem w_FM_share_L74 (c : Int32) (children : Int32) (n : Int32) : ∀ (k : Nat) (x4 : Int32) (M : gM) (R : Int32 × gM), FM_share_L74 c children n k x4 M = some R → ∀ bb, ¬ (bb = 464 ∨ bb = 466) → R.2 bb = M bb := by
  intro k
  induction k with
  | zero => intro x4 M R hr; exact nomatch (show (none : Option (Int32 × gM)) = some R from hr)
  | succ k ih =>
    intro x4 M R hr
    unfold FM_share_L74 at hr
    rcases g_ifo hr with ⟨h1, hr⟩ | ⟨h1, hr⟩
    ·
      exact fun bb hb => (w_FM_share_J100 c children n x4 M _ hr bb hb)
    ·
      obtain ⟨s2, es2, hr⟩ := g_bd hr
      rcases g_ifo hr with ⟨h3, hr⟩ | ⟨h3, hr⟩
      ·
        exact fun bb hb => (w_FM_share_J100 c children n x4 M _ hr bb hb)
      ·
        exact fun bb hb => (ih (x4 + (1 : Int32)) M _ hr bb hb)
set_option maxRecDepth 20000 in
theorem w_FM_share_J61 (c : Int32) (children : Int32) (n : Int32) (y0 : Int32) (M : gM) (R : Int32 × gM) (hr : FM_share_J61 c children n y0 M = some R) : ∀ bb, ¬ (bb = 464 ∨ bb = 466) → R.2 bb = M bb := by
  unfold FM_share_J61 at hr
  obtain ⟨s1, es1, hr⟩ := g_bd hr
  have fs1_2 : ∀ bb, ¬ (bb = 464 ∨ bb = 466) → s1.2 bb = M bb := fun bb hb => (w_FM_bad y0 (2 : Int32) (1 : Int32) M _ es1 bb (by omega))
  rcases g_ifo hr with ⟨h3, hr⟩ | ⟨h3, hr⟩
  ·
    exact fun bb hb => (w_FM_share_L74 c children n 1000 (0 : Int32) (s1.2) _ hr bb hb).trans (fs1_2 bb hb)
  ·
    cases hr; exact fun bb hb => fs1_2 bb hb
set_option maxRecDepth 20000 in
theorem w_FM_share_J56 (c : Int32) (children : Int32) (n : Int32) (M : gM) (R : Int32 × gM) (hr : FM_share_J56 c children n M = some R) : ∀ bb, ¬ (bb = 464 ∨ bb = 466) → R.2 bb = M bb := by
  unfold FM_share_J56 at hr
  exact fun bb hb => (w_FM_share_J61 c children n (1 : Int32) M _ hr bb hb)
set_option maxRecDepth 20000 in
theorem w_FM_share_J19 (c : Int32) (children : Int32) (n : Int32) (y0 : Int32) (M : gM) (R : Int32 × gM) (hr : FM_share_J19 c children n y0 M = some R) : ∀ bb, ¬ (bb = 464 ∨ bb = 466) → R.2 bb = M bb := by
  unfold FM_share_J19 at hr
  obtain ⟨s1, es1, hr⟩ := g_bd hr
  have fs1_2 : ∀ bb, ¬ (bb = 464 ∨ bb = 466) → s1.2 bb = M bb := fun bb hb => (w_FM_bad y0 (1 : Int32) (0 : Int32) M _ es1 bb (by omega))
  rcases g_ifo hr with ⟨h3, hr⟩ | ⟨h3, hr⟩
  ·
    rcases g_ifo hr with ⟨h6, hr⟩ | ⟨h6, hr⟩
    ·
      exact fun bb hb => (w_FM_share_J56 c children n (s1.2) _ hr bb hb).trans (fs1_2 bb hb)
    ·
      rcases g_ifo hr with ⟨h9, hr⟩ | ⟨h9, hr⟩
      ·
        exact fun bb hb => (w_FM_share_J56 c children n (s1.2) _ hr bb hb).trans (fs1_2 bb hb)
      ·
        exact fun bb hb => (w_FM_share_J61 c children n (0 : Int32) (s1.2) _ hr bb hb).trans (fs1_2 bb hb)
  ·
    cases hr; exact fun bb hb => fs1_2 bb hb
set_option maxRecDepth 20000 in
theorem w_FM_share (c : Int32) (children : Int32) (n : Int32) (M : gM) (R : Int32 × gM) (hr : FM_share c children n M = some R) : ∀ bb, ¬ (bb = 464 ∨ bb = 466) → R.2 bb = M bb := by
  unfold FM_share at hr
  rcases g_ifo hr with ⟨h3, hr⟩ | ⟨h3, hr⟩
  ·
    exact fun bb hb => (w_FM_share_J19 c children n (1 : Int32) (g_set M 464 0 (0 : Int32)) _ hr bb hb).trans ((g_set_ne (by omega)))
  ·
    exact fun bb hb => (w_FM_share_J19 c children n (0 : Int32) (g_set M 464 0 (0 : Int32)) _ hr bb hb).trans ((g_set_ne (by omega)))
set_option maxRecDepth 20000 in
theorem w_FM_draw  (M : gM) (R : Int32 × gM) (hr : FM_draw M = some R) : ∀ bb, ¬ (bb = 464) → R.2 bb = M bb := by
  unfold FM_draw at hr
  cases hr; exact fun bb hb => (g_set_ne (by omega))
set_option maxRecDepth 20000 in
theorem w_FM_daysBy_J144 (seed : Int32) (many : Int32) (q : Int32) (c29 : Int32 → gM → Option (gM)) (gc29 : ∀ (x4 : Int32) (M : gM) (R : gM), c29 x4 M = some R → ∀ bb, ¬ (bb = 464 ∨ (847 ≤ bb ∧ bb ≤ 848) ∨ bb = 931) → R bb = M bb) (x4 : Int32) (y0 : Int32) (M : gM) (R : gM) (hr : FM_daysBy_J144 seed many q c29 x4 y0 M = some R) : ∀ bb, ¬ (bb = 464 ∨ (847 ≤ bb ∧ bb ≤ 848) ∨ bb = 931) → R bb = M bb := by
  unfold FM_daysBy_J144 at hr
  obtain ⟨s1, es1, hr⟩ := g_bd hr
  have fs1_2 : ∀ bb, ¬ (bb = 464 ∨ (847 ≤ bb ∧ bb ≤ 848) ∨ bb = 931) → s1.2 bb = M bb := fun bb hb => (w_FM_rolls 931 y0 M _ es1 bb (by omega))
  exact fun bb hb => (gc29 (x4 + (1 : Int32)) (s1.2) _ hr bb hb).trans (fs1_2 bb hb)
set_option maxRecDepth 20000 in
theorem w_FM_daysBy_J125 (seed : Int32) (many : Int32) (q : Int32) (c29 : Int32 → gM → Option (gM)) (gc29 : ∀ (x4 : Int32) (M : gM) (R : gM), c29 x4 M = some R → ∀ bb, ¬ (bb = 464 ∨ (847 ≤ bb ∧ bb ≤ 848) ∨ bb = 931) → R bb = M bb) (x4 : Int32) (x5 : Int32) (y0 : Int32) (y1 : Int32) (M : gM) (R : gM) (hr : FM_daysBy_J125 seed many q c29 x4 x5 y0 y1 M = some R) : ∀ bb, ¬ (bb = 464 ∨ (847 ≤ bb ∧ bb ≤ 848) ∨ bb = 931) → R bb = M bb := by
  unfold FM_daysBy_J125 at hr
  rcases g_ifo hr with ⟨h1, hr⟩ | ⟨h1, hr⟩
  ·
    exact fun bb hb => (w_FM_daysBy_J144 seed many q c29 gc29 x4 (0 : Int32) (g_set M 464 38 (y1 + y0)) _ hr bb hb).trans ((g_set_ne (by omega)))
  ·
    exact fun bb hb => (w_FM_daysBy_J144 seed many q c29 gc29 x4 (5 : Int32) (g_set M 464 38 (y1 + y0)) _ hr bb hb).trans ((g_set_ne (by omega)))
set_option maxRecDepth 20000 in
theorem w_FM_daysBy_J108 (seed : Int32) (many : Int32) (q : Int32) (c29 : Int32 → gM → Option (gM)) (gc29 : ∀ (x4 : Int32) (M : gM) (R : gM), c29 x4 M = some R → ∀ bb, ¬ (bb = 464 ∨ (847 ≤ bb ∧ bb ≤ 848) ∨ bb = 931) → R bb = M bb) (x4 : Int32) (y0 : Int32) (M : gM) (R : gM) (hr : FM_daysBy_J108 seed many q c29 x4 y0 M = some R) : ∀ bb, ¬ (bb = 464 ∨ (847 ≤ bb ∧ bb ≤ 848) ∨ bb = 931) → R bb = M bb := by
  unfold FM_daysBy_J108 at hr
  rcases g_ifo hr with ⟨h1, hr⟩ | ⟨h1, hr⟩
  ·
    exact fun bb hb => (w_FM_daysBy_J125 seed many q c29 gc29 x4 y0 (0 : Int32) (M 464 38) M _ hr bb hb)
  ·
    exact fun bb hb => (w_FM_daysBy_J125 seed many q c29 gc29 x4 y0 (1 : Int32) (M 464 38) M _ hr bb hb)
set_option maxRecDepth 20000 in
theorem w_FM_daysBy_J65 (seed : Int32) (many : Int32) (q : Int32) (c29 : Int32 → gM → Option (gM)) (gc29 : ∀ (x4 : Int32) (M : gM) (R : gM), c29 x4 M = some R → ∀ bb, ¬ (bb = 464 ∨ (847 ≤ bb ∧ bb ≤ 848) ∨ bb = 931) → R bb = M bb) (x4 : Int32) (y0 : Int32) (y1 : Int32) (M : gM) (R : gM) (hr : FM_daysBy_J65 seed many q c29 x4 y0 y1 M = some R) : ∀ bb, ¬ (bb = 464 ∨ (847 ≤ bb ∧ bb ≤ 848) ∨ bb = 931) → R bb = M bb := by
  unfold FM_daysBy_J65 at hr
  obtain ⟨j1, ej1, ij1, lj1, hr⟩ := g_ixo hr
  obtain ⟨M2, mM2, hr⟩ := g_leto hr
  have fM2 : ∀ bb, ¬ (bb = 464 ∨ (847 ≤ bb ∧ bb ≤ 848) ∨ bb = 931) → M2 bb = M bb := fun bb hb => by rw [mM2]; exact (g_set_ne (by omega))
  obtain ⟨s3, es3, hr⟩ := g_bd hr
  have fs3_2 : ∀ bb, ¬ (bb = 464 ∨ (847 ≤ bb ∧ bb ≤ 848) ∨ bb = 931) → s3.2 bb = M bb := fun bb hb => (w_FM_draw (g_set M2 464 46 ((M2 464 46) + (M2 931 45))) _ es3 bb (by omega)).trans ((g_set_ne (by omega)).trans (fM2 bb hb))
  obtain ⟨j4, ej4, ij4, lj4, hr⟩ := g_ixo hr
  rcases g_ifo hr with ⟨h5, hr⟩ | ⟨h5, hr⟩
  ·
    exact fun bb hb => (w_FM_daysBy_J108 seed many q c29 gc29 x4 (0 : Int32) (s3.2) _ hr bb hb).trans (fs3_2 bb hb)
  ·
    exact fun bb hb => (w_FM_daysBy_J108 seed many q c29 gc29 x4 (1 : Int32) (s3.2) _ hr bb hb).trans (fs3_2 bb hb)
set_option maxRecDepth 20000 in
theorem w_FM_daysBy_L29 (seed : Int32) (many : Int32) (q : Int32) : ∀ (k : Nat) (x4 : Int32) (M : gM) (R : gM), FM_daysBy_L29 seed many q k x4 M = some R → ∀ bb, ¬ (bb = 464 ∨ (847 ≤ bb ∧ bb ≤ 848) ∨ bb = 931) → R bb = M bb := by
  intro k
  induction k with
  | zero => intro x4 M R hr; exact nomatch (show (none : Option (gM)) = some R from hr)
  | succ k ih =>
    intro x4 M R hr
    unfold FM_daysBy_L29 at hr
    rcases g_ifo hr with ⟨h1, hr⟩ | ⟨h1, hr⟩
    ·
      cases hr; exact fun bb hb => rfl
    ·
      obtain ⟨s2, es2, hr⟩ := g_bd hr
      rcases g_ifo hr with ⟨h4, hr⟩ | ⟨h4, hr⟩
      ·
        cases hr; exact fun bb hb => rfl
      ·
        obtain ⟨s5, es5, hr⟩ := g_bd hr
        have fs5_2 : ∀ bb, ¬ (bb = 464 ∨ (847 ≤ bb ∧ bb ≤ 848) ∨ bb = 931) → s5.2 bb = M bb := fun bb hb => (w_FM_draw M _ es5 bb (by omega))
        rcases g_ifo hr with ⟨h6, hr⟩ | ⟨h6, hr⟩
        ·
          exact fun bb hb => (w_FM_daysBy_J65 seed many q (FM_daysBy_L29 seed many q k) ih x4 (0 : Int32) (45 : Int32) (s5.2) _ hr bb hb).trans (fs5_2 bb hb)
        ·
          exact fun bb hb => (w_FM_daysBy_J65 seed many q (FM_daysBy_L29 seed many q k) ih x4 (1 : Int32) (45 : Int32) (s5.2) _ hr bb hb).trans (fs5_2 bb hb)
set_option maxRecDepth 20000 in
theorem w_FM_daysBy (seed : Int32) (many : Int32) (q : Int32) (M : gM) (R : gM) (hr : FM_daysBy seed many q M = some R) : ∀ bb, ¬ (bb = 464 ∨ (847 ≤ bb ∧ bb ≤ 848) ∨ bb = 931) → R bb = M bb := by
  unfold FM_daysBy at hr
  obtain ⟨s1, es1, hr⟩ := g_bd hr
  have fs1 : ∀ bb, ¬ (bb = 464 ∨ (847 ≤ bb ∧ bb ≤ 848) ∨ bb = 931) → s1 bb = M bb := fun bb hb => (w_FM_copies 930 931 M _ es1 bb (by omega))
  exact fun bb hb => (w_FM_daysBy_L29 seed many q 1000 (0 : Int32) (g_set (g_set (g_set s1 464 45 seed) 464 46 (0 : Int32)) 464 38 (0 : Int32)) _ hr bb hb).trans ((g_set_ne (by omega)).trans ((g_set_ne (by omega)).trans ((g_set_ne (by omega)).trans (fs1 bb hb))))
set_option maxRecDepth 20000 in
theorem w_FM_days_J29 (seed : Int32) (many : Int32) (q : Int32) (what : Int32) (y0 : Int32) (M : gM) (R : Int32 × gM) (hr : FM_days_J29 seed many q what y0 M = some R) : ∀ bb, ¬ (bb = 464 ∨ bb = 466 ∨ (847 ≤ bb ∧ bb ≤ 848) ∨ bb = 931) → R.2 bb = M bb := by
  unfold FM_days_J29 at hr
  obtain ⟨s1, es1, hr⟩ := g_bd hr
  have fs1_2 : ∀ bb, ¬ (bb = 464 ∨ bb = 466 ∨ (847 ≤ bb ∧ bb ≤ 848) ∨ bb = 931) → s1.2 bb = M bb := fun bb hb => (w_FM_bad y0 (1 : Int32) (1 : Int32) M _ es1 bb (by omega))
  rcases g_ifo hr with ⟨h3, hr⟩ | ⟨h3, hr⟩
  ·
    obtain ⟨s4, es4, hr⟩ := g_bd hr
    have fs4 : ∀ bb, ¬ (bb = 464 ∨ bb = 466 ∨ (847 ≤ bb ∧ bb ≤ 848) ∨ bb = 931) → s4 bb = M bb := fun bb hb => (w_FM_daysBy seed many q (s1.2) _ es4 bb (by omega)).trans (fs1_2 bb hb)
    rcases g_ifo hr with ⟨h5, hr⟩ | ⟨h5, hr⟩
    ·
      cases hr; exact fun bb hb => fs4 bb hb
    rcases g_ifo hr with ⟨h6, hr⟩ | ⟨h6, hr⟩
    ·
      cases hr; exact fun bb hb => fs4 bb hb
    rcases g_ifo hr with ⟨h7, hr⟩ | ⟨h7, hr⟩
    ·
      cases hr; exact fun bb hb => fs4 bb hb
    obtain ⟨s8, es8, hr⟩ := g_bd hr
    obtain ⟨s9, es9, hr⟩ := g_bd hr
    cases hr; exact fun bb hb => fs4 bb hb
  ·
    cases hr; exact fun bb hb => fs1_2 bb hb
set_option maxRecDepth 20000 in
theorem w_FM_days_J24 (seed : Int32) (many : Int32) (q : Int32) (what : Int32) (M : gM) (R : Int32 × gM) (hr : FM_days_J24 seed many q what M = some R) : ∀ bb, ¬ (bb = 464 ∨ bb = 466 ∨ (847 ≤ bb ∧ bb ≤ 848) ∨ bb = 931) → R.2 bb = M bb := by
  unfold FM_days_J24 at hr
  exact fun bb hb => (w_FM_days_J29 seed many q what (1 : Int32) M _ hr bb hb)
set_option maxRecDepth 20000 in
theorem w_FM_days (seed : Int32) (many : Int32) (q : Int32) (what : Int32) (M : gM) (R : Int32 × gM) (hr : FM_days seed many q what M = some R) : ∀ bb, ¬ (bb = 464 ∨ bb = 466 ∨ (847 ≤ bb ∧ bb ≤ 848) ∨ bb = 931) → R.2 bb = M bb := by
  unfold FM_days at hr
  rcases g_ifo hr with ⟨h3, hr⟩ | ⟨h3, hr⟩
  ·
    exact fun bb hb => (w_FM_days_J24 seed many q what (g_set M 464 0 (0 : Int32)) _ hr bb hb).trans ((g_set_ne (by omega)))
  ·
    rcases g_ifo hr with ⟨h6, hr⟩ | ⟨h6, hr⟩
    ·
      exact fun bb hb => (w_FM_days_J24 seed many q what (g_set M 464 0 (0 : Int32)) _ hr bb hb).trans ((g_set_ne (by omega)))
    ·
      exact fun bb hb => (w_FM_days_J29 seed many q what (0 : Int32) (g_set M 464 0 (0 : Int32)) _ hr bb hb).trans ((g_set_ne (by omega)))
set_option maxRecDepth 20000 in
theorem w_FM_span_J114 (seed : Int32) (seeds : Int32) (many : Int32) (q : Int32) (what : Int32) (c62 : Int32 → Int32 → Int32 → Int32 → gM → Option (Int32 × gM)) (gc62 : ∀ (x6 : Int32) (x7 : Int32) (x8 : Int32) (x9 : Int32) (M : gM) (R : Int32 × gM), c62 x6 x7 x8 x9 M = some R → ∀ bb, ¬ (bb = 464 ∨ bb = 466 ∨ (847 ≤ bb ∧ bb ≤ 848) ∨ bb = 931) → R.2 bb = M bb) (x7 : Int32) (x8 : Int32) (x9 : Int32) (x10 : Int32) (y0 : Int32) (M : gM) (R : Int32 × gM) (hr : FM_span_J114 seed seeds many q what c62 x7 x8 x9 x10 y0 M = some R) : ∀ bb, ¬ (bb = 464 ∨ bb = 466 ∨ (847 ≤ bb ∧ bb ≤ 848) ∨ bb = 931) → R.2 bb = M bb := by
  unfold FM_span_J114 at hr
  rcases g_ifo hr with ⟨h1, hr⟩ | ⟨h1, hr⟩
  ·
    exact fun bb hb => (gc62 y0 (FM_more x7 x10) (x8 + (1 : Int32)) (x9 + (1 : Int32)) M _ hr bb hb)
  ·
    exact fun bb hb => (gc62 y0 (FM_more x7 x10) (x8 + (0 : Int32)) (x9 + (1 : Int32)) M _ hr bb hb)
set_option maxRecDepth 20000 in
theorem w_FM_span_L62 (seed : Int32) (seeds : Int32) (many : Int32) (q : Int32) (what : Int32) : ∀ (k : Nat) (x6 : Int32) (x7 : Int32) (x8 : Int32) (x9 : Int32) (M : gM) (R : Int32 × gM), FM_span_L62 seed seeds many q what k x6 x7 x8 x9 M = some R → ∀ bb, ¬ (bb = 464 ∨ bb = 466 ∨ (847 ≤ bb ∧ bb ≤ 848) ∨ bb = 931) → R.2 bb = M bb := by
  intro k
  induction k with
  | zero => intro x6 x7 x8 x9 M R hr; exact nomatch (show (none : Option (Int32 × gM)) = some R from hr)
  | succ k ih =>
    intro x6 x7 x8 x9 M R hr
    unfold FM_span_L62 at hr
    rcases g_ifo hr with ⟨h1, hr⟩ | ⟨h1, hr⟩
    ·
      rcases g_ifo hr with ⟨h2, hr⟩ | ⟨h2, hr⟩
      ·
        cases hr; exact fun bb hb => rfl
      ·
        rcases g_ifo hr with ⟨h3, hr⟩ | ⟨h3, hr⟩
        ·
          cases hr; exact fun bb hb => rfl
        ·
          cases hr; exact fun bb hb => rfl
    ·
      obtain ⟨s4, es4, hr⟩ := g_bd hr
      have fs4 : ∀ bb, ¬ (bb = 464 ∨ bb = 466 ∨ (847 ≤ bb ∧ bb ≤ 848) ∨ bb = 931) → s4 bb = M bb := fun bb hb => (w_FM_daysBy (seed + x9) many q M _ es4 bb (by omega))
      rcases g_ifo hr with ⟨h5, hr⟩ | ⟨h5, hr⟩
      ·
        exact fun bb hb => (w_FM_span_J114 seed seeds many q what (FM_span_L62 seed seeds many q what k) ih x7 x8 x9 ((s4 931 47) - (s4 930 47)) ((s4 931 47) - (s4 930 47)) s4 _ hr bb hb).trans (fs4 bb hb)
      ·
        exact fun bb hb => (w_FM_span_J114 seed seeds many q what (FM_span_L62 seed seeds many q what k) ih x7 x8 x9 ((s4 931 47) - (s4 930 47)) (FM_less x6 ((s4 931 47) - (s4 930 47))) s4 _ hr bb hb).trans (fs4 bb hb)
set_option maxRecDepth 20000 in
theorem w_FM_span_J40 (seed : Int32) (seeds : Int32) (many : Int32) (q : Int32) (what : Int32) (y0 : Int32) (M : gM) (R : Int32 × gM) (hr : FM_span_J40 seed seeds many q what y0 M = some R) : ∀ bb, ¬ (bb = 464 ∨ bb = 466 ∨ (847 ≤ bb ∧ bb ≤ 848) ∨ bb = 931) → R.2 bb = M bb := by
  unfold FM_span_J40 at hr
  obtain ⟨s1, es1, hr⟩ := g_bd hr
  have fs1_2 : ∀ bb, ¬ (bb = 464 ∨ bb = 466 ∨ (847 ≤ bb ∧ bb ≤ 848) ∨ bb = 931) → s1.2 bb = M bb := fun bb hb => (w_FM_bad y0 (1 : Int32) (1 : Int32) M _ es1 bb (by omega))
  rcases g_ifo hr with ⟨h3, hr⟩ | ⟨h3, hr⟩
  ·
    exact fun bb hb => (w_FM_span_L62 seed seeds many q what 1000 (-1 : Int32) (0 : Int32) (0 : Int32) (0 : Int32) (s1.2) _ hr bb hb).trans (fs1_2 bb hb)
  ·
    cases hr; exact fun bb hb => fs1_2 bb hb
set_option maxRecDepth 20000 in
theorem w_FM_span_J35 (seed : Int32) (seeds : Int32) (many : Int32) (q : Int32) (what : Int32) (M : gM) (R : Int32 × gM) (hr : FM_span_J35 seed seeds many q what M = some R) : ∀ bb, ¬ (bb = 464 ∨ bb = 466 ∨ (847 ≤ bb ∧ bb ≤ 848) ∨ bb = 931) → R.2 bb = M bb := by
  unfold FM_span_J35 at hr
  exact fun bb hb => (w_FM_span_J40 seed seeds many q what (1 : Int32) M _ hr bb hb)
set_option maxRecDepth 20000 in
theorem w_FM_span (seed : Int32) (seeds : Int32) (many : Int32) (q : Int32) (what : Int32) (M : gM) (R : Int32 × gM) (hr : FM_span seed seeds many q what M = some R) : ∀ bb, ¬ (bb = 464 ∨ bb = 466 ∨ (847 ≤ bb ∧ bb ≤ 848) ∨ bb = 931) → R.2 bb = M bb := by
  unfold FM_span at hr
  rcases g_ifo hr with ⟨h3, hr⟩ | ⟨h3, hr⟩
  ·
    exact fun bb hb => (w_FM_span_J35 seed seeds many q what (g_set M 464 0 (0 : Int32)) _ hr bb hb).trans ((g_set_ne (by omega)))
  ·
    rcases g_ifo hr with ⟨h6, hr⟩ | ⟨h6, hr⟩
    ·
      exact fun bb hb => (w_FM_span_J35 seed seeds many q what (g_set M 464 0 (0 : Int32)) _ hr bb hb).trans ((g_set_ne (by omega)))
    ·
      rcases g_ifo hr with ⟨h9, hr⟩ | ⟨h9, hr⟩
      ·
        exact fun bb hb => (w_FM_span_J35 seed seeds many q what (g_set M 464 0 (0 : Int32)) _ hr bb hb).trans ((g_set_ne (by omega)))
      ·
        exact fun bb hb => (w_FM_span_J40 seed seeds many q what (0 : Int32) (g_set M 464 0 (0 : Int32)) _ hr bb hb).trans ((g_set_ne (by omega)))
set_option maxRecDepth 20000 in
theorem w_FM_puts (a : Nat) (v : Int32) (b : Int32) (M : gM) (R : Int32 × gM) (hr : FM_puts a v b M = some R) : ∀ bb, ¬ (bb = 464 ∨ bb = a) → R.2 bb = M bb := by
  unfold FM_puts at hr
  rcases g_ifo hr with ⟨h1, hr⟩ | ⟨h1, hr⟩
  ·
    obtain ⟨j3, ej3, ij3, lj3, hr⟩ := g_ixo hr
    obtain ⟨M4, mM4, hr⟩ := g_leto hr
    have fM4 : ∀ bb, ¬ (bb = 464 ∨ bb = a) → M4 bb = M bb := fun bb hb => by rw [mM4]; exact (g_set_ne (by omega))
    obtain ⟨j5, ej5, ij5, lj5, hr⟩ := g_ixo hr
    cases hr; exact fun bb hb => (g_set_ne (by omega)).trans (fM4 bb hb)
  ·
    obtain ⟨j2, ej2, ij2, lj2, hr⟩ := g_ixo hr
    cases hr; exact fun bb hb => (g_set_ne (by omega))
set_option maxRecDepth 20000 in
theorem w_FM_putsAll_L62 (a : Nat) (b : Int32) (c53 : Int32 → gM → Option (gM)) (gc53 : ∀ (x3 : Int32) (M : gM) (R : gM), c53 x3 M = some R → ∀ bb, ¬ (bb = 464 ∨ bb = 930 ∨ (933 ≤ bb ∧ bb ≤ 948) ∨ bb = a) → R bb = M bb) : ∀ (k : Nat) (x3 : Int32) (x4 : Int32) (M : gM) (R : gM), FM_putsAll_L62 a b c53 k x3 x4 M = some R → ∀ bb, ¬ (bb = 464 ∨ bb = 930 ∨ (933 ≤ bb ∧ bb ≤ 948) ∨ bb = a) → R bb = M bb := by
  intro k
  induction k with
  | zero => intro x3 x4 M R hr; exact nomatch (show (none : Option (gM)) = some R from hr)
  | succ k ih =>
    intro x3 x4 M R hr
    unfold FM_putsAll_L62 at hr
    rcases g_ifo hr with ⟨h1, hr⟩ | ⟨h1, hr⟩
    ·
      exact fun bb hb => (gc53 (x3 + (1 : Int32)) M _ hr bb hb)
    ·
      obtain ⟨j2, ej2, ij2, lj2, hr⟩ := g_ixo hr
      obtain ⟨j3, ej3, ij3, lj3, hr⟩ := g_ixo hr
      obtain ⟨j4, ej4, ij4, lj4, hr⟩ := g_ixo hr
      obtain ⟨s5, es5, hr⟩ := g_bd hr
      have fs5_2 : ∀ bb, ¬ (bb = 464 ∨ bb = 930 ∨ (933 ≤ bb ∧ bb ≤ 948) ∨ bb = a) → s5.2 bb = M bb := fun bb hb => (w_FM_puts a (M (933 + j3) j4) b M _ es5 bb (by omega))
      obtain ⟨j6, ej6, ij6, lj6, hr⟩ := g_ixo hr
      obtain ⟨M7, mM7, hr⟩ := g_leto hr
      have fM7 : ∀ bb, ¬ (bb = 464 ∨ bb = 930 ∨ (933 ≤ bb ∧ bb ≤ 948) ∨ bb = a) → M7 bb = M bb := fun bb hb => by rw [mM7]; exact (g_set_ne (by omega)).trans (fs5_2 bb hb)
      exact fun bb hb => (ih x3 (x4 + (1 : Int32)) M7 _ hr bb hb).trans (fM7 bb hb)
set_option maxRecDepth 20000 in
theorem w_FM_putsAll_L53 (a : Nat) (b : Int32) : ∀ (k : Nat) (x3 : Int32) (M : gM) (R : gM), FM_putsAll_L53 a b k x3 M = some R → ∀ bb, ¬ (bb = 464 ∨ bb = 930 ∨ (933 ≤ bb ∧ bb ≤ 948) ∨ bb = a) → R bb = M bb := by
  intro k
  induction k with
  | zero => intro x3 M R hr; exact nomatch (show (none : Option (gM)) = some R from hr)
  | succ k ih =>
    intro x3 M R hr
    unfold FM_putsAll_L53 at hr
    rcases g_ifo hr with ⟨h1, hr⟩ | ⟨h1, hr⟩
    ·
      cases hr; exact fun bb hb => rfl
    ·
      exact fun bb hb => (w_FM_putsAll_L62 a b (FM_putsAll_L53 a b k) ih 1000 x3 (0 : Int32) M _ hr bb hb)
set_option maxRecDepth 20000 in
theorem w_FM_putsAll_L21 (a : Nat) (b : Int32) : ∀ (k : Nat) (x3 : Int32) (M : gM) (R : gM), FM_putsAll_L21 a b k x3 M = some R → ∀ bb, ¬ (bb = 464 ∨ bb = 930 ∨ (933 ≤ bb ∧ bb ≤ 948) ∨ bb = a) → R bb = M bb := by
  intro k
  induction k with
  | zero => intro x3 M R hr; exact nomatch (show (none : Option (gM)) = some R from hr)
  | succ k ih =>
    intro x3 M R hr
    unfold FM_putsAll_L21 at hr
    rcases g_ifo hr with ⟨h1, hr⟩ | ⟨h1, hr⟩
    ·
      exact fun bb hb => (w_FM_putsAll_L53 a b 1000 (0 : Int32) M _ hr bb hb)
    ·
      obtain ⟨j2, ej2, ij2, lj2, hr⟩ := g_ixo hr
      obtain ⟨s3, es3, hr⟩ := g_bd hr
      have fs3_2 : ∀ bb, ¬ (bb = 464 ∨ bb = 930 ∨ (933 ≤ bb ∧ bb ≤ 948) ∨ bb = a) → s3.2 bb = M bb := fun bb hb => (w_FM_puts a (M 930 j2) b M _ es3 bb (by omega))
      obtain ⟨j4, ej4, ij4, lj4, hr⟩ := g_ixo hr
      obtain ⟨M5, mM5, hr⟩ := g_leto hr
      have fM5 : ∀ bb, ¬ (bb = 464 ∨ bb = 930 ∨ (933 ≤ bb ∧ bb ≤ 948) ∨ bb = a) → M5 bb = M bb := fun bb hb => by rw [mM5]; exact (g_set_ne (by omega)).trans (fs3_2 bb hb)
      exact fun bb hb => (ih (x3 + (1 : Int32)) M5 _ hr bb hb).trans (fM5 bb hb)
set_option maxRecDepth 20000 in
theorem w_FM_putsAll (a : Nat) (b : Int32) (M : gM) (R : gM) (hr : FM_putsAll a b M = some R) : ∀ bb, ¬ (bb = 464 ∨ bb = 930 ∨ (933 ≤ bb ∧ bb ≤ 948) ∨ bb = a) → R bb = M bb := by
  unfold FM_putsAll at hr
  obtain ⟨s1, es1, hr⟩ := g_bd hr
  have fs1_2 : ∀ bb, ¬ (bb = 464 ∨ bb = 930 ∨ (933 ≤ bb ∧ bb ≤ 948) ∨ bb = a) → s1.2 bb = M bb := fun bb hb => (w_FM_puts a (M 464 34) b (g_set M 464 37 (0 : Int32)) _ es1 bb (by omega)).trans ((g_set_ne (by omega)))
  exact fun bb hb => (w_FM_putsAll_L21 a b 1000 (0 : Int32) (g_set (s1.2) 464 34 s1.1) _ hr bb hb).trans ((g_set_ne (by omega)).trans (fs1_2 bb hb))
set_option maxRecDepth 20000 in
theorem w_FM_image  (M : gM) (R : Int32 × gM) (hr : FM_image M = some R) : ∀ bb, ¬ (bb = 464 ∨ bb = 930 ∨ (933 ≤ bb ∧ bb ≤ 948) ∨ (950 ≤ bb ∧ bb ≤ 952)) → R.2 bb = M bb := by
  unfold FM_image at hr
  rcases g_ifo hr with ⟨h1, hr⟩ | ⟨h1, hr⟩
  ·
    cases hr; exact fun bb hb => (g_set_ne (by omega))
  ·
    obtain ⟨j2, ej2, ij2, lj2, hr⟩ := g_ixo hr
    obtain ⟨s3, es3, hr⟩ := g_bd hr
    have fs3 : ∀ bb, ¬ (bb = 464 ∨ bb = 930 ∨ (933 ≤ bb ∧ bb ≤ 948) ∨ (950 ≤ bb ∧ bb ≤ 952)) → s3 bb = M bb := fun bb hb => (w_FM_putsAll (950 + j2) (0 : Int32) (g_set M 464 0 (0 : Int32)) _ es3 bb (by omega)).trans ((g_set_ne (by omega)))
    cases hr; exact fun bb hb => (g_set_ne (by omega)).trans (fs3 bb hb)
set_option maxRecDepth 20000 in
theorem w_FM_restore  (M : gM) (R : Int32 × gM) (hr : FM_restore M = some R) : ∀ bb, ¬ (bb = 464 ∨ bb = 930 ∨ (933 ≤ bb ∧ bb ≤ 948) ∨ (950 ≤ bb ∧ bb ≤ 952)) → R.2 bb = M bb := by
  unfold FM_restore at hr
  rcases g_ifo hr with ⟨h1, hr⟩ | ⟨h1, hr⟩
  ·
    cases hr; exact fun bb hb => (g_set_ne (by omega))
  ·
    obtain ⟨j2, ej2, ij2, lj2, hr⟩ := g_ixo hr
    obtain ⟨s3, es3, hr⟩ := g_bd hr
    have fs3 : ∀ bb, ¬ (bb = 464 ∨ bb = 930 ∨ (933 ≤ bb ∧ bb ≤ 948) ∨ (950 ≤ bb ∧ bb ≤ 952)) → s3 bb = M bb := fun bb hb => (w_FM_putsAll (950 + j2) (1 : Int32) (g_set (g_set M 464 0 (0 : Int32)) 464 36 ((M 464 36) - (1 : Int32))) _ es3 bb (by omega)).trans ((g_set_ne (by omega)).trans ((g_set_ne (by omega))))
    cases hr; exact fun bb hb => (g_set_ne (by omega)).trans (fs3 bb hb)
set_option maxRecDepth 20000 in
theorem w_FM_status (what : Int32) (M : gM) (R : Int32 × gM) (hr : FM_status what M = some R) : ∀ bb, ¬ (bb = 464) → R.2 bb = M bb := by
  unfold FM_status at hr
  rcases g_ifo hr with ⟨h3, hr⟩ | ⟨h3, hr⟩
  ·
    cases hr; exact fun bb hb => (g_set_ne (by omega))
  ·
    obtain ⟨j4, ej4, ij4, lj4, hr⟩ := g_ixo hr
    cases hr; exact fun bb hb => (g_set_ne (by omega))
set_option maxRecDepth 20000 in
theorem w_FM_count (what : Int32) (M : gM) (R : Int32 × gM) (hr : FM_count what M = some R) : ∀ bb, ¬ (bb = 464) → R.2 bb = M bb := by
  unfold FM_count at hr
  rcases g_ifo hr with ⟨h1, hr⟩ | ⟨h1, hr⟩
  ·
    cases hr; exact fun bb hb => (g_set_ne (by omega))
  ·
    rcases g_ifo hr with ⟨h2, hr⟩ | ⟨h2, hr⟩
    ·
      cases hr; exact fun bb hb => (g_set_ne (by omega))
    ·
      rcases g_ifo hr with ⟨h3, hr⟩ | ⟨h3, hr⟩
      ·
        cases hr; exact fun bb hb => (g_set_ne (by omega))
      ·
        cases hr; exact fun bb hb => (g_set_ne (by omega))
