/-! FRAMES: what a decompiled function leaves as it was. -/
theorem g_ifo {α : Type} {c : Prop} [Decidable c] {A B R : α} (hr : (if c then A else B) = R) : (c ∧ A = R) ∨ (¬ c ∧ B = R) := by
  by_cases h : c
  · rw [if_pos h] at hr; exact Or.inl ⟨h, hr⟩
  · rw [if_neg h] at hr; exact Or.inr ⟨h, hr⟩
theorem g_leto {α β : Type} {x : α} {f : α → β} {R : β} (hr : g_let x f = R) : ∃ y, y = x ∧ f y = R := ⟨x, rfl, hr⟩
theorem r_fill_ne {M : gM} {a n b : Nat} {v : Int32} (h : b ≠ a) : r_fill M a n v b = M b := by unfold r_fill; rw [if_neg h]
theorem r_copy_ne {M : gM} {f a n b : Nat} (h : b ≠ a) : r_copy M f a n b = M b := by unfold r_copy; rw [if_neg h]
set_option maxRecDepth 20000 in
theorem w_F_push_L3 (v : Int32) : ∀ (k : Nat) (x2 : Int32) (M : gM) (R : gM), F_push_L3 v k x2 M = some R → ∀ bb, ¬ ((1 ≤ bb ∧ bb ≤ 2)) → R bb = M bb := by
  intro k
  induction k with
  | zero => intro x2 M R hr; exact nomatch (show (none : Option (gM)) = some R from hr)
  | succ k ih =>
    intro x2 M R hr
    unfold F_push_L3 at hr
    rcases g_ifo hr with ⟨h1, hr⟩ | ⟨h1, hr⟩
    ·
      cases hr; exact fun bb hb => rfl
    ·
      obtain ⟨M2, mM2, hr⟩ := g_leto hr
      have fM2 : ∀ bb, ¬ ((1 ≤ bb ∧ bb ≤ 2)) → M2 bb = M bb := fun bb hb => by rw [mM2]; exact (r_put_ne (by omega))
      exact fun bb hb => (ih (x2 + (-8 : Int32)) (g_set M2 1 1 ((M2 1 1) + (1 : Int32))) _ hr bb hb).trans ((g_set_ne (by omega)).trans (fM2 bb hb))
set_option maxRecDepth 20000 in
theorem w_F_push (v : Int32) (M : gM) (R : gM) (hr : F_push v M = some R) : ∀ bb, ¬ ((1 ≤ bb ∧ bb ≤ 2)) → R bb = M bb := by
  unfold F_push at hr
  exact fun bb hb => (w_F_push_L3 v 10 (24 : Int32) M _ hr bb hb)
set_option maxRecDepth 20000 in
theorem w_F_open (e : Int32) (M : gM) (R : gM) (hr : F_open e M = some R) : ∀ bb, ¬ (bb = 1) → R bb = M bb := by
  unfold F_open at hr
  cases hr; exact fun bb hb => (g_set_ne (by omega)).trans ((g_set_ne (by omega)).trans ((g_set_ne (by omega)).trans ((g_set_ne (by omega)).trans ((g_set_ne (by omega))))))
set_option maxRecDepth 20000 in
theorem w_F_fail (what : Int32) (here : Int32) (M : gM) (R : gM) (hr : F_fail what here M = some R) : ∀ bb, ¬ (bb = 1) → R bb = M bb := by
  unfold F_fail at hr
  rcases g_ifo hr with ⟨h1, hr⟩ | ⟨h1, hr⟩
  ·
    cases hr; exact fun bb hb => (g_set_ne (by omega)).trans ((g_set_ne (by omega)))
  ·
    cases hr; exact fun bb hb => rfl
set_option maxRecDepth 20000 in
theorem w_F_next_L0 : ∀ (k : Nat) (M : gM) (R : Int32 × gM), F_next_L0 k M = some R → ∀ bb, ¬ (bb = 1) → R.2 bb = M bb := by
  intro k
  induction k with
  | zero => intro  M R hr; exact nomatch (show (none : Option (Int32 × gM)) = some R from hr)
  | succ k ih =>
    intro  M R hr
    unfold F_next_L0 at hr
    rcases g_ifo hr with ⟨h1, hr⟩ | ⟨h1, hr⟩
    ·
      cases hr; exact fun bb hb => rfl
    ·
      rcases g_ifo hr with ⟨h2, hr⟩ | ⟨h2, hr⟩
      ·
        cases hr; exact fun bb hb => rfl
      ·
        rcases g_ifo hr with ⟨h3, hr⟩ | ⟨h3, hr⟩
        ·
          cases hr; exact fun bb hb => rfl
        ·
          obtain ⟨j4, ej4, ij4, lj4, hr⟩ := g_ixo hr
          rcases g_ifo hr with ⟨h5, hr⟩ | ⟨h5, hr⟩
          ·
            exact fun bb hb => (ih (g_set M 1 3 ((M 1 3) + (1 : Int32))) _ hr bb hb).trans ((g_set_ne (by omega)))
          ·
            obtain ⟨j6, ej6, ij6, lj6, hr⟩ := g_ixo hr
            cases hr; exact fun bb hb => rfl
set_option maxRecDepth 20000 in
theorem w_F_next  (M : gM) (R : Int32 × gM) (hr : F_next M = some R) : ∀ bb, ¬ (bb = 1) → R.2 bb = M bb := by
  unfold F_next at hr
  rcases g_ifo hr with ⟨h1, hr⟩ | ⟨h1, hr⟩
  ·
    cases hr; exact fun bb hb => rfl
  ·
    rcases g_ifo hr with ⟨h2, hr⟩ | ⟨h2, hr⟩
    ·
      cases hr; exact fun bb hb => rfl
    ·
      rcases g_ifo hr with ⟨h3, hr⟩ | ⟨h3, hr⟩
      ·
        cases hr; exact fun bb hb => rfl
      ·
        obtain ⟨j4, ej4, ij4, lj4, hr⟩ := g_ixo hr
        rcases g_ifo hr with ⟨h5, hr⟩ | ⟨h5, hr⟩
        ·
          exact fun bb hb => (w_F_next_L0 1000 (g_set M 1 3 ((M 1 3) + (1 : Int32))) _ hr bb hb).trans ((g_set_ne (by omega)))
        ·
          obtain ⟨j6, ej6, ij6, lj6, hr⟩ := g_ixo hr
          cases hr; exact fun bb hb => rfl
set_option maxRecDepth 20000 in
theorem w_F_need (c : Int32) (M : gM) (R : gM) (hr : F_need c M = some R) : ∀ bb, ¬ (bb = 1) → R bb = M bb := by
  unfold F_need at hr
  obtain ⟨s1, es1, hr⟩ := g_bd hr
  have fs1_2 : ∀ bb, ¬ (bb = 1) → s1.2 bb = M bb := fun bb hb => (w_F_next M _ es1 bb (by omega))
  rcases g_ifo hr with ⟨h2, hr⟩ | ⟨h2, hr⟩
  ·
    cases hr; exact fun bb hb => (g_set_ne (by omega)).trans (fs1_2 bb hb)
  ·
    obtain ⟨s3, es3, hr⟩ := g_bd hr
    have fs3 : ∀ bb, ¬ (bb = 1) → s3 bb = M bb := fun bb hb => (w_F_fail (1 : Int32) ((s1.2) 1 3) (s1.2) _ es3 bb (by omega)).trans (fs1_2 bb hb)
    cases hr; exact fun bb hb => fs3 bb hb
set_option maxRecDepth 20000 in
theorem w_F_number_J115 (lo : Int32) (hi : Int32) (x3 : Int32) (M : gM) (R : Int32 × gM) (hr : F_number_J115 lo hi x3 M = some R) : ∀ bb, ¬ (bb = 1) → R.2 bb = M bb := by
  unfold F_number_J115 at hr
  obtain ⟨s1, es1, hr⟩ := g_bd hr
  have fs1 : ∀ bb, ¬ (bb = 1) → s1 bb = M bb := fun bb hb => (w_F_fail (2 : Int32) (M 1 4) M _ es1 bb (by omega))
  cases hr; exact fun bb hb => fs1 bb hb
set_option maxRecDepth 20000 in
theorem w_F_number_J82 (lo : Int32) (hi : Int32) (x3 : Int32) (M : gM) (R : Int32 × gM) (hr : F_number_J82 lo hi x3 M = some R) : ∀ bb, ¬ (bb = 1) → R.2 bb = M bb := by
  unfold F_number_J82 at hr
  rcases g_ifo hr with ⟨h1, hr⟩ | ⟨h1, hr⟩
  ·
    obtain ⟨s4, es4, hr⟩ := g_bd hr
    have fs4 : ∀ bb, ¬ (bb = 1) → s4 bb = M bb := fun bb hb => (w_F_fail (1 : Int32) (M 1 4) M _ es4 bb (by omega))
    cases hr; exact fun bb hb => fs4 bb hb
  ·
    rcases g_ifo hr with ⟨h2, hr⟩ | ⟨h2, hr⟩
    ·
      exact fun bb hb => (w_F_number_J115 lo hi x3 M _ hr bb hb)
    ·
      rcases g_ifo hr with ⟨h3, hr⟩ | ⟨h3, hr⟩
      ·
        cases hr; exact fun bb hb => rfl
      ·
        exact fun bb hb => (w_F_number_J115 lo hi x3 M _ hr bb hb)
set_option maxRecDepth 20000 in
theorem w_F_number_L15 (lo : Int32) (hi : Int32) : ∀ (k : Nat) (x3 : Int32) (M : gM) (R : Int32 × gM), F_number_L15 lo hi k x3 M = some R → ∀ bb, ¬ (bb = 1) → R.2 bb = M bb := by
  intro k
  induction k with
  | zero => intro x3 M R hr; exact nomatch (show (none : Option (Int32 × gM)) = some R from hr)
  | succ k ih =>
    intro x3 M R hr
    unfold F_number_L15 at hr
    rcases g_ifo hr with ⟨h1, hr⟩ | ⟨h1, hr⟩
    ·
      exact fun bb hb => (w_F_number_J82 lo hi x3 M _ hr bb hb)
    ·
      rcases g_ifo hr with ⟨h4, hr⟩ | ⟨h4, hr⟩
      ·
        exact fun bb hb => (w_F_number_J82 lo hi x3 M _ hr bb hb)
      ·
        exact fun bb hb => (ih (m_min (((x3 * (10 : Int32)) + (r_at (M 2) 600 (M 1 3))) - (48 : Int32)) (10000 : Int32)) (g_set M 1 3 ((M 1 3) + (1 : Int32))) _ hr bb hb).trans ((g_set_ne (by omega)))
set_option maxRecDepth 20000 in
theorem w_F_number (lo : Int32) (hi : Int32) (M : gM) (R : Int32 × gM) (hr : F_number lo hi M = some R) : ∀ bb, ¬ (bb = 1) → R.2 bb = M bb := by
  unfold F_number at hr
  obtain ⟨s1, es1, hr⟩ := g_bd hr
  have fs1_2 : ∀ bb, ¬ (bb = 1) → s1.2 bb = M bb := fun bb hb => (w_F_next M _ es1 bb (by omega))
  exact fun bb hb => (w_F_number_L15 lo hi 1000 (0 : Int32) (g_set (s1.2) 1 4 ((s1.2) 1 3)) _ hr bb hb).trans ((g_set_ne (by omega)).trans (fs1_2 bb hb))
set_option maxRecDepth 20000 in
theorem w_F_word_L13 : ∀ (k : Nat) (M : gM) (R : gM), F_word_L13 k M = some R → ∀ bb, ¬ (bb = 1) → R bb = M bb := by
  intro k
  induction k with
  | zero => intro  M R hr; exact nomatch (show (none : Option (gM)) = some R from hr)
  | succ k ih =>
    intro  M R hr
    unfold F_word_L13 at hr
    rcases g_ifo hr with ⟨h1, hr⟩ | ⟨h1, hr⟩
    ·
      cases hr; exact fun bb hb => rfl
    ·
      rcases g_ifo hr with ⟨h4, hr⟩ | ⟨h4, hr⟩
      ·
        cases hr; exact fun bb hb => rfl
      ·
        exact fun bb hb => (ih (g_set M 1 3 ((M 1 3) + (1 : Int32))) _ hr bb hb).trans ((g_set_ne (by omega)))
set_option maxRecDepth 20000 in
theorem w_F_word  (M : gM) (R : gM) (hr : F_word M = some R) : ∀ bb, ¬ (bb = 1) → R bb = M bb := by
  unfold F_word at hr
  obtain ⟨s1, es1, hr⟩ := g_bd hr
  have fs1_2 : ∀ bb, ¬ (bb = 1) → s1.2 bb = M bb := fun bb hb => (w_F_next M _ es1 bb (by omega))
  exact fun bb hb => (w_F_word_L13 1000 (g_set (s1.2) 1 4 ((s1.2) 1 3)) _ hr bb hb).trans ((g_set_ne (by omega)).trans (fs1_2 bb hb))
set_option maxRecDepth 20000 in
theorem w_FP_clear  (M : gM) (R : gM) (hr : FP_clear M = some R) : ∀ bb, ¬ (bb = 9) → R bb = M bb := by
  unfold FP_clear at hr
  cases hr; exact fun bb hb => (g_set_ne (by omega)).trans ((g_set_ne (by omega)).trans ((g_set_ne (by omega)).trans ((g_set_ne (by omega)).trans ((g_set_ne (by omega))))))
set_option maxRecDepth 20000 in
theorem w_FP_copy  (M : gM) (R : gM) (hr : FP_copy M = some R) : ∀ bb, ¬ ((3 ≤ bb ∧ bb ≤ 8)) → R bb = M bb := by
  unfold FP_copy at hr
  obtain ⟨M1, mM1, hr⟩ := g_leto hr
  have fM1 : ∀ bb, ¬ ((3 ≤ bb ∧ bb ≤ 8)) → M1 bb = M bb := fun bb hb => by rw [mM1]; exact (r_copy_ne (by omega))
  obtain ⟨M2, mM2, hr⟩ := g_leto hr
  have fM2 : ∀ bb, ¬ ((3 ≤ bb ∧ bb ≤ 8)) → M2 bb = M bb := fun bb hb => by rw [mM2]; exact (r_copy_ne (by omega)).trans (fM1 bb hb)
  obtain ⟨M3, mM3, hr⟩ := g_leto hr
  have fM3 : ∀ bb, ¬ ((3 ≤ bb ∧ bb ≤ 8)) → M3 bb = M bb := fun bb hb => by rw [mM3]; exact (r_copy_ne (by omega)).trans (fM2 bb hb)
  obtain ⟨M4, mM4, hr⟩ := g_leto hr
  have fM4 : ∀ bb, ¬ ((3 ≤ bb ∧ bb ≤ 8)) → M4 bb = M bb := fun bb hb => by rw [mM4]; exact (r_copy_ne (by omega)).trans (fM3 bb hb)
  obtain ⟨M5, mM5, hr⟩ := g_leto hr
  have fM5 : ∀ bb, ¬ ((3 ≤ bb ∧ bb ≤ 8)) → M5 bb = M bb := fun bb hb => by rw [mM5]; exact (r_copy_ne (by omega)).trans (fM4 bb hb)
  cases hr; exact fun bb hb => (g_set_ne (by omega)).trans ((g_set_ne (by omega)).trans ((g_set_ne (by omega)).trans ((g_set_ne (by omega)).trans ((g_set_ne (by omega)).trans (fM5 bb hb)))))
set_option maxRecDepth 20000 in
theorem w_FP_readNumbers (k : Int32) (M : gM) (R : gM) (hr : FP_readNumbers k M = some R) : ∀ bb, ¬ (bb = 1 ∨ (9 ≤ bb ∧ bb ≤ 14)) → R bb = M bb := by
  unfold FP_readNumbers at hr
  rcases g_ifo hr with ⟨h1, hr⟩ | ⟨h1, hr⟩
  ·
    obtain ⟨s2, es2, hr⟩ := g_bd hr
    have fs2_2 : ∀ bb, ¬ (bb = 1 ∨ (9 ≤ bb ∧ bb ≤ 14)) → s2.2 bb = M bb := fun bb hb => (w_F_number (1 : Int32) (20 : Int32) M _ es2 bb (by omega))
    obtain ⟨M3, mM3, hr⟩ := g_leto hr
    have fM3 : ∀ bb, ¬ (bb = 1 ∨ (9 ≤ bb ∧ bb ≤ 14)) → M3 bb = M bb := fun bb hb => by rw [mM3]; exact (r_put_ne (by omega)).trans (fs2_2 bb hb)
    obtain ⟨s4, es4, hr⟩ := g_bd hr
    have fs4_2 : ∀ bb, ¬ (bb = 1 ∨ (9 ≤ bb ∧ bb ≤ 14)) → s4.2 bb = M bb := fun bb hb => (w_F_number (0 : Int32) (16 : Int32) M3 _ es4 bb (by omega)).trans (fM3 bb hb)
    obtain ⟨M5, mM5, hr⟩ := g_leto hr
    have fM5 : ∀ bb, ¬ (bb = 1 ∨ (9 ≤ bb ∧ bb ≤ 14)) → M5 bb = M bb := fun bb hb => by rw [mM5]; exact (r_put_ne (by omega)).trans (fs4_2 bb hb)
    cases hr; exact fun bb hb => (g_set_ne (by omega)).trans (fM5 bb hb)
  rcases g_ifo hr with ⟨h6, hr⟩ | ⟨h6, hr⟩
  ·
    obtain ⟨s7, es7, hr⟩ := g_bd hr
    have fs7_2 : ∀ bb, ¬ (bb = 1 ∨ (9 ≤ bb ∧ bb ≤ 14)) → s7.2 bb = M bb := fun bb hb => (w_F_number (1 : Int32) (9 : Int32) M _ es7 bb (by omega))
    obtain ⟨M8, mM8, hr⟩ := g_leto hr
    have fM8 : ∀ bb, ¬ (bb = 1 ∨ (9 ≤ bb ∧ bb ≤ 14)) → M8 bb = M bb := fun bb hb => by rw [mM8]; exact (r_put_ne (by omega)).trans (fs7_2 bb hb)
    obtain ⟨s9, es9, hr⟩ := g_bd hr
    have fs9_2 : ∀ bb, ¬ (bb = 1 ∨ (9 ≤ bb ∧ bb ≤ 14)) → s9.2 bb = M bb := fun bb hb => (w_F_number (3 : Int32) (14 : Int32) M8 _ es9 bb (by omega)).trans (fM8 bb hb)
    obtain ⟨M10, mM10, hr⟩ := g_leto hr
    have fM10 : ∀ bb, ¬ (bb = 1 ∨ (9 ≤ bb ∧ bb ≤ 14)) → M10 bb = M bb := fun bb hb => by rw [mM10]; exact (r_put_ne (by omega)).trans (fs9_2 bb hb)
    cases hr; exact fun bb hb => (g_set_ne (by omega)).trans (fM10 bb hb)
  rcases g_ifo hr with ⟨h11, hr⟩ | ⟨h11, hr⟩
  ·
    obtain ⟨s12, es12, hr⟩ := g_bd hr
    have fs12_2 : ∀ bb, ¬ (bb = 1 ∨ (9 ≤ bb ∧ bb ≤ 14)) → s12.2 bb = M bb := fun bb hb => (w_F_number (1 : Int32) (9 : Int32) M _ es12 bb (by omega))
    obtain ⟨M13, mM13, hr⟩ := g_leto hr
    have fM13 : ∀ bb, ¬ (bb = 1 ∨ (9 ≤ bb ∧ bb ≤ 14)) → M13 bb = M bb := fun bb hb => by rw [mM13]; exact (r_put_ne (by omega)).trans (fs12_2 bb hb)
    cases hr; exact fun bb hb => (g_set_ne (by omega)).trans (fM13 bb hb)
  rcases g_ifo hr with ⟨h14, hr⟩ | ⟨h14, hr⟩
  ·
    obtain ⟨s15, es15, hr⟩ := g_bd hr
    have fs15_2 : ∀ bb, ¬ (bb = 1 ∨ (9 ≤ bb ∧ bb ≤ 14)) → s15.2 bb = M bb := fun bb hb => (w_F_number (1 : Int32) (500 : Int32) M _ es15 bb (by omega))
    cases hr; exact fun bb hb => (g_set_ne (by omega)).trans (fs15_2 bb hb)
  obtain ⟨s16, es16, hr⟩ := g_bd hr
  have fs16_2 : ∀ bb, ¬ (bb = 1 ∨ (9 ≤ bb ∧ bb ≤ 14)) → s16.2 bb = M bb := fun bb hb => (w_F_number (0 : Int32) (20 : Int32) M _ es16 bb (by omega))
  cases hr; exact fun bb hb => (g_set_ne (by omega)).trans (fs16_2 bb hb)
set_option maxRecDepth 20000 in
theorem w_FP_readClause_J40 (told : Int32) (M : gM) (R : gM) (hr : FP_readClause_J40 told M = some R) : ∀ bb, ¬ (bb = 1 ∨ (9 ≤ bb ∧ bb ≤ 14)) → R bb = M bb := by
  unfold FP_readClause_J40 at hr
  obtain ⟨s1, es1, hr⟩ := g_bd hr
  have fs1 : ∀ bb, ¬ (bb = 1 ∨ (9 ≤ bb ∧ bb ≤ 14)) → s1 bb = M bb := fun bb hb => (w_F_fail (3 : Int32) (M 1 4) M _ es1 bb (by omega))
  cases hr; exact fun bb hb => fs1 bb hb
set_option maxRecDepth 20000 in
theorem w_FP_readClause (told : Int32) (M : gM) (R : gM) (hr : FP_readClause told M = some R) : ∀ bb, ¬ (bb = 1 ∨ (9 ≤ bb ∧ bb ≤ 14)) → R bb = M bb := by
  unfold FP_readClause at hr
  obtain ⟨s1, es1, hr⟩ := g_bd hr
  have fs1 : ∀ bb, ¬ (bb = 1 ∨ (9 ≤ bb ∧ bb ≤ 14)) → s1 bb = M bb := fun bb hb => (w_F_word M _ es1 bb (by omega))
  obtain ⟨s2, es2, hr⟩ := g_bd hr
  rcases g_ifo hr with ⟨h3, hr⟩ | ⟨h3, hr⟩
  ·
    obtain ⟨s10, es10, hr⟩ := g_bd hr
    have fs10 : ∀ bb, ¬ (bb = 1 ∨ (9 ≤ bb ∧ bb ≤ 14)) → s10 bb = M bb := fun bb hb => (w_F_fail (1 : Int32) (s1 1 4) s1 _ es10 bb (by omega)).trans (fs1 bb hb)
    cases hr; exact fun bb hb => fs10 bb hb
  ·
    rcases g_ifo hr with ⟨h4, hr⟩ | ⟨h4, hr⟩
    ·
      exact fun bb hb => (w_FP_readClause_J40 told s1 _ hr bb hb).trans (fs1 bb hb)
    ·
      rcases g_ifo hr with ⟨h7, hr⟩ | ⟨h7, hr⟩
      ·
        obtain ⟨s8, es8, hr⟩ := g_bd hr
        have fs8 : ∀ bb, ¬ (bb = 1 ∨ (9 ≤ bb ∧ bb ≤ 14)) → s8 bb = M bb := fun bb hb => (w_FP_readNumbers s2 s1 _ es8 bb (by omega)).trans (fs1 bb hb)
        obtain ⟨s9, es9, hr⟩ := g_bd hr
        have fs9 : ∀ bb, ¬ (bb = 1 ∨ (9 ≤ bb ∧ bb ≤ 14)) → s9 bb = M bb := fun bb hb => (w_F_need (59 : Int32) s8 _ es9 bb (by omega)).trans (fs8 bb hb)
        cases hr; exact fun bb hb => fs9 bb hb
      ·
        exact fun bb hb => (w_FP_readClause_J40 told s1 _ hr bb hb).trans (fs1 bb hb)
set_option maxRecDepth 20000 in
theorem w_FP_read_L6 : ∀ (k : Nat) (x2 : Int32) (M : gM) (R : gM), FP_read_L6 k x2 M = some R → ∀ bb, ¬ (bb = 1 ∨ (9 ≤ bb ∧ bb ≤ 14)) → R bb = M bb := by
  intro k
  induction k with
  | zero => intro x2 M R hr; exact nomatch (show (none : Option (gM)) = some R from hr)
  | succ k ih =>
    intro x2 M R hr
    unfold FP_read_L6 at hr
    rcases g_ifo hr with ⟨h1, hr⟩ | ⟨h1, hr⟩
    ·
      cases hr; exact fun bb hb => rfl
    ·
      rcases g_ifo hr with ⟨h4, hr⟩ | ⟨h4, hr⟩
      ·
        obtain ⟨s5, es5, hr⟩ := g_bd hr
        have fs5_2 : ∀ bb, ¬ (bb = 1 ∨ (9 ≤ bb ∧ bb ≤ 14)) → s5.2 bb = M bb := fun bb hb => (w_F_next M _ es5 bb (by omega))
        rcases g_ifo hr with ⟨h6, hr⟩ | ⟨h6, hr⟩
        ·
          cases hr; exact fun bb hb => fs5_2 bb hb
        ·
          obtain ⟨s7, es7, hr⟩ := g_bd hr
          have fs7 : ∀ bb, ¬ (bb = 1 ∨ (9 ≤ bb ∧ bb ≤ 14)) → s7 bb = M bb := fun bb hb => (w_FP_readClause x2 (s5.2) _ es7 bb (by omega)).trans (fs5_2 bb hb)
          exact fun bb hb => (ih (x2 + (1 : Int32)) s7 _ hr bb hb).trans (fs7 bb hb)
      ·
        cases hr; exact fun bb hb => rfl
set_option maxRecDepth 20000 in
theorem w_FP_read  (M : gM) (R : gM) (hr : FP_read M = some R) : ∀ bb, ¬ (bb = 1 ∨ (9 ≤ bb ∧ bb ≤ 14)) → R bb = M bb := by
  unfold FP_read at hr
  obtain ⟨s1, es1, hr⟩ := g_bd hr
  have fs1 : ∀ bb, ¬ (bb = 1 ∨ (9 ≤ bb ∧ bb ≤ 14)) → s1 bb = M bb := fun bb hb => (w_FP_clear M _ es1 bb (by omega))
  exact fun bb hb => (w_FP_read_L6 1000 (0 : Int32) s1 _ hr bb hb).trans (fs1 bb hb)
set_option maxRecDepth 20000 in
theorem w_FL_clear  (M : gM) (R : gM) (hr : FL_clear M = some R) : ∀ bb, ¬ (bb = 15) → R bb = M bb := by
  unfold FL_clear at hr
  cases hr; exact fun bb hb => (g_set_ne (by omega)).trans ((g_set_ne (by omega)))
set_option maxRecDepth 20000 in
theorem w_FL_copy  (M : gM) (R : gM) (hr : FL_copy M = some R) : ∀ bb, ¬ ((15 ≤ bb ∧ bb ≤ 17)) → R bb = M bb := by
  unfold FL_copy at hr
  obtain ⟨M1, mM1, hr⟩ := g_leto hr
  have fM1 : ∀ bb, ¬ ((15 ≤ bb ∧ bb ≤ 17)) → M1 bb = M bb := fun bb hb => by rw [mM1]; exact (r_copy_ne (by omega))
  obtain ⟨M2, mM2, hr⟩ := g_leto hr
  have fM2 : ∀ bb, ¬ ((15 ≤ bb ∧ bb ≤ 17)) → M2 bb = M bb := fun bb hb => by rw [mM2]; exact (r_copy_ne (by omega)).trans (fM1 bb hb)
  obtain ⟨h3, hr⟩ := g_zo hr
  cases hr; exact fun bb hb => (g_set_ne (by omega)).trans ((g_set_ne (by omega)).trans (fM2 bb hb))
set_option maxRecDepth 20000 in
theorem w_FL_mark (kind : Int32) (v : Int32) (M : gM) (R : gM) (hr : FL_mark kind v M = some R) : ∀ bb, ¬ ((19 ≤ bb ∧ bb ≤ 21)) → R bb = M bb := by
  unfold FL_mark at hr
  obtain ⟨M1, mM1, hr⟩ := g_leto hr
  have fM1 : ∀ bb, ¬ ((19 ≤ bb ∧ bb ≤ 21)) → M1 bb = M bb := fun bb hb => by rw [mM1]; exact (r_put_ne (by omega))
  obtain ⟨M2, mM2, hr⟩ := g_leto hr
  have fM2 : ∀ bb, ¬ ((19 ≤ bb ∧ bb ≤ 21)) → M2 bb = M bb := fun bb hb => by rw [mM2]; exact (r_put_ne (by omega)).trans (fM1 bb hb)
  cases hr; exact fun bb hb => (g_set_ne (by omega)).trans (fM2 bb hb)
set_option maxRecDepth 20000 in
theorem w_FL_readSum_J43 (op : Int32) (rreadProduct : Int32 → gM → Option (gM)) (grreadProduct : ∀ (v2 : Int32) (M : gM) (R : gM), rreadProduct v2 M = some R → ∀ bb, ¬ (bb = 1 ∨ (19 ≤ bb ∧ bb ≤ 21)) → R bb = M bb) (c8 : Int32 → gM → Option (gM)) (gc8 : ∀ (x3 : Int32) (M : gM) (R : gM), c8 x3 M = some R → ∀ bb, ¬ (bb = 1 ∨ (19 ≤ bb ∧ bb ≤ 21)) → R bb = M bb) (x3 : Int32) (x4 : Int32) (M : gM) (R : gM) (hr : FL_readSum_J43 op rreadProduct c8 x3 x4 M = some R) : ∀ bb, ¬ (bb = 1 ∨ (19 ≤ bb ∧ bb ≤ 21)) → R bb = M bb := by
  unfold FL_readSum_J43 at hr
  obtain ⟨s1, es1, hr⟩ := g_bd hr
  have fs1 : ∀ bb, ¬ (bb = 1 ∨ (19 ≤ bb ∧ bb ≤ 21)) → s1 bb = M bb := fun bb hb => (w_F_need x4 M _ es1 bb (by omega))
  obtain ⟨s2, es2, hr⟩ := g_bd hr
  have fs2 : ∀ bb, ¬ (bb = 1 ∨ (19 ≤ bb ∧ bb ≤ 21)) → s2 bb = M bb := fun bb hb => (grreadProduct op s1 _ es2 bb hb).trans (fs1 bb hb)
  obtain ⟨s3, es3, hr⟩ := g_bd hr
  have fs3 : ∀ bb, ¬ (bb = 1 ∨ (19 ≤ bb ∧ bb ≤ 21)) → s3 bb = M bb := fun bb hb => (w_FL_mark x4 (0 : Int32) s2 _ es3 bb (by omega)).trans (fs2 bb hb)
  exact fun bb hb => (gc8 (x3 + (1 : Int32)) s3 _ hr bb hb).trans (fs3 bb hb)
set_option maxRecDepth 20000 in
theorem w_FL_readSum_L8 (op : Int32) (rreadProduct : Int32 → gM → Option (gM)) (grreadProduct : ∀ (v2 : Int32) (M : gM) (R : gM), rreadProduct v2 M = some R → ∀ bb, ¬ (bb = 1 ∨ (19 ≤ bb ∧ bb ≤ 21)) → R bb = M bb) : ∀ (k : Nat) (x3 : Int32) (M : gM) (R : gM), FL_readSum_L8 op rreadProduct k x3 M = some R → ∀ bb, ¬ (bb = 1 ∨ (19 ≤ bb ∧ bb ≤ 21)) → R bb = M bb := by
  intro k
  induction k with
  | zero => intro x3 M R hr; exact nomatch (show (none : Option (gM)) = some R from hr)
  | succ k ih =>
    intro x3 M R hr
    unfold FL_readSum_L8 at hr
    rcases g_ifo hr with ⟨h1, hr⟩ | ⟨h1, hr⟩
    ·
      cases hr; exact fun bb hb => rfl
    ·
      rcases g_ifo hr with ⟨h4, hr⟩ | ⟨h4, hr⟩
      ·
        obtain ⟨s5, es5, hr⟩ := g_bd hr
        have fs5_2 : ∀ bb, ¬ (bb = 1 ∨ (19 ≤ bb ∧ bb ≤ 21)) → s5.2 bb = M bb := fun bb hb => (w_F_next M _ es5 bb (by omega))
        rcases g_ifo hr with ⟨h6, hr⟩ | ⟨h6, hr⟩
        ·
          exact fun bb hb => (w_FL_readSum_J43 op rreadProduct grreadProduct (FL_readSum_L8 op rreadProduct k) ih x3 s5.1 (s5.2) _ hr bb hb).trans (fs5_2 bb hb)
        ·
          rcases g_ifo hr with ⟨h7, hr⟩ | ⟨h7, hr⟩
          ·
            exact fun bb hb => (w_FL_readSum_J43 op rreadProduct grreadProduct (FL_readSum_L8 op rreadProduct k) ih x3 s5.1 (s5.2) _ hr bb hb).trans (fs5_2 bb hb)
          ·
            cases hr; exact fun bb hb => fs5_2 bb hb
      ·
        cases hr; exact fun bb hb => rfl
set_option maxRecDepth 20000 in
theorem w_FL_readSum_B (rreadProduct : Int32 → gM → Option (gM)) (grreadProduct : ∀ (v2 : Int32) (M : gM) (R : gM), rreadProduct v2 M = some R → ∀ bb, ¬ (bb = 1 ∨ (19 ≤ bb ∧ bb ≤ 21)) → R bb = M bb) (op : Int32) (M : gM) (R : gM) (hr : FL_readSum_B rreadProduct op M = some R) : ∀ bb, ¬ (bb = 1 ∨ (19 ≤ bb ∧ bb ≤ 21)) → R bb = M bb := by
  unfold FL_readSum_B at hr
  obtain ⟨s1, es1, hr⟩ := g_bd hr
  have fs1 : ∀ bb, ¬ (bb = 1 ∨ (19 ≤ bb ∧ bb ≤ 21)) → s1 bb = M bb := fun bb hb => (grreadProduct op M _ es1 bb hb)
  exact fun bb hb => (w_FL_readSum_L8 op rreadProduct grreadProduct 1000 (0 : Int32) s1 _ hr bb hb).trans (fs1 bb hb)
set_option maxRecDepth 20000 in
theorem w_FL_readProduct_J50 (op : Int32) (rreadUnit : Int32 → gM → Option (gM)) (grreadUnit : ∀ (v2 : Int32) (M : gM) (R : gM), rreadUnit v2 M = some R → ∀ bb, ¬ (bb = 1 ∨ (19 ≤ bb ∧ bb ≤ 21)) → R bb = M bb) (c8 : Int32 → gM → Option (gM)) (gc8 : ∀ (x3 : Int32) (M : gM) (R : gM), c8 x3 M = some R → ∀ bb, ¬ (bb = 1 ∨ (19 ≤ bb ∧ bb ≤ 21)) → R bb = M bb) (x3 : Int32) (x4 : Int32) (M : gM) (R : gM) (hr : FL_readProduct_J50 op rreadUnit c8 x3 x4 M = some R) : ∀ bb, ¬ (bb = 1 ∨ (19 ≤ bb ∧ bb ≤ 21)) → R bb = M bb := by
  unfold FL_readProduct_J50 at hr
  obtain ⟨s1, es1, hr⟩ := g_bd hr
  have fs1 : ∀ bb, ¬ (bb = 1 ∨ (19 ≤ bb ∧ bb ≤ 21)) → s1 bb = M bb := fun bb hb => (w_F_need x4 M _ es1 bb (by omega))
  obtain ⟨s2, es2, hr⟩ := g_bd hr
  have fs2 : ∀ bb, ¬ (bb = 1 ∨ (19 ≤ bb ∧ bb ≤ 21)) → s2 bb = M bb := fun bb hb => (grreadUnit op s1 _ es2 bb hb).trans (fs1 bb hb)
  obtain ⟨s3, es3, hr⟩ := g_bd hr
  have fs3 : ∀ bb, ¬ (bb = 1 ∨ (19 ≤ bb ∧ bb ≤ 21)) → s3 bb = M bb := fun bb hb => (w_FL_mark x4 (0 : Int32) s2 _ es3 bb (by omega)).trans (fs2 bb hb)
  exact fun bb hb => (gc8 (x3 + (1 : Int32)) s3 _ hr bb hb).trans (fs3 bb hb)
set_option maxRecDepth 20000 in
theorem w_FL_readProduct_L8 (op : Int32) (rreadUnit : Int32 → gM → Option (gM)) (grreadUnit : ∀ (v2 : Int32) (M : gM) (R : gM), rreadUnit v2 M = some R → ∀ bb, ¬ (bb = 1 ∨ (19 ≤ bb ∧ bb ≤ 21)) → R bb = M bb) : ∀ (k : Nat) (x3 : Int32) (M : gM) (R : gM), FL_readProduct_L8 op rreadUnit k x3 M = some R → ∀ bb, ¬ (bb = 1 ∨ (19 ≤ bb ∧ bb ≤ 21)) → R bb = M bb := by
  intro k
  induction k with
  | zero => intro x3 M R hr; exact nomatch (show (none : Option (gM)) = some R from hr)
  | succ k ih =>
    intro x3 M R hr
    unfold FL_readProduct_L8 at hr
    rcases g_ifo hr with ⟨h1, hr⟩ | ⟨h1, hr⟩
    ·
      cases hr; exact fun bb hb => rfl
    ·
      rcases g_ifo hr with ⟨h4, hr⟩ | ⟨h4, hr⟩
      ·
        obtain ⟨s5, es5, hr⟩ := g_bd hr
        have fs5_2 : ∀ bb, ¬ (bb = 1 ∨ (19 ≤ bb ∧ bb ≤ 21)) → s5.2 bb = M bb := fun bb hb => (w_F_next M _ es5 bb (by omega))
        rcases g_ifo hr with ⟨h6, hr⟩ | ⟨h6, hr⟩
        ·
          exact fun bb hb => (w_FL_readProduct_J50 op rreadUnit grreadUnit (FL_readProduct_L8 op rreadUnit k) ih x3 s5.1 (s5.2) _ hr bb hb).trans (fs5_2 bb hb)
        ·
          rcases g_ifo hr with ⟨h7, hr⟩ | ⟨h7, hr⟩
          ·
            exact fun bb hb => (w_FL_readProduct_J50 op rreadUnit grreadUnit (FL_readProduct_L8 op rreadUnit k) ih x3 s5.1 (s5.2) _ hr bb hb).trans (fs5_2 bb hb)
          ·
            rcases g_ifo hr with ⟨h8, hr⟩ | ⟨h8, hr⟩
            ·
              exact fun bb hb => (w_FL_readProduct_J50 op rreadUnit grreadUnit (FL_readProduct_L8 op rreadUnit k) ih x3 s5.1 (s5.2) _ hr bb hb).trans (fs5_2 bb hb)
            ·
              cases hr; exact fun bb hb => fs5_2 bb hb
      ·
        cases hr; exact fun bb hb => rfl
set_option maxRecDepth 20000 in
theorem w_FL_readProduct_B (rreadUnit : Int32 → gM → Option (gM)) (grreadUnit : ∀ (v2 : Int32) (M : gM) (R : gM), rreadUnit v2 M = some R → ∀ bb, ¬ (bb = 1 ∨ (19 ≤ bb ∧ bb ≤ 21)) → R bb = M bb) (op : Int32) (M : gM) (R : gM) (hr : FL_readProduct_B rreadUnit op M = some R) : ∀ bb, ¬ (bb = 1 ∨ (19 ≤ bb ∧ bb ≤ 21)) → R bb = M bb := by
  unfold FL_readProduct_B at hr
  obtain ⟨s1, es1, hr⟩ := g_bd hr
  have fs1 : ∀ bb, ¬ (bb = 1 ∨ (19 ≤ bb ∧ bb ≤ 21)) → s1 bb = M bb := fun bb hb => (grreadUnit op M _ es1 bb hb)
  exact fun bb hb => (w_FL_readProduct_L8 op rreadUnit grreadUnit 1000 (0 : Int32) s1 _ hr bb hb).trans (fs1 bb hb)
set_option maxRecDepth 20000 in
theorem w_FL_readUnit_B (rreadBracket : Int32 → gM → Option (gM)) (grreadBracket : ∀ (v2 : Int32) (M : gM) (R : gM), rreadBracket v2 M = some R → ∀ bb, ¬ (bb = 1 ∨ (19 ≤ bb ∧ bb ≤ 21)) → R bb = M bb) (rreadPair : Int32 → Int32 → gM → Option (gM)) (grreadPair : ∀ (v2 : Int32) (v3 : Int32) (M : gM) (R : gM), rreadPair v2 v3 M = some R → ∀ bb, ¬ (bb = 1 ∨ (19 ≤ bb ∧ bb ≤ 21)) → R bb = M bb) (op : Int32) (M : gM) (R : gM) (hr : FL_readUnit_B rreadBracket rreadPair op M = some R) : ∀ bb, ¬ (bb = 1 ∨ (19 ≤ bb ∧ bb ≤ 21)) → R bb = M bb := by
  unfold FL_readUnit_B at hr
  obtain ⟨s1, es1, hr⟩ := g_bd hr
  have fs1_2 : ∀ bb, ¬ (bb = 1 ∨ (19 ≤ bb ∧ bb ≤ 21)) → s1.2 bb = M bb := fun bb hb => (w_F_next M _ es1 bb (by omega))
  rcases g_ifo hr with ⟨h4, hr⟩ | ⟨h4, hr⟩
  ·
    rcases g_ifo hr with ⟨h7, hr⟩ | ⟨h7, hr⟩
    ·
      rcases g_ifo hr with ⟨h8, hr⟩ | ⟨h8, hr⟩
      ·
        obtain ⟨s22, es22, hr⟩ := g_bd hr
        have fs22 : ∀ bb, ¬ (bb = 1 ∨ (19 ≤ bb ∧ bb ≤ 21)) → s22 bb = M bb := fun bb hb => (grreadBracket op (s1.2) _ es22 bb hb).trans (fs1_2 bb hb)
        cases hr; exact fun bb hb => fs22 bb hb
      ·
        obtain ⟨s9, es9, hr⟩ := g_bd hr
        have fs9 : ∀ bb, ¬ (bb = 1 ∨ (19 ≤ bb ∧ bb ≤ 21)) → s9 bb = M bb := fun bb hb => (w_F_word (s1.2) _ es9 bb (by omega)).trans (fs1_2 bb hb)
        obtain ⟨s10, es10, hr⟩ := g_bd hr
        rcases g_ifo hr with ⟨h11, hr⟩ | ⟨h11, hr⟩
        ·
          obtain ⟨s12, es12, hr⟩ := g_bd hr
          rcases g_ifo hr with ⟨h14, hr⟩ | ⟨h14, hr⟩
          ·
            obtain ⟨s15, es15, hr⟩ := g_bd hr
            rcases g_ifo hr with ⟨h17, hr⟩ | ⟨h17, hr⟩
            ·
              obtain ⟨s18, es18, hr⟩ := g_bd hr
              have fs18 : ∀ bb, ¬ (bb = 1 ∨ (19 ≤ bb ∧ bb ≤ 21)) → s18 bb = M bb := fun bb hb => (w_F_fail (1 : Int32) (s9 1 4) s9 _ es18 bb (by omega)).trans (fs9 bb hb)
              cases hr; exact fun bb hb => fs18 bb hb
            ·
              obtain ⟨s19, es19, hr⟩ := g_bd hr
              have fs19 : ∀ bb, ¬ (bb = 1 ∨ (19 ≤ bb ∧ bb ≤ 21)) → s19 bb = M bb := fun bb hb => (grreadPair op (109 : Int32) s9 _ es19 bb hb).trans (fs9 bb hb)
              cases hr; exact fun bb hb => fs19 bb hb
          ·
            obtain ⟨s20, es20, hr⟩ := g_bd hr
            have fs20 : ∀ bb, ¬ (bb = 1 ∨ (19 ≤ bb ∧ bb ≤ 21)) → s20 bb = M bb := fun bb hb => (grreadPair op (108 : Int32) s9 _ es20 bb hb).trans (fs9 bb hb)
            cases hr; exact fun bb hb => fs20 bb hb
        ·
          obtain ⟨s21, es21, hr⟩ := g_bd hr
          have fs21 : ∀ bb, ¬ (bb = 1 ∨ (19 ≤ bb ∧ bb ≤ 21)) → s21 bb = M bb := fun bb hb => (w_FL_mark (102 : Int32) s10 s9 _ es21 bb (by omega)).trans (fs9 bb hb)
          cases hr; exact fun bb hb => fs21 bb hb
    ·
      obtain ⟨s23, es23, hr⟩ := g_bd hr
      have fs23_2 : ∀ bb, ¬ (bb = 1 ∨ (19 ≤ bb ∧ bb ≤ 21)) → s23.2 bb = M bb := fun bb hb => (w_F_number (0 : Int32) (999 : Int32) (s1.2) _ es23 bb (by omega)).trans (fs1_2 bb hb)
      obtain ⟨s24, es24, hr⟩ := g_bd hr
      have fs24 : ∀ bb, ¬ (bb = 1 ∨ (19 ≤ bb ∧ bb ≤ 21)) → s24 bb = M bb := fun bb hb => (w_FL_mark (110 : Int32) s23.1 (s23.2) _ es24 bb (by omega)).trans (fs23_2 bb hb)
      cases hr; exact fun bb hb => fs24 bb hb
  ·
    cases hr; exact fun bb hb => fs1_2 bb hb
set_option maxRecDepth 20000 in
theorem w_FL_readBracket_B (rreadSum : Int32 → gM → Option (gM)) (grreadSum : ∀ (v2 : Int32) (M : gM) (R : gM), rreadSum v2 M = some R → ∀ bb, ¬ (bb = 1 ∨ (19 ≤ bb ∧ bb ≤ 21)) → R bb = M bb) (op : Int32) (M : gM) (R : gM) (hr : FL_readBracket_B rreadSum op M = some R) : ∀ bb, ¬ (bb = 1 ∨ (19 ≤ bb ∧ bb ≤ 21)) → R bb = M bb := by
  unfold FL_readBracket_B at hr
  rcases g_ifo hr with ⟨h1, hr⟩ | ⟨h1, hr⟩
  ·
    obtain ⟨s2, es2, hr⟩ := g_bd hr
    have fs2 : ∀ bb, ¬ (bb = 1 ∨ (19 ≤ bb ∧ bb ≤ 21)) → s2 bb = M bb := fun bb hb => (w_F_need (40 : Int32) M _ es2 bb (by omega))
    obtain ⟨s3, es3, hr⟩ := g_bd hr
    have fs3 : ∀ bb, ¬ (bb = 1 ∨ (19 ≤ bb ∧ bb ≤ 21)) → s3 bb = M bb := fun bb hb => (grreadSum (op + (1 : Int32)) s2 _ es3 bb hb).trans (fs2 bb hb)
    obtain ⟨s4, es4, hr⟩ := g_bd hr
    have fs4 : ∀ bb, ¬ (bb = 1 ∨ (19 ≤ bb ∧ bb ≤ 21)) → s4 bb = M bb := fun bb hb => (w_F_need (41 : Int32) s3 _ es4 bb (by omega)).trans (fs3 bb hb)
    cases hr; exact fun bb hb => fs4 bb hb
  ·
    obtain ⟨s5, es5, hr⟩ := g_bd hr
    have fs5 : ∀ bb, ¬ (bb = 1 ∨ (19 ≤ bb ∧ bb ≤ 21)) → s5 bb = M bb := fun bb hb => (w_F_fail (3 : Int32) (M 1 3) M _ es5 bb (by omega))
    cases hr; exact fun bb hb => fs5 bb hb
set_option maxRecDepth 20000 in
theorem w_FL_readPair_B (rreadSum : Int32 → gM → Option (gM)) (grreadSum : ∀ (v2 : Int32) (M : gM) (R : gM), rreadSum v2 M = some R → ∀ bb, ¬ (bb = 1 ∨ (19 ≤ bb ∧ bb ≤ 21)) → R bb = M bb) (op : Int32) (kind : Int32) (M : gM) (R : gM) (hr : FL_readPair_B rreadSum op kind M = some R) : ∀ bb, ¬ (bb = 1 ∨ (19 ≤ bb ∧ bb ≤ 21)) → R bb = M bb := by
  unfold FL_readPair_B at hr
  rcases g_ifo hr with ⟨h1, hr⟩ | ⟨h1, hr⟩
  ·
    obtain ⟨s2, es2, hr⟩ := g_bd hr
    have fs2 : ∀ bb, ¬ (bb = 1 ∨ (19 ≤ bb ∧ bb ≤ 21)) → s2 bb = M bb := fun bb hb => (w_F_need (91 : Int32) M _ es2 bb (by omega))
    obtain ⟨s3, es3, hr⟩ := g_bd hr
    have fs3 : ∀ bb, ¬ (bb = 1 ∨ (19 ≤ bb ∧ bb ≤ 21)) → s3 bb = M bb := fun bb hb => (grreadSum (op + (1 : Int32)) s2 _ es3 bb hb).trans (fs2 bb hb)
    obtain ⟨s4, es4, hr⟩ := g_bd hr
    have fs4 : ∀ bb, ¬ (bb = 1 ∨ (19 ≤ bb ∧ bb ≤ 21)) → s4 bb = M bb := fun bb hb => (w_F_need (44 : Int32) s3 _ es4 bb (by omega)).trans (fs3 bb hb)
    obtain ⟨s5, es5, hr⟩ := g_bd hr
    have fs5 : ∀ bb, ¬ (bb = 1 ∨ (19 ≤ bb ∧ bb ≤ 21)) → s5 bb = M bb := fun bb hb => (grreadSum (op + (1 : Int32)) s4 _ es5 bb hb).trans (fs4 bb hb)
    obtain ⟨s6, es6, hr⟩ := g_bd hr
    have fs6 : ∀ bb, ¬ (bb = 1 ∨ (19 ≤ bb ∧ bb ≤ 21)) → s6 bb = M bb := fun bb hb => (w_F_need (93 : Int32) s5 _ es6 bb (by omega)).trans (fs5 bb hb)
    obtain ⟨s7, es7, hr⟩ := g_bd hr
    have fs7 : ∀ bb, ¬ (bb = 1 ∨ (19 ≤ bb ∧ bb ≤ 21)) → s7 bb = M bb := fun bb hb => (w_FL_mark kind (0 : Int32) s6 _ es7 bb (by omega)).trans (fs6 bb hb)
    cases hr; exact fun bb hb => fs7 bb hb
  ·
    obtain ⟨s8, es8, hr⟩ := g_bd hr
    have fs8 : ∀ bb, ¬ (bb = 1 ∨ (19 ≤ bb ∧ bb ≤ 21)) → s8 bb = M bb := fun bb hb => (w_F_fail (3 : Int32) (M 1 4) M _ es8 bb (by omega))
    cases hr; exact fun bb hb => fs8 bb hb
theorem w_FL_reads : ∀ f : Nat, (∀ (op : Int32) (M : gM) (R : gM), FL_readSum f op M = some R → ∀ bb, ¬ (bb = 1 ∨ (19 ≤ bb ∧ bb ≤ 21)) → R bb = M bb) ∧ (∀ (op : Int32) (M : gM) (R : gM), FL_readProduct f op M = some R → ∀ bb, ¬ (bb = 1 ∨ (19 ≤ bb ∧ bb ≤ 21)) → R bb = M bb) ∧ (∀ (op : Int32) (M : gM) (R : gM), FL_readUnit f op M = some R → ∀ bb, ¬ (bb = 1 ∨ (19 ≤ bb ∧ bb ≤ 21)) → R bb = M bb) ∧ (∀ (op : Int32) (M : gM) (R : gM), FL_readBracket f op M = some R → ∀ bb, ¬ (bb = 1 ∨ (19 ≤ bb ∧ bb ≤ 21)) → R bb = M bb) ∧ (∀ (op : Int32) (kind : Int32) (M : gM) (R : gM), FL_readPair f op kind M = some R → ∀ bb, ¬ (bb = 1 ∨ (19 ≤ bb ∧ bb ≤ 21)) → R bb = M bb) := by
  intro f
  induction f with
  | zero => exact ⟨fun _ M R hr => (nomatch (show (none : Option (gM)) = some R from hr)), fun _ M R hr => (nomatch (show (none : Option (gM)) = some R from hr)), fun _ M R hr => (nomatch (show (none : Option (gM)) = some R from hr)), fun _ M R hr => (nomatch (show (none : Option (gM)) = some R from hr)), fun _ _ M R hr => (nomatch (show (none : Option (gM)) = some R from hr))⟩
  | succ f ih => exact ⟨fun op M R hr => w_FL_readSum_B (FL_readProduct f) (fun v2 M R hr => ih.2.1 v2 M R hr) op M R hr, fun op M R hr => w_FL_readProduct_B (FL_readUnit f) (fun v2 M R hr => ih.2.2.1 v2 M R hr) op M R hr, fun op M R hr => w_FL_readUnit_B (FL_readBracket f) (fun v2 M R hr => ih.2.2.2.1 v2 M R hr) (FL_readPair f) (fun v2 v3 M R hr => ih.2.2.2.2 v2 v3 M R hr) op M R hr, fun op M R hr => w_FL_readBracket_B (FL_readSum f) (fun v2 M R hr => ih.1 v2 M R hr) op M R hr, fun op kind M R hr => w_FL_readPair_B (FL_readSum f) (fun v2 M R hr => ih.1 v2 M R hr) op kind M R hr⟩
theorem w_FL_readSum (f : Nat) (op : Int32) (M : gM) (R : gM) (hr : FL_readSum f op M = some R) : ∀ bb, ¬ (bb = 1 ∨ (19 ≤ bb ∧ bb ≤ 21)) → R bb = M bb := (w_FL_reads f).1 op M R hr
theorem w_FL_readProduct (f : Nat) (op : Int32) (M : gM) (R : gM) (hr : FL_readProduct f op M = some R) : ∀ bb, ¬ (bb = 1 ∨ (19 ≤ bb ∧ bb ≤ 21)) → R bb = M bb := (w_FL_reads f).2.1 op M R hr
theorem w_FL_readUnit (f : Nat) (op : Int32) (M : gM) (R : gM) (hr : FL_readUnit f op M = some R) : ∀ bb, ¬ (bb = 1 ∨ (19 ≤ bb ∧ bb ≤ 21)) → R bb = M bb := (w_FL_reads f).2.2.1 op M R hr
theorem w_FL_readBracket (f : Nat) (op : Int32) (M : gM) (R : gM) (hr : FL_readBracket f op M = some R) : ∀ bb, ¬ (bb = 1 ∨ (19 ≤ bb ∧ bb ≤ 21)) → R bb = M bb := (w_FL_reads f).2.2.2.1 op M R hr
theorem w_FL_readPair (f : Nat) (op : Int32) (kind : Int32) (M : gM) (R : gM) (hr : FL_readPair f op kind M = some R) : ∀ bb, ¬ (bb = 1 ∨ (19 ≤ bb ∧ bb ≤ 21)) → R bb = M bb := (w_FL_reads f).2.2.2.2 op kind M R hr
set_option maxRecDepth 20000 in
theorem w_FL_read  (M : gM) (R : gM) (hr : FL_read M = some R) : ∀ bb, ¬ (bb = 1 ∨ (19 ≤ bb ∧ bb ≤ 21)) → R bb = M bb := by
  unfold FL_read at hr
  obtain ⟨s1, es1, hr⟩ := g_bd hr
  have fs1 : ∀ bb, ¬ (bb = 1 ∨ (19 ≤ bb ∧ bb ≤ 21)) → s1 bb = M bb := fun bb hb => (w_FL_readSum 40 (0 : Int32) (g_set (g_set M 19 3 (0 : Int32)) 19 4 (1 : Int32)) _ es1 bb (by omega)).trans ((g_set_ne (by omega)).trans ((g_set_ne (by omega))))
  obtain ⟨s2, es2, hr⟩ := g_bd hr
  have fs2_2 : ∀ bb, ¬ (bb = 1 ∨ (19 ≤ bb ∧ bb ≤ 21)) → s2.2 bb = M bb := fun bb hb => (w_F_next s1 _ es2 bb (by omega)).trans (fs1 bb hb)
  rcases g_ifo hr with ⟨h3, hr⟩ | ⟨h3, hr⟩
  ·
    cases hr; exact fun bb hb => fs2_2 bb hb
  ·
    obtain ⟨s4, es4, hr⟩ := g_bd hr
    have fs4 : ∀ bb, ¬ (bb = 1 ∨ (19 ≤ bb ∧ bb ≤ 21)) → s4 bb = M bb := fun bb hb => (w_F_fail (1 : Int32) ((s2.2) 1 3) (s2.2) _ es4 bb (by omega)).trans (fs2_2 bb hb)
    cases hr; exact fun bb hb => fs4 bb hb
set_option maxRecDepth 20000 in
theorem w_FL_outcome_J137 (y0 : Int32) (M : gM) (R : Int32 × gM) (hr : FL_outcome_J137 y0 M = some R) : ∀ bb, ¬ (bb = 18) → R.2 bb = M bb := by
  unfold FL_outcome_J137 at hr
  rcases g_ifo hr with ⟨h1, hr⟩ | ⟨h1, hr⟩
  ·
    rcases g_ifo hr with ⟨h2, hr⟩ | ⟨h2, hr⟩
    ·
      cases hr; exact fun bb hb => rfl
    ·
      cases hr; exact fun bb hb => rfl
  ·
    cases hr; exact fun bb hb => rfl
set_option maxRecDepth 20000 in
theorem w_FL_outcome_J43 (c4 : Int32 → Int32 → gM → Option (Int32 × gM)) (gc4 : ∀ (x1 : Int32) (x2 : Int32) (M : gM) (R : Int32 × gM), c4 x1 x2 M = some R → ∀ bb, ¬ (bb = 18) → R.2 bb = M bb) (x1 : Int32) (x2 : Int32) (x3 : Int32) (x4 : Int32) (M : gM) (R : Int32 × gM) (hr : FL_outcome_J43 c4 x1 x2 x3 x4 M = some R) : ∀ bb, ¬ (bb = 18) → R.2 bb = M bb := by
  unfold FL_outcome_J43 at hr
  rcases g_ifo hr with ⟨h1, hr⟩ | ⟨h1, hr⟩
  ·
    obtain ⟨M3, mM3, hr⟩ := g_leto hr
    have fM3 : ∀ bb, ¬ (bb = 18) → M3 bb = M bb := fun bb hb => by rw [mM3]; exact (r_put_ne (by omega))
    exact fun bb hb => (gc4 (x1 + (1 : Int32)) (x2 + (1 : Int32)) M3 _ hr bb hb).trans (fM3 bb hb)
  ·
    obtain ⟨M2, mM2, hr⟩ := g_leto hr
    have fM2 : ∀ bb, ¬ (bb = 18) → M2 bb = M bb := fun bb hb => by rw [mM2]; exact (r_put_ne (by omega))
    exact fun bb hb => (gc4 (x1 + (1 : Int32)) (x2 + (1 : Int32)) M2 _ hr bb hb).trans (fM2 bb hb)
set_option maxRecDepth 20000 in
theorem w_FL_outcome_L4 : ∀ (k : Nat) (x1 : Int32) (x2 : Int32) (M : gM) (R : Int32 × gM), FL_outcome_L4 k x1 x2 M = some R → ∀ bb, ¬ (bb = 18) → R.2 bb = M bb := by
  intro k
  induction k with
  | zero => intro x1 x2 M R hr; exact nomatch (show (none : Option (Int32 × gM)) = some R from hr)
  | succ k ih =>
    intro x1 x2 M R hr
    unfold FL_outcome_L4 at hr
    rcases g_ifo hr with ⟨h1, hr⟩ | ⟨h1, hr⟩
    ·
      rcases g_ifo hr with ⟨h2, hr⟩ | ⟨h2, hr⟩
      ·
        obtain ⟨s3, es3, hr⟩ := g_bd hr
        exact fun bb hb => (w_FL_outcome_J137 s3 M _ hr bb hb)
      ·
        exact fun bb hb => (w_FL_outcome_J137 (r_at (M 18) 64 (0 : Int32)) M _ hr bb hb)
    ·
      rcases g_ifo hr with ⟨h4, hr⟩ | ⟨h4, hr⟩
      ·
        exact fun bb hb => (w_FL_outcome_J43 (FL_outcome_L4 k) ih x1 x2 (r_at (M 16) 150 x2) (r_at (M 17) 150 x2) M _ hr bb hb)
      ·
        rcases g_ifo hr with ⟨h5, hr⟩ | ⟨h5, hr⟩
        ·
          exact fun bb hb => (w_FL_outcome_J43 (FL_outcome_L4 k) ih x1 x2 (r_at (M 16) 150 x2) (r_at (M 17) 150 x2) M _ hr bb hb)
        ·
          obtain ⟨s6, es6, hr⟩ := g_bd hr
          obtain ⟨M7, mM7, hr⟩ := g_leto hr
          have fM7 : ∀ bb, ¬ (bb = 18) → M7 bb = M bb := fun bb hb => by rw [mM7]; exact (r_put_ne (by omega))
          exact fun bb hb => (ih (x1 + (-1 : Int32)) (x2 + (1 : Int32)) M7 _ hr bb hb).trans (fM7 bb hb)
set_option maxRecDepth 20000 in
theorem w_FL_outcome  (M : gM) (R : Int32 × gM) (hr : FL_outcome M = some R) : ∀ bb, ¬ (bb = 18) → R.2 bb = M bb := by
  unfold FL_outcome at hr
  exact fun bb hb => (w_FL_outcome_L4 1000 (0 : Int32) (0 : Int32) M _ hr bb hb)
set_option maxRecDepth 20000 in
theorem w_FS_clear  (M : gM) (R : gM) (hr : FS_clear M = some R) : ∀ bb, ¬ ((23 ≤ bb ∧ bb ≤ 24)) → R bb = M bb := by
  unfold FS_clear at hr
  obtain ⟨M1, mM1, hr⟩ := g_leto hr
  have fM1 : ∀ bb, ¬ ((23 ≤ bb ∧ bb ≤ 24)) → M1 bb = M bb := fun bb hb => by rw [mM1]; exact (r_fill_ne (by omega))
  cases hr; exact fun bb hb => (g_set_ne (by omega)).trans (fM1 bb hb)
set_option maxRecDepth 20000 in
theorem w_FS_clearR  (M : gM) (R : gM) (hr : FS_clearR M = some R) : ∀ bb, ¬ ((25 ≤ bb ∧ bb ≤ 26)) → R bb = M bb := by
  unfold FS_clearR at hr
  obtain ⟨M1, mM1, hr⟩ := g_leto hr
  have fM1 : ∀ bb, ¬ ((25 ≤ bb ∧ bb ≤ 26)) → M1 bb = M bb := fun bb hb => by rw [mM1]; exact (r_fill_ne (by omega))
  cases hr; exact fun bb hb => (g_set_ne (by omega)).trans (fM1 bb hb)
set_option maxRecDepth 20000 in
theorem w_FS_copy  (M : gM) (R : gM) (hr : FS_copy M = some R) : ∀ bb, ¬ ((23 ≤ bb ∧ bb ≤ 24)) → R bb = M bb := by
  unfold FS_copy at hr
  obtain ⟨M1, mM1, hr⟩ := g_leto hr
  have fM1 : ∀ bb, ¬ ((23 ≤ bb ∧ bb ≤ 24)) → M1 bb = M bb := fun bb hb => by rw [mM1]; exact (r_copy_ne (by omega))
  cases hr; exact fun bb hb => (g_set_ne (by omega)).trans (fM1 bb hb)
set_option maxRecDepth 20000 in
theorem w_FS_readLine_J33 (walks : Int32) (x3 : Int32) (M : gM) (R : gM) (hr : FS_readLine_J33 walks x3 M = some R) : ∀ bb, ¬ (bb = 1 ∨ (25 ≤ bb ∧ bb ≤ 26)) → R bb = M bb := by
  unfold FS_readLine_J33 at hr
  obtain ⟨s1, es1, hr⟩ := g_bd hr
  have fs1_2 : ∀ bb, ¬ (bb = 1 ∨ (25 ≤ bb ∧ bb ≤ 26)) → s1.2 bb = M bb := fun bb hb => (w_F_number (0 : Int32) (999 : Int32) M _ es1 bb (by omega))
  obtain ⟨s2, es2, hr⟩ := g_bd hr
  have fs2 : ∀ bb, ¬ (bb = 1 ∨ (25 ≤ bb ∧ bb ≤ 26)) → s2 bb = M bb := fun bb hb => (w_F_need (59 : Int32) (s1.2) _ es2 bb (by omega)).trans (fs1_2 bb hb)
  obtain ⟨M3, mM3, hr⟩ := g_leto hr
  have fM3 : ∀ bb, ¬ (bb = 1 ∨ (25 ≤ bb ∧ bb ≤ 26)) → M3 bb = M bb := fun bb hb => by rw [mM3]; exact (r_put_ne (by omega)).trans (fs2 bb hb)
  cases hr; exact fun bb hb => (g_set_ne (by omega)).trans (fM3 bb hb)
set_option maxRecDepth 20000 in
theorem w_FS_readLine (walks : Int32) (M : gM) (R : gM) (hr : FS_readLine walks M = some R) : ∀ bb, ¬ (bb = 1 ∨ (25 ≤ bb ∧ bb ≤ 26)) → R bb = M bb := by
  unfold FS_readLine at hr
  obtain ⟨s1, es1, hr⟩ := g_bd hr
  have fs1_2 : ∀ bb, ¬ (bb = 1 ∨ (25 ≤ bb ∧ bb ≤ 26)) → s1.2 bb = M bb := fun bb hb => (w_F_number (1 : Int32) (walks - (1 : Int32)) M _ es1 bb (by omega))
  rcases g_ifo hr with ⟨h4, hr⟩ | ⟨h4, hr⟩
  ·
    rcases g_ifo hr with ⟨h7, hr⟩ | ⟨h7, hr⟩
    ·
      exact fun bb hb => (w_FS_readLine_J33 walks s1.1 (s1.2) _ hr bb hb).trans (fs1_2 bb hb)
    ·
      obtain ⟨s8, es8, hr⟩ := g_bd hr
      have fs8 : ∀ bb, ¬ (bb = 1 ∨ (25 ≤ bb ∧ bb ≤ 26)) → s8 bb = M bb := fun bb hb => (w_F_fail (2 : Int32) ((s1.2) 1 4) (s1.2) _ es8 bb (by omega)).trans (fs1_2 bb hb)
      exact fun bb hb => (w_FS_readLine_J33 walks s1.1 s8 _ hr bb hb).trans (fs8 bb hb)
  ·
    exact fun bb hb => (w_FS_readLine_J33 walks s1.1 (s1.2) _ hr bb hb).trans (fs1_2 bb hb)
set_option maxRecDepth 20000 in
theorem w_FS_read_L6 (walks : Int32) : ∀ (k : Nat) (x3 : Int32) (M : gM) (R : gM), FS_read_L6 walks k x3 M = some R → ∀ bb, ¬ (bb = 1 ∨ (25 ≤ bb ∧ bb ≤ 26)) → R bb = M bb := by
  intro k
  induction k with
  | zero => intro x3 M R hr; exact nomatch (show (none : Option (gM)) = some R from hr)
  | succ k ih =>
    intro x3 M R hr
    unfold FS_read_L6 at hr
    rcases g_ifo hr with ⟨h1, hr⟩ | ⟨h1, hr⟩
    ·
      cases hr; exact fun bb hb => rfl
    ·
      rcases g_ifo hr with ⟨h4, hr⟩ | ⟨h4, hr⟩
      ·
        obtain ⟨s5, es5, hr⟩ := g_bd hr
        have fs5_2 : ∀ bb, ¬ (bb = 1 ∨ (25 ≤ bb ∧ bb ≤ 26)) → s5.2 bb = M bb := fun bb hb => (w_F_next M _ es5 bb (by omega))
        rcases g_ifo hr with ⟨h6, hr⟩ | ⟨h6, hr⟩
        ·
          cases hr; exact fun bb hb => fs5_2 bb hb
        ·
          obtain ⟨s7, es7, hr⟩ := g_bd hr
          have fs7 : ∀ bb, ¬ (bb = 1 ∨ (25 ≤ bb ∧ bb ≤ 26)) → s7 bb = M bb := fun bb hb => (w_FS_readLine walks (s5.2) _ es7 bb (by omega)).trans (fs5_2 bb hb)
          exact fun bb hb => (ih (x3 + (1 : Int32)) s7 _ hr bb hb).trans (fs7 bb hb)
      ·
        cases hr; exact fun bb hb => rfl
set_option maxRecDepth 20000 in
theorem w_FS_read (walks : Int32) (M : gM) (R : gM) (hr : FS_read walks M = some R) : ∀ bb, ¬ (bb = 1 ∨ (25 ≤ bb ∧ bb ≤ 26)) → R bb = M bb := by
  unfold FS_read at hr
  obtain ⟨s1, es1, hr⟩ := g_bd hr
  have fs1 : ∀ bb, ¬ (bb = 1 ∨ (25 ≤ bb ∧ bb ≤ 26)) → s1 bb = M bb := fun bb hb => (w_FS_clearR M _ es1 bb (by omega))
  exact fun bb hb => (w_FS_read_L6 walks 1000 (0 : Int32) s1 _ hr bb hb).trans (fs1 bb hb)
set_option maxRecDepth 20000 in
theorem w_FZ_clear (a : Nat) (M : gM) (R : gM) (hr : FZ_clear a M = some R) : ∀ bb, ¬ ((a ≤ bb ∧ bb ≤ a + 5)) → R bb = M bb := by
  unfold FZ_clear at hr
  obtain ⟨M1, mM1, hr⟩ := g_leto hr
  have fM1 : ∀ bb, ¬ ((a ≤ bb ∧ bb ≤ a + 5)) → M1 bb = M bb := fun bb hb => by rw [mM1]; exact (r_fill_ne (by omega))
  obtain ⟨M2, mM2, hr⟩ := g_leto hr
  have fM2 : ∀ bb, ¬ ((a ≤ bb ∧ bb ≤ a + 5)) → M2 bb = M bb := fun bb hb => by rw [mM2]; exact (r_fill_ne (by omega)).trans (fM1 bb hb)
  obtain ⟨M3, mM3, hr⟩ := g_leto hr
  have fM3 : ∀ bb, ¬ ((a ≤ bb ∧ bb ≤ a + 5)) → M3 bb = M bb := fun bb hb => by rw [mM3]; exact (r_fill_ne (by omega)).trans (fM2 bb hb)
  obtain ⟨M4, mM4, hr⟩ := g_leto hr
  have fM4 : ∀ bb, ¬ ((a ≤ bb ∧ bb ≤ a + 5)) → M4 bb = M bb := fun bb hb => by rw [mM4]; exact (r_fill_ne (by omega)).trans (fM3 bb hb)
  obtain ⟨M5, mM5, hr⟩ := g_leto hr
  have fM5 : ∀ bb, ¬ ((a ≤ bb ∧ bb ≤ a + 5)) → M5 bb = M bb := fun bb hb => by rw [mM5]; exact (r_fill_ne (by omega)).trans (fM4 bb hb)
  obtain ⟨M6, mM6, hr⟩ := g_leto hr
  have fM6 : ∀ bb, ¬ ((a ≤ bb ∧ bb ≤ a + 5)) → M6 bb = M bb := fun bb hb => by rw [mM6]; exact (g_set_ne (by omega)).trans (fM5 bb hb)
  obtain ⟨M7, mM7, hr⟩ := g_leto hr
  have fM7 : ∀ bb, ¬ ((a ≤ bb ∧ bb ≤ a + 5)) → M7 bb = M bb := fun bb hb => by rw [mM7]; exact (g_set_ne (by omega)).trans (fM6 bb hb)
  obtain ⟨M8, mM8, hr⟩ := g_leto hr
  have fM8 : ∀ bb, ¬ ((a ≤ bb ∧ bb ≤ a + 5)) → M8 bb = M bb := fun bb hb => by rw [mM8]; exact (g_set_ne (by omega)).trans (fM7 bb hb)
  obtain ⟨M9, mM9, hr⟩ := g_leto hr
  have fM9 : ∀ bb, ¬ ((a ≤ bb ∧ bb ≤ a + 5)) → M9 bb = M bb := fun bb hb => by rw [mM9]; exact (g_set_ne (by omega)).trans (fM8 bb hb)
  obtain ⟨M10, mM10, hr⟩ := g_leto hr
  have fM10 : ∀ bb, ¬ ((a ≤ bb ∧ bb ≤ a + 5)) → M10 bb = M bb := fun bb hb => by rw [mM10]; exact (g_set_ne (by omega)).trans (fM9 bb hb)
  obtain ⟨M11, mM11, hr⟩ := g_leto hr
  have fM11 : ∀ bb, ¬ ((a ≤ bb ∧ bb ≤ a + 5)) → M11 bb = M bb := fun bb hb => by rw [mM11]; exact (g_set_ne (by omega)).trans (fM10 bb hb)
  obtain ⟨M12, mM12, hr⟩ := g_leto hr
  have fM12 : ∀ bb, ¬ ((a ≤ bb ∧ bb ≤ a + 5)) → M12 bb = M bb := fun bb hb => by rw [mM12]; exact (g_set_ne (by omega)).trans (fM11 bb hb)
  cases hr; exact fun bb hb => fM12 bb hb
set_option maxRecDepth 20000 in
theorem w_FZ_copy (a : Nat) (b : Nat) (M : gM) (R : gM) (hr : FZ_copy a b M = some R) : ∀ bb, ¬ ((a ≤ bb ∧ bb ≤ a + 5)) → R bb = M bb := by
  unfold FZ_copy at hr
  obtain ⟨M1, mM1, hr⟩ := g_leto hr
  have fM1 : ∀ bb, ¬ ((a ≤ bb ∧ bb ≤ a + 5)) → M1 bb = M bb := fun bb hb => by rw [mM1]; exact (r_copy_ne (by omega))
  obtain ⟨M2, mM2, hr⟩ := g_leto hr
  have fM2 : ∀ bb, ¬ ((a ≤ bb ∧ bb ≤ a + 5)) → M2 bb = M bb := fun bb hb => by rw [mM2]; exact (r_copy_ne (by omega)).trans (fM1 bb hb)
  obtain ⟨M3, mM3, hr⟩ := g_leto hr
  have fM3 : ∀ bb, ¬ ((a ≤ bb ∧ bb ≤ a + 5)) → M3 bb = M bb := fun bb hb => by rw [mM3]; exact (r_copy_ne (by omega)).trans (fM2 bb hb)
  obtain ⟨M4, mM4, hr⟩ := g_leto hr
  have fM4 : ∀ bb, ¬ ((a ≤ bb ∧ bb ≤ a + 5)) → M4 bb = M bb := fun bb hb => by rw [mM4]; exact (r_copy_ne (by omega)).trans (fM3 bb hb)
  obtain ⟨M5, mM5, hr⟩ := g_leto hr
  have fM5 : ∀ bb, ¬ ((a ≤ bb ∧ bb ≤ a + 5)) → M5 bb = M bb := fun bb hb => by rw [mM5]; exact (r_copy_ne (by omega)).trans (fM4 bb hb)
  obtain ⟨M6, mM6, hr⟩ := g_leto hr
  have fM6 : ∀ bb, ¬ ((a ≤ bb ∧ bb ≤ a + 5)) → M6 bb = M bb := fun bb hb => by rw [mM6]; exact (g_set_ne (by omega)).trans (fM5 bb hb)
  obtain ⟨M7, mM7, hr⟩ := g_leto hr
  have fM7 : ∀ bb, ¬ ((a ≤ bb ∧ bb ≤ a + 5)) → M7 bb = M bb := fun bb hb => by rw [mM7]; exact (g_set_ne (by omega)).trans (fM6 bb hb)
  obtain ⟨M8, mM8, hr⟩ := g_leto hr
  have fM8 : ∀ bb, ¬ ((a ≤ bb ∧ bb ≤ a + 5)) → M8 bb = M bb := fun bb hb => by rw [mM8]; exact (g_set_ne (by omega)).trans (fM7 bb hb)
  obtain ⟨M9, mM9, hr⟩ := g_leto hr
  have fM9 : ∀ bb, ¬ ((a ≤ bb ∧ bb ≤ a + 5)) → M9 bb = M bb := fun bb hb => by rw [mM9]; exact (g_set_ne (by omega)).trans (fM8 bb hb)
  obtain ⟨M10, mM10, hr⟩ := g_leto hr
  have fM10 : ∀ bb, ¬ ((a ≤ bb ∧ bb ≤ a + 5)) → M10 bb = M bb := fun bb hb => by rw [mM10]; exact (g_set_ne (by omega)).trans (fM9 bb hb)
  obtain ⟨M11, mM11, hr⟩ := g_leto hr
  have fM11 : ∀ bb, ¬ ((a ≤ bb ∧ bb ≤ a + 5)) → M11 bb = M bb := fun bb hb => by rw [mM11]; exact (g_set_ne (by omega)).trans (fM10 bb hb)
  obtain ⟨M12, mM12, hr⟩ := g_leto hr
  have fM12 : ∀ bb, ¬ ((a ≤ bb ∧ bb ≤ a + 5)) → M12 bb = M bb := fun bb hb => by rw [mM12]; exact (g_set_ne (by omega)).trans (fM11 bb hb)
  cases hr; exact fun bb hb => fM12 bb hb
set_option maxRecDepth 20000 in
theorem w_FH_clear  (M : gM) (R : gM) (hr : FH_clear M = some R) : ∀ bb, ¬ ((47 ≤ bb ∧ bb ≤ 53)) → R bb = M bb := by
  unfold FH_clear at hr
  obtain ⟨s1, es1, hr⟩ := g_bd hr
  have fs1 : ∀ bb, ¬ ((47 ≤ bb ∧ bb ≤ 53)) → s1 bb = M bb := fun bb hb => (w_FZ_clear 48 M _ es1 bb (by omega))
  cases hr; exact fun bb hb => (g_set_ne (by omega)).trans (fs1 bb hb)
set_option maxRecDepth 20000 in
theorem w_FH_keep (a : Nat) (M : gM) (R : gM) (hr : FH_keep a M = some R) : ∀ bb, ¬ (bb = a ∨ (a + 8 ≤ bb ∧ bb ≤ a + 103)) → R bb = M bb := by
  unfold FH_keep at hr
  rcases g_ifo hr with ⟨h1, hr⟩ | ⟨h1, hr⟩
  ·
    cases hr; exact fun bb hb => rfl
  ·
    rcases g_ifo hr with ⟨h2, hr⟩ | ⟨h2, hr⟩
    ·
      obtain ⟨j3, ej3, ij3, lj3, hr⟩ := g_ixo hr
      obtain ⟨s4, es4, hr⟩ := g_bd hr
      have fs4 : ∀ bb, ¬ (bb = a ∨ (a + 8 ≤ bb ∧ bb ≤ a + 103)) → s4 bb = M bb := fun bb hb => (w_FZ_copy (a + 8 + 6 * j3) (a + 1) M _ es4 bb (by omega))
      obtain ⟨M5, mM5, hr⟩ := g_leto hr
      have fM5 : ∀ bb, ¬ (bb = a ∨ (a + 8 ≤ bb ∧ bb ≤ a + 103)) → M5 bb = M bb := fun bb hb => by rw [mM5]; exact (g_set_ne (by omega)).trans (fs4 bb hb)
      cases hr; exact fun bb hb => fM5 bb hb
    ·
      cases hr; exact fun bb hb => rfl
set_option maxRecDepth 20000 in
theorem w_FH_takeBack (a : Nat) (M : gM) (R : gM) (hr : FH_takeBack a M = some R) : ∀ bb, ¬ ((a ≤ bb ∧ bb ≤ a + 6)) → R bb = M bb := by
  unfold FH_takeBack at hr
  rcases g_ifo hr with ⟨h1, hr⟩ | ⟨h1, hr⟩
  ·
    cases hr; exact fun bb hb => rfl
  ·
    rcases g_ifo hr with ⟨h2, hr⟩ | ⟨h2, hr⟩
    ·
      obtain ⟨M3, mM3, hr⟩ := g_leto hr
      have fM3 : ∀ bb, ¬ ((a ≤ bb ∧ bb ≤ a + 6)) → M3 bb = M bb := fun bb hb => by rw [mM3]; exact (g_set_ne (by omega))
      obtain ⟨j4, ej4, ij4, lj4, hr⟩ := g_ixo hr
      obtain ⟨s5, es5, hr⟩ := g_bd hr
      have fs5 : ∀ bb, ¬ ((a ≤ bb ∧ bb ≤ a + 6)) → s5 bb = M bb := fun bb hb => (w_FZ_copy (a + 1) (a + 8 + 6 * j4) M3 _ es5 bb (by omega)).trans (fM3 bb hb)
      cases hr; exact fun bb hb => fs5 bb hb
    ·
      cases hr; exact fun bb hb => rfl
set_option maxRecDepth 20000 in
theorem w_FH_copy_L21 (a : Nat) (b : Nat) : ∀ (k : Nat) (x2 : Int32) (M : gM) (R : gM), FH_copy_L21 a b k x2 M = some R → ∀ bb, ¬ ((a ≤ bb ∧ bb ≤ a + 6) ∨ (a + 8 ≤ bb ∧ bb ≤ a + 103)) → R bb = M bb := by
  intro k
  induction k with
  | zero => intro x2 M R hr; exact nomatch (show (none : Option (gM)) = some R from hr)
  | succ k ih =>
    intro x2 M R hr
    unfold FH_copy_L21 at hr
    rcases g_ifo hr with ⟨h1, hr⟩ | ⟨h1, hr⟩
    ·
      cases hr; exact fun bb hb => rfl
    ·
      rcases g_ifo hr with ⟨h2, hr⟩ | ⟨h2, hr⟩
      ·
        cases hr; exact fun bb hb => rfl
      ·
        rcases g_ifo hr with ⟨h3, hr⟩ | ⟨h3, hr⟩
        ·
          cases hr; exact fun bb hb => rfl
        ·
          obtain ⟨j4, ej4, ij4, lj4, hr⟩ := g_ixo hr
          obtain ⟨j5, ej5, ij5, lj5, hr⟩ := g_ixo hr
          obtain ⟨s6, es6, hr⟩ := g_bd hr
          have fs6 : ∀ bb, ¬ ((a ≤ bb ∧ bb ≤ a + 6) ∨ (a + 8 ≤ bb ∧ bb ≤ a + 103)) → s6 bb = M bb := fun bb hb => (w_FZ_copy (a + 8 + 6 * j5) (b + 8 + 6 * j4) M _ es6 bb (by omega))
          exact fun bb hb => (ih (x2 + (1 : Int32)) s6 _ hr bb hb).trans (fs6 bb hb)
set_option maxRecDepth 20000 in
theorem w_FH_copy (a : Nat) (b : Nat) (M : gM) (R : gM) (hr : FH_copy a b M = some R) : ∀ bb, ¬ ((a ≤ bb ∧ bb ≤ a + 6) ∨ (a + 8 ≤ bb ∧ bb ≤ a + 103)) → R bb = M bb := by
  unfold FH_copy at hr
  obtain ⟨s1, es1, hr⟩ := g_bd hr
  have fs1 : ∀ bb, ¬ ((a ≤ bb ∧ bb ≤ a + 6) ∨ (a + 8 ≤ bb ∧ bb ≤ a + 103)) → s1 bb = M bb := fun bb hb => (w_FZ_copy (a + 1) (b + 1) M _ es1 bb (by omega))
  obtain ⟨M2, mM2, hr⟩ := g_leto hr
  have fM2 : ∀ bb, ¬ ((a ≤ bb ∧ bb ≤ a + 6) ∨ (a + 8 ≤ bb ∧ bb ≤ a + 103)) → M2 bb = M bb := fun bb hb => by rw [mM2]; exact (g_set_ne (by omega)).trans (fs1 bb hb)
  exact fun bb hb => (w_FH_copy_L21 a b 1000 (0 : Int32) M2 _ hr bb hb).trans (fM2 bb hb)
set_option maxRecDepth 20000 in
theorem w_FB_minutesOf (a : Nat) (w : Int32) (c : Int32) (h : Int32) (t : Int32) (M : gM) (R : Int32 × gM) (hr : FB_minutesOf a w c h t M = some R) : ∀ bb, ¬ (bb = 15 ∨ bb = 18) → R.2 bb = M bb := by
  unfold FB_minutesOf at hr
  obtain ⟨s1, es1, hr⟩ := g_bd hr
  have fs1_2 : ∀ bb, ¬ (bb = 15 ∨ bb = 18) → s1.2 bb = M bb := fun bb hb => (w_FL_outcome (g_set (g_set (g_set (g_set (g_set (g_set (g_set (g_set (g_set M 15 5 (r_at (M 4) 8 w)) 15 6 (r_at (M 6) 8 c)) 15 7 (r_at (M 7) 8 c)) 15 8 (r_at (M 8) 8 h)) 15 9 (m_min (99 : Int32) t)) 15 10 ((g_set (g_set (g_set (g_set (g_set M 15 5 (r_at (M 4) 8 w)) 15 6 (r_at (M 6) 8 c)) 15 7 (r_at (M 7) 8 c)) 15 8 (r_at (M 8) 8 h)) 15 9 (m_min (99 : Int32) t)) a 10)) 15 11 w) 15 12 h) 15 13 (r_at ((g_set (g_set (g_set (g_set (g_set (g_set (g_set (g_set M 15 5 (r_at (M 4) 8 w)) 15 6 (r_at (M 6) 8 c)) 15 7 (r_at (M 7) 8 c)) 15 8 (r_at (M 8) 8 h)) 15 9 (m_min (99 : Int32) t)) 15 10 ((g_set (g_set (g_set (g_set (g_set M 15 5 (r_at (M 4) 8 w)) 15 6 (r_at (M 6) 8 c)) 15 7 (r_at (M 7) 8 c)) 15 8 (r_at (M 8) 8 h)) 15 9 (m_min (99 : Int32) t)) a 10)) 15 11 w) 15 12 h) (a + 2)) 8 c)) _ es1 bb (by omega)).trans ((g_set_ne (by omega)).trans ((g_set_ne (by omega)).trans ((g_set_ne (by omega)).trans ((g_set_ne (by omega)).trans ((g_set_ne (by omega)).trans ((g_set_ne (by omega)).trans ((g_set_ne (by omega)).trans ((g_set_ne (by omega)).trans ((g_set_ne (by omega)))))))))))
  cases hr; exact fun bb hb => fs1_2 bb hb
set_option maxRecDepth 20000 in
theorem w_FB_longOf_L16 (a : Nat) (h : Int32) (c : Int32) : ∀ (k : Nat) (x4 : Int32) (x5 : Int32) (x6 : Int32) (M : gM) (R : Int32 × gM), FB_longOf_L16 a h c k x4 x5 x6 M = some R → ∀ bb, ¬ (bb = 15 ∨ bb = 18) → R.2 bb = M bb := by
  intro k
  induction k with
  | zero => intro x4 x5 x6 M R hr; exact nomatch (show (none : Option (Int32 × gM)) = some R from hr)
  | succ k ih =>
    intro x4 x5 x6 M R hr
    unfold FB_longOf_L16 at hr
    rcases g_ifo hr with ⟨h1, hr⟩ | ⟨h1, hr⟩
    ·
      cases hr; exact fun bb hb => rfl
    ·
      obtain ⟨s2, es2, hr⟩ := g_bd hr
      have fs2_2 : ∀ bb, ¬ (bb = 15 ∨ bb = 18) → s2.2 bb = M bb := fun bb hb => (w_FB_minutesOf a x6 c h (x4 + x6) M _ es2 bb (by omega))
      exact fun bb hb => (ih x4 (x5 + s2.1) (x6 + (1 : Int32)) (s2.2) _ hr bb hb).trans (fs2_2 bb hb)
set_option maxRecDepth 20000 in
theorem w_FB_longOf (a : Nat) (h : Int32) (c : Int32) (M : gM) (R : Int32 × gM) (hr : FB_longOf a h c M = some R) : ∀ bb, ¬ (bb = 15 ∨ bb = 18) → R.2 bb = M bb := by
  unfold FB_longOf at hr
  exact fun bb hb => (w_FB_longOf_L16 a h c 1000 (r_at (M (a + 1)) 8 c) (0 : Int32) (0 : Int32) M _ hr bb hb)
set_option maxRecDepth 20000 in
theorem w_FB_endHour_J63 (a : Nat) (c : Int32) (M : gM) (R : gM) (hr : FB_endHour_J63 a c M = some R) : ∀ bb, ¬ (bb = a ∨ (a + 2 ≤ bb ∧ bb ≤ a + 3) ∨ bb = a + 5) → R bb = M bb := by
  unfold FB_endHour_J63 at hr
  obtain ⟨M1, mM1, hr⟩ := g_leto hr
  have fM1 : ∀ bb, ¬ (bb = a ∨ (a + 2 ≤ bb ∧ bb ≤ a + 3) ∨ bb = a + 5) → M1 bb = M bb := fun bb hb => by rw [mM1]; exact (r_put_ne (by omega))
  obtain ⟨M2, mM2, hr⟩ := g_leto hr
  have fM2 : ∀ bb, ¬ (bb = a ∨ (a + 2 ≤ bb ∧ bb ≤ a + 3) ∨ bb = a + 5) → M2 bb = M bb := fun bb hb => by rw [mM2]; exact (g_set_ne (by omega)).trans (fM1 bb hb)
  obtain ⟨M3, mM3, hr⟩ := g_leto hr
  have fM3 : ∀ bb, ¬ (bb = a ∨ (a + 2 ≤ bb ∧ bb ≤ a + 3) ∨ bb = a + 5) → M3 bb = M bb := fun bb hb => by rw [mM3]; exact (g_set_ne (by omega)).trans (fM2 bb hb)
  obtain ⟨M4, mM4, hr⟩ := g_leto hr
  have fM4 : ∀ bb, ¬ (bb = a ∨ (a + 2 ≤ bb ∧ bb ≤ a + 3) ∨ bb = a + 5) → M4 bb = M bb := fun bb hb => by rw [mM4]; exact (g_set_ne (by omega)).trans (fM3 bb hb)
  rcases g_ifo hr with ⟨h5, hr⟩ | ⟨h5, hr⟩
  ·
    cases hr; exact fun bb hb => fM4 bb hb
  ·
    obtain ⟨M6, mM6, hr⟩ := g_leto hr
    have fM6 : ∀ bb, ¬ (bb = a ∨ (a + 2 ≤ bb ∧ bb ≤ a + 3) ∨ bb = a + 5) → M6 bb = M bb := fun bb hb => by rw [mM6]; exact (g_set_ne (by omega)).trans (fM4 bb hb)
    obtain ⟨M7, mM7, hr⟩ := g_leto hr
    have fM7 : ∀ bb, ¬ (bb = a ∨ (a + 2 ≤ bb ∧ bb ≤ a + 3) ∨ bb = a + 5) → M7 bb = M bb := fun bb hb => by rw [mM7]; exact (g_set_ne (by omega)).trans (fM6 bb hb)
    obtain ⟨M8, mM8, hr⟩ := g_leto hr
    have fM8 : ∀ bb, ¬ (bb = a ∨ (a + 2 ≤ bb ∧ bb ≤ a + 3) ∨ bb = a + 5) → M8 bb = M bb := fun bb hb => by rw [mM8]; exact (g_set_ne (by omega)).trans (fM7 bb hb)
    cases hr; exact fun bb hb => fM8 bb hb
set_option maxRecDepth 20000 in
theorem w_FB_endHour (a : Nat) (c : Int32) (M : gM) (R : gM) (hr : FB_endHour a c M = some R) : ∀ bb, ¬ (bb = a ∨ (a + 2 ≤ bb ∧ bb ≤ a + 3) ∨ bb = a + 5) → R bb = M bb := by
  unfold FB_endHour at hr
  obtain ⟨M1, mM1, hr⟩ := g_leto hr
  have fM1 : ∀ bb, ¬ (bb = a ∨ (a + 2 ≤ bb ∧ bb ≤ a + 3) ∨ bb = a + 5) → M1 bb = M bb := fun bb hb => by rw [mM1]; exact (r_put_ne (by omega))
  rcases g_ifo hr with ⟨h2, hr⟩ | ⟨h2, hr⟩
  ·
    exact fun bb hb => (w_FB_endHour_J63 a c M1 _ hr bb hb).trans (fM1 bb hb)
  ·
    obtain ⟨M3, mM3, hr⟩ := g_leto hr
    have fM3 : ∀ bb, ¬ (bb = a ∨ (a + 2 ≤ bb ∧ bb ≤ a + 3) ∨ bb = a + 5) → M3 bb = M bb := fun bb hb => by rw [mM3]; exact (g_set_ne (by omega)).trans (fM1 bb hb)
    obtain ⟨M4, mM4, hr⟩ := g_leto hr
    have fM4 : ∀ bb, ¬ (bb = a ∨ (a + 2 ≤ bb ∧ bb ≤ a + 3) ∨ bb = a + 5) → M4 bb = M bb := fun bb hb => by rw [mM4]; exact (r_put_ne (by omega)).trans (fM3 bb hb)
    exact fun bb hb => (w_FB_endHour_J63 a c M4 _ hr bb hb).trans (fM4 bb hb)
set_option maxRecDepth 20000 in
theorem w_FB_bowl (a : Nat) (fall : Int32) (M : gM) (R : Int32 × gM) (hr : FB_bowl a fall M = some R) : ∀ bb, ¬ (bb = 15 ∨ bb = 18 ∨ (a ≤ bb ∧ bb ≤ a + 3) ∨ bb = a + 5) → R.2 bb = M bb := by
  unfold FB_bowl at hr
  obtain ⟨s1, es1, hr⟩ := g_bd hr
  have fs1_2 : ∀ bb, ¬ (bb = 15 ∨ bb = 18 ∨ (a ≤ bb ∧ bb ≤ a + 3) ∨ bb = a + 5) → s1.2 bb = M bb := fun bb hb => (w_FB_minutesOf a (M a 6) (r_at (M (a + 4)) 8 (M a 5)) (M a 5) (r_at (M (a + 1)) 8 (r_at (M (a + 4)) 8 (M a 5))) M _ es1 bb (by omega))
  obtain ⟨M2, mM2, hr⟩ := g_leto hr
  have fM2 : ∀ bb, ¬ (bb = 15 ∨ bb = 18 ∨ (a ≤ bb ∧ bb ≤ a + 3) ∨ bb = a + 5) → M2 bb = M bb := fun bb hb => by rw [mM2]; exact (r_put_ne (by omega)).trans (fs1_2 bb hb)
  obtain ⟨M3, mM3, hr⟩ := g_leto hr
  have fM3 : ∀ bb, ¬ (bb = 15 ∨ bb = 18 ∨ (a ≤ bb ∧ bb ≤ a + 3) ∨ bb = a + 5) → M3 bb = M bb := fun bb hb => by rw [mM3]; exact (g_set_ne (by omega)).trans (fM2 bb hb)
  obtain ⟨M4, mM4, hr⟩ := g_leto hr
  have fM4 : ∀ bb, ¬ (bb = 15 ∨ bb = 18 ∨ (a ≤ bb ∧ bb ≤ a + 3) ∨ bb = a + 5) → M4 bb = M bb := fun bb hb => by rw [mM4]; exact (g_set_ne (by omega)).trans (fM3 bb hb)
  obtain ⟨M5, mM5, hr⟩ := g_leto hr
  have fM5 : ∀ bb, ¬ (bb = 15 ∨ bb = 18 ∨ (a ≤ bb ∧ bb ≤ a + 3) ∨ bb = a + 5) → M5 bb = M bb := fun bb hb => by rw [mM5]; exact (g_set_ne (by omega)).trans (fM4 bb hb)
  rcases g_ifo hr with ⟨h6, hr⟩ | ⟨h6, hr⟩
  ·
    cases hr; exact fun bb hb => fM5 bb hb
  ·
    obtain ⟨s7, es7, hr⟩ := g_bd hr
    have fs7 : ∀ bb, ¬ (bb = 15 ∨ bb = 18 ∨ (a ≤ bb ∧ bb ≤ a + 3) ∨ bb = a + 5) → s7 bb = M bb := fun bb hb => (w_FB_endHour a (r_at (M (a + 4)) 8 (M a 5)) M5 _ es7 bb (by omega)).trans (fM5 bb hb)
    cases hr; exact fun bb hb => fs7 bb hb
set_option maxRecDepth 20000 in
theorem w_FT_write (kind : Int32) (u : Int32) (v : Int32) (M : gM) (R : gM) (hr : FT_write kind u v M = some R) : ∀ bb, ¬ ((28 ≤ bb ∧ bb ≤ 31)) → R bb = M bb := by
  unfold FT_write at hr
  obtain ⟨M1, mM1, hr⟩ := g_leto hr
  have fM1 : ∀ bb, ¬ ((28 ≤ bb ∧ bb ≤ 31)) → M1 bb = M bb := fun bb hb => by rw [mM1]; exact (r_put_ne (by omega))
  obtain ⟨M2, mM2, hr⟩ := g_leto hr
  have fM2 : ∀ bb, ¬ ((28 ≤ bb ∧ bb ≤ 31)) → M2 bb = M bb := fun bb hb => by rw [mM2]; exact (r_put_ne (by omega)).trans (fM1 bb hb)
  obtain ⟨M3, mM3, hr⟩ := g_leto hr
  have fM3 : ∀ bb, ¬ ((28 ≤ bb ∧ bb ≤ 31)) → M3 bb = M bb := fun bb hb => by rw [mM3]; exact (r_put_ne (by omega)).trans (fM2 bb hb)
  cases hr; exact fun bb hb => (g_set_ne (by omega)).trans (fM3 bb hb)
set_option maxRecDepth 20000 in
theorem w_FT_readAll_L14 (op : Int32) (rreadOne : Int32 → gM → Option (gM)) (grreadOne : ∀ (v2 : Int32) (M : gM) (R : gM), rreadOne v2 M = some R → ∀ bb, ¬ (bb = 1 ∨ (28 ≤ bb ∧ bb ≤ 31)) → R bb = M bb) : ∀ (k : Nat) (x3 : Int32) (x4 : Int32) (M : gM) (R : gM), FT_readAll_L14 op rreadOne k x3 x4 M = some R → ∀ bb, ¬ (bb = 1 ∨ (28 ≤ bb ∧ bb ≤ 31)) → R bb = M bb := by
  intro k
  induction k with
  | zero => intro x3 x4 M R hr; exact nomatch (show (none : Option (gM)) = some R from hr)
  | succ k ih =>
    intro x3 x4 M R hr
    unfold FT_readAll_L14 at hr
    rcases g_ifo hr with ⟨h1, hr⟩ | ⟨h1, hr⟩
    ·
      cases hr; exact fun bb hb => rfl
    ·
      rcases g_ifo hr with ⟨h4, hr⟩ | ⟨h4, hr⟩
      ·
        obtain ⟨s5, es5, hr⟩ := g_bd hr
        have fs5_2 : ∀ bb, ¬ (bb = 1 ∨ (28 ≤ bb ∧ bb ≤ 31)) → s5.2 bb = M bb := fun bb hb => (w_F_next M _ es5 bb (by omega))
        rcases g_ifo hr with ⟨h6, hr⟩ | ⟨h6, hr⟩
        ·
          cases hr; exact fun bb hb => fs5_2 bb hb
        ·
          obtain ⟨s7, es7, hr⟩ := g_bd hr
          have fs7 : ∀ bb, ¬ (bb = 1 ∨ (28 ≤ bb ∧ bb ≤ 31)) → s7 bb = M bb := fun bb hb => (grreadOne op (s5.2) _ es7 bb hb).trans (fs5_2 bb hb)
          obtain ⟨s8, es8, hr⟩ := g_bd hr
          have fs8 : ∀ bb, ¬ (bb = 1 ∨ (28 ≤ bb ∧ bb ≤ 31)) → s8 bb = M bb := fun bb hb => (w_F_need (59 : Int32) s7 _ es8 bb (by omega)).trans (fs7 bb hb)
          exact fun bb hb => (ih x3 (x4 + (1 : Int32)) s8 _ hr bb hb).trans (fs8 bb hb)
      ·
        cases hr; exact fun bb hb => rfl
set_option maxRecDepth 20000 in
theorem w_FT_readAll_B (rreadOne : Int32 → gM → Option (gM)) (grreadOne : ∀ (v2 : Int32) (M : gM) (R : gM), rreadOne v2 M = some R → ∀ bb, ¬ (bb = 1 ∨ (28 ≤ bb ∧ bb ≤ 31)) → R bb = M bb) (op : Int32) (M : gM) (R : gM) (hr : FT_readAll_B rreadOne op M = some R) : ∀ bb, ¬ (bb = 1 ∨ (28 ≤ bb ∧ bb ≤ 31)) → R bb = M bb := by
  unfold FT_readAll_B at hr
  rcases g_ifo hr with ⟨h1, hr⟩ | ⟨h1, hr⟩
  ·
    exact fun bb hb => (w_FT_readAll_L14 op rreadOne grreadOne 1000 (-1 : Int32) (0 : Int32) M _ hr bb hb)
  ·
    exact fun bb hb => (w_FT_readAll_L14 op rreadOne grreadOne 1000 (93 : Int32) (0 : Int32) M _ hr bb hb)
set_option maxRecDepth 20000 in
theorem w_FT_readOne_B (rreadAgain : Int32 → gM → Option (gM)) (grreadAgain : ∀ (v2 : Int32) (M : gM) (R : gM), rreadAgain v2 M = some R → ∀ bb, ¬ (bb = 1 ∨ (28 ≤ bb ∧ bb ≤ 31)) → R bb = M bb) (op : Int32) (M : gM) (R : gM) (hr : FT_readOne_B rreadAgain op M = some R) : ∀ bb, ¬ (bb = 1 ∨ (28 ≤ bb ∧ bb ≤ 31)) → R bb = M bb := by
  unfold FT_readOne_B at hr
  obtain ⟨s1, es1, hr⟩ := g_bd hr
  have fs1 : ∀ bb, ¬ (bb = 1 ∨ (28 ≤ bb ∧ bb ≤ 31)) → s1 bb = M bb := fun bb hb => (w_F_word M _ es1 bb (by omega))
  obtain ⟨s2, es2, hr⟩ := g_bd hr
  rcases g_ifo hr with ⟨h4, hr⟩ | ⟨h4, hr⟩
  ·
    obtain ⟨s5, es5, hr⟩ := g_bd hr
    rcases g_ifo hr with ⟨h7, hr⟩ | ⟨h7, hr⟩
    ·
      obtain ⟨s8, es8, hr⟩ := g_bd hr
      rcases g_ifo hr with ⟨h10, hr⟩ | ⟨h10, hr⟩
      ·
        obtain ⟨s11, es11, hr⟩ := g_bd hr
        rcases g_ifo hr with ⟨h13, hr⟩ | ⟨h13, hr⟩
        ·
          obtain ⟨s14, es14, hr⟩ := g_bd hr
          rcases g_ifo hr with ⟨h16, hr⟩ | ⟨h16, hr⟩
          ·
            obtain ⟨s17, es17, hr⟩ := g_bd hr
            rcases g_ifo hr with ⟨h19, hr⟩ | ⟨h19, hr⟩
            ·
              obtain ⟨s20, es20, hr⟩ := g_bd hr
              have fs20 : ∀ bb, ¬ (bb = 1 ∨ (28 ≤ bb ∧ bb ≤ 31)) → s20 bb = M bb := fun bb hb => (w_F_fail (1 : Int32) (s1 1 4) s1 _ es20 bb (by omega)).trans (fs1 bb hb)
              cases hr; exact fun bb hb => fs20 bb hb
            ·
              obtain ⟨s21, es21, hr⟩ := g_bd hr
              have fs21 : ∀ bb, ¬ (bb = 1 ∨ (28 ≤ bb ∧ bb ≤ 31)) → s21 bb = M bb := fun bb hb => (grreadAgain op s1 _ es21 bb hb).trans (fs1 bb hb)
              cases hr; exact fun bb hb => fs21 bb hb
          ·
            obtain ⟨s22, es22, hr⟩ := g_bd hr
            have fs22_2 : ∀ bb, ¬ (bb = 1 ∨ (28 ≤ bb ∧ bb ≤ 31)) → s22.2 bb = M bb := fun bb hb => (w_F_number (0 : Int32) ((s1 3 6) - (1 : Int32)) s1 _ es22 bb (by omega)).trans (fs1 bb hb)
            obtain ⟨s23, es23, hr⟩ := g_bd hr
            have fs23_2 : ∀ bb, ¬ (bb = 1 ∨ (28 ≤ bb ∧ bb ≤ 31)) → s23.2 bb = M bb := fun bb hb => (w_F_number (1 : Int32) (9 : Int32) (s22.2) _ es23 bb (by omega)).trans (fs22_2 bb hb)
            obtain ⟨s24, es24, hr⟩ := g_bd hr
            have fs24 : ∀ bb, ¬ (bb = 1 ∨ (28 ≤ bb ∧ bb ≤ 31)) → s24 bb = M bb := fun bb hb => (w_FT_write (4 : Int32) s22.1 s23.1 (s23.2) _ es24 bb (by omega)).trans (fs23_2 bb hb)
            cases hr; exact fun bb hb => fs24 bb hb
        ·
          obtain ⟨s25, es25, hr⟩ := g_bd hr
          have fs25_2 : ∀ bb, ¬ (bb = 1 ∨ (28 ≤ bb ∧ bb ≤ 31)) → s25.2 bb = M bb := fun bb hb => (w_F_number (0 : Int32) ((s1 3 6) - (1 : Int32)) s1 _ es25 bb (by omega)).trans (fs1 bb hb)
          obtain ⟨s26, es26, hr⟩ := g_bd hr
          have fs26 : ∀ bb, ¬ (bb = 1 ∨ (28 ≤ bb ∧ bb ≤ 31)) → s26 bb = M bb := fun bb hb => (w_FT_write (3 : Int32) s25.1 (0 : Int32) (s25.2) _ es26 bb (by omega)).trans (fs25_2 bb hb)
          cases hr; exact fun bb hb => fs26 bb hb
      ·
        obtain ⟨s27, es27, hr⟩ := g_bd hr
        have fs27 : ∀ bb, ¬ (bb = 1 ∨ (28 ≤ bb ∧ bb ≤ 31)) → s27 bb = M bb := fun bb hb => (w_FT_write (2 : Int32) (0 : Int32) (0 : Int32) s1 _ es27 bb (by omega)).trans (fs1 bb hb)
        cases hr; exact fun bb hb => fs27 bb hb
    ·
      obtain ⟨s28, es28, hr⟩ := g_bd hr
      have fs28 : ∀ bb, ¬ (bb = 1 ∨ (28 ≤ bb ∧ bb ≤ 31)) → s28 bb = M bb := fun bb hb => (w_FT_write (1 : Int32) (0 : Int32) (0 : Int32) s1 _ es28 bb (by omega)).trans (fs1 bb hb)
      cases hr; exact fun bb hb => fs28 bb hb
  ·
    obtain ⟨s29, es29, hr⟩ := g_bd hr
    have fs29_2 : ∀ bb, ¬ (bb = 1 ∨ (28 ≤ bb ∧ bb ≤ 31)) → s29.2 bb = M bb := fun bb hb => (w_F_number (0 : Int32) ((s1 3 7) - (1 : Int32)) s1 _ es29 bb (by omega)).trans (fs1 bb hb)
    obtain ⟨s30, es30, hr⟩ := g_bd hr
    have fs30_2 : ∀ bb, ¬ (bb = 1 ∨ (28 ≤ bb ∧ bb ≤ 31)) → s30.2 bb = M bb := fun bb hb => (w_F_number (0 : Int32) (((s29.2) 3 6) - (1 : Int32)) (s29.2) _ es30 bb (by omega)).trans (fs29_2 bb hb)
    obtain ⟨s31, es31, hr⟩ := g_bd hr
    have fs31 : ∀ bb, ¬ (bb = 1 ∨ (28 ≤ bb ∧ bb ≤ 31)) → s31 bb = M bb := fun bb hb => (w_FT_write (0 : Int32) s29.1 s30.1 (s30.2) _ es31 bb (by omega)).trans (fs30_2 bb hb)
    cases hr; exact fun bb hb => fs31 bb hb
set_option maxRecDepth 20000 in
theorem w_FT_readAgain_B (rreadAll : Int32 → gM → Option (gM)) (grreadAll : ∀ (v2 : Int32) (M : gM) (R : gM), rreadAll v2 M = some R → ∀ bb, ¬ (bb = 1 ∨ (28 ≤ bb ∧ bb ≤ 31)) → R bb = M bb) (op : Int32) (M : gM) (R : gM) (hr : FT_readAgain_B rreadAll op M = some R) : ∀ bb, ¬ (bb = 1 ∨ (28 ≤ bb ∧ bb ≤ 31)) → R bb = M bb := by
  unfold FT_readAgain_B at hr
  rcases g_ifo hr with ⟨h1, hr⟩ | ⟨h1, hr⟩
  ·
    obtain ⟨s2, es2, hr⟩ := g_bd hr
    have fs2_2 : ∀ bb, ¬ (bb = 1 ∨ (28 ≤ bb ∧ bb ≤ 31)) → s2.2 bb = M bb := fun bb hb => (w_F_number (0 : Int32) (60 : Int32) M _ es2 bb (by omega))
    obtain ⟨s3, es3, hr⟩ := g_bd hr
    have fs3 : ∀ bb, ¬ (bb = 1 ∨ (28 ≤ bb ∧ bb ≤ 31)) → s3 bb = M bb := fun bb hb => (w_FT_write (5 : Int32) s2.1 (0 : Int32) (s2.2) _ es3 bb (by omega)).trans (fs2_2 bb hb)
    obtain ⟨s4, es4, hr⟩ := g_bd hr
    have fs4 : ∀ bb, ¬ (bb = 1 ∨ (28 ≤ bb ∧ bb ≤ 31)) → s4 bb = M bb := fun bb hb => (w_F_need (91 : Int32) s3 _ es4 bb (by omega)).trans (fs3 bb hb)
    obtain ⟨s5, es5, hr⟩ := g_bd hr
    have fs5 : ∀ bb, ¬ (bb = 1 ∨ (28 ≤ bb ∧ bb ≤ 31)) → s5 bb = M bb := fun bb hb => (grreadAll (op + (1 : Int32)) s4 _ es5 bb hb).trans (fs4 bb hb)
    obtain ⟨s6, es6, hr⟩ := g_bd hr
    have fs6 : ∀ bb, ¬ (bb = 1 ∨ (28 ≤ bb ∧ bb ≤ 31)) → s6 bb = M bb := fun bb hb => (w_F_need (93 : Int32) s5 _ es6 bb (by omega)).trans (fs5 bb hb)
    obtain ⟨M7, mM7, hr⟩ := g_leto hr
    have fM7 : ∀ bb, ¬ (bb = 1 ∨ (28 ≤ bb ∧ bb ≤ 31)) → M7 bb = M bb := fun bb hb => by rw [mM7]; exact (r_put_ne (by omega)).trans (fs6 bb hb)
    cases hr; exact fun bb hb => fM7 bb hb
  ·
    obtain ⟨s8, es8, hr⟩ := g_bd hr
    have fs8 : ∀ bb, ¬ (bb = 1 ∨ (28 ≤ bb ∧ bb ≤ 31)) → s8 bb = M bb := fun bb hb => (w_F_fail (3 : Int32) (M 1 4) M _ es8 bb (by omega))
    cases hr; exact fun bb hb => fs8 bb hb
theorem w_FT_reads : ∀ f : Nat, (∀ (op : Int32) (M : gM) (R : gM), FT_readAll f op M = some R → ∀ bb, ¬ (bb = 1 ∨ (28 ≤ bb ∧ bb ≤ 31)) → R bb = M bb) ∧ (∀ (op : Int32) (M : gM) (R : gM), FT_readOne f op M = some R → ∀ bb, ¬ (bb = 1 ∨ (28 ≤ bb ∧ bb ≤ 31)) → R bb = M bb) ∧ (∀ (op : Int32) (M : gM) (R : gM), FT_readAgain f op M = some R → ∀ bb, ¬ (bb = 1 ∨ (28 ≤ bb ∧ bb ≤ 31)) → R bb = M bb) := by
  intro f
  induction f with
  | zero => exact ⟨fun _ M R hr => (nomatch (show (none : Option (gM)) = some R from hr)), fun _ M R hr => (nomatch (show (none : Option (gM)) = some R from hr)), fun _ M R hr => (nomatch (show (none : Option (gM)) = some R from hr))⟩
  | succ f ih => exact ⟨fun op M R hr => w_FT_readAll_B (FT_readOne f) (fun v2 M R hr => ih.2.1 v2 M R hr) op M R hr, fun op M R hr => w_FT_readOne_B (FT_readAgain f) (fun v2 M R hr => ih.2.2 v2 M R hr) op M R hr, fun op M R hr => w_FT_readAgain_B (FT_readAll f) (fun v2 M R hr => ih.1 v2 M R hr) op M R hr⟩
theorem w_FT_readAll (f : Nat) (op : Int32) (M : gM) (R : gM) (hr : FT_readAll f op M = some R) : ∀ bb, ¬ (bb = 1 ∨ (28 ≤ bb ∧ bb ≤ 31)) → R bb = M bb := (w_FT_reads f).1 op M R hr
theorem w_FT_readOne (f : Nat) (op : Int32) (M : gM) (R : gM) (hr : FT_readOne f op M = some R) : ∀ bb, ¬ (bb = 1 ∨ (28 ≤ bb ∧ bb ≤ 31)) → R bb = M bb := (w_FT_reads f).2.1 op M R hr
theorem w_FT_readAgain (f : Nat) (op : Int32) (M : gM) (R : gM) (hr : FT_readAgain f op M = some R) : ∀ bb, ¬ (bb = 1 ∨ (28 ≤ bb ∧ bb ≤ 31)) → R bb = M bb := (w_FT_reads f).2.2 op M R hr
set_option maxRecDepth 20000 in
theorem w_FT_read  (M : gM) (R : gM) (hr : FT_read M = some R) : ∀ bb, ¬ (bb = 1 ∨ (28 ≤ bb ∧ bb ≤ 31)) → R bb = M bb := by
  unfold FT_read at hr
  obtain ⟨s1, es1, hr⟩ := g_bd hr
  have fs1 : ∀ bb, ¬ (bb = 1 ∨ (28 ≤ bb ∧ bb ≤ 31)) → s1 bb = M bb := fun bb hb => (w_FT_readAll 30 (0 : Int32) (g_set M 28 5 (0 : Int32)) _ es1 bb (by omega)).trans ((g_set_ne (by omega)))
  cases hr; exact fun bb hb => fs1 bb hb
set_option maxRecDepth 20000 in
theorem w_FT_start  (M : gM) (R : gM) (hr : FT_start M = some R) : ∀ bb, ¬ (bb = 28) → R bb = M bb := by
  unfold FT_start at hr
  cases hr; exact fun bb hb => (g_set_ne (by omega)).trans ((g_set_ne (by omega)).trans ((g_set_ne (by omega))))
set_option maxRecDepth 20000 in
theorem w_FT_performOne (step : Int32) (M : gM) (R : gM) (hr : FT_performOne step M = some R) : ∀ bb, ¬ (bb = 15 ∨ bb = 18 ∨ bb = 28 ∨ (48 ≤ bb ∧ bb ≤ 53)) → R bb = M bb := by
  unfold FT_performOne at hr
  rcases g_ifo hr with ⟨h3, hr⟩ | ⟨h3, hr⟩
  ·
    rcases g_ifo hr with ⟨h4, hr⟩ | ⟨h4, hr⟩
    ·
      obtain ⟨M5, mM5, hr⟩ := g_leto hr
      have fM5 : ∀ bb, ¬ (bb = 15 ∨ bb = 18 ∨ bb = 28 ∨ (48 ≤ bb ∧ bb ≤ 53)) → M5 bb = M bb := fun bb hb => by rw [mM5]; exact (r_put_ne (by omega)).trans ((g_set_ne (by omega)))
      cases hr; exact fun bb hb => fM5 bb hb
    rcases g_ifo hr with ⟨h6, hr⟩ | ⟨h6, hr⟩
    ·
      obtain ⟨s7, es7, hr⟩ := g_bd hr
      have fs7_2 : ∀ bb, ¬ (bb = 15 ∨ bb = 18 ∨ bb = 28 ∨ (48 ≤ bb ∧ bb ≤ 53)) → s7.2 bb = M bb := fun bb hb => (w_FB_bowl 48 (0 : Int32) (g_set M 28 7 ((M 28 7) + (1 : Int32))) _ es7 bb (by omega)).trans ((g_set_ne (by omega)))
      cases hr; exact fun bb hb => fs7_2 bb hb
    rcases g_ifo hr with ⟨h8, hr⟩ | ⟨h8, hr⟩
    ·
      cases hr; exact fun bb hb => (g_set_ne (by omega)).trans ((g_set_ne (by omega)))
    rcases g_ifo hr with ⟨h9, hr⟩ | ⟨h9, hr⟩
    ·
      obtain ⟨M10, mM10, hr⟩ := g_leto hr
      have fM10 : ∀ bb, ¬ (bb = 15 ∨ bb = 18 ∨ bb = 28 ∨ (48 ≤ bb ∧ bb ≤ 53)) → M10 bb = M bb := fun bb hb => by rw [mM10]; exact (r_put_ne (by omega)).trans ((g_set_ne (by omega)))
      cases hr; exact fun bb hb => fM10 bb hb
    obtain ⟨M11, mM11, hr⟩ := g_leto hr
    have fM11 : ∀ bb, ¬ (bb = 15 ∨ bb = 18 ∨ bb = 28 ∨ (48 ≤ bb ∧ bb ≤ 53)) → M11 bb = M bb := fun bb hb => by rw [mM11]; exact (r_put_ne (by omega)).trans ((g_set_ne (by omega)))
    cases hr; exact fun bb hb => fM11 bb hb
  ·
    cases hr; exact fun bb hb => (g_set_ne (by omega))
set_option maxRecDepth 20000 in
theorem w_FT_perform_L83 (p : Int32) (q : Int32) (op : Int32) (rperform : Int32 → Int32 → Int32 → gM → Option (gM)) (grperform : ∀ (v2 : Int32) (v3 : Int32) (v4 : Int32) (M : gM) (R : gM), rperform v2 v3 v4 M = some R → ∀ bb, ¬ (bb = 15 ∨ bb = 18 ∨ bb = 28 ∨ (48 ≤ bb ∧ bb ≤ 53)) → R bb = M bb) (c14 : Int32 → Int32 → gM → Option (gM)) (gc14 : ∀ (x5 : Int32) (x6 : Int32) (M : gM) (R : gM), c14 x5 x6 M = some R → ∀ bb, ¬ (bb = 15 ∨ bb = 18 ∨ bb = 28 ∨ (48 ≤ bb ∧ bb ≤ 53)) → R bb = M bb) : ∀ (k : Nat) (x5 : Int32) (x6 : Int32) (x7 : Int32) (x8 : Int32) (M : gM) (R : gM), FT_perform_L83 p q op rperform c14 k x5 x6 x7 x8 M = some R → ∀ bb, ¬ (bb = 15 ∨ bb = 18 ∨ bb = 28 ∨ (48 ≤ bb ∧ bb ≤ 53)) → R bb = M bb := by
  intro k
  induction k with
  | zero => intro x5 x6 x7 x8 M R hr; exact nomatch (show (none : Option (gM)) = some R from hr)
  | succ k ih =>
    intro x5 x6 x7 x8 M R hr
    unfold FT_perform_L83 at hr
    rcases g_ifo hr with ⟨h1, hr⟩ | ⟨h1, hr⟩
    ·
      exact fun bb hb => (gc14 x7 (x6 + (1 : Int32)) M _ hr bb hb)
    ·
      obtain ⟨s2, es2, hr⟩ := g_bd hr
      have fs2 : ∀ bb, ¬ (bb = 15 ∨ bb = 18 ∨ bb = 28 ∨ (48 ≤ bb ∧ bb ≤ 53)) → s2 bb = M bb := fun bb hb => (grperform (x5 + (1 : Int32)) x7 (op + (1 : Int32)) M _ es2 bb hb)
      exact fun bb hb => (ih x5 x6 x7 (x8 + (-1 : Int32)) s2 _ hr bb hb).trans (fs2 bb hb)
set_option maxRecDepth 20000 in
theorem w_FT_perform_L14 (p : Int32) (q : Int32) (op : Int32) (rperform : Int32 → Int32 → Int32 → gM → Option (gM)) (grperform : ∀ (v2 : Int32) (v3 : Int32) (v4 : Int32) (M : gM) (R : gM), rperform v2 v3 v4 M = some R → ∀ bb, ¬ (bb = 15 ∨ bb = 18 ∨ bb = 28 ∨ (48 ≤ bb ∧ bb ≤ 53)) → R bb = M bb) : ∀ (k : Nat) (x5 : Int32) (x6 : Int32) (M : gM) (R : gM), FT_perform_L14 p q op rperform k x5 x6 M = some R → ∀ bb, ¬ (bb = 15 ∨ bb = 18 ∨ bb = 28 ∨ (48 ≤ bb ∧ bb ≤ 53)) → R bb = M bb := by
  intro k
  induction k with
  | zero => intro x5 x6 M R hr; exact nomatch (show (none : Option (gM)) = some R from hr)
  | succ k ih =>
    intro x5 x6 M R hr
    unfold FT_perform_L14 at hr
    rcases g_ifo hr with ⟨h1, hr⟩ | ⟨h1, hr⟩
    ·
      cases hr; exact fun bb hb => rfl
    ·
      rcases g_ifo hr with ⟨h2, hr⟩ | ⟨h2, hr⟩
      ·
        cases hr; exact fun bb hb => rfl
      ·
        rcases g_ifo hr with ⟨h3, hr⟩ | ⟨h3, hr⟩
        ·
          cases hr; exact fun bb hb => rfl
        ·
          rcases g_ifo hr with ⟨h4, hr⟩ | ⟨h4, hr⟩
          ·
            exact fun bb hb => (w_FT_perform_L83 p q op rperform grperform (FT_perform_L14 p q op rperform k) ih 1000 x5 x6 (r_at (M 31) 150 x5) (r_at (M 30) 150 x5) (g_set M 28 6 ((M 28 6) + (1 : Int32))) _ hr bb hb).trans ((g_set_ne (by omega)))
          ·
            obtain ⟨s5, es5, hr⟩ := g_bd hr
            have fs5 : ∀ bb, ¬ (bb = 15 ∨ bb = 18 ∨ bb = 28 ∨ (48 ≤ bb ∧ bb ≤ 53)) → s5 bb = M bb := fun bb hb => (w_FT_performOne x5 (g_set M 28 6 ((M 28 6) + (1 : Int32))) _ es5 bb (by omega)).trans ((g_set_ne (by omega)))
            exact fun bb hb => (ih (x5 + (1 : Int32)) (x6 + (1 : Int32)) s5 _ hr bb hb).trans (fs5 bb hb)
set_option maxRecDepth 20000 in
theorem w_FT_perform_B (rperform : Int32 → Int32 → Int32 → gM → Option (gM)) (grperform : ∀ (v2 : Int32) (v3 : Int32) (v4 : Int32) (M : gM) (R : gM), rperform v2 v3 v4 M = some R → ∀ bb, ¬ (bb = 15 ∨ bb = 18 ∨ bb = 28 ∨ (48 ≤ bb ∧ bb ≤ 53)) → R bb = M bb) (p : Int32) (q : Int32) (op : Int32) (M : gM) (R : gM) (hr : FT_perform_B rperform p q op M = some R) : ∀ bb, ¬ (bb = 15 ∨ bb = 18 ∨ bb = 28 ∨ (48 ≤ bb ∧ bb ≤ 53)) → R bb = M bb := by
  unfold FT_perform_B at hr
  rcases g_ifo hr with ⟨h1, hr⟩ | ⟨h1, hr⟩
  ·
    exact fun bb hb => (w_FT_perform_L14 p q op rperform grperform 1000 p (0 : Int32) M _ hr bb hb)
  ·
    cases hr; exact fun bb hb => rfl
theorem w_FT_performs : ∀ f : Nat, (∀ (p : Int32) (q : Int32) (op : Int32) (M : gM) (R : gM), FT_perform f p q op M = some R → ∀ bb, ¬ (bb = 15 ∨ bb = 18 ∨ bb = 28 ∨ (48 ≤ bb ∧ bb ≤ 53)) → R bb = M bb) := by
  intro f
  induction f with
  | zero => exact fun _ _ _ M R hr => (nomatch (show (none : Option (gM)) = some R from hr))
  | succ f ih => exact fun p q op M R hr => w_FT_perform_B (FT_perform f) (fun v2 v3 v4 M R hr => ih v2 v3 v4 M R hr) p q op M R hr
theorem w_FT_perform (f : Nat) (p : Int32) (q : Int32) (op : Int32) (M : gM) (R : gM) (hr : FT_perform f p q op M = some R) : ∀ bb, ¬ (bb = 15 ∨ bb = 18 ∨ bb = 28 ∨ (48 ≤ bb ∧ bb ≤ 53)) → R bb = M bb := (w_FT_performs f) p q op M R hr
set_option maxRecDepth 20000 in
theorem w_FG_start  (M : gM) (R : gM) (hr : FG_start M = some R) : ∀ bb, ¬ ((32 ≤ bb ∧ bb ≤ 38)) → R bb = M bb := by
  unfold FG_start at hr
  obtain ⟨s1, es1, hr⟩ := g_bd hr
  have fs1 : ∀ bb, ¬ ((32 ≤ bb ∧ bb ≤ 38)) → s1 bb = M bb := fun bb hb => (w_FZ_copy 33 48 M _ es1 bb (by omega))
  cases hr; exact fun bb hb => (g_set_ne (by omega)).trans ((g_set_ne (by omega)).trans ((g_set_ne (by omega)).trans ((g_set_ne (by omega)).trans (fs1 bb hb))))
set_option maxRecDepth 20000 in
theorem w_FG_goOn (fall : Int32) (M : gM) (R : Int32 × gM) (hr : FG_goOn fall M = some R) : ∀ bb, ¬ (bb = 15 ∨ bb = 18 ∨ (32 ≤ bb ∧ bb ≤ 36) ∨ bb = 38) → R.2 bb = M bb := by
  unfold FG_goOn at hr
  rcases g_ifo hr with ⟨h3, hr⟩ | ⟨h3, hr⟩
  ·
    cases hr; exact fun bb hb => rfl
  ·
    obtain ⟨s4, es4, hr⟩ := g_bd hr
    have fs4_2 : ∀ bb, ¬ (bb = 15 ∨ bb = 18 ∨ (32 ≤ bb ∧ bb ≤ 36) ∨ bb = 38) → s4.2 bb = M bb := fun bb hb => (w_FB_bowl 33 fall M _ es4 bb (by omega))
    cases hr; exact fun bb hb => (g_set_ne (by omega)).trans ((g_set_ne (by omega)).trans (fs4_2 bb hb))
set_option maxRecDepth 20000 in
theorem w_FG_draw  (M : gM) (R : Int32 × gM) (hr : FG_draw M = some R) : ∀ bb, ¬ (bb = 32) → R.2 bb = M bb := by
  unfold FG_draw at hr
  cases hr; exact fun bb hb => (g_set_ne (by omega))
set_option maxRecDepth 20000 in
theorem w_FG_passDays_J131 (s : Int32) (many : Int32) (q : Int32) (c13 : Int32 → gM → Option (gM)) (gc13 : ∀ (x5 : Int32) (M : gM) (R : gM), c13 x5 M = some R → ∀ bb, ¬ (bb = 15 ∨ bb = 18 ∨ (32 ≤ bb ∧ bb ≤ 38)) → R bb = M bb) (x5 : Int32) (y0 : Int32) (M : gM) (R : gM) (hr : FG_passDays_J131 s many q c13 x5 y0 M = some R) : ∀ bb, ¬ (bb = 15 ∨ bb = 18 ∨ (32 ≤ bb ∧ bb ≤ 38)) → R bb = M bb := by
  unfold FG_passDays_J131 at hr
  obtain ⟨s1, es1, hr⟩ := g_bd hr
  have fs1_2 : ∀ bb, ¬ (bb = 15 ∨ bb = 18 ∨ (32 ≤ bb ∧ bb ≤ 38)) → s1.2 bb = M bb := fun bb hb => (w_FG_goOn y0 M _ es1 bb (by omega))
  exact fun bb hb => (gc13 (x5 + (1 : Int32)) (s1.2) _ hr bb hb).trans (fs1_2 bb hb)
set_option maxRecDepth 20000 in
theorem w_FG_passDays_J116 (s : Int32) (many : Int32) (q : Int32) (c13 : Int32 → gM → Option (gM)) (gc13 : ∀ (x5 : Int32) (M : gM) (R : gM), c13 x5 M = some R → ∀ bb, ¬ (bb = 15 ∨ bb = 18 ∨ (32 ≤ bb ∧ bb ≤ 38)) → R bb = M bb) (x5 : Int32) (x6 : Int32) (y0 : Int32) (y1 : Int32) (M : gM) (R : gM) (hr : FG_passDays_J116 s many q c13 x5 x6 y0 y1 M = some R) : ∀ bb, ¬ (bb = 15 ∨ bb = 18 ∨ (32 ≤ bb ∧ bb ≤ 38)) → R bb = M bb := by
  unfold FG_passDays_J116 at hr
  rcases g_ifo hr with ⟨h1, hr⟩ | ⟨h1, hr⟩
  ·
    exact fun bb hb => (w_FG_passDays_J131 s many q c13 gc13 x5 (0 : Int32) (g_set M 32 5 (y1 + y0)) _ hr bb hb).trans ((g_set_ne (by omega)))
  ·
    exact fun bb hb => (w_FG_passDays_J131 s many q c13 gc13 x5 (5 : Int32) (g_set M 32 5 (y1 + y0)) _ hr bb hb).trans ((g_set_ne (by omega)))
set_option maxRecDepth 20000 in
theorem w_FG_passDays_J99 (s : Int32) (many : Int32) (q : Int32) (c13 : Int32 → gM → Option (gM)) (gc13 : ∀ (x5 : Int32) (M : gM) (R : gM), c13 x5 M = some R → ∀ bb, ¬ (bb = 15 ∨ bb = 18 ∨ (32 ≤ bb ∧ bb ≤ 38)) → R bb = M bb) (x5 : Int32) (y0 : Int32) (M : gM) (R : gM) (hr : FG_passDays_J99 s many q c13 x5 y0 M = some R) : ∀ bb, ¬ (bb = 15 ∨ bb = 18 ∨ (32 ≤ bb ∧ bb ≤ 38)) → R bb = M bb := by
  unfold FG_passDays_J99 at hr
  rcases g_ifo hr with ⟨h1, hr⟩ | ⟨h1, hr⟩
  ·
    exact fun bb hb => (w_FG_passDays_J116 s many q c13 gc13 x5 y0 (0 : Int32) (M 32 5) M _ hr bb hb)
  ·
    exact fun bb hb => (w_FG_passDays_J116 s many q c13 gc13 x5 y0 (1 : Int32) (M 32 5) M _ hr bb hb)
set_option maxRecDepth 20000 in
theorem w_FG_passDays_J51 (s : Int32) (many : Int32) (q : Int32) (c13 : Int32 → gM → Option (gM)) (gc13 : ∀ (x5 : Int32) (M : gM) (R : gM), c13 x5 M = some R → ∀ bb, ¬ (bb = 15 ∨ bb = 18 ∨ (32 ≤ bb ∧ bb ≤ 38)) → R bb = M bb) (x5 : Int32) (y0 : Int32) (M : gM) (R : gM) (hr : FG_passDays_J51 s many q c13 x5 y0 M = some R) : ∀ bb, ¬ (bb = 15 ∨ bb = 18 ∨ (32 ≤ bb ∧ bb ≤ 38)) → R bb = M bb := by
  unfold FG_passDays_J51 at hr
  obtain ⟨s1, es1, hr⟩ := g_bd hr
  have fs1_2 : ∀ bb, ¬ (bb = 15 ∨ bb = 18 ∨ (32 ≤ bb ∧ bb ≤ 38)) → s1.2 bb = M bb := fun bb hb => (w_FG_draw (g_set (g_set M 33 10 y0) 32 6 ((M 32 6) + y0)) _ es1 bb (by omega)).trans ((g_set_ne (by omega)).trans ((g_set_ne (by omega))))
  rcases g_ifo hr with ⟨h2, hr⟩ | ⟨h2, hr⟩
  ·
    exact fun bb hb => (w_FG_passDays_J99 s many q c13 gc13 x5 (0 : Int32) (s1.2) _ hr bb hb).trans (fs1_2 bb hb)
  ·
    exact fun bb hb => (w_FG_passDays_J99 s many q c13 gc13 x5 (1 : Int32) (s1.2) _ hr bb hb).trans (fs1_2 bb hb)
set_option maxRecDepth 20000 in
theorem w_FG_passDays_L13 (s : Int32) (many : Int32) (q : Int32) : ∀ (k : Nat) (x5 : Int32) (M : gM) (R : gM), FG_passDays_L13 s many q k x5 M = some R → ∀ bb, ¬ (bb = 15 ∨ bb = 18 ∨ (32 ≤ bb ∧ bb ≤ 38)) → R bb = M bb := by
  intro k
  induction k with
  | zero => intro x5 M R hr; exact nomatch (show (none : Option (gM)) = some R from hr)
  | succ k ih =>
    intro x5 M R hr
    unfold FG_passDays_L13 at hr
    rcases g_ifo hr with ⟨h1, hr⟩ | ⟨h1, hr⟩
    ·
      cases hr; exact fun bb hb => rfl
    ·
      rcases g_ifo hr with ⟨h4, hr⟩ | ⟨h4, hr⟩
      ·
        cases hr; exact fun bb hb => rfl
      ·
        obtain ⟨s5, es5, hr⟩ := g_bd hr
        have fs5_2 : ∀ bb, ¬ (bb = 15 ∨ bb = 18 ∨ (32 ≤ bb ∧ bb ≤ 38)) → s5.2 bb = M bb := fun bb hb => (w_FG_draw M _ es5 bb (by omega))
        rcases g_ifo hr with ⟨h6, hr⟩ | ⟨h6, hr⟩
        ·
          exact fun bb hb => (w_FG_passDays_J51 s many q (FG_passDays_L13 s many q k) ih x5 (0 : Int32) (s5.2) _ hr bb hb).trans (fs5_2 bb hb)
        ·
          exact fun bb hb => (w_FG_passDays_J51 s many q (FG_passDays_L13 s many q k) ih x5 (1 : Int32) (s5.2) _ hr bb hb).trans (fs5_2 bb hb)
set_option maxRecDepth 20000 in
theorem w_FG_passDays (s : Int32) (many : Int32) (q : Int32) (M : gM) (R : gM) (hr : FG_passDays s many q M = some R) : ∀ bb, ¬ (bb = 15 ∨ bb = 18 ∨ (32 ≤ bb ∧ bb ≤ 38)) → R bb = M bb := by
  unfold FG_passDays at hr
  obtain ⟨s1, es1, hr⟩ := g_bd hr
  have fs1 : ∀ bb, ¬ (bb = 15 ∨ bb = 18 ∨ (32 ≤ bb ∧ bb ≤ 38)) → s1 bb = M bb := fun bb hb => (w_FG_start M _ es1 bb (by omega))
  exact fun bb hb => (w_FG_passDays_L13 s many q 1000 (0 : Int32) (g_set s1 32 7 s) _ hr bb hb).trans ((g_set_ne (by omega)).trans (fs1 bb hb))
set_option maxRecDepth 20000 in
theorem w_FA_list_L7 (hoops : Int32) : ∀ (k : Nat) (x2 : Int32) (M : gM) (R : gM), FA_list_L7 hoops k x2 M = some R → ∀ bb, ¬ (bb = 39 ∨ bb = 41) → R bb = M bb := by
  intro k
  induction k with
  | zero => intro x2 M R hr; exact nomatch (show (none : Option (gM)) = some R from hr)
  | succ k ih =>
    intro x2 M R hr
    unfold FA_list_L7 at hr
    rcases g_ifo hr with ⟨h1, hr⟩ | ⟨h1, hr⟩
    ·
      cases hr; exact fun bb hb => rfl
    ·
      rcases g_ifo hr with ⟨h4, hr⟩ | ⟨h4, hr⟩
      ·
        exact fun bb hb => (ih (x2 + (1 : Int32)) M _ hr bb hb)
      ·
        obtain ⟨M5, mM5, hr⟩ := g_leto hr
        have fM5 : ∀ bb, ¬ (bb = 39 ∨ bb = 41) → M5 bb = M bb := fun bb hb => by rw [mM5]; exact (r_put_ne (by omega))
        exact fun bb hb => (ih (x2 + (1 : Int32)) (g_set M5 39 6 ((M5 39 6) + (1 : Int32))) _ hr bb hb).trans ((g_set_ne (by omega)).trans (fM5 bb hb))
set_option maxRecDepth 20000 in
theorem w_FA_list (hoops : Int32) (M : gM) (R : gM) (hr : FA_list hoops M = some R) : ∀ bb, ¬ (bb = 39 ∨ bb = 41) → R bb = M bb := by
  unfold FA_list at hr
  exact fun bb hb => (w_FA_list_L7 hoops 1000 (0 : Int32) (g_set M 39 6 (0 : Int32)) _ hr bb hb).trans ((g_set_ne (by omega)))
set_option maxRecDepth 20000 in
theorem w_FA_measure_L13 (m : Int32) (c2 : Int32 → gM → Option (gM)) (gc2 : ∀ (x3 : Int32) (M : gM) (R : gM), c2 x3 M = some R → ∀ bb, ¬ (bb = 15 ∨ bb = 18 ∨ bb = 42) → R bb = M bb) : ∀ (k : Nat) (x3 : Int32) (x4 : Int32) (M : gM) (R : gM), FA_measure_L13 m c2 k x3 x4 M = some R → ∀ bb, ¬ (bb = 15 ∨ bb = 18 ∨ bb = 42) → R bb = M bb := by
  intro k
  induction k with
  | zero => intro x3 x4 M R hr; exact nomatch (show (none : Option (gM)) = some R from hr)
  | succ k ih =>
    intro x3 x4 M R hr
    unfold FA_measure_L13 at hr
    rcases g_ifo hr with ⟨h1, hr⟩ | ⟨h1, hr⟩
    ·
      exact fun bb hb => (gc2 (x3 + (1 : Int32)) M _ hr bb hb)
    ·
      obtain ⟨s2, es2, hr⟩ := g_bd hr
      have fs2_2 : ∀ bb, ¬ (bb = 15 ∨ bb = 18 ∨ bb = 42) → s2.2 bb = M bb := fun bb hb => (w_FB_longOf 48 (r_at (M 41) 8 x3) x4 M _ es2 bb (by omega))
      obtain ⟨M3, mM3, hr⟩ := g_leto hr
      have fM3 : ∀ bb, ¬ (bb = 15 ∨ bb = 18 ∨ bb = 42) → M3 bb = M bb := fun bb hb => by rw [mM3]; exact (r_put_ne (by omega)).trans (fs2_2 bb hb)
      exact fun bb hb => (ih x3 (x4 + (1 : Int32)) M3 _ hr bb hb).trans (fM3 bb hb)
set_option maxRecDepth 20000 in
theorem w_FA_measure_L2 (m : Int32) : ∀ (k : Nat) (x3 : Int32) (M : gM) (R : gM), FA_measure_L2 m k x3 M = some R → ∀ bb, ¬ (bb = 15 ∨ bb = 18 ∨ bb = 42) → R bb = M bb := by
  intro k
  induction k with
  | zero => intro x3 M R hr; exact nomatch (show (none : Option (gM)) = some R from hr)
  | succ k ih =>
    intro x3 M R hr
    unfold FA_measure_L2 at hr
    rcases g_ifo hr with ⟨h1, hr⟩ | ⟨h1, hr⟩
    ·
      cases hr; exact fun bb hb => rfl
    ·
      exact fun bb hb => (w_FA_measure_L13 m (FA_measure_L2 m k) ih 1000 x3 (0 : Int32) M _ hr bb hb)
set_option maxRecDepth 20000 in
theorem w_FA_measure (m : Int32) (M : gM) (R : gM) (hr : FA_measure m M = some R) : ∀ bb, ¬ (bb = 15 ∨ bb = 18 ∨ bb = 42) → R bb = M bb := by
  unfold FA_measure at hr
  exact fun bb hb => (w_FA_measure_L2 m 1000 (0 : Int32) M _ hr bb hb)
set_option maxRecDepth 20000 in
theorem w_FA_findBests_L35 (c11 : Int32 → gM → Option (gM)) (gc11 : ∀ (x1 : Int32) (M : gM) (R : gM), c11 x1 M = some R → ∀ bb, ¬ (bb = 43) → R bb = M bb) : ∀ (k : Nat) (x1 : Int32) (x2 : Int32) (x3 : Int32) (M : gM) (R : gM), FA_findBests_L35 c11 k x1 x2 x3 M = some R → ∀ bb, ¬ (bb = 43) → R bb = M bb := by
  intro k
  induction k with
  | zero => intro x1 x2 x3 M R hr; exact nomatch (show (none : Option (gM)) = some R from hr)
  | succ k ih =>
    intro x1 x2 x3 M R hr
    unfold FA_findBests_L35 at hr
    rcases g_ifo hr with ⟨h1, hr⟩ | ⟨h1, hr⟩
    ·
      obtain ⟨M2, mM2, hr⟩ := g_leto hr
      have fM2 : ∀ bb, ¬ (bb = 43) → M2 bb = M bb := fun bb hb => by rw [mM2]; exact (r_put_ne (by omega))
      exact fun bb hb => (gc11 (x1 + (-1 : Int32)) M2 _ hr bb hb).trans (fM2 bb hb)
    ·
      rcases g_ifo hr with ⟨h3, hr⟩ | ⟨h3, hr⟩
      ·
        exact fun bb hb => (ih x1 x2 (x3 + (1 : Int32)) M _ hr bb hb)
      ·
        rcases g_ifo hr with ⟨h6, hr⟩ | ⟨h6, hr⟩
        ·
          exact fun bb hb => (ih x1 (m_min x2 (FA_sumWith x1 x3 M)) (x3 + (1 : Int32)) M _ hr bb hb)
        ·
          exact fun bb hb => (ih x1 x2 (x3 + (1 : Int32)) M _ hr bb hb)
set_option maxRecDepth 20000 in
theorem w_FA_findBests_L11 : ∀ (k : Nat) (x1 : Int32) (M : gM) (R : gM), FA_findBests_L11 k x1 M = some R → ∀ bb, ¬ (bb = 43) → R bb = M bb := by
  intro k
  induction k with
  | zero => intro x1 M R hr; exact nomatch (show (none : Option (gM)) = some R from hr)
  | succ k ih =>
    intro x1 M R hr
    unfold FA_findBests_L11 at hr
    rcases g_ifo hr with ⟨h1, hr⟩ | ⟨h1, hr⟩
    ·
      cases hr; exact fun bb hb => rfl
    ·
      rcases g_ifo hr with ⟨h2, hr⟩ | ⟨h2, hr⟩
      ·
        exact fun bb hb => (w_FA_findBests_L35 (FA_findBests_L11 k) ih 1000 x1 (1000000000 : Int32) (0 : Int32) M _ hr bb hb)
      ·
        exact fun bb hb => (w_FA_findBests_L35 (FA_findBests_L11 k) ih 1000 x1 (0 : Int32) (0 : Int32) M _ hr bb hb)
set_option maxRecDepth 20000 in
theorem w_FA_findBests  (M : gM) (R : gM) (hr : FA_findBests M = some R) : ∀ bb, ¬ (bb = 43) → R bb = M bb := by
  unfold FA_findBests at hr
  exact fun bb hb => (w_FA_findBests_L11 1000 (F_allOf (M 3 6)) M _ hr bb hb)
set_option maxRecDepth 20000 in
theorem w_FA_choose_L14 (c4 : Int32 → Int32 → gM → Option (gM)) (gc4 : ∀ (x1 : Int32) (x2 : Int32) (M : gM) (R : gM), c4 x1 x2 M = some R → ∀ bb, ¬ (bb = 40) → R bb = M bb) : ∀ (k : Nat) (x1 : Int32) (x2 : Int32) (x3 : Int32) (M : gM) (R : gM), FA_choose_L14 c4 k x1 x2 x3 M = some R → ∀ bb, ¬ (bb = 40) → R bb = M bb := by
  intro k
  induction k with
  | zero => intro x1 x2 x3 M R hr; exact nomatch (show (none : Option (gM)) = some R from hr)
  | succ k ih =>
    intro x1 x2 x3 M R hr
    unfold FA_choose_L14 at hr
    rcases g_ifo hr with ⟨h1, hr⟩ | ⟨h1, hr⟩
    ·
      exact fun bb hb => (gc4 x1 (x2 + (1 : Int32)) M _ hr bb hb)
    ·
      rcases g_ifo hr with ⟨h4, hr⟩ | ⟨h4, hr⟩
      ·
        rcases g_ifo hr with ⟨h5, hr⟩ | ⟨h5, hr⟩
        ·
          obtain ⟨M6, mM6, hr⟩ := g_leto hr
          have fM6 : ∀ bb, ¬ (bb = 40) → M6 bb = M bb := fun bb hb => by rw [mM6]; exact (r_put_ne (by omega))
          exact fun bb hb => (gc4 (x1 ||| ((1 : Int32) <<< (x3 &&& 31))) (x2 + (1 : Int32)) M6 _ hr bb hb).trans (fM6 bb hb)
        ·
          exact fun bb hb => (ih x1 x2 (x3 + (1 : Int32)) M _ hr bb hb)
      ·
        exact fun bb hb => (ih x1 x2 (x3 + (1 : Int32)) M _ hr bb hb)
set_option maxRecDepth 20000 in
theorem w_FA_choose_L4 : ∀ (k : Nat) (x1 : Int32) (x2 : Int32) (M : gM) (R : gM), FA_choose_L4 k x1 x2 M = some R → ∀ bb, ¬ (bb = 40) → R bb = M bb := by
  intro k
  induction k with
  | zero => intro x1 x2 M R hr; exact nomatch (show (none : Option (gM)) = some R from hr)
  | succ k ih =>
    intro x1 x2 M R hr
    unfold FA_choose_L4 at hr
    rcases g_ifo hr with ⟨h1, hr⟩ | ⟨h1, hr⟩
    ·
      cases hr; exact fun bb hb => rfl
    ·
      exact fun bb hb => (w_FA_choose_L14 (FA_choose_L4 k) ih 1000 x1 x2 (0 : Int32) M _ hr bb hb)
set_option maxRecDepth 20000 in
theorem w_FA_choose  (M : gM) (R : gM) (hr : FA_choose M = some R) : ∀ bb, ¬ (bb = 40) → R bb = M bb := by
  unfold FA_choose at hr
  exact fun bb hb => (w_FA_choose_L4 1000 (0 : Int32) (0 : Int32) M _ hr bb hb)
set_option maxRecDepth 20000 in
theorem w_FA_solve (hoops : Int32) (m : Int32) (M : gM) (R : gM) (hr : FA_solve hoops m M = some R) : ∀ bb, ¬ (bb = 15 ∨ bb = 18 ∨ (39 ≤ bb ∧ bb ≤ 43)) → R bb = M bb := by
  unfold FA_solve at hr
  obtain ⟨M1, mM1, hr⟩ := g_leto hr
  have fM1 : ∀ bb, ¬ (bb = 15 ∨ bb = 18 ∨ (39 ≤ bb ∧ bb ≤ 43)) → M1 bb = M bb := fun bb hb => by rw [mM1]; exact (r_fill_ne (by omega))
  obtain ⟨s2, es2, hr⟩ := g_bd hr
  have fs2 : ∀ bb, ¬ (bb = 15 ∨ bb = 18 ∨ (39 ≤ bb ∧ bb ≤ 43)) → s2 bb = M bb := fun bb hb => (w_FA_list hoops (g_set M1 39 7 (-1 : Int32)) _ es2 bb (by omega)).trans ((g_set_ne (by omega)).trans (fM1 bb hb))
  rcases g_ifo hr with ⟨h3, hr⟩ | ⟨h3, hr⟩
  ·
    obtain ⟨s4, es4, hr⟩ := g_bd hr
    have fs4 : ∀ bb, ¬ (bb = 15 ∨ bb = 18 ∨ (39 ≤ bb ∧ bb ≤ 43)) → s4 bb = M bb := fun bb hb => (w_FA_measure m s2 _ es4 bb (by omega)).trans (fs2 bb hb)
    obtain ⟨s5, es5, hr⟩ := g_bd hr
    have fs5 : ∀ bb, ¬ (bb = 15 ∨ bb = 18 ∨ (39 ≤ bb ∧ bb ≤ 43)) → s5 bb = M bb := fun bb hb => (w_FA_findBests s4 _ es5 bb (by omega)).trans (fs4 bb hb)
    obtain ⟨s6, es6, hr⟩ := g_bd hr
    have fs6 : ∀ bb, ¬ (bb = 15 ∨ bb = 18 ∨ (39 ≤ bb ∧ bb ≤ 43)) → s6 bb = M bb := fun bb hb => (w_FA_choose (g_set s5 39 7 (r_at (s5 43) 256 (0 : Int32))) _ es6 bb (by omega)).trans ((g_set_ne (by omega)).trans (fs5 bb hb))
    cases hr; exact fun bb hb => fs6 bb hb
  ·
    cases hr; exact fun bb hb => fs2 bb hb
set_option maxRecDepth 20000 in
theorem w_FU_isRight_J49 (c : Int32) (h : Int32) (c6 : Int32 → Int32 → gM → Option (Int32 × gM)) (gc6 : ∀ (x4 : Int32) (x5 : Int32) (M : gM) (R : Int32 × gM), c6 x4 x5 M = some R → ∀ bb, ¬ (bb = 15 ∨ bb = 18) → R.2 bb = M bb) (x4 : Int32) (x5 : Int32) (M : gM) (R : Int32 × gM) (hr : FU_isRight_J49 c h c6 x4 x5 M = some R) : ∀ bb, ¬ (bb = 15 ∨ bb = 18) → R.2 bb = M bb := by
  unfold FU_isRight_J49 at hr
  obtain ⟨s1, es1, hr⟩ := g_bd hr
  have fs1_2 : ∀ bb, ¬ (bb = 15 ∨ bb = 18) → s1.2 bb = M bb := fun bb hb => (w_FB_minutesOf 48 x5 c h x5 M _ es1 bb (by omega))
  exact fun bb hb => (gc6 (x4 + s1.1) (x5 + (1 : Int32)) (s1.2) _ hr bb hb).trans (fs1_2 bb hb)
set_option maxRecDepth 20000 in
theorem w_FU_isRight_L6 (c : Int32) (h : Int32) : ∀ (k : Nat) (x4 : Int32) (x5 : Int32) (M : gM) (R : Int32 × gM), FU_isRight_L6 c h k x4 x5 M = some R → ∀ bb, ¬ (bb = 15 ∨ bb = 18) → R.2 bb = M bb := by
  intro k
  induction k with
  | zero => intro x4 x5 M R hr; exact nomatch (show (none : Option (Int32 × gM)) = some R from hr)
  | succ k ih =>
    intro x4 x5 M R hr
    unfold FU_isRight_L6 at hr
    rcases g_ifo hr with ⟨h1, hr⟩ | ⟨h1, hr⟩
    ·
      cases hr; exact fun bb hb => rfl
    ·
      rcases g_ifo hr with ⟨h4, hr⟩ | ⟨h4, hr⟩
      ·
        exact fun bb hb => (w_FU_isRight_J49 c h (FU_isRight_L6 c h k) ih x4 x5 M _ hr bb hb)
      ·
        rcases g_ifo hr with ⟨h5, hr⟩ | ⟨h5, hr⟩
        ·
          exact fun bb hb => (w_FU_isRight_J49 c h (FU_isRight_L6 c h k) ih x4 x5 M _ hr bb hb)
        ·
          cases hr; exact fun bb hb => rfl
set_option maxRecDepth 20000 in
theorem w_FU_isRight (c : Int32) (h : Int32) (M : gM) (R : Int32 × gM) (hr : FU_isRight c h M = some R) : ∀ bb, ¬ (bb = 15 ∨ bb = 18) → R.2 bb = M bb := by
  unfold FU_isRight at hr
  exact fun bb hb => (w_FU_isRight_L6 c h 1000 (0 : Int32) (0 : Int32) M _ hr bb hb)
set_option maxRecDepth 20000 in
theorem w_FU_findFits_L20 (c7 : Int32 → gM → Option (gM)) (gc7 : ∀ (x2 : Int32) (M : gM) (R : gM), c7 x2 M = some R → ∀ bb, ¬ (bb = 15 ∨ bb = 18 ∨ (44 ≤ bb ∧ bb ≤ 45)) → R bb = M bb) : ∀ (k : Nat) (x2 : Int32) (x3 : Int32) (M : gM) (R : gM), FU_findFits_L20 c7 k x2 x3 M = some R → ∀ bb, ¬ (bb = 15 ∨ bb = 18 ∨ (44 ≤ bb ∧ bb ≤ 45)) → R bb = M bb := by
  intro k
  induction k with
  | zero => intro x2 x3 M R hr; exact nomatch (show (none : Option (gM)) = some R from hr)
  | succ k ih =>
    intro x2 x3 M R hr
    unfold FU_findFits_L20 at hr
    rcases g_ifo hr with ⟨h1, hr⟩ | ⟨h1, hr⟩
    ·
      exact fun bb hb => (gc7 (x2 + (1 : Int32)) M _ hr bb hb)
    ·
      obtain ⟨s2, es2, hr⟩ := g_bd hr
      have fs2_2 : ∀ bb, ¬ (bb = 15 ∨ bb = 18 ∨ (44 ≤ bb ∧ bb ≤ 45)) → s2.2 bb = M bb := fun bb hb => (w_FU_isRight x2 x3 M _ es2 bb (by omega))
      rcases g_ifo hr with ⟨h4, hr⟩ | ⟨h4, hr⟩
      ·
        exact fun bb hb => (ih x2 (x3 + (1 : Int32)) (s2.2) _ hr bb hb).trans (fs2_2 bb hb)
      ·
        obtain ⟨M5, mM5, hr⟩ := g_leto hr
        have fM5 : ∀ bb, ¬ (bb = 15 ∨ bb = 18 ∨ (44 ≤ bb ∧ bb ≤ 45)) → M5 bb = M bb := fun bb hb => by rw [mM5]; exact (r_put_ne (by omega)).trans (fs2_2 bb hb)
        exact fun bb hb => (ih x2 (x3 + (1 : Int32)) (g_set M5 44 5 ((M5 44 5) + (1 : Int32))) _ hr bb hb).trans ((g_set_ne (by omega)).trans (fM5 bb hb))
set_option maxRecDepth 20000 in
theorem w_FU_findFits_L7 : ∀ (k : Nat) (x2 : Int32) (M : gM) (R : gM), FU_findFits_L7 k x2 M = some R → ∀ bb, ¬ (bb = 15 ∨ bb = 18 ∨ (44 ≤ bb ∧ bb ≤ 45)) → R bb = M bb := by
  intro k
  induction k with
  | zero => intro x2 M R hr; exact nomatch (show (none : Option (gM)) = some R from hr)
  | succ k ih =>
    intro x2 M R hr
    unfold FU_findFits_L7 at hr
    rcases g_ifo hr with ⟨h1, hr⟩ | ⟨h1, hr⟩
    ·
      rcases g_ifo hr with ⟨h2, hr⟩ | ⟨h2, hr⟩
      ·
        cases hr; exact fun bb hb => (g_set_ne (by omega))
      ·
        cases hr; exact fun bb hb => (g_set_ne (by omega))
    ·
      exact fun bb hb => (w_FU_findFits_L20 (FU_findFits_L7 k) ih 1000 x2 (0 : Int32) M _ hr bb hb)
set_option maxRecDepth 20000 in
theorem w_FU_findFits  (M : gM) (R : gM) (hr : FU_findFits M = some R) : ∀ bb, ¬ (bb = 15 ∨ bb = 18 ∨ (44 ≤ bb ∧ bb ≤ 45)) → R bb = M bb := by
  unfold FU_findFits at hr
  exact fun bb hb => (w_FU_findFits_L7 1000 (0 : Int32) (g_set M 44 5 (0 : Int32)) _ hr bb hb).trans ((g_set_ne (by omega)))
set_option maxRecDepth 20000 in
theorem w_FU_minuteAt_L6 (c : Int32) (h : Int32) (g : Int32) : ∀ (k : Nat) (x5 : Int32) (x6 : Int32) (M : gM) (R : Int32 × gM), FU_minuteAt_L6 c h g k x5 x6 M = some R → ∀ bb, ¬ (bb = 15 ∨ bb = 18) → R.2 bb = M bb := by
  intro k
  induction k with
  | zero => intro x5 x6 M R hr; exact nomatch (show (none : Option (Int32 × gM)) = some R from hr)
  | succ k ih =>
    intro x5 x6 M R hr
    unfold FU_minuteAt_L6 at hr
    rcases g_ifo hr with ⟨h1, hr⟩ | ⟨h1, hr⟩
    ·
      cases hr; exact fun bb hb => rfl
    ·
      obtain ⟨s2, es2, hr⟩ := g_bd hr
      have fs2_2 : ∀ bb, ¬ (bb = 15 ∨ bb = 18) → s2.2 bb = M bb := fun bb hb => (w_FB_minutesOf 48 x6 c h x6 M _ es2 bb (by omega))
      exact fun bb hb => (ih (x5 + s2.1) (x6 + (1 : Int32)) (s2.2) _ hr bb hb).trans (fs2_2 bb hb)
set_option maxRecDepth 20000 in
theorem w_FU_minuteAt (c : Int32) (h : Int32) (g : Int32) (M : gM) (R : Int32 × gM) (hr : FU_minuteAt c h g M = some R) : ∀ bb, ¬ (bb = 15 ∨ bb = 18) → R.2 bb = M bb := by
  unfold FU_minuteAt at hr
  exact fun bb hb => (w_FU_minuteAt_L6 c h g 1000 (0 : Int32) (0 : Int32) M _ hr bb hb)
set_option maxRecDepth 20000 in
theorem w_FU_mostAlike_L13 (g : Int32) : ∀ (k : Nat) (x3 : Int32) (x4 : Int32) (M : gM) (R : Int32 × gM), FU_mostAlike_L13 g k x3 x4 M = some R → ∀ bb, ¬ (bb = 15 ∨ bb = 18 ∨ bb = 46) → R.2 bb = M bb := by
  intro k
  induction k with
  | zero => intro x3 x4 M R hr; exact nomatch (show (none : Option (Int32 × gM)) = some R from hr)
  | succ k ih =>
    intro x3 x4 M R hr
    unfold FU_mostAlike_L13 at hr
    rcases g_ifo hr with ⟨h1, hr⟩ | ⟨h1, hr⟩
    ·
      cases hr; exact fun bb hb => rfl
    ·
      obtain ⟨s2, es2, hr⟩ := g_bd hr
      have fs2_2 : ∀ bb, ¬ (bb = 15 ∨ bb = 18 ∨ bb = 46) → s2.2 bb = M bb := fun bb hb => (w_FU_minuteAt ((r_at (M 45) 64 x4) / (10 : Int32)) ((r_at (M 45) 64 x4) - (r_at (M 45) 64 x4) / (10 : Int32) * (10 : Int32)) g M _ es2 bb (by omega))
      obtain ⟨M3, mM3, hr⟩ := g_leto hr
      have fM3 : ∀ bb, ¬ (bb = 15 ∨ bb = 18 ∨ bb = 46) → M3 bb = M bb := fun bb hb => by rw [mM3]; exact (r_put_ne (by omega)).trans (fs2_2 bb hb)
      exact fun bb hb => (ih (m_max x3 ((r_at ((s2.2) 46) 1000 s2.1) + (1 : Int32))) (x4 + (1 : Int32)) M3 _ hr bb hb).trans (fM3 bb hb)
set_option maxRecDepth 20000 in
theorem w_FU_mostAlike (g : Int32) (M : gM) (R : Int32 × gM) (hr : FU_mostAlike g M = some R) : ∀ bb, ¬ (bb = 15 ∨ bb = 18 ∨ bb = 46) → R.2 bb = M bb := by
  unfold FU_mostAlike at hr
  obtain ⟨M1, mM1, hr⟩ := g_leto hr
  have fM1 : ∀ bb, ¬ (bb = 15 ∨ bb = 18 ∨ bb = 46) → M1 bb = M bb := fun bb hb => by rw [mM1]; exact (r_fill_ne (by omega))
  exact fun bb hb => (w_FU_mostAlike_L13 g 1000 (0 : Int32) (0 : Int32) M1 _ hr bb hb).trans (fM1 bb hb)
set_option maxRecDepth 20000 in
theorem w_FU_chooseGate_L17 : ∀ (k : Nat) (x2 : Int32) (M : gM) (R : gM), FU_chooseGate_L17 k x2 M = some R → ∀ bb, ¬ (bb = 15 ∨ bb = 18 ∨ (44 ≤ bb ∧ bb ≤ 46)) → R bb = M bb := by
  intro k
  induction k with
  | zero => intro x2 M R hr; exact nomatch (show (none : Option (gM)) = some R from hr)
  | succ k ih =>
    intro x2 M R hr
    unfold FU_chooseGate_L17 at hr
    rcases g_ifo hr with ⟨h1, hr⟩ | ⟨h1, hr⟩
    ·
      cases hr; exact fun bb hb => rfl
    ·
      rcases g_ifo hr with ⟨h4, hr⟩ | ⟨h4, hr⟩
      ·
        obtain ⟨s5, es5, hr⟩ := g_bd hr
        have fs5_2 : ∀ bb, ¬ (bb = 15 ∨ bb = 18 ∨ (44 ≤ bb ∧ bb ≤ 46)) → s5.2 bb = M bb := fun bb hb => (w_FU_mostAlike x2 M _ es5 bb (by omega))
        rcases g_ifo hr with ⟨h6, hr⟩ | ⟨h6, hr⟩
        ·
          exact fun bb hb => (ih (x2 + (1 : Int32)) (g_set (g_set (s5.2) 44 7 x2) 44 8 s5.1) _ hr bb hb).trans ((g_set_ne (by omega)).trans ((g_set_ne (by omega)).trans (fs5_2 bb hb)))
        ·
          rcases g_ifo hr with ⟨h7, hr⟩ | ⟨h7, hr⟩
          ·
            exact fun bb hb => (ih (x2 + (1 : Int32)) (s5.2) _ hr bb hb).trans (fs5_2 bb hb)
          ·
            exact fun bb hb => (ih (x2 + (1 : Int32)) (g_set (g_set (s5.2) 44 7 x2) 44 8 s5.1) _ hr bb hb).trans ((g_set_ne (by omega)).trans ((g_set_ne (by omega)).trans (fs5_2 bb hb)))
      ·
        exact fun bb hb => (ih (x2 + (1 : Int32)) M _ hr bb hb)
set_option maxRecDepth 20000 in
theorem w_FU_chooseGate  (M : gM) (R : gM) (hr : FU_chooseGate M = some R) : ∀ bb, ¬ (bb = 15 ∨ bb = 18 ∨ (44 ≤ bb ∧ bb ≤ 46)) → R bb = M bb := by
  unfold FU_chooseGate at hr
  obtain ⟨s1, es1, hr⟩ := g_bd hr
  have fs1 : ∀ bb, ¬ (bb = 15 ∨ bb = 18 ∨ (44 ≤ bb ∧ bb ≤ 46)) → s1 bb = M bb := fun bb hb => (w_FU_findFits M _ es1 bb (by omega))
  exact fun bb hb => (w_FU_chooseGate_L17 1000 (1 : Int32) (g_set (g_set s1 44 7 (-1 : Int32)) 44 8 (-1 : Int32)) _ hr bb hb).trans ((g_set_ne (by omega)).trans ((g_set_ne (by omega)).trans (fs1 bb hb)))
