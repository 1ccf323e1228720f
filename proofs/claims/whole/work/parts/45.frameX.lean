/-! Frames of the public methods. -/
set_option maxRecDepth 20000 in
theorem w_FX_needOne_J9 (v : Int32) (many : Int32) (M : gM) (R : Nat × gM) (hr : FX_needOne_J9 v many M = some R) : ∀ bb, ¬ (bb = 0) → R.2 bb = M bb := by
  unfold FX_needOne_J9 at hr
  cases hr; exact fun bb hb => (g_set_ne (by omega))
set_option maxRecDepth 20000 in
theorem w_FX_needOne (v : Int32) (many : Int32) (M : gM) (R : Nat × gM) (hr : FX_needOne v many M = some R) : ∀ bb, ¬ (bb = 0) → R.2 bb = M bb := by
  unfold FX_needOne at hr
  rcases g_ifo hr with ⟨h1, hr⟩ | ⟨h1, hr⟩
  ·
    exact fun bb hb => (w_FX_needOne_J9 v many M _ hr bb hb)
  ·
    rcases g_ifo hr with ⟨h2, hr⟩ | ⟨h2, hr⟩
    ·
      cases hr; exact fun bb hb => rfl
    ·
      exact fun bb hb => (w_FX_needOne_J9 v many M _ hr bb hb)
set_option maxRecDepth 20000 in
theorem w_FX_needIn_J10 (v : Int32) (lo : Int32) (hi : Int32) (M : gM) (R : Nat × gM) (hr : FX_needIn_J10 v lo hi M = some R) : ∀ bb, ¬ (bb = 0) → R.2 bb = M bb := by
  unfold FX_needIn_J10 at hr
  cases hr; exact fun bb hb => (g_set_ne (by omega))
set_option maxRecDepth 20000 in
theorem w_FX_needIn (v : Int32) (lo : Int32) (hi : Int32) (M : gM) (R : Nat × gM) (hr : FX_needIn v lo hi M = some R) : ∀ bb, ¬ (bb = 0) → R.2 bb = M bb := by
  unfold FX_needIn at hr
  rcases g_ifo hr with ⟨h1, hr⟩ | ⟨h1, hr⟩
  ·
    exact fun bb hb => (w_FX_needIn_J10 v lo hi M _ hr bb hb)
  ·
    rcases g_ifo hr with ⟨h2, hr⟩ | ⟨h2, hr⟩
    ·
      cases hr; exact fun bb hb => rfl
    ·
      exact fun bb hb => (w_FX_needIn_J10 v lo hi M _ hr bb hb)
set_option maxRecDepth 20000 in
theorem w_FX_needBits (v : Int32) (many : Int32) (M : gM) (R : Nat × gM) (hr : FX_needBits v many M = some R) : ∀ bb, ¬ (bb = 0) → R.2 bb = M bb := by
  unfold FX_needBits at hr
  obtain ⟨s1, es1, hr⟩ := g_bd hr
  have fs1_2 : ∀ bb, ¬ (bb = 0) → s1.2 bb = M bb := fun bb hb => (w_FX_needIn v (0 : Int32) (F_allOf many) M _ es1 bb (by omega))
  rcases g_ifo hr with ⟨q0, hr⟩ | ⟨q0, hr⟩
  rotate_left
  · cases hr; exact fun bb hb => fs1_2 bb hb
  cases hr; exact fun bb hb => fs1_2 bb hb
set_option maxRecDepth 20000 in
theorem w_FX_needText (v : Int32) (most : Int32) (M : gM) (R : Nat × gM) (hr : FX_needText v most M = some R) : ∀ bb, ¬ (bb = 0) → R.2 bb = M bb := by
  unfold FX_needText at hr
  obtain ⟨s1, es1, hr⟩ := g_bd hr
  have fs1_2 : ∀ bb, ¬ (bb = 0) → s1.2 bb = M bb := fun bb hb => (w_FX_needIn v (0 : Int32) (m_min (M 1 1) most) M _ es1 bb (by omega))
  rcases g_ifo hr with ⟨q0, hr⟩ | ⟨q0, hr⟩
  rotate_left
  · cases hr; exact fun bb hb => fs1_2 bb hb
  cases hr; exact fun bb hb => fs1_2 bb hb
set_option maxRecDepth 20000 in
theorem w_FX_feed (a : Int32) (b : Int32) (c : Int32) (u : Int32) (e : Int32) (M : gM) (R : Int32 × gM) (hr : FX_feed a b c u e M = some R) : ∀ bb, ¬ ((1 ≤ bb ∧ bb ≤ 2)) → R.2 bb = M bb := by
  unfold FX_feed at hr
  rcases g_ifo hr with ⟨h1, hr⟩ | ⟨h1, hr⟩
  ·
    obtain ⟨s2, es2, hr⟩ := g_bd hr
    have fs2 : ∀ bb, ¬ ((1 ≤ bb ∧ bb ≤ 2)) → s2 bb = M bb := fun bb hb => (w_F_push a M _ es2 bb (by omega))
    obtain ⟨s3, es3, hr⟩ := g_bd hr
    have fs3 : ∀ bb, ¬ ((1 ≤ bb ∧ bb ≤ 2)) → s3 bb = M bb := fun bb hb => (w_F_push b s2 _ es3 bb (by omega)).trans (fs2 bb hb)
    obtain ⟨s4, es4, hr⟩ := g_bd hr
    have fs4 : ∀ bb, ¬ ((1 ≤ bb ∧ bb ≤ 2)) → s4 bb = M bb := fun bb hb => (w_F_push c s3 _ es4 bb (by omega)).trans (fs3 bb hb)
    obtain ⟨s5, es5, hr⟩ := g_bd hr
    have fs5 : ∀ bb, ¬ ((1 ≤ bb ∧ bb ≤ 2)) → s5 bb = M bb := fun bb hb => (w_F_push u s4 _ es5 bb (by omega)).trans (fs4 bb hb)
    obtain ⟨s6, es6, hr⟩ := g_bd hr
    have fs6 : ∀ bb, ¬ ((1 ≤ bb ∧ bb ≤ 2)) → s6 bb = M bb := fun bb hb => (w_F_push e s5 _ es6 bb (by omega)).trans (fs5 bb hb)
    cases hr; exact fun bb hb => fs6 bb hb
  ·
    cases hr; exact fun bb hb => rfl
set_option maxRecDepth 20000 in
theorem w_FX_park (n : Int32) (M : gM) (R : Nat × Int32 × gM) (hr : FX_park n M = some R) : ∀ bb, ¬ ((0 ≤ bb ∧ bb ≤ 1) ∨ (3 ≤ bb ∧ bb ≤ 15) ∨ (23 ≤ bb ∧ bb ≤ 24) ∨ (47 ≤ bb ∧ bb ≤ 53)) → R.2.2 bb = M bb := by
  unfold FX_park at hr
  obtain ⟨s1, es1, hr⟩ := g_bd hr
  have fs1_2 : ∀ bb, ¬ ((0 ≤ bb ∧ bb ≤ 1) ∨ (3 ≤ bb ∧ bb ≤ 15) ∨ (23 ≤ bb ∧ bb ≤ 24) ∨ (47 ≤ bb ∧ bb ≤ 53)) → s1.2 bb = M bb := fun bb hb => (w_FX_needText n (600 : Int32) M _ es1 bb (by omega))
  rcases g_ifo hr with ⟨q0, hr⟩ | ⟨q0, hr⟩
  rotate_left
  · cases hr; exact fun bb hb => fs1_2 bb hb
  obtain ⟨s2, es2, hr⟩ := g_bd hr
  have fs2 : ∀ bb, ¬ ((0 ≤ bb ∧ bb ≤ 1) ∨ (3 ≤ bb ∧ bb ≤ 15) ∨ (23 ≤ bb ∧ bb ≤ 24) ∨ (47 ≤ bb ∧ bb ≤ 53)) → s2 bb = M bb := fun bb hb => (w_F_open n (s1.2) _ es2 bb (by omega)).trans (fs1_2 bb hb)
  obtain ⟨s3, es3, hr⟩ := g_bd hr
  have fs3 : ∀ bb, ¬ ((0 ≤ bb ∧ bb ≤ 1) ∨ (3 ≤ bb ∧ bb ≤ 15) ∨ (23 ≤ bb ∧ bb ≤ 24) ∨ (47 ≤ bb ∧ bb ≤ 53)) → s3 bb = M bb := fun bb hb => (w_FP_read s2 _ es3 bb (by omega)).trans (fs2 bb hb)
  rcases g_ifo hr with ⟨h6, hr⟩ | ⟨h6, hr⟩
  ·
    obtain ⟨s7, es7, hr⟩ := g_bd hr
    have fs7 : ∀ bb, ¬ ((0 ≤ bb ∧ bb ≤ 1) ∨ (3 ≤ bb ∧ bb ≤ 15) ∨ (23 ≤ bb ∧ bb ≤ 24) ∨ (47 ≤ bb ∧ bb ≤ 53)) → s7 bb = M bb := fun bb hb => (w_FP_copy s3 _ es7 bb (by omega)).trans (fs3 bb hb)
    obtain ⟨s8, es8, hr⟩ := g_bd hr
    have fs8 : ∀ bb, ¬ ((0 ≤ bb ∧ bb ≤ 1) ∨ (3 ≤ bb ∧ bb ≤ 15) ∨ (23 ≤ bb ∧ bb ≤ 24) ∨ (47 ≤ bb ∧ bb ≤ 53)) → s8 bb = M bb := fun bb hb => (w_FL_clear s7 _ es8 bb (by omega)).trans (fs7 bb hb)
    obtain ⟨s9, es9, hr⟩ := g_bd hr
    have fs9 : ∀ bb, ¬ ((0 ≤ bb ∧ bb ≤ 1) ∨ (3 ≤ bb ∧ bb ≤ 15) ∨ (23 ≤ bb ∧ bb ≤ 24) ∨ (47 ≤ bb ∧ bb ≤ 53)) → s9 bb = M bb := fun bb hb => (w_FS_clear s8 _ es9 bb (by omega)).trans (fs8 bb hb)
    obtain ⟨s10, es10, hr⟩ := g_bd hr
    have fs10 : ∀ bb, ¬ ((0 ≤ bb ∧ bb ≤ 1) ∨ (3 ≤ bb ∧ bb ≤ 15) ∨ (23 ≤ bb ∧ bb ≤ 24) ∨ (47 ≤ bb ∧ bb ≤ 53)) → s10 bb = M bb := fun bb hb => (w_FH_clear s9 _ es10 bb (by omega)).trans (fs9 bb hb)
    cases hr; exact fun bb hb => (g_set_ne (by omega)).trans ((g_set_ne (by omega)).trans (fs10 bb hb))
  ·
    cases hr; exact fun bb hb => fs3 bb hb
set_option maxRecDepth 20000 in
theorem w_FX_law (n : Int32) (M : gM) (R : Nat × Int32 × gM) (hr : FX_law n M = some R) : ∀ bb, ¬ ((0 ≤ bb ∧ bb ≤ 1) ∨ (15 ≤ bb ∧ bb ≤ 17) ∨ (19 ≤ bb ∧ bb ≤ 21)) → R.2.2 bb = M bb := by
  unfold FX_law at hr
  obtain ⟨s1, es1, hr⟩ := g_bd hr
  have fs1_2 : ∀ bb, ¬ ((0 ≤ bb ∧ bb ≤ 1) ∨ (15 ≤ bb ∧ bb ≤ 17) ∨ (19 ≤ bb ∧ bb ≤ 21)) → s1.2 bb = M bb := fun bb hb => (w_FX_needText n (150 : Int32) M _ es1 bb (by omega))
  rcases g_ifo hr with ⟨q0, hr⟩ | ⟨q0, hr⟩
  rotate_left
  · cases hr; exact fun bb hb => fs1_2 bb hb
  obtain ⟨s2, es2, hr⟩ := g_bd hr
  have fs2 : ∀ bb, ¬ ((0 ≤ bb ∧ bb ≤ 1) ∨ (15 ≤ bb ∧ bb ≤ 17) ∨ (19 ≤ bb ∧ bb ≤ 21)) → s2 bb = M bb := fun bb hb => (w_F_open n (s1.2) _ es2 bb (by omega)).trans (fs1_2 bb hb)
  obtain ⟨s3, es3, hr⟩ := g_bd hr
  have fs3 : ∀ bb, ¬ ((0 ≤ bb ∧ bb ≤ 1) ∨ (15 ≤ bb ∧ bb ≤ 17) ∨ (19 ≤ bb ∧ bb ≤ 21)) → s3 bb = M bb := fun bb hb => (w_FL_read s2 _ es3 bb (by omega)).trans (fs2 bb hb)
  rcases g_ifo hr with ⟨h6, hr⟩ | ⟨h6, hr⟩
  ·
    obtain ⟨s7, es7, hr⟩ := g_bd hr
    have fs7 : ∀ bb, ¬ ((0 ≤ bb ∧ bb ≤ 1) ∨ (15 ≤ bb ∧ bb ≤ 17) ∨ (19 ≤ bb ∧ bb ≤ 21)) → s7 bb = M bb := fun bb hb => (w_FL_copy s3 _ es7 bb (by omega)).trans (fs3 bb hb)
    cases hr; exact fun bb hb => fs7 bb hb
  ·
    cases hr; exact fun bb hb => fs3 bb hb
set_option maxRecDepth 20000 in
theorem w_FX_work (n : Int32) (M : gM) (R : Nat × Int32 × gM) (hr : FX_work n M = some R) : ∀ bb, ¬ ((0 ≤ bb ∧ bb ≤ 1) ∨ bb = 15 ∨ bb = 18 ∨ (28 ≤ bb ∧ bb ≤ 31) ∨ (47 ≤ bb ∧ bb ≤ 53) ∨ (55 ≤ bb ∧ bb ≤ 150)) → R.2.2 bb = M bb := by
  unfold FX_work at hr
  obtain ⟨s1, es1, hr⟩ := g_bd hr
  have fs1_2 : ∀ bb, ¬ ((0 ≤ bb ∧ bb ≤ 1) ∨ bb = 15 ∨ bb = 18 ∨ (28 ≤ bb ∧ bb ≤ 31) ∨ (47 ≤ bb ∧ bb ≤ 53) ∨ (55 ≤ bb ∧ bb ≤ 150)) → s1.2 bb = M bb := fun bb hb => (w_FX_needText n (150 : Int32) M _ es1 bb (by omega))
  rcases g_ifo hr with ⟨q0, hr⟩ | ⟨q0, hr⟩
  rotate_left
  · cases hr; exact fun bb hb => fs1_2 bb hb
  rcases g_ifo hr with ⟨h2, hr⟩ | ⟨h2, hr⟩
  ·
    obtain ⟨s3, es3, hr⟩ := g_bd hr
    have fs3 : ∀ bb, ¬ ((0 ≤ bb ∧ bb ≤ 1) ∨ bb = 15 ∨ bb = 18 ∨ (28 ≤ bb ∧ bb ≤ 31) ∨ (47 ≤ bb ∧ bb ≤ 53) ∨ (55 ≤ bb ∧ bb ≤ 150)) → s3 bb = M bb := fun bb hb => (w_F_open n (s1.2) _ es3 bb (by omega)).trans (fs1_2 bb hb)
    obtain ⟨s4, es4, hr⟩ := g_bd hr
    have fs4 : ∀ bb, ¬ ((0 ≤ bb ∧ bb ≤ 1) ∨ bb = 15 ∨ bb = 18 ∨ (28 ≤ bb ∧ bb ≤ 31) ∨ (47 ≤ bb ∧ bb ≤ 53) ∨ (55 ≤ bb ∧ bb ≤ 150)) → s4 bb = M bb := fun bb hb => (w_FT_read s3 _ es4 bb (by omega)).trans (fs3 bb hb)
    rcases g_ifo hr with ⟨h7, hr⟩ | ⟨h7, hr⟩
    ·
      obtain ⟨s8, es8, hr⟩ := g_bd hr
      have fs8 : ∀ bb, ¬ ((0 ≤ bb ∧ bb ≤ 1) ∨ bb = 15 ∨ bb = 18 ∨ (28 ≤ bb ∧ bb ≤ 31) ∨ (47 ≤ bb ∧ bb ≤ 53) ∨ (55 ≤ bb ∧ bb ≤ 150)) → s8 bb = M bb := fun bb hb => (w_FH_keep 47 s4 _ es8 bb (by omega)).trans (fs4 bb hb)
      obtain ⟨s9, es9, hr⟩ := g_bd hr
      have fs9 : ∀ bb, ¬ ((0 ≤ bb ∧ bb ≤ 1) ∨ bb = 15 ∨ bb = 18 ∨ (28 ≤ bb ∧ bb ≤ 31) ∨ (47 ≤ bb ∧ bb ≤ 53) ∨ (55 ≤ bb ∧ bb ≤ 150)) → s9 bb = M bb := fun bb hb => (w_FT_start s8 _ es9 bb (by omega)).trans (fs8 bb hb)
      obtain ⟨s10, es10, hr⟩ := g_bd hr
      have fs10 : ∀ bb, ¬ ((0 ≤ bb ∧ bb ≤ 1) ∨ bb = 15 ∨ bb = 18 ∨ (28 ≤ bb ∧ bb ≤ 31) ∨ (47 ≤ bb ∧ bb ≤ 53) ∨ (55 ≤ bb ∧ bb ≤ 150)) → s10 bb = M bb := fun bb hb => (w_FT_perform 12 (0 : Int32) (s9 28 5) (0 : Int32) s9 _ es10 bb (by omega)).trans (fs9 bb hb)
      cases hr; exact fun bb hb => (g_set_ne (by omega)).trans (fs10 bb hb)
    ·
      cases hr; exact fun bb hb => fs4 bb hb
  ·
    obtain ⟨s11, es11, hr⟩ := g_bd hr
    have fs11 : ∀ bb, ¬ ((0 ≤ bb ∧ bb ≤ 1) ∨ bb = 15 ∨ bb = 18 ∨ (28 ≤ bb ∧ bb ≤ 31) ∨ (47 ≤ bb ∧ bb ≤ 53) ∨ (55 ≤ bb ∧ bb ≤ 150)) → s11 bb = M bb := fun bb hb => (w_F_open (0 : Int32) (s1.2) _ es11 bb (by omega)).trans (fs1_2 bb hb)
    cases hr; exact fun bb hb => fs11 bb hb
set_option maxRecDepth 20000 in
theorem w_FX_songs (n : Int32) (M : gM) (R : Nat × Int32 × gM) (hr : FX_songs n M = some R) : ∀ bb, ¬ ((0 ≤ bb ∧ bb ≤ 1) ∨ (23 ≤ bb ∧ bb ≤ 26)) → R.2.2 bb = M bb := by
  unfold FX_songs at hr
  obtain ⟨s1, es1, hr⟩ := g_bd hr
  have fs1_2 : ∀ bb, ¬ ((0 ≤ bb ∧ bb ≤ 1) ∨ (23 ≤ bb ∧ bb ≤ 26)) → s1.2 bb = M bb := fun bb hb => (w_FX_needText n (60 : Int32) M _ es1 bb (by omega))
  rcases g_ifo hr with ⟨q0, hr⟩ | ⟨q0, hr⟩
  rotate_left
  · cases hr; exact fun bb hb => fs1_2 bb hb
  obtain ⟨s2, es2, hr⟩ := g_bd hr
  have fs2 : ∀ bb, ¬ ((0 ≤ bb ∧ bb ≤ 1) ∨ (23 ≤ bb ∧ bb ≤ 26)) → s2 bb = M bb := fun bb hb => (w_F_open n (s1.2) _ es2 bb (by omega)).trans (fs1_2 bb hb)
  obtain ⟨s3, es3, hr⟩ := g_bd hr
  have fs3 : ∀ bb, ¬ ((0 ≤ bb ∧ bb ≤ 1) ∨ (23 ≤ bb ∧ bb ≤ 26)) → s3 bb = M bb := fun bb hb => (w_FS_read (s2 3 5) s2 _ es3 bb (by omega)).trans (fs2 bb hb)
  rcases g_ifo hr with ⟨h6, hr⟩ | ⟨h6, hr⟩
  ·
    obtain ⟨s7, es7, hr⟩ := g_bd hr
    have fs7 : ∀ bb, ¬ ((0 ≤ bb ∧ bb ≤ 1) ∨ (23 ≤ bb ∧ bb ≤ 26)) → s7 bb = M bb := fun bb hb => (w_FS_copy s3 _ es7 bb (by omega)).trans (fs3 bb hb)
    cases hr; exact fun bb hb => fs7 bb hb
  ·
    cases hr; exact fun bb hb => fs3 bb hb
set_option maxRecDepth 20000 in
theorem w_FX_undo  (M : gM) (R : Int32 × gM) (hr : FX_undo M = some R) : ∀ bb, ¬ (bb = 0 ∨ (47 ≤ bb ∧ bb ≤ 53)) → R.2 bb = M bb := by
  unfold FX_undo at hr
  rcases g_ifo hr with ⟨h1, hr⟩ | ⟨h1, hr⟩
  ·
    obtain ⟨s2, es2, hr⟩ := g_bd hr
    have fs2 : ∀ bb, ¬ (bb = 0 ∨ (47 ≤ bb ∧ bb ≤ 53)) → s2 bb = M bb := fun bb hb => (w_FH_takeBack 47 M _ es2 bb (by omega))
    cases hr; exact fun bb hb => (g_set_ne (by omega)).trans (fs2 bb hb)
  ·
    cases hr; exact fun bb hb => rfl
set_option maxRecDepth 20000 in
theorem w_FX_told (what : Int32) (M : gM) (R : Nat × Int32 × gM) (hr : FX_told what M = some R) : ∀ bb, ¬ (bb = 0) → R.2.2 bb = M bb := by
  unfold FX_told at hr
  obtain ⟨s1, es1, hr⟩ := g_bd hr
  have fs1_2 : ∀ bb, ¬ (bb = 0) → s1.2 bb = M bb := fun bb hb => (w_FX_needIn what (0 : Int32) (12 : Int32) M _ es1 bb (by omega))
  rcases g_ifo hr with ⟨q0, hr⟩ | ⟨q0, hr⟩
  rotate_left
  · cases hr; exact fun bb hb => fs1_2 bb hb
  rcases g_ifo hr with ⟨h2, hr⟩ | ⟨h2, hr⟩
  ·
    cases hr; exact fun bb hb => fs1_2 bb hb
  rcases g_ifo hr with ⟨h3, hr⟩ | ⟨h3, hr⟩
  ·
    cases hr; exact fun bb hb => fs1_2 bb hb
  rcases g_ifo hr with ⟨h4, hr⟩ | ⟨h4, hr⟩
  ·
    cases hr; exact fun bb hb => fs1_2 bb hb
  rcases g_ifo hr with ⟨h5, hr⟩ | ⟨h5, hr⟩
  ·
    cases hr; exact fun bb hb => fs1_2 bb hb
  rcases g_ifo hr with ⟨h6, hr⟩ | ⟨h6, hr⟩
  ·
    cases hr; exact fun bb hb => fs1_2 bb hb
  rcases g_ifo hr with ⟨h7, hr⟩ | ⟨h7, hr⟩
  ·
    cases hr; exact fun bb hb => fs1_2 bb hb
  rcases g_ifo hr with ⟨h8, hr⟩ | ⟨h8, hr⟩
  ·
    cases hr; exact fun bb hb => fs1_2 bb hb
  rcases g_ifo hr with ⟨h9, hr⟩ | ⟨h9, hr⟩
  ·
    cases hr; exact fun bb hb => fs1_2 bb hb
  rcases g_ifo hr with ⟨h10, hr⟩ | ⟨h10, hr⟩
  ·
    cases hr; exact fun bb hb => fs1_2 bb hb
  rcases g_ifo hr with ⟨h11, hr⟩ | ⟨h11, hr⟩
  ·
    obtain ⟨s12, es12, hr⟩ := g_bd hr
    cases hr; exact fun bb hb => fs1_2 bb hb
  rcases g_ifo hr with ⟨h13, hr⟩ | ⟨h13, hr⟩
  ·
    cases hr; exact fun bb hb => fs1_2 bb hb
  rcases g_ifo hr with ⟨h14, hr⟩ | ⟨h14, hr⟩
  ·
    cases hr; exact fun bb hb => fs1_2 bb hb
  cases hr; exact fun bb hb => fs1_2 bb hb
set_option maxRecDepth 20000 in
theorem w_FX_walk (w : Int32) (what : Int32) (M : gM) (R : Nat × Int32 × gM) (hr : FX_walk w what M = some R) : ∀ bb, ¬ (bb = 0) → R.2.2 bb = M bb := by
  unfold FX_walk at hr
  obtain ⟨s1, es1, hr⟩ := g_bd hr
  have fs1_2 : ∀ bb, ¬ (bb = 0) → s1.2 bb = M bb := fun bb hb => (w_FX_needOne w (M 3 5) M _ es1 bb (by omega))
  rcases g_ifo hr with ⟨q0, hr⟩ | ⟨q0, hr⟩
  rotate_left
  · cases hr; exact fun bb hb => fs1_2 bb hb
  obtain ⟨s2, es2, hr⟩ := g_bd hr
  have fs2_2 : ∀ bb, ¬ (bb = 0) → s2.2 bb = M bb := fun bb hb => (w_FX_needIn what (0 : Int32) (1 : Int32) (s1.2) _ es2 bb (by omega)).trans (fs1_2 bb hb)
  rcases g_ifo hr with ⟨q0, hr⟩ | ⟨q0, hr⟩
  rotate_left
  · cases hr; exact fun bb hb => fs2_2 bb hb
  rcases g_ifo hr with ⟨h3, hr⟩ | ⟨h3, hr⟩
  ·
    cases hr; exact fun bb hb => fs2_2 bb hb
  ·
    cases hr; exact fun bb hb => fs2_2 bb hb
set_option maxRecDepth 20000 in
theorem w_FX_child (c : Int32) (what : Int32) (M : gM) (R : Nat × Int32 × gM) (hr : FX_child c what M = some R) : ∀ bb, ¬ (bb = 0) → R.2.2 bb = M bb := by
  unfold FX_child at hr
  obtain ⟨s1, es1, hr⟩ := g_bd hr
  have fs1_2 : ∀ bb, ¬ (bb = 0) → s1.2 bb = M bb := fun bb hb => (w_FX_needOne c (M 3 6) M _ es1 bb (by omega))
  rcases g_ifo hr with ⟨q0, hr⟩ | ⟨q0, hr⟩
  rotate_left
  · cases hr; exact fun bb hb => fs1_2 bb hb
  obtain ⟨s2, es2, hr⟩ := g_bd hr
  have fs2_2 : ∀ bb, ¬ (bb = 0) → s2.2 bb = M bb := fun bb hb => (w_FX_needIn what (0 : Int32) (5 : Int32) (s1.2) _ es2 bb (by omega)).trans (fs1_2 bb hb)
  rcases g_ifo hr with ⟨q0, hr⟩ | ⟨q0, hr⟩
  rotate_left
  · cases hr; exact fun bb hb => fs2_2 bb hb
  rcases g_ifo hr with ⟨h3, hr⟩ | ⟨h3, hr⟩
  ·
    cases hr; exact fun bb hb => fs2_2 bb hb
  rcases g_ifo hr with ⟨h4, hr⟩ | ⟨h4, hr⟩
  ·
    cases hr; exact fun bb hb => fs2_2 bb hb
  rcases g_ifo hr with ⟨h5, hr⟩ | ⟨h5, hr⟩
  ·
    cases hr; exact fun bb hb => fs2_2 bb hb
  rcases g_ifo hr with ⟨h6, hr⟩ | ⟨h6, hr⟩
  ·
    cases hr; exact fun bb hb => fs2_2 bb hb
  rcases g_ifo hr with ⟨h7, hr⟩ | ⟨h7, hr⟩
  ·
    cases hr; exact fun bb hb => fs2_2 bb hb
  obtain ⟨s8, es8, hr⟩ := g_bd hr
  cases hr; exact fun bb hb => fs2_2 bb hb
set_option maxRecDepth 20000 in
theorem w_FX_hoop (h : Int32) (what : Int32) (M : gM) (R : Nat × Int32 × gM) (hr : FX_hoop h what M = some R) : ∀ bb, ¬ (bb = 0) → R.2.2 bb = M bb := by
  unfold FX_hoop at hr
  obtain ⟨s1, es1, hr⟩ := g_bd hr
  have fs1_2 : ∀ bb, ¬ (bb = 0) → s1.2 bb = M bb := fun bb hb => (w_FX_needOne h (M 3 7) M _ es1 bb (by omega))
  rcases g_ifo hr with ⟨q0, hr⟩ | ⟨q0, hr⟩
  rotate_left
  · cases hr; exact fun bb hb => fs1_2 bb hb
  obtain ⟨s2, es2, hr⟩ := g_bd hr
  have fs2_2 : ∀ bb, ¬ (bb = 0) → s2.2 bb = M bb := fun bb hb => (w_FX_needIn what (0 : Int32) (2 : Int32) (s1.2) _ es2 bb (by omega)).trans (fs1_2 bb hb)
  rcases g_ifo hr with ⟨q0, hr⟩ | ⟨q0, hr⟩
  rotate_left
  · cases hr; exact fun bb hb => fs2_2 bb hb
  rcases g_ifo hr with ⟨h3, hr⟩ | ⟨h3, hr⟩
  ·
    cases hr; exact fun bb hb => fs2_2 bb hb
  rcases g_ifo hr with ⟨h4, hr⟩ | ⟨h4, hr⟩
  ·
    cases hr; exact fun bb hb => fs2_2 bb hb
  cases hr; exact fun bb hb => fs2_2 bb hb
set_option maxRecDepth 20000 in
theorem w_FX_minutes (w : Int32) (c : Int32) (h : Int32) (M : gM) (R : Nat × Int32 × gM) (hr : FX_minutes w c h M = some R) : ∀ bb, ¬ (bb = 0 ∨ bb = 15 ∨ bb = 18) → R.2.2 bb = M bb := by
  unfold FX_minutes at hr
  obtain ⟨s1, es1, hr⟩ := g_bd hr
  have fs1_2 : ∀ bb, ¬ (bb = 0 ∨ bb = 15 ∨ bb = 18) → s1.2 bb = M bb := fun bb hb => (w_FX_needOne w (M 3 5) M _ es1 bb (by omega))
  rcases g_ifo hr with ⟨q0, hr⟩ | ⟨q0, hr⟩
  rotate_left
  · cases hr; exact fun bb hb => fs1_2 bb hb
  obtain ⟨s2, es2, hr⟩ := g_bd hr
  have fs2_2 : ∀ bb, ¬ (bb = 0 ∨ bb = 15 ∨ bb = 18) → s2.2 bb = M bb := fun bb hb => (w_FX_needOne c ((s1.2) 3 6) (s1.2) _ es2 bb (by omega)).trans (fs1_2 bb hb)
  rcases g_ifo hr with ⟨q0, hr⟩ | ⟨q0, hr⟩
  rotate_left
  · cases hr; exact fun bb hb => fs2_2 bb hb
  obtain ⟨s3, es3, hr⟩ := g_bd hr
  have fs3_2 : ∀ bb, ¬ (bb = 0 ∨ bb = 15 ∨ bb = 18) → s3.2 bb = M bb := fun bb hb => (w_FX_needOne h ((s2.2) 3 7) (s2.2) _ es3 bb (by omega)).trans (fs2_2 bb hb)
  rcases g_ifo hr with ⟨q0, hr⟩ | ⟨q0, hr⟩
  rotate_left
  · cases hr; exact fun bb hb => fs3_2 bb hb
  obtain ⟨s4, es4, hr⟩ := g_bd hr
  have fs4_2 : ∀ bb, ¬ (bb = 0 ∨ bb = 15 ∨ bb = 18) → s4.2 bb = M bb := fun bb hb => (w_FB_minutesOf 48 w c h (r_at ((s3.2) 49) 8 c) (s3.2) _ es4 bb (by omega)).trans (fs3_2 bb hb)
  cases hr; exact fun bb hb => fs4_2 bb hb
set_option maxRecDepth 20000 in
theorem w_FX_would (len : Int32) (pace : Int32) (age : Int32) (heavy : Int32) (tired : Int32) (rain : Int32) (bribe : Int32) (M : gM) (R : Nat × Int32 × gM) (hr : FX_would len pace age heavy tired rain bribe M = some R) : ∀ bb, ¬ (bb = 0 ∨ bb = 15 ∨ bb = 18) → R.2.2 bb = M bb := by
  unfold FX_would at hr
  obtain ⟨s1, es1, hr⟩ := g_bd hr
  have fs1_2 : ∀ bb, ¬ (bb = 0 ∨ bb = 15 ∨ bb = 18) → s1.2 bb = M bb := fun bb hb => (w_FX_needIn len (1 : Int32) (20 : Int32) M _ es1 bb (by omega))
  rcases g_ifo hr with ⟨q0, hr⟩ | ⟨q0, hr⟩
  rotate_left
  · cases hr; exact fun bb hb => fs1_2 bb hb
  obtain ⟨s2, es2, hr⟩ := g_bd hr
  have fs2_2 : ∀ bb, ¬ (bb = 0 ∨ bb = 15 ∨ bb = 18) → s2.2 bb = M bb := fun bb hb => (w_FX_needIn pace (1 : Int32) (9 : Int32) (s1.2) _ es2 bb (by omega)).trans (fs1_2 bb hb)
  rcases g_ifo hr with ⟨q0, hr⟩ | ⟨q0, hr⟩
  rotate_left
  · cases hr; exact fun bb hb => fs2_2 bb hb
  obtain ⟨s3, es3, hr⟩ := g_bd hr
  have fs3_2 : ∀ bb, ¬ (bb = 0 ∨ bb = 15 ∨ bb = 18) → s3.2 bb = M bb := fun bb hb => (w_FX_needIn age (3 : Int32) (14 : Int32) (s2.2) _ es3 bb (by omega)).trans (fs2_2 bb hb)
  rcases g_ifo hr with ⟨q0, hr⟩ | ⟨q0, hr⟩
  rotate_left
  · cases hr; exact fun bb hb => fs3_2 bb hb
  obtain ⟨s4, es4, hr⟩ := g_bd hr
  have fs4_2 : ∀ bb, ¬ (bb = 0 ∨ bb = 15 ∨ bb = 18) → s4.2 bb = M bb := fun bb hb => (w_FX_needIn heavy (1 : Int32) (9 : Int32) (s3.2) _ es4 bb (by omega)).trans (fs3_2 bb hb)
  rcases g_ifo hr with ⟨q0, hr⟩ | ⟨q0, hr⟩
  rotate_left
  · cases hr; exact fun bb hb => fs4_2 bb hb
  obtain ⟨s5, es5, hr⟩ := g_bd hr
  have fs5_2 : ∀ bb, ¬ (bb = 0 ∨ bb = 15 ∨ bb = 18) → s5.2 bb = M bb := fun bb hb => (w_FX_needIn tired (0 : Int32) (99 : Int32) (s4.2) _ es5 bb (by omega)).trans (fs4_2 bb hb)
  rcases g_ifo hr with ⟨q0, hr⟩ | ⟨q0, hr⟩
  rotate_left
  · cases hr; exact fun bb hb => fs5_2 bb hb
  obtain ⟨s6, es6, hr⟩ := g_bd hr
  have fs6_2 : ∀ bb, ¬ (bb = 0 ∨ bb = 15 ∨ bb = 18) → s6.2 bb = M bb := fun bb hb => (w_FX_needIn rain (0 : Int32) (1 : Int32) (s5.2) _ es6 bb (by omega)).trans (fs5_2 bb hb)
  rcases g_ifo hr with ⟨q0, hr⟩ | ⟨q0, hr⟩
  rotate_left
  · cases hr; exact fun bb hb => fs6_2 bb hb
  obtain ⟨s7, es7, hr⟩ := g_bd hr
  have fs7_2 : ∀ bb, ¬ (bb = 0 ∨ bb = 15 ∨ bb = 18) → s7.2 bb = M bb := fun bb hb => (w_FX_needIn bribe (0 : Int32) (99 : Int32) (s6.2) _ es7 bb (by omega)).trans (fs6_2 bb hb)
  rcases g_ifo hr with ⟨q0, hr⟩ | ⟨q0, hr⟩
  rotate_left
  · cases hr; exact fun bb hb => fs7_2 bb hb
  obtain ⟨s8, es8, hr⟩ := g_bd hr
  have fs8_2 : ∀ bb, ¬ (bb = 0 ∨ bb = 15 ∨ bb = 18) → s8.2 bb = M bb := fun bb hb => (w_FL_outcome (g_set (g_set (g_set (g_set (g_set (g_set (g_set (g_set (g_set (s7.2) 15 5 len) 15 6 pace) 15 7 age) 15 8 heavy) 15 9 tired) 15 10 rain) 15 11 (0 : Int32)) 15 12 (0 : Int32)) 15 13 bribe) _ es8 bb (by omega)).trans ((g_set_ne (by omega)).trans ((g_set_ne (by omega)).trans ((g_set_ne (by omega)).trans ((g_set_ne (by omega)).trans ((g_set_ne (by omega)).trans ((g_set_ne (by omega)).trans ((g_set_ne (by omega)).trans ((g_set_ne (by omega)).trans ((g_set_ne (by omega)).trans (fs7_2 bb hb))))))))))
  cases hr; exact fun bb hb => fs8_2 bb hb
set_option maxRecDepth 20000 in
theorem w_FX_lasts (h : Int32) (c : Int32) (M : gM) (R : Nat × Int32 × gM) (hr : FX_lasts h c M = some R) : ∀ bb, ¬ (bb = 0 ∨ bb = 15 ∨ bb = 18) → R.2.2 bb = M bb := by
  unfold FX_lasts at hr
  obtain ⟨s1, es1, hr⟩ := g_bd hr
  have fs1_2 : ∀ bb, ¬ (bb = 0 ∨ bb = 15 ∨ bb = 18) → s1.2 bb = M bb := fun bb hb => (w_FX_needOne h (M 3 7) M _ es1 bb (by omega))
  rcases g_ifo hr with ⟨q0, hr⟩ | ⟨q0, hr⟩
  rotate_left
  · cases hr; exact fun bb hb => fs1_2 bb hb
  obtain ⟨s2, es2, hr⟩ := g_bd hr
  have fs2_2 : ∀ bb, ¬ (bb = 0 ∨ bb = 15 ∨ bb = 18) → s2.2 bb = M bb := fun bb hb => (w_FX_needOne c ((s1.2) 3 6) (s1.2) _ es2 bb (by omega)).trans (fs1_2 bb hb)
  rcases g_ifo hr with ⟨q0, hr⟩ | ⟨q0, hr⟩
  rotate_left
  · cases hr; exact fun bb hb => fs2_2 bb hb
  obtain ⟨s3, es3, hr⟩ := g_bd hr
  have fs3_2 : ∀ bb, ¬ (bb = 0 ∨ bb = 15 ∨ bb = 18) → s3.2 bb = M bb := fun bb hb => (w_FB_longOf 48 h c (s2.2) _ es3 bb (by omega)).trans (fs2_2 bb hb)
  cases hr; exact fun bb hb => fs3_2 bb hb
set_option maxRecDepth 20000 in
theorem w_FX_ahead_L32 (n : Int32) (what : Int32) : ∀ (k : Nat) (x3 : Int32) (M : gM) (R : Nat × Int32 × gM), FX_ahead_L32 n what k x3 M = some R → ∀ bb, ¬ (bb = 0 ∨ bb = 15 ∨ bb = 18 ∨ (32 ≤ bb ∧ bb ≤ 38)) → R.2.2 bb = M bb := by
  intro k
  induction k with
  | zero => intro x3 M R hr; exact nomatch (show (none : Option (Nat × Int32 × gM)) = some R from hr)
  | succ k ih =>
    intro x3 M R hr
    unfold FX_ahead_L32 at hr
    rcases g_ifo hr with ⟨h1, hr⟩ | ⟨h1, hr⟩
    ·
      rcases g_ifo hr with ⟨h2, hr⟩ | ⟨h2, hr⟩
      ·
        cases hr; exact fun bb hb => rfl
      rcases g_ifo hr with ⟨h3, hr⟩ | ⟨h3, hr⟩
      ·
        cases hr; exact fun bb hb => rfl
      rcases g_ifo hr with ⟨h4, hr⟩ | ⟨h4, hr⟩
      ·
        cases hr; exact fun bb hb => rfl
      rcases g_ifo hr with ⟨h5, hr⟩ | ⟨h5, hr⟩
      ·
        obtain ⟨s6, es6, hr⟩ := g_bd hr
        obtain ⟨s7, es7, hr⟩ := g_bd hr
        cases hr; exact fun bb hb => rfl
      cases hr; exact fun bb hb => rfl
    ·
      obtain ⟨s8, es8, hr⟩ := g_bd hr
      have fs8_2 : ∀ bb, ¬ (bb = 0 ∨ bb = 15 ∨ bb = 18 ∨ (32 ≤ bb ∧ bb ≤ 38)) → s8.2 bb = M bb := fun bb hb => (w_FG_goOn (0 : Int32) M _ es8 bb (by omega))
      exact fun bb hb => (ih (x3 + (1 : Int32)) (s8.2) _ hr bb hb).trans (fs8_2 bb hb)
set_option maxRecDepth 20000 in
theorem w_FX_ahead (n : Int32) (what : Int32) (M : gM) (R : Nat × Int32 × gM) (hr : FX_ahead n what M = some R) : ∀ bb, ¬ (bb = 0 ∨ bb = 15 ∨ bb = 18 ∨ (32 ≤ bb ∧ bb ≤ 38)) → R.2.2 bb = M bb := by
  unfold FX_ahead at hr
  obtain ⟨s1, es1, hr⟩ := g_bd hr
  have fs1_2 : ∀ bb, ¬ (bb = 0 ∨ bb = 15 ∨ bb = 18 ∨ (32 ≤ bb ∧ bb ≤ 38)) → s1.2 bb = M bb := fun bb hb => (w_FX_needIn n (0 : Int32) (200 : Int32) M _ es1 bb (by omega))
  rcases g_ifo hr with ⟨q0, hr⟩ | ⟨q0, hr⟩
  rotate_left
  · cases hr; exact fun bb hb => fs1_2 bb hb
  obtain ⟨s2, es2, hr⟩ := g_bd hr
  have fs2_2 : ∀ bb, ¬ (bb = 0 ∨ bb = 15 ∨ bb = 18 ∨ (32 ≤ bb ∧ bb ≤ 38)) → s2.2 bb = M bb := fun bb hb => (w_FX_needIn what (0 : Int32) (4 : Int32) (s1.2) _ es2 bb (by omega)).trans (fs1_2 bb hb)
  rcases g_ifo hr with ⟨q0, hr⟩ | ⟨q0, hr⟩
  rotate_left
  · cases hr; exact fun bb hb => fs2_2 bb hb
  obtain ⟨s3, es3, hr⟩ := g_bd hr
  have fs3 : ∀ bb, ¬ (bb = 0 ∨ bb = 15 ∨ bb = 18 ∨ (32 ≤ bb ∧ bb ≤ 38)) → s3 bb = M bb := fun bb hb => (w_FG_start (s2.2) _ es3 bb (by omega)).trans (fs2_2 bb hb)
  exact fun bb hb => (w_FX_ahead_L32 n what 1000 (0 : Int32) s3 _ hr bb hb).trans (fs3 bb hb)
set_option maxRecDepth 20000 in
theorem w_FX_due_L28 (h : Int32) : ∀ (k : Nat) (x2 : Int32) (M : gM) (R : Nat × Int32 × gM), FX_due_L28 h k x2 M = some R → ∀ bb, ¬ (bb = 0 ∨ bb = 15 ∨ bb = 18 ∨ (32 ≤ bb ∧ bb ≤ 38)) → R.2.2 bb = M bb := by
  intro k
  induction k with
  | zero => intro x2 M R hr; exact nomatch (show (none : Option (Nat × Int32 × gM)) = some R from hr)
  | succ k ih =>
    intro x2 M R hr
    unfold FX_due_L28 at hr
    rcases g_ifo hr with ⟨h1, hr⟩ | ⟨h1, hr⟩
    ·
      rcases g_ifo hr with ⟨h4, hr⟩ | ⟨h4, hr⟩
      ·
        cases hr; exact fun bb hb => rfl
      ·
        cases hr; exact fun bb hb => rfl
    ·
      rcases g_ifo hr with ⟨h7, hr⟩ | ⟨h7, hr⟩
      ·
        obtain ⟨s8, es8, hr⟩ := g_bd hr
        have fs8_2 : ∀ bb, ¬ (bb = 0 ∨ bb = 15 ∨ bb = 18 ∨ (32 ≤ bb ∧ bb ≤ 38)) → s8.2 bb = M bb := fun bb hb => (w_FG_goOn (0 : Int32) M _ es8 bb (by omega))
        exact fun bb hb => (ih (x2 + (1 : Int32)) (s8.2) _ hr bb hb).trans (fs8_2 bb hb)
      ·
        cases hr; exact fun bb hb => rfl
set_option maxRecDepth 20000 in
theorem w_FX_due (h : Int32) (M : gM) (R : Nat × Int32 × gM) (hr : FX_due h M = some R) : ∀ bb, ¬ (bb = 0 ∨ bb = 15 ∨ bb = 18 ∨ (32 ≤ bb ∧ bb ≤ 38)) → R.2.2 bb = M bb := by
  unfold FX_due at hr
  obtain ⟨s1, es1, hr⟩ := g_bd hr
  have fs1_2 : ∀ bb, ¬ (bb = 0 ∨ bb = 15 ∨ bb = 18 ∨ (32 ≤ bb ∧ bb ≤ 38)) → s1.2 bb = M bb := fun bb hb => (w_FX_needOne h (M 3 7) M _ es1 bb (by omega))
  rcases g_ifo hr with ⟨q0, hr⟩ | ⟨q0, hr⟩
  rotate_left
  · cases hr; exact fun bb hb => fs1_2 bb hb
  obtain ⟨s2, es2, hr⟩ := g_bd hr
  have fs2 : ∀ bb, ¬ (bb = 0 ∨ bb = 15 ∨ bb = 18 ∨ (32 ≤ bb ∧ bb ≤ 38)) → s2 bb = M bb := fun bb hb => (w_FG_start (s1.2) _ es2 bb (by omega)).trans (fs1_2 bb hb)
  exact fun bb hb => (w_FX_due_L28 h 1000 (0 : Int32) s2 _ hr bb hb).trans (fs2 bb hb)
set_option maxRecDepth 20000 in
theorem w_FX_hour_L25 (m : Int32) : ∀ (k : Nat) (x2 : Int32) (M : gM) (R : Nat × Int32 × gM), FX_hour_L25 m k x2 M = some R → ∀ bb, ¬ (bb = 0 ∨ bb = 15 ∨ bb = 18 ∨ (32 ≤ bb ∧ bb ≤ 38)) → R.2.2 bb = M bb := by
  intro k
  induction k with
  | zero => intro x2 M R hr; exact nomatch (show (none : Option (Nat × Int32 × gM)) = some R from hr)
  | succ k ih =>
    intro x2 M R hr
    unfold FX_hour_L25 at hr
    rcases g_ifo hr with ⟨h1, hr⟩ | ⟨h1, hr⟩
    ·
      cases hr; exact fun bb hb => rfl
    ·
      obtain ⟨s2, es2, hr⟩ := g_bd hr
      have fs2_2 : ∀ bb, ¬ (bb = 0 ∨ bb = 15 ∨ bb = 18 ∨ (32 ≤ bb ∧ bb ≤ 38)) → s2.2 bb = M bb := fun bb hb => (w_FG_goOn (0 : Int32) M _ es2 bb (by omega))
      rcases g_ifo hr with ⟨h4, hr⟩ | ⟨h4, hr⟩
      ·
        cases hr; exact fun bb hb => fs2_2 bb hb
      ·
        rcases g_ifo hr with ⟨h5, hr⟩ | ⟨h5, hr⟩
        ·
          exact fun bb hb => (ih (x2 + (1 : Int32)) (s2.2) _ hr bb hb).trans (fs2_2 bb hb)
        ·
          cases hr; exact fun bb hb => fs2_2 bb hb
set_option maxRecDepth 20000 in
theorem w_FX_hour (m : Int32) (M : gM) (R : Nat × Int32 × gM) (hr : FX_hour m M = some R) : ∀ bb, ¬ (bb = 0 ∨ bb = 15 ∨ bb = 18 ∨ (32 ≤ bb ∧ bb ≤ 38)) → R.2.2 bb = M bb := by
  unfold FX_hour at hr
  obtain ⟨s1, es1, hr⟩ := g_bd hr
  have fs1_2 : ∀ bb, ¬ (bb = 0 ∨ bb = 15 ∨ bb = 18 ∨ (32 ≤ bb ∧ bb ≤ 38)) → s1.2 bb = M bb := fun bb hb => (w_FX_needIn m (0 : Int32) (999 : Int32) M _ es1 bb (by omega))
  rcases g_ifo hr with ⟨q0, hr⟩ | ⟨q0, hr⟩
  rotate_left
  · cases hr; exact fun bb hb => fs1_2 bb hb
  obtain ⟨s2, es2, hr⟩ := g_bd hr
  have fs2 : ∀ bb, ¬ (bb = 0 ∨ bb = 15 ∨ bb = 18 ∨ (32 ≤ bb ∧ bb ≤ 38)) → s2 bb = M bb := fun bb hb => (w_FG_start (s1.2) _ es2 bb (by omega)).trans (fs1_2 bb hb)
  exact fun bb hb => (w_FX_hour_L25 m 1000 (0 : Int32) s2 _ hr bb hb).trans (fs2 bb hb)
set_option maxRecDepth 20000 in
theorem w_FX_late_L27 : ∀ (k : Nat) (x1 : Int32) (x2 : Int32) (M : gM) (R : Int32 × gM), FX_late_L27 k x1 x2 M = some R → ∀ bb, ¬ (bb = 15 ∨ bb = 18 ∨ (32 ≤ bb ∧ bb ≤ 38)) → R.2 bb = M bb := by
  intro k
  induction k with
  | zero => intro x1 x2 M R hr; exact nomatch (show (none : Option (Int32 × gM)) = some R from hr)
  | succ k ih =>
    intro x1 x2 M R hr
    unfold FX_late_L27 at hr
    rcases g_ifo hr with ⟨h1, hr⟩ | ⟨h1, hr⟩
    ·
      cases hr; exact fun bb hb => rfl
    ·
      obtain ⟨s2, es2, hr⟩ := g_bd hr
      have fs2_2 : ∀ bb, ¬ (bb = 15 ∨ bb = 18 ∨ (32 ≤ bb ∧ bb ≤ 38)) → s2.2 bb = M bb := fun bb hb => (w_FG_goOn (0 : Int32) M _ es2 bb (by omega))
      rcases g_ifo hr with ⟨h4, hr⟩ | ⟨h4, hr⟩
      ·
        cases hr; exact fun bb hb => fs2_2 bb hb
      ·
        rcases g_ifo hr with ⟨h5, hr⟩ | ⟨h5, hr⟩
        ·
          exact fun bb hb => (ih x1 (x2 + (1 : Int32)) (s2.2) _ hr bb hb).trans (fs2_2 bb hb)
        ·
          cases hr; exact fun bb hb => fs2_2 bb hb
set_option maxRecDepth 20000 in
theorem w_FX_late  (M : gM) (R : Int32 × gM) (hr : FX_late M = some R) : ∀ bb, ¬ (bb = 15 ∨ bb = 18 ∨ (32 ≤ bb ∧ bb ≤ 38)) → R.2 bb = M bb := by
  unfold FX_late at hr
  obtain ⟨s1, es1, hr⟩ := g_bd hr
  have fs1 : ∀ bb, ¬ (bb = 15 ∨ bb = 18 ∨ (32 ≤ bb ∧ bb ≤ 38)) → s1 bb = M bb := fun bb hb => (w_FG_start M _ es1 bb (by omega))
  exact fun bb hb => (w_FX_late_L27 1000 (s1 48 11) (0 : Int32) s1 _ hr bb hb).trans (fs1 bb hb)
set_option maxRecDepth 20000 in
theorem w_FX_match (hoops : Int32) (m : Int32) (M : gM) (R : Nat × Int32 × gM) (hr : FX_match hoops m M = some R) : ∀ bb, ¬ (bb = 0 ∨ bb = 15 ∨ bb = 18 ∨ (39 ≤ bb ∧ bb ≤ 43)) → R.2.2 bb = M bb := by
  unfold FX_match at hr
  obtain ⟨s1, es1, hr⟩ := g_bd hr
  have fs1_2 : ∀ bb, ¬ (bb = 0 ∨ bb = 15 ∨ bb = 18 ∨ (39 ≤ bb ∧ bb ≤ 43)) → s1.2 bb = M bb := fun bb hb => (w_FX_needBits hoops (M 3 7) M _ es1 bb (by omega))
  rcases g_ifo hr with ⟨q0, hr⟩ | ⟨q0, hr⟩
  rotate_left
  · cases hr; exact fun bb hb => fs1_2 bb hb
  obtain ⟨s2, es2, hr⟩ := g_bd hr
  have fs2_2 : ∀ bb, ¬ (bb = 0 ∨ bb = 15 ∨ bb = 18 ∨ (39 ≤ bb ∧ bb ≤ 43)) → s2.2 bb = M bb := fun bb hb => (w_FX_needIn m (0 : Int32) (999 : Int32) (s1.2) _ es2 bb (by omega)).trans (fs1_2 bb hb)
  rcases g_ifo hr with ⟨q0, hr⟩ | ⟨q0, hr⟩
  rotate_left
  · cases hr; exact fun bb hb => fs2_2 bb hb
  obtain ⟨s3, es3, hr⟩ := g_bd hr
  have fs3 : ∀ bb, ¬ (bb = 0 ∨ bb = 15 ∨ bb = 18 ∨ (39 ≤ bb ∧ bb ≤ 43)) → s3 bb = M bb := fun bb hb => (w_FA_solve hoops m (s2.2) _ es3 bb (by omega)).trans (fs2_2 bb hb)
  cases hr; exact fun bb hb => fs3 bb hb
set_option maxRecDepth 20000 in
theorem w_FX_matched (hoops : Int32) (m : Int32) (h : Int32) (M : gM) (R : Nat × Int32 × gM) (hr : FX_matched hoops m h M = some R) : ∀ bb, ¬ (bb = 0 ∨ bb = 15 ∨ bb = 18 ∨ (39 ≤ bb ∧ bb ≤ 43)) → R.2.2 bb = M bb := by
  unfold FX_matched at hr
  obtain ⟨s1, es1, hr⟩ := g_bd hr
  have fs1_2 : ∀ bb, ¬ (bb = 0 ∨ bb = 15 ∨ bb = 18 ∨ (39 ≤ bb ∧ bb ≤ 43)) → s1.2 bb = M bb := fun bb hb => (w_FX_needOne h (M 3 7) M _ es1 bb (by omega))
  rcases g_ifo hr with ⟨q0, hr⟩ | ⟨q0, hr⟩
  rotate_left
  · cases hr; exact fun bb hb => fs1_2 bb hb
  obtain ⟨s2, es2, hr⟩ := g_bd hr
  have fs2_2 : ∀ bb, ¬ (bb = 0 ∨ bb = 15 ∨ bb = 18 ∨ (39 ≤ bb ∧ bb ≤ 43)) → s2.2 bb = M bb := fun bb hb => (w_FX_needBits hoops ((s1.2) 3 7) (s1.2) _ es2 bb (by omega)).trans (fs1_2 bb hb)
  rcases g_ifo hr with ⟨q0, hr⟩ | ⟨q0, hr⟩
  rotate_left
  · cases hr; exact fun bb hb => fs2_2 bb hb
  obtain ⟨s3, es3, hr⟩ := g_bd hr
  have fs3_2 : ∀ bb, ¬ (bb = 0 ∨ bb = 15 ∨ bb = 18 ∨ (39 ≤ bb ∧ bb ≤ 43)) → s3.2 bb = M bb := fun bb hb => (w_FX_needIn m (0 : Int32) (999 : Int32) (s2.2) _ es3 bb (by omega)).trans (fs2_2 bb hb)
  rcases g_ifo hr with ⟨q0, hr⟩ | ⟨q0, hr⟩
  rotate_left
  · cases hr; exact fun bb hb => fs3_2 bb hb
  obtain ⟨s4, es4, hr⟩ := g_bd hr
  have fs4 : ∀ bb, ¬ (bb = 0 ∨ bb = 15 ∨ bb = 18 ∨ (39 ≤ bb ∧ bb ≤ 43)) → s4 bb = M bb := fun bb hb => (w_FA_solve hoops m (s3.2) _ es4 bb (by omega)).trans (fs3_2 bb hb)
  cases hr; exact fun bb hb => fs4 bb hb
set_option maxRecDepth 20000 in
theorem w_FX_fits (what : Int32) (M : gM) (R : Nat × Int32 × gM) (hr : FX_fits what M = some R) : ∀ bb, ¬ (bb = 0 ∨ bb = 15 ∨ bb = 18 ∨ (44 ≤ bb ∧ bb ≤ 45)) → R.2.2 bb = M bb := by
  unfold FX_fits at hr
  obtain ⟨s1, es1, hr⟩ := g_bd hr
  have fs1_2 : ∀ bb, ¬ (bb = 0 ∨ bb = 15 ∨ bb = 18 ∨ (44 ≤ bb ∧ bb ≤ 45)) → s1.2 bb = M bb := fun bb hb => (w_FX_needIn what (0 : Int32) (1 : Int32) M _ es1 bb (by omega))
  rcases g_ifo hr with ⟨q0, hr⟩ | ⟨q0, hr⟩
  rotate_left
  · cases hr; exact fun bb hb => fs1_2 bb hb
  obtain ⟨s2, es2, hr⟩ := g_bd hr
  have fs2 : ∀ bb, ¬ (bb = 0 ∨ bb = 15 ∨ bb = 18 ∨ (44 ≤ bb ∧ bb ≤ 45)) → s2 bb = M bb := fun bb hb => (w_FU_findFits (s1.2) _ es2 bb (by omega)).trans (fs1_2 bb hb)
  rcases g_ifo hr with ⟨h3, hr⟩ | ⟨h3, hr⟩
  ·
    cases hr; exact fun bb hb => fs2 bb hb
  ·
    cases hr; exact fun bb hb => fs2 bb hb
set_option maxRecDepth 20000 in
theorem w_FX_listen (what : Int32) (M : gM) (R : Nat × Int32 × gM) (hr : FX_listen what M = some R) : ∀ bb, ¬ (bb = 0 ∨ bb = 15 ∨ bb = 18 ∨ (44 ≤ bb ∧ bb ≤ 46)) → R.2.2 bb = M bb := by
  unfold FX_listen at hr
  obtain ⟨s1, es1, hr⟩ := g_bd hr
  have fs1_2 : ∀ bb, ¬ (bb = 0 ∨ bb = 15 ∨ bb = 18 ∨ (44 ≤ bb ∧ bb ≤ 46)) → s1.2 bb = M bb := fun bb hb => (w_FX_needIn what (0 : Int32) (1 : Int32) M _ es1 bb (by omega))
  rcases g_ifo hr with ⟨q0, hr⟩ | ⟨q0, hr⟩
  rotate_left
  · cases hr; exact fun bb hb => fs1_2 bb hb
  obtain ⟨s2, es2, hr⟩ := g_bd hr
  have fs2 : ∀ bb, ¬ (bb = 0 ∨ bb = 15 ∨ bb = 18 ∨ (44 ≤ bb ∧ bb ≤ 46)) → s2 bb = M bb := fun bb hb => (w_FU_chooseGate (s1.2) _ es2 bb (by omega)).trans (fs1_2 bb hb)
  rcases g_ifo hr with ⟨h3, hr⟩ | ⟨h3, hr⟩
  ·
    cases hr; exact fun bb hb => fs2 bb hb
  ·
    cases hr; exact fun bb hb => fs2 bb hb
set_option maxRecDepth 20000 in
theorem w_FX_safe_L27 (walks : Int32) (part : Int32) : ∀ (k : Nat) (x3 : Int64) (x5 : Int64) (x7 : Int32) (M : gM) (R : Nat × Int64 × gM), FX_safe_L27 walks part k x3 x5 x7 M = some R → ∀ bb, ¬ (bb = 0) → R.2.2 bb = M bb := by
  intro k
  induction k with
  | zero => intro x3 x5 x7 M R hr; exact nomatch (show (none : Option (Nat × Int64 × gM)) = some R from hr)
  | succ k ih =>
    intro x3 x5 x7 M R hr
    unfold FX_safe_L27 at hr
    rcases g_ifo hr with ⟨h1, hr⟩ | ⟨h1, hr⟩
    ·
      obtain ⟨s2, es2, hr⟩ := g_bd hr
      cases hr; exact fun bb hb => rfl
    ·
      rcases g_ifo hr with ⟨h5, hr⟩ | ⟨h5, hr⟩
      ·
        exact fun bb hb => (ih x3 x5 (x7 + (1 : Int32)) M _ hr bb hb)
      ·
        exact fun bb hb => (ih (x3 * (((16 : Int32) - (r_at (M 5) 8 x7)).toInt64)) (x5 * (16 : Int64)) (x7 + (1 : Int32)) M _ hr bb hb)
set_option maxRecDepth 20000 in
theorem w_FX_safe (walks : Int32) (part : Int32) (M : gM) (R : Nat × Int64 × gM) (hr : FX_safe walks part M = some R) : ∀ bb, ¬ (bb = 0) → R.2.2 bb = M bb := by
  unfold FX_safe at hr
  obtain ⟨s1, es1, hr⟩ := g_bd hr
  have fs1_2 : ∀ bb, ¬ (bb = 0) → s1.2 bb = M bb := fun bb hb => (w_FX_needBits walks (M 3 5) M _ es1 bb (by omega))
  rcases g_ifo hr with ⟨q0, hr⟩ | ⟨q0, hr⟩
  rotate_left
  · cases hr; exact fun bb hb => fs1_2 bb hb
  obtain ⟨s2, es2, hr⟩ := g_bd hr
  have fs2_2 : ∀ bb, ¬ (bb = 0) → s2.2 bb = M bb := fun bb hb => (w_FX_needIn part (0 : Int32) (1 : Int32) (s1.2) _ es2 bb (by omega)).trans (fs1_2 bb hb)
  rcases g_ifo hr with ⟨q0, hr⟩ | ⟨q0, hr⟩
  rotate_left
  · cases hr; exact fun bb hb => fs2_2 bb hb
  exact fun bb hb => (w_FX_safe_L27 walks part 1000 (1 : Int64) (1 : Int64) (0 : Int32) (s2.2) _ hr bb hb).trans (fs2_2 bb hb)
set_option maxRecDepth 20000 in
theorem w_FX_mean_L20 (n : Int32) (part : Int32) : ∀ (k : Nat) (x3 : Int64) (x5 : Int32) (M : gM) (R : Nat × Int32 × gM), FX_mean_L20 n part k x3 x5 M = some R → ∀ bb, ¬ (bb = 0) → R.2.2 bb = M bb := by
  intro k
  induction k with
  | zero => intro x3 x5 M R hr; exact nomatch (show (none : Option (Nat × Int32 × gM)) = some R from hr)
  | succ k ih =>
    intro x3 x5 M R hr
    unfold FX_mean_L20 at hr
    rcases g_ifo hr with ⟨h1, hr⟩ | ⟨h1, hr⟩
    ·
      obtain ⟨s2, es2, hr⟩ := g_bd hr
      cases hr; exact fun bb hb => rfl
    ·
      exact fun bb hb => (ih (x3 + (n.toInt64 * ((r_at (M 5) 8 x5).toInt64))) (x5 + (1 : Int32)) M _ hr bb hb)
set_option maxRecDepth 20000 in
theorem w_FX_mean (n : Int32) (part : Int32) (M : gM) (R : Nat × Int32 × gM) (hr : FX_mean n part M = some R) : ∀ bb, ¬ (bb = 0) → R.2.2 bb = M bb := by
  unfold FX_mean at hr
  obtain ⟨s1, es1, hr⟩ := g_bd hr
  have fs1_2 : ∀ bb, ¬ (bb = 0) → s1.2 bb = M bb := fun bb hb => (w_FX_needIn n (0 : Int32) (99 : Int32) M _ es1 bb (by omega))
  rcases g_ifo hr with ⟨q0, hr⟩ | ⟨q0, hr⟩
  rotate_left
  · cases hr; exact fun bb hb => fs1_2 bb hb
  obtain ⟨s2, es2, hr⟩ := g_bd hr
  have fs2_2 : ∀ bb, ¬ (bb = 0) → s2.2 bb = M bb := fun bb hb => (w_FX_needIn part (0 : Int32) (1 : Int32) (s1.2) _ es2 bb (by omega)).trans (fs1_2 bb hb)
  rcases g_ifo hr with ⟨q0, hr⟩ | ⟨q0, hr⟩
  rotate_left
  · cases hr; exact fun bb hb => fs2_2 bb hb
  exact fun bb hb => (w_FX_mean_L20 n part 1000 (0 : Int64) (0 : Int32) (s2.2) _ hr bb hb).trans (fs2_2 bb hb)
set_option maxRecDepth 20000 in
theorem w_FX_stands_L32 (q : Int32) (n : Int32) (part : Int32) : ∀ (k : Nat) (x4 : Int64) (x6 : Int64) (x8 : Int32) (M : gM) (R : Nat × Int64 × gM), FX_stands_L32 q n part k x4 x6 x8 M = some R → ∀ bb, ¬ (bb = 0) → R.2.2 bb = M bb := by
  intro k
  induction k with
  | zero => intro x4 x6 x8 M R hr; exact nomatch (show (none : Option (Nat × Int64 × gM)) = some R from hr)
  | succ k ih =>
    intro x4 x6 x8 M R hr
    unfold FX_stands_L32 at hr
    rcases g_ifo hr with ⟨h1, hr⟩ | ⟨h1, hr⟩
    ·
      obtain ⟨s2, es2, hr⟩ := g_bd hr
      cases hr; exact fun bb hb => rfl
    ·
      exact fun bb hb => (ih (x4 * (((16 : Int32) - q).toInt64)) (x6 * (16 : Int64)) (x8 + (1 : Int32)) M _ hr bb hb)
set_option maxRecDepth 20000 in
theorem w_FX_stands (q : Int32) (n : Int32) (part : Int32) (M : gM) (R : Nat × Int64 × gM) (hr : FX_stands q n part M = some R) : ∀ bb, ¬ (bb = 0) → R.2.2 bb = M bb := by
  unfold FX_stands at hr
  obtain ⟨s1, es1, hr⟩ := g_bd hr
  have fs1_2 : ∀ bb, ¬ (bb = 0) → s1.2 bb = M bb := fun bb hb => (w_FX_needIn q (0 : Int32) (16 : Int32) M _ es1 bb (by omega))
  rcases g_ifo hr with ⟨q0, hr⟩ | ⟨q0, hr⟩
  rotate_left
  · cases hr; exact fun bb hb => fs1_2 bb hb
  obtain ⟨s2, es2, hr⟩ := g_bd hr
  have fs2_2 : ∀ bb, ¬ (bb = 0) → s2.2 bb = M bb := fun bb hb => (w_FX_needIn n (0 : Int32) (12 : Int32) (s1.2) _ es2 bb (by omega)).trans (fs1_2 bb hb)
  rcases g_ifo hr with ⟨q0, hr⟩ | ⟨q0, hr⟩
  rotate_left
  · cases hr; exact fun bb hb => fs2_2 bb hb
  obtain ⟨s3, es3, hr⟩ := g_bd hr
  have fs3_2 : ∀ bb, ¬ (bb = 0) → s3.2 bb = M bb := fun bb hb => (w_FX_needIn part (0 : Int32) (1 : Int32) (s2.2) _ es3 bb (by omega)).trans (fs2_2 bb hb)
  rcases g_ifo hr with ⟨q0, hr⟩ | ⟨q0, hr⟩
  rotate_left
  · cases hr; exact fun bb hb => fs3_2 bb hb
  exact fun bb hb => (w_FX_stands_L32 q n part 1000 (1 : Int64) (1 : Int64) (0 : Int32) (s3.2) _ hr bb hb).trans (fs3_2 bb hb)
set_option maxRecDepth 20000 in
theorem w_FX_cover_J58 (walks : Int32) (c25 : Int32 → Int32 → gM → Option (Nat × Int32 × gM)) (gc25 : ∀ (x2 : Int32) (x3 : Int32) (M : gM) (R : Nat × Int32 × gM), c25 x2 x3 M = some R → ∀ bb, ¬ (bb = 0) → R.2.2 bb = M bb) (x2 : Int32) (x3 : Int32) (y0 : Int32) (M : gM) (R : Nat × Int32 × gM) (hr : FX_cover_J58 walks c25 x2 x3 y0 M = some R) : ∀ bb, ¬ (bb = 0) → R.2.2 bb = M bb := by
  unfold FX_cover_J58 at hr
  rcases g_ifo hr with ⟨h1, hr⟩ | ⟨h1, hr⟩
  ·
    exact fun bb hb => (gc25 x2 (x3 + (1 : Int32)) M _ hr bb hb)
  ·
    rcases g_ifo hr with ⟨h2, hr⟩ | ⟨h2, hr⟩
    ·
      exact fun bb hb => (gc25 x2 (x3 + (1 : Int32)) M _ hr bb hb)
    ·
      exact fun bb hb => (gc25 x3 (x3 + (1 : Int32)) M _ hr bb hb)
set_option maxRecDepth 20000 in
theorem w_FX_cover_L25 (walks : Int32) : ∀ (k : Nat) (x2 : Int32) (x3 : Int32) (M : gM) (R : Nat × Int32 × gM), FX_cover_L25 walks k x2 x3 M = some R → ∀ bb, ¬ (bb = 0) → R.2.2 bb = M bb := by
  intro k
  induction k with
  | zero => intro x2 x3 M R hr; exact nomatch (show (none : Option (Nat × Int32 × gM)) = some R from hr)
  | succ k ih =>
    intro x2 x3 M R hr
    unfold FX_cover_L25 at hr
    rcases g_ifo hr with ⟨h1, hr⟩ | ⟨h1, hr⟩
    ·
      cases hr; exact fun bb hb => rfl
    ·
      obtain ⟨s2, es2, hr⟩ := g_bd hr
      rcases g_ifo hr with ⟨h3, hr⟩ | ⟨h3, hr⟩
      ·
        exact fun bb hb => (w_FX_cover_J58 walks (FX_cover_L25 walks k) ih x2 x3 (1 : Int32) M _ hr bb hb)
      ·
        exact fun bb hb => (w_FX_cover_J58 walks (FX_cover_L25 walks k) ih x2 x3 (0 : Int32) M _ hr bb hb)
set_option maxRecDepth 20000 in
theorem w_FX_cover (walks : Int32) (M : gM) (R : Nat × Int32 × gM) (hr : FX_cover walks M = some R) : ∀ bb, ¬ (bb = 0) → R.2.2 bb = M bb := by
  unfold FX_cover at hr
  obtain ⟨s1, es1, hr⟩ := g_bd hr
  have fs1_2 : ∀ bb, ¬ (bb = 0) → s1.2 bb = M bb := fun bb hb => (w_FX_needBits walks (M 3 5) M _ es1 bb (by omega))
  rcases g_ifo hr with ⟨q0, hr⟩ | ⟨q0, hr⟩
  rotate_left
  · cases hr; exact fun bb hb => fs1_2 bb hb
  exact fun bb hb => (w_FX_cover_L25 walks 1000 (F_allOf ((s1.2) 3 5)) (0 : Int32) (s1.2) _ hr bb hb).trans (fs1_2 bb hb)
set_option maxRecDepth 20000 in
theorem w_FX_watch_L23 (n : Int32) (what : Int32) : ∀ (k : Nat) (x3 : Int32) (x4 : Int32) (x5 : Int32) (M : gM) (R : Nat × Int32 × gM), FX_watch_L23 n what k x3 x4 x5 M = some R → ∀ bb, ¬ (bb = 0) → R.2.2 bb = M bb := by
  intro k
  induction k with
  | zero => intro x3 x4 x5 M R hr; exact nomatch (show (none : Option (Nat × Int32 × gM)) = some R from hr)
  | succ k ih =>
    intro x3 x4 x5 M R hr
    unfold FX_watch_L23 at hr
    rcases g_ifo hr with ⟨h1, hr⟩ | ⟨h1, hr⟩
    ·
      rcases g_ifo hr with ⟨h2, hr⟩ | ⟨h2, hr⟩
      ·
        cases hr; exact fun bb hb => rfl
      ·
        cases hr; exact fun bb hb => rfl
    ·
      obtain ⟨s3, es3, hr⟩ := g_bd hr
      obtain ⟨s4, es4, hr⟩ := g_bd hr
      rcases g_ifo hr with ⟨h5, hr⟩ | ⟨h5, hr⟩
      ·
        rcases g_ifo hr with ⟨h6, hr⟩ | ⟨h6, hr⟩
        ·
          exact fun bb hb => (ih x3 x4 (x5 + (1 : Int32)) M _ hr bb hb)
        ·
          exact fun bb hb => (ih x5 s4 (x5 + (1 : Int32)) M _ hr bb hb)
      ·
        exact fun bb hb => (ih x3 x4 (x5 + (1 : Int32)) M _ hr bb hb)
set_option maxRecDepth 20000 in
theorem w_FX_watch (n : Int32) (what : Int32) (M : gM) (R : Nat × Int32 × gM) (hr : FX_watch n what M = some R) : ∀ bb, ¬ (bb = 0) → R.2.2 bb = M bb := by
  unfold FX_watch at hr
  obtain ⟨s1, es1, hr⟩ := g_bd hr
  have fs1_2 : ∀ bb, ¬ (bb = 0) → s1.2 bb = M bb := fun bb hb => (w_FX_needIn n (0 : Int32) (8 : Int32) M _ es1 bb (by omega))
  rcases g_ifo hr with ⟨q0, hr⟩ | ⟨q0, hr⟩
  rotate_left
  · cases hr; exact fun bb hb => fs1_2 bb hb
  obtain ⟨s2, es2, hr⟩ := g_bd hr
  have fs2_2 : ∀ bb, ¬ (bb = 0) → s2.2 bb = M bb := fun bb hb => (w_FX_needIn what (0 : Int32) (1 : Int32) (s1.2) _ es2 bb (by omega)).trans (fs1_2 bb hb)
  rcases g_ifo hr with ⟨q0, hr⟩ | ⟨q0, hr⟩
  rotate_left
  · cases hr; exact fun bb hb => fs2_2 bb hb
  exact fun bb hb => (w_FX_watch_L23 n what 1000 (-1 : Int32) (-1 : Int32) (0 : Int32) (s2.2) _ hr bb hb).trans (fs2_2 bb hb)
set_option maxRecDepth 20000 in
theorem w_FX_toffee_L61 (h : Int32) (k0 : Int32) (what : Int32) (c52 : Int32 → Int32 → Int32 → Int32 → Int32 → gM → Option (Nat × Int32 × gM)) (gc52 : ∀ (x4 : Int32) (x5 : Int32) (x6 : Int32) (x7 : Int32) (x8 : Int32) (M : gM) (R : Nat × Int32 × gM), c52 x4 x5 x6 x7 x8 M = some R → ∀ bb, ¬ (bb = 0) → R.2.2 bb = M bb) : ∀ (k : Nat) (x4 : Int32) (x5 : Int32) (x6 : Int32) (x7 : Int32) (x8 : Int32) (x9 : Int32) (M : gM) (R : Nat × Int32 × gM), FX_toffee_L61 h k0 what c52 k x4 x5 x6 x7 x8 x9 M = some R → ∀ bb, ¬ (bb = 0) → R.2.2 bb = M bb := by
  intro k
  induction k with
  | zero => intro x4 x5 x6 x7 x8 x9 M R hr; exact nomatch (show (none : Option (Nat × Int32 × gM)) = some R from hr)
  | succ k ih =>
    intro x4 x5 x6 x7 x8 x9 M R hr
    unfold FX_toffee_L61 at hr
    rcases g_ifo hr with ⟨h1, hr⟩ | ⟨h1, hr⟩
    ·
      exact fun bb hb => (gc52 x4 x5 x6 x7 (x8 + (1 : Int32)) M _ hr bb hb)
    ·
      obtain ⟨s2, es2, hr⟩ := g_bd hr
      rcases g_ifo hr with ⟨h4, hr⟩ | ⟨h4, hr⟩
      ·
        exact fun bb hb => (ih x4 x5 x6 x7 x8 (x9 + (1 : Int32)) M _ hr bb hb)
      ·
        rcases g_ifo hr with ⟨h5, hr⟩ | ⟨h5, hr⟩
        ·
          exact fun bb hb => (ih x4 (x5 + (1 : Int32)) (((10 : Int32) * x8) + x9) ((FX_gain x4 x8 x9) + (FX_gain x4 x9 x8)) x8 (x9 + (1 : Int32)) M _ hr bb hb)
        ·
          exact fun bb hb => (ih x4 (x5 + (1 : Int32)) x6 x7 x8 (x9 + (1 : Int32)) M _ hr bb hb)
set_option maxRecDepth 20000 in
theorem w_FX_toffee_L52 (h : Int32) (k0 : Int32) (what : Int32) : ∀ (k : Nat) (x4 : Int32) (x5 : Int32) (x6 : Int32) (x7 : Int32) (x8 : Int32) (M : gM) (R : Nat × Int32 × gM), FX_toffee_L52 h k0 what k x4 x5 x6 x7 x8 M = some R → ∀ bb, ¬ (bb = 0) → R.2.2 bb = M bb := by
  intro k
  induction k with
  | zero => intro x4 x5 x6 x7 x8 M R hr; exact nomatch (show (none : Option (Nat × Int32 × gM)) = some R from hr)
  | succ k ih =>
    intro x4 x5 x6 x7 x8 M R hr
    unfold FX_toffee_L52 at hr
    rcases g_ifo hr with ⟨h1, hr⟩ | ⟨h1, hr⟩
    ·
      rcases g_ifo hr with ⟨h2, hr⟩ | ⟨h2, hr⟩
      ·
        cases hr; exact fun bb hb => rfl
      ·
        rcases g_ifo hr with ⟨h3, hr⟩ | ⟨h3, hr⟩
        ·
          cases hr; exact fun bb hb => rfl
        ·
          cases hr; exact fun bb hb => rfl
    ·
      exact fun bb hb => (w_FX_toffee_L61 h k0 what (FX_toffee_L52 h k0 what k) ih 1000 x4 x5 x6 x7 x8 (0 : Int32) M _ hr bb hb)
set_option maxRecDepth 20000 in
theorem w_FX_toffee (h : Int32) (k0 : Int32) (what : Int32) (M : gM) (R : Nat × Int32 × gM) (hr : FX_toffee h k0 what M = some R) : ∀ bb, ¬ (bb = 0) → R.2.2 bb = M bb := by
  unfold FX_toffee at hr
  obtain ⟨s1, es1, hr⟩ := g_bd hr
  have fs1_2 : ∀ bb, ¬ (bb = 0) → s1.2 bb = M bb := fun bb hb => (w_FX_needOne h (M 3 7) M _ es1 bb (by omega))
  rcases g_ifo hr with ⟨q0, hr⟩ | ⟨q0, hr⟩
  rotate_left
  · cases hr; exact fun bb hb => fs1_2 bb hb
  obtain ⟨s2, es2, hr⟩ := g_bd hr
  have fs2_2 : ∀ bb, ¬ (bb = 0) → s2.2 bb = M bb := fun bb hb => (w_FX_needIn k0 (0 : Int32) (9 : Int32) (s1.2) _ es2 bb (by omega)).trans (fs1_2 bb hb)
  rcases g_ifo hr with ⟨q0, hr⟩ | ⟨q0, hr⟩
  rotate_left
  · cases hr; exact fun bb hb => fs2_2 bb hb
  obtain ⟨s3, es3, hr⟩ := g_bd hr
  have fs3_2 : ∀ bb, ¬ (bb = 0) → s3.2 bb = M bb := fun bb hb => (w_FX_needIn what (0 : Int32) (2 : Int32) (s2.2) _ es3 bb (by omega)).trans (fs2_2 bb hb)
  rcases g_ifo hr with ⟨q0, hr⟩ | ⟨q0, hr⟩
  rotate_left
  · cases hr; exact fun bb hb => fs3_2 bb hb
  exact fun bb hb => (w_FX_toffee_L52 h k0 what 1000 (r_at ((s3.2) 8) 8 h) (0 : Int32) (-1 : Int32) (0 : Int32) (0 : Int32) (s3.2) _ hr bb hb).trans (fs3_2 bb hb)
set_option maxRecDepth 20000 in
theorem w_FX_share (c : Int32) (children : Int32) (n : Int32) (M : gM) (R : Nat × Int32 × gM) (hr : FX_share c children n M = some R) : ∀ bb, ¬ (bb = 0) → R.2.2 bb = M bb := by
  unfold FX_share at hr
  obtain ⟨s1, es1, hr⟩ := g_bd hr
  have fs1_2 : ∀ bb, ¬ (bb = 0) → s1.2 bb = M bb := fun bb hb => (w_FX_needOne c (M 3 6) M _ es1 bb (by omega))
  rcases g_ifo hr with ⟨q0, hr⟩ | ⟨q0, hr⟩
  rotate_left
  · cases hr; exact fun bb hb => fs1_2 bb hb
  obtain ⟨s2, es2, hr⟩ := g_bd hr
  have fs2_2 : ∀ bb, ¬ (bb = 0) → s2.2 bb = M bb := fun bb hb => (w_FX_needBits children ((s1.2) 3 6) (s1.2) _ es2 bb (by omega)).trans (fs1_2 bb hb)
  rcases g_ifo hr with ⟨q0, hr⟩ | ⟨q0, hr⟩
  rotate_left
  · cases hr; exact fun bb hb => fs2_2 bb hb
  obtain ⟨s3, es3, hr⟩ := g_bd hr
  have fs3_2 : ∀ bb, ¬ (bb = 0) → s3.2 bb = M bb := fun bb hb => (w_FX_needIn n (0 : Int32) (99 : Int32) (s2.2) _ es3 bb (by omega)).trans (fs2_2 bb hb)
  rcases g_ifo hr with ⟨q0, hr⟩ | ⟨q0, hr⟩
  rotate_left
  · cases hr; exact fun bb hb => fs3_2 bb hb
  rcases g_ifo hr with ⟨h6, hr⟩ | ⟨h6, hr⟩
  ·
    cases hr; exact fun bb hb => fs3_2 bb hb
  ·
    obtain ⟨s7, es7, hr⟩ := g_bd hr
    cases hr; exact fun bb hb => fs3_2 bb hb
set_option maxRecDepth 20000 in
theorem w_FX_quickest_L27 (h : Int32) (what : Int32) : ∀ (k : Nat) (x3 : Int32) (x4 : Int32) (x5 : Int32) (M : gM) (R : Nat × Int32 × gM), FX_quickest_L27 h what k x3 x4 x5 M = some R → ∀ bb, ¬ (bb = 0 ∨ bb = 15 ∨ bb = 18) → R.2.2 bb = M bb := by
  intro k
  induction k with
  | zero => intro x3 x4 x5 M R hr; exact nomatch (show (none : Option (Nat × Int32 × gM)) = some R from hr)
  | succ k ih =>
    intro x3 x4 x5 M R hr
    unfold FX_quickest_L27 at hr
    rcases g_ifo hr with ⟨h1, hr⟩ | ⟨h1, hr⟩
    ·
      rcases g_ifo hr with ⟨h2, hr⟩ | ⟨h2, hr⟩
      ·
        cases hr; exact fun bb hb => rfl
      ·
        cases hr; exact fun bb hb => rfl
    ·
      obtain ⟨s3, es3, hr⟩ := g_bd hr
      have fs3_2 : ∀ bb, ¬ (bb = 0 ∨ bb = 15 ∨ bb = 18) → s3.2 bb = M bb := fun bb hb => (w_FB_longOf 48 h x5 M _ es3 bb (by omega))
      rcases g_ifo hr with ⟨h4, hr⟩ | ⟨h4, hr⟩
      ·
        exact fun bb hb => (ih x5 s3.1 (x5 + (1 : Int32)) (s3.2) _ hr bb hb).trans (fs3_2 bb hb)
      ·
        rcases g_ifo hr with ⟨h5, hr⟩ | ⟨h5, hr⟩
        ·
          exact fun bb hb => (ih x3 x4 (x5 + (1 : Int32)) (s3.2) _ hr bb hb).trans (fs3_2 bb hb)
        ·
          exact fun bb hb => (ih x5 s3.1 (x5 + (1 : Int32)) (s3.2) _ hr bb hb).trans (fs3_2 bb hb)
set_option maxRecDepth 20000 in
theorem w_FX_quickest (h : Int32) (what : Int32) (M : gM) (R : Nat × Int32 × gM) (hr : FX_quickest h what M = some R) : ∀ bb, ¬ (bb = 0 ∨ bb = 15 ∨ bb = 18) → R.2.2 bb = M bb := by
  unfold FX_quickest at hr
  obtain ⟨s1, es1, hr⟩ := g_bd hr
  have fs1_2 : ∀ bb, ¬ (bb = 0 ∨ bb = 15 ∨ bb = 18) → s1.2 bb = M bb := fun bb hb => (w_FX_needOne h (M 3 7) M _ es1 bb (by omega))
  rcases g_ifo hr with ⟨q0, hr⟩ | ⟨q0, hr⟩
  rotate_left
  · cases hr; exact fun bb hb => fs1_2 bb hb
  obtain ⟨s2, es2, hr⟩ := g_bd hr
  have fs2_2 : ∀ bb, ¬ (bb = 0 ∨ bb = 15 ∨ bb = 18) → s2.2 bb = M bb := fun bb hb => (w_FX_needIn what (0 : Int32) (1 : Int32) (s1.2) _ es2 bb (by omega)).trans (fs1_2 bb hb)
  rcases g_ifo hr with ⟨q0, hr⟩ | ⟨q0, hr⟩
  rotate_left
  · cases hr; exact fun bb hb => fs2_2 bb hb
  exact fun bb hb => (w_FX_quickest_L27 h what 1000 (-1 : Int32) (-1 : Int32) (0 : Int32) (s2.2) _ hr bb hb).trans (fs2_2 bb hb)
set_option maxRecDepth 20000 in
theorem w_FX_debtor_L14 (what : Int32) : ∀ (k : Nat) (x2 : Int32) (x3 : Int32) (x4 : Int32) (M : gM) (R : Nat × Int32 × gM), FX_debtor_L14 what k x2 x3 x4 M = some R → ∀ bb, ¬ (bb = 0) → R.2.2 bb = M bb := by
  intro k
  induction k with
  | zero => intro x2 x3 x4 M R hr; exact nomatch (show (none : Option (Nat × Int32 × gM)) = some R from hr)
  | succ k ih =>
    intro x2 x3 x4 M R hr
    unfold FX_debtor_L14 at hr
    rcases g_ifo hr with ⟨h1, hr⟩ | ⟨h1, hr⟩
    ·
      rcases g_ifo hr with ⟨h2, hr⟩ | ⟨h2, hr⟩
      ·
        cases hr; exact fun bb hb => rfl
      ·
        rcases g_ifo hr with ⟨h3, hr⟩ | ⟨h3, hr⟩
        ·
          cases hr; exact fun bb hb => rfl
        ·
          cases hr; exact fun bb hb => rfl
    ·
      rcases g_ifo hr with ⟨h4, hr⟩ | ⟨h4, hr⟩
      ·
        exact fun bb hb => (ih x2 x3 (x4 + (1 : Int32)) M _ hr bb hb)
      ·
        exact fun bb hb => (ih x4 (r_at (M 51) 8 x4) (x4 + (1 : Int32)) M _ hr bb hb)
set_option maxRecDepth 20000 in
theorem w_FX_debtor (what : Int32) (M : gM) (R : Nat × Int32 × gM) (hr : FX_debtor what M = some R) : ∀ bb, ¬ (bb = 0) → R.2.2 bb = M bb := by
  unfold FX_debtor at hr
  obtain ⟨s1, es1, hr⟩ := g_bd hr
  have fs1_2 : ∀ bb, ¬ (bb = 0) → s1.2 bb = M bb := fun bb hb => (w_FX_needIn what (0 : Int32) (1 : Int32) M _ es1 bb (by omega))
  rcases g_ifo hr with ⟨q0, hr⟩ | ⟨q0, hr⟩
  rotate_left
  · cases hr; exact fun bb hb => fs1_2 bb hb
  exact fun bb hb => (w_FX_debtor_L14 what 1000 (-1 : Int32) (0 : Int32) (0 : Int32) (s1.2) _ hr bb hb).trans (fs1_2 bb hb)
set_option maxRecDepth 20000 in
theorem w_FX_bowls_L40 (c : Int32) (n : Int32) : ∀ (k : Nat) (x3 : Int32) (x4 : Int32) (M : gM) (R : Nat × Int32 × gM), FX_bowls_L40 c n k x3 x4 M = some R → ∀ bb, ¬ (bb = 0 ∨ bb = 15 ∨ bb = 18 ∨ (32 ≤ bb ∧ bb ≤ 38)) → R.2.2 bb = M bb := by
  intro k
  induction k with
  | zero => intro x3 x4 M R hr; exact nomatch (show (none : Option (Nat × Int32 × gM)) = some R from hr)
  | succ k ih =>
    intro x3 x4 M R hr
    unfold FX_bowls_L40 at hr
    rcases g_ifo hr with ⟨h1, hr⟩ | ⟨h1, hr⟩
    ·
      cases hr; exact fun bb hb => rfl
    ·
      obtain ⟨s2, es2, hr⟩ := g_bd hr
      have fs2_2 : ∀ bb, ¬ (bb = 0 ∨ bb = 15 ∨ bb = 18 ∨ (32 ≤ bb ∧ bb ≤ 38)) → s2.2 bb = M bb := fun bb hb => (w_FG_goOn (0 : Int32) M _ es2 bb (by omega))
      rcases g_ifo hr with ⟨h4, hr⟩ | ⟨h4, hr⟩
      ·
        cases hr; exact fun bb hb => fs2_2 bb hb
      ·
        rcases g_ifo hr with ⟨h5, hr⟩ | ⟨h5, hr⟩
        ·
          exact fun bb hb => (ih (x3 + (1 : Int32)) (x4 + (1 : Int32)) (s2.2) _ hr bb hb).trans (fs2_2 bb hb)
        ·
          exact fun bb hb => (ih x3 (x4 + (1 : Int32)) (s2.2) _ hr bb hb).trans (fs2_2 bb hb)
set_option maxRecDepth 20000 in
theorem w_FX_bowls (c : Int32) (n : Int32) (M : gM) (R : Nat × Int32 × gM) (hr : FX_bowls c n M = some R) : ∀ bb, ¬ (bb = 0 ∨ bb = 15 ∨ bb = 18 ∨ (32 ≤ bb ∧ bb ≤ 38)) → R.2.2 bb = M bb := by
  unfold FX_bowls at hr
  obtain ⟨s1, es1, hr⟩ := g_bd hr
  have fs1_2 : ∀ bb, ¬ (bb = 0 ∨ bb = 15 ∨ bb = 18 ∨ (32 ≤ bb ∧ bb ≤ 38)) → s1.2 bb = M bb := fun bb hb => (w_FX_needOne c (M 3 6) M _ es1 bb (by omega))
  rcases g_ifo hr with ⟨q0, hr⟩ | ⟨q0, hr⟩
  rotate_left
  · cases hr; exact fun bb hb => fs1_2 bb hb
  obtain ⟨s2, es2, hr⟩ := g_bd hr
  have fs2_2 : ∀ bb, ¬ (bb = 0 ∨ bb = 15 ∨ bb = 18 ∨ (32 ≤ bb ∧ bb ≤ 38)) → s2.2 bb = M bb := fun bb hb => (w_FX_needIn n (0 : Int32) (200 : Int32) (s1.2) _ es2 bb (by omega)).trans (fs1_2 bb hb)
  rcases g_ifo hr with ⟨q0, hr⟩ | ⟨q0, hr⟩
  rotate_left
  · cases hr; exact fun bb hb => fs2_2 bb hb
  obtain ⟨s3, es3, hr⟩ := g_bd hr
  have fs3 : ∀ bb, ¬ (bb = 0 ∨ bb = 15 ∨ bb = 18 ∨ (32 ≤ bb ∧ bb ≤ 38)) → s3 bb = M bb := fun bb hb => (w_FG_start (s2.2) _ es3 bb (by omega)).trans (fs2_2 bb hb)
  exact fun bb hb => (w_FX_bowls_L40 c n 1000 (0 : Int32) (0 : Int32) s3 _ hr bb hb).trans (fs3 bb hb)
set_option maxRecDepth 20000 in
theorem w_FX_load_L16 (c : Int32) : ∀ (k : Nat) (x2 : Int32) (x3 : Int32) (M : gM) (R : Nat × Int32 × gM), FX_load_L16 c k x2 x3 M = some R → ∀ bb, ¬ (bb = 0) → R.2.2 bb = M bb := by
  intro k
  induction k with
  | zero => intro x2 x3 M R hr; exact nomatch (show (none : Option (Nat × Int32 × gM)) = some R from hr)
  | succ k ih =>
    intro x2 x3 M R hr
    unfold FX_load_L16 at hr
    rcases g_ifo hr with ⟨h1, hr⟩ | ⟨h1, hr⟩
    ·
      cases hr; exact fun bb hb => rfl
    ·
      rcases g_ifo hr with ⟨h2, hr⟩ | ⟨h2, hr⟩
      ·
        exact fun bb hb => (ih (x2 + (r_at (M 8) 8 x3)) (x3 + (1 : Int32)) M _ hr bb hb)
      ·
        exact fun bb hb => (ih x2 (x3 + (1 : Int32)) M _ hr bb hb)
set_option maxRecDepth 20000 in
theorem w_FX_load (c : Int32) (M : gM) (R : Nat × Int32 × gM) (hr : FX_load c M = some R) : ∀ bb, ¬ (bb = 0) → R.2.2 bb = M bb := by
  unfold FX_load at hr
  obtain ⟨s1, es1, hr⟩ := g_bd hr
  have fs1_2 : ∀ bb, ¬ (bb = 0) → s1.2 bb = M bb := fun bb hb => (w_FX_needOne c (M 3 6) M _ es1 bb (by omega))
  rcases g_ifo hr with ⟨q0, hr⟩ | ⟨q0, hr⟩
  rotate_left
  · cases hr; exact fun bb hb => fs1_2 bb hb
  exact fun bb hb => (w_FX_load_L16 c 1000 (0 : Int32) (0 : Int32) (s1.2) _ hr bb hb).trans (fs1_2 bb hb)
set_option maxRecDepth 20000 in
theorem w_FX_slowest_J71 (what : Int32) (c14 : Int32 → Int32 → Int32 → gM → Option (Nat × Int32 × gM)) (gc14 : ∀ (x2 : Int32) (x3 : Int32) (x4 : Int32) (M : gM) (R : Nat × Int32 × gM), c14 x2 x3 x4 M = some R → ∀ bb, ¬ (bb = 0 ∨ bb = 15 ∨ bb = 18) → R.2.2 bb = M bb) (x2 : Int32) (x3 : Int32) (x4 : Int32) (y0 : Int32) (M : gM) (R : Nat × Int32 × gM) (hr : FX_slowest_J71 what c14 x2 x3 x4 y0 M = some R) : ∀ bb, ¬ (bb = 0 ∨ bb = 15 ∨ bb = 18) → R.2.2 bb = M bb := by
  unfold FX_slowest_J71 at hr
  rcases g_ifo hr with ⟨h1, hr⟩ | ⟨h1, hr⟩
  ·
    exact fun bb hb => (gc14 x2 x3 (x4 + (1 : Int32)) M _ hr bb hb)
  ·
    exact fun bb hb => (gc14 x4 y0 (x4 + (1 : Int32)) M _ hr bb hb)
set_option maxRecDepth 20000 in
theorem w_FX_slowest_L14 (what : Int32) : ∀ (k : Nat) (x2 : Int32) (x3 : Int32) (x4 : Int32) (M : gM) (R : Nat × Int32 × gM), FX_slowest_L14 what k x2 x3 x4 M = some R → ∀ bb, ¬ (bb = 0 ∨ bb = 15 ∨ bb = 18) → R.2.2 bb = M bb := by
  intro k
  induction k with
  | zero => intro x2 x3 x4 M R hr; exact nomatch (show (none : Option (Nat × Int32 × gM)) = some R from hr)
  | succ k ih =>
    intro x2 x3 x4 M R hr
    unfold FX_slowest_L14 at hr
    rcases g_ifo hr with ⟨h1, hr⟩ | ⟨h1, hr⟩
    ·
      rcases g_ifo hr with ⟨h2, hr⟩ | ⟨h2, hr⟩
      ·
        cases hr; exact fun bb hb => rfl
      ·
        cases hr; exact fun bb hb => rfl
    ·
      rcases g_ifo hr with ⟨h3, hr⟩ | ⟨h3, hr⟩
      ·
        exact fun bb hb => (w_FX_slowest_J71 what (FX_slowest_L14 what k) ih x2 x3 x4 (-1 : Int32) M _ hr bb hb)
      ·
        obtain ⟨s4, es4, hr⟩ := g_bd hr
        have fs4_2 : ∀ bb, ¬ (bb = 0 ∨ bb = 15 ∨ bb = 18) → s4.2 bb = M bb := fun bb hb => (w_FB_longOf 48 x4 (r_at (M 52) 8 x4) M _ es4 bb (by omega))
        exact fun bb hb => (w_FX_slowest_J71 what (FX_slowest_L14 what k) ih x2 x3 x4 s4.1 (s4.2) _ hr bb hb).trans (fs4_2 bb hb)
set_option maxRecDepth 20000 in
theorem w_FX_slowest (what : Int32) (M : gM) (R : Nat × Int32 × gM) (hr : FX_slowest what M = some R) : ∀ bb, ¬ (bb = 0 ∨ bb = 15 ∨ bb = 18) → R.2.2 bb = M bb := by
  unfold FX_slowest at hr
  obtain ⟨s1, es1, hr⟩ := g_bd hr
  have fs1_2 : ∀ bb, ¬ (bb = 0 ∨ bb = 15 ∨ bb = 18) → s1.2 bb = M bb := fun bb hb => (w_FX_needIn what (0 : Int32) (1 : Int32) M _ es1 bb (by omega))
  rcases g_ifo hr with ⟨q0, hr⟩ | ⟨q0, hr⟩
  rotate_left
  · cases hr; exact fun bb hb => fs1_2 bb hb
  exact fun bb hb => (w_FX_slowest_L14 what 1000 (-1 : Int32) (-1 : Int32) (0 : Int32) (s1.2) _ hr bb hb).trans (fs1_2 bb hb)
set_option maxRecDepth 20000 in
theorem w_FX_days (seed : Int32) (many : Int32) (q : Int32) (what : Int32) (M : gM) (R : Nat × Int32 × gM) (hr : FX_days seed many q what M = some R) : ∀ bb, ¬ (bb = 0 ∨ bb = 15 ∨ bb = 18 ∨ (32 ≤ bb ∧ bb ≤ 38)) → R.2.2 bb = M bb := by
  unfold FX_days at hr
  obtain ⟨s1, es1, hr⟩ := g_bd hr
  have fs1_2 : ∀ bb, ¬ (bb = 0 ∨ bb = 15 ∨ bb = 18 ∨ (32 ≤ bb ∧ bb ≤ 38)) → s1.2 bb = M bb := fun bb hb => (w_FX_needIn many (1 : Int32) (200 : Int32) M _ es1 bb (by omega))
  rcases g_ifo hr with ⟨q0, hr⟩ | ⟨q0, hr⟩
  rotate_left
  · cases hr; exact fun bb hb => fs1_2 bb hb
  obtain ⟨s2, es2, hr⟩ := g_bd hr
  have fs2_2 : ∀ bb, ¬ (bb = 0 ∨ bb = 15 ∨ bb = 18 ∨ (32 ≤ bb ∧ bb ≤ 38)) → s2.2 bb = M bb := fun bb hb => (w_FX_needIn q (0 : Int32) (16 : Int32) (s1.2) _ es2 bb (by omega)).trans (fs1_2 bb hb)
  rcases g_ifo hr with ⟨q0, hr⟩ | ⟨q0, hr⟩
  rotate_left
  · cases hr; exact fun bb hb => fs2_2 bb hb
  obtain ⟨s3, es3, hr⟩ := g_bd hr
  have fs3_2 : ∀ bb, ¬ (bb = 0 ∨ bb = 15 ∨ bb = 18 ∨ (32 ≤ bb ∧ bb ≤ 38)) → s3.2 bb = M bb := fun bb hb => (w_FX_needIn what (0 : Int32) (3 : Int32) (s2.2) _ es3 bb (by omega)).trans (fs2_2 bb hb)
  rcases g_ifo hr with ⟨q0, hr⟩ | ⟨q0, hr⟩
  rotate_left
  · cases hr; exact fun bb hb => fs3_2 bb hb
  obtain ⟨s4, es4, hr⟩ := g_bd hr
  have fs4 : ∀ bb, ¬ (bb = 0 ∨ bb = 15 ∨ bb = 18 ∨ (32 ≤ bb ∧ bb ≤ 38)) → s4 bb = M bb := fun bb hb => (w_FG_passDays seed many q (s3.2) _ es4 bb (by omega)).trans (fs3_2 bb hb)
  rcases g_ifo hr with ⟨h5, hr⟩ | ⟨h5, hr⟩
  ·
    cases hr; exact fun bb hb => fs4 bb hb
  rcases g_ifo hr with ⟨h6, hr⟩ | ⟨h6, hr⟩
  ·
    cases hr; exact fun bb hb => fs4 bb hb
  rcases g_ifo hr with ⟨h7, hr⟩ | ⟨h7, hr⟩
  ·
    cases hr; exact fun bb hb => fs4 bb hb
  obtain ⟨s8, es8, hr⟩ := g_bd hr
  obtain ⟨s9, es9, hr⟩ := g_bd hr
  cases hr; exact fun bb hb => fs4 bb hb
set_option maxRecDepth 20000 in
theorem w_FX_span_L48 (seed : Int32) (seeds : Int32) (many : Int32) (q : Int32) (what : Int32) : ∀ (k : Nat) (x6 : Int32) (x7 : Int32) (x8 : Int32) (x9 : Int32) (M : gM) (R : Nat × Int32 × gM), FX_span_L48 seed seeds many q what k x6 x7 x8 x9 M = some R → ∀ bb, ¬ (bb = 0 ∨ bb = 15 ∨ bb = 18 ∨ (32 ≤ bb ∧ bb ≤ 38)) → R.2.2 bb = M bb := by
  intro k
  induction k with
  | zero => intro x6 x7 x8 x9 M R hr; exact nomatch (show (none : Option (Nat × Int32 × gM)) = some R from hr)
  | succ k ih =>
    intro x6 x7 x8 x9 M R hr
    unfold FX_span_L48 at hr
    rcases g_ifo hr with ⟨h1, hr⟩ | ⟨h1, hr⟩
    ·
      rcases g_ifo hr with ⟨h2, hr⟩ | ⟨h2, hr⟩
      ·
        cases hr; exact fun bb hb => rfl
      ·
        rcases g_ifo hr with ⟨h3, hr⟩ | ⟨h3, hr⟩
        ·
          cases hr; exact fun bb hb => rfl
        ·
          cases hr; exact fun bb hb => rfl
    ·
      obtain ⟨s4, es4, hr⟩ := g_bd hr
      have fs4 : ∀ bb, ¬ (bb = 0 ∨ bb = 15 ∨ bb = 18 ∨ (32 ≤ bb ∧ bb ≤ 38)) → s4 bb = M bb := fun bb hb => (w_FG_passDays (seed + x9) many q M _ es4 bb (by omega))
      rcases g_ifo hr with ⟨h5, hr⟩ | ⟨h5, hr⟩
      ·
        exact fun bb hb => (ih (m_min x6 (s4 32 3)) (m_max x7 (s4 32 3)) (x8 + (1 : Int32)) (x9 + (1 : Int32)) s4 _ hr bb hb).trans (fs4 bb hb)
      ·
        exact fun bb hb => (ih (m_min x6 (s4 32 3)) (m_max x7 (s4 32 3)) (x8 + (0 : Int32)) (x9 + (1 : Int32)) s4 _ hr bb hb).trans (fs4 bb hb)
set_option maxRecDepth 20000 in
theorem w_FX_span (seed : Int32) (seeds : Int32) (many : Int32) (q : Int32) (what : Int32) (M : gM) (R : Nat × Int32 × gM) (hr : FX_span seed seeds many q what M = some R) : ∀ bb, ¬ (bb = 0 ∨ bb = 15 ∨ bb = 18 ∨ (32 ≤ bb ∧ bb ≤ 38)) → R.2.2 bb = M bb := by
  unfold FX_span at hr
  obtain ⟨s1, es1, hr⟩ := g_bd hr
  have fs1_2 : ∀ bb, ¬ (bb = 0 ∨ bb = 15 ∨ bb = 18 ∨ (32 ≤ bb ∧ bb ≤ 38)) → s1.2 bb = M bb := fun bb hb => (w_FX_needIn seeds (1 : Int32) (20 : Int32) M _ es1 bb (by omega))
  rcases g_ifo hr with ⟨q0, hr⟩ | ⟨q0, hr⟩
  rotate_left
  · cases hr; exact fun bb hb => fs1_2 bb hb
  obtain ⟨s2, es2, hr⟩ := g_bd hr
  have fs2_2 : ∀ bb, ¬ (bb = 0 ∨ bb = 15 ∨ bb = 18 ∨ (32 ≤ bb ∧ bb ≤ 38)) → s2.2 bb = M bb := fun bb hb => (w_FX_needIn many (1 : Int32) (200 : Int32) (s1.2) _ es2 bb (by omega)).trans (fs1_2 bb hb)
  rcases g_ifo hr with ⟨q0, hr⟩ | ⟨q0, hr⟩
  rotate_left
  · cases hr; exact fun bb hb => fs2_2 bb hb
  obtain ⟨s3, es3, hr⟩ := g_bd hr
  have fs3_2 : ∀ bb, ¬ (bb = 0 ∨ bb = 15 ∨ bb = 18 ∨ (32 ≤ bb ∧ bb ≤ 38)) → s3.2 bb = M bb := fun bb hb => (w_FX_needIn q (0 : Int32) (16 : Int32) (s2.2) _ es3 bb (by omega)).trans (fs2_2 bb hb)
  rcases g_ifo hr with ⟨q0, hr⟩ | ⟨q0, hr⟩
  rotate_left
  · cases hr; exact fun bb hb => fs3_2 bb hb
  obtain ⟨s4, es4, hr⟩ := g_bd hr
  have fs4_2 : ∀ bb, ¬ (bb = 0 ∨ bb = 15 ∨ bb = 18 ∨ (32 ≤ bb ∧ bb ≤ 38)) → s4.2 bb = M bb := fun bb hb => (w_FX_needIn what (0 : Int32) (2 : Int32) (s3.2) _ es4 bb (by omega)).trans (fs3_2 bb hb)
  rcases g_ifo hr with ⟨q0, hr⟩ | ⟨q0, hr⟩
  rotate_left
  · cases hr; exact fun bb hb => fs4_2 bb hb
  exact fun bb hb => (w_FX_span_L48 seed seeds many q what 1000 (1000000000 : Int32) (0 : Int32) (0 : Int32) (0 : Int32) (s4.2) _ hr bb hb).trans (fs4_2 bb hb)
set_option maxRecDepth 20000 in
theorem w_FX_image  (M : gM) (R : Int32 × gM) (hr : FX_image M = some R) : ∀ bb, ¬ (bb = 0 ∨ (152 ≤ bb ∧ bb ≤ 463)) → R.2 bb = M bb := by
  unfold FX_image at hr
  rcases g_ifo hr with ⟨h1, hr⟩ | ⟨h1, hr⟩
  ·
    cases hr; exact fun bb hb => rfl
  ·
    rcases g_ifo hr with ⟨h2, hr⟩ | ⟨h2, hr⟩
    ·
      obtain ⟨j3, ej3, ij3, lj3, hr⟩ := g_ixo hr
      obtain ⟨s4, es4, hr⟩ := g_bd hr
      have fs4 : ∀ bb, ¬ (bb = 0 ∨ (152 ≤ bb ∧ bb ≤ 463)) → s4 bb = M bb := fun bb hb => (w_FH_copy (152 + 104 * j3) 47 M _ es4 bb (by omega))
      cases hr; exact fun bb hb => (g_set_ne (by omega)).trans (fs4 bb hb)
    ·
      cases hr; exact fun bb hb => rfl
set_option maxRecDepth 20000 in
theorem w_FX_restore  (M : gM) (R : Int32 × gM) (hr : FX_restore M = some R) : ∀ bb, ¬ (bb = 0 ∨ (47 ≤ bb ∧ bb ≤ 53) ∨ (55 ≤ bb ∧ bb ≤ 150)) → R.2 bb = M bb := by
  unfold FX_restore at hr
  rcases g_ifo hr with ⟨h1, hr⟩ | ⟨h1, hr⟩
  ·
    cases hr; exact fun bb hb => rfl
  ·
    rcases g_ifo hr with ⟨h2, hr⟩ | ⟨h2, hr⟩
    ·
      obtain ⟨j3, ej3, ij3, lj3, hr⟩ := g_ixo hr
      obtain ⟨s4, es4, hr⟩ := g_bd hr
      have fs4 : ∀ bb, ¬ (bb = 0 ∨ (47 ≤ bb ∧ bb ≤ 53) ∨ (55 ≤ bb ∧ bb ≤ 150)) → s4 bb = M bb := fun bb hb => (w_FH_copy 47 (152 + 104 * j3) (g_set M 0 14 ((M 0 14) - (1 : Int32))) _ es4 bb (by omega)).trans ((g_set_ne (by omega)))
      cases hr; exact fun bb hb => (g_set_ne (by omega)).trans (fs4 bb hb)
    ·
      cases hr; exact fun bb hb => rfl
