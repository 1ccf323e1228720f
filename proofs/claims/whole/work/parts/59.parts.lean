/-! Fractions in least terms; bribes as a game; noon's weight shared. -/
theorem cmp_0 : lg_cmp (lN 0) 0 = 0 := by decide
theorem cmp_p {b : Nat} (h : 0 < b) (hb : b < 2 ^ 63) : ¬ lg_cmp (lN b) 0 = 0 ∧ ¬ lg_cmp (lN b) 0 ≤ 0 := by
  have : lg_cmp (lN b) 0 = 1 := by
    unfold lg_cmp
    exact if_pos ((pk_lLT (a := 0) (by decide) hb).mpr h)
  rw [this]
  decide
theorem lN_p {b : Nat} (h : 0 < b) (hb : b < 2 ^ 63) : ¬ lN b = 0 := fun q => by
  have := (pk_lEQ (b := 0) hb (by decide)).mp q
  omega
/-- Euclid, both sides -/
theorem q_part (up low : Int64) (which : Int32) : ∀ (n a b f1 f2 x9 : Nat), b < 2 ^ n → 0 < a → a < 2 ^ 62 → b < 2 ^ 62 → x9 + 2 * n + 2 ≤ 200 → 2 * n + 2 < f1 → 2 * n + 2 < f2 → ∃ v, FX_partOf_L9 up low which f1 (lN a) (lN b) (nI x9) = some v ∧ FM_part_L6 up low which f2 (lN a) (lN b) = some v := by
  have last : ∀ (a f1 f2 x9 : Nat), 0 < a → a < 2 ^ 62 → x9 < 200 → 0 < f1 → 0 < f2 → ∃ v, FX_partOf_L9 up low which f1 (lN a) (lN 0) (nI x9) = some v ∧ FM_part_L6 up low which f2 (lN a) (lN 0) = some v := by
    intro a f1 f2 x9 a0 a6 h9 h1 h2
    obtain ⟨f1, rfl⟩ : ∃ g, f1 = g + 1 := ⟨f1 - 1, by omega⟩
    obtain ⟨f2, rfl⟩ : ∃ g, f2 = g + 1 := ⟨f2 - 1, by omega⟩
    rw [FX_partOf_L9, FM_part_L6, if_neg (show ¬ (200 : Int32) ≤ nI x9 from nI_ge (b := 200) h9 (by decide)), if_pos cmp_0, if_pos cmp_0]
    unfold FX_partOf_J45 FX_partOf_J55
    have n1 := (cmp_p a0 (show a < 2 ^ 63 by omega)).2
    have n2 := lN_p a0 (show a < 2 ^ 63 by omega)
    by_cases e : which = 0
    · rw [if_pos e, if_pos e, if_neg n1, if_neg n2]
      exact ⟨_, rfl, rfl⟩
    · rw [if_neg e, if_neg e, if_neg n1, if_neg n2]
      exact ⟨_, rfl, rfl⟩
  have step : ∀ (a b f1 f2 x9 : Nat), 0 < b → a < 2 ^ 62 → b < 2 ^ 62 → x9 < 200 → FX_partOf_L9 up low which (f1 + 1) (lN a) (lN b) (nI x9) = FX_partOf_L9 up low which f1 (lN b) (lN (a % b)) (nI (x9 + 1)) ∧ FM_part_L6 up low which (f2 + 1) (lN a) (lN b) = FM_part_L6 up low which f2 (lN b) (lN (a % b)) := by
    intro a b f1 f2 x9 b0 a6 b6 h9
    have n1 := (cmp_p b0 (show b < 2 ^ 63 by omega)).1
    have n2 := lN_p b0 (show b < 2 ^ 63 by omega)
    constructor
    · rw [FX_partOf_L9, if_neg (show ¬ (200 : Int32) ≤ nI x9 from nI_ge (b := 200) h9 (by decide)), if_neg n1, if_neg n2, pk_lRem (by omega) b0 (by omega), nI_1]
    · rw [FM_part_L6, if_neg n1, if_neg n2, pk_lRem (by omega) b0 (by omega)]
  intro n
  induction n with
  | zero =>
    intro a b f1 f2 x9 hb a0 a6 b6 h9 h1 h2
    have : b = 0 := by omega
    subst this
    exact last a f1 f2 x9 a0 a6 (by omega) (by omega) (by omega)
  | succ n ih =>
    intro a b f1 f2 x9 hb a0 a6 b6 h9 h1 h2
    rcases Nat.eq_zero_or_pos b with rfl | b0
    · exact last a f1 f2 x9 a0 a6 (by omega) (by omega) (by omega)
    · obtain ⟨f1, rfl⟩ : ∃ g, f1 = g + 2 := ⟨f1 - 2, by omega⟩
      obtain ⟨f2, rfl⟩ : ∃ g, f2 = g + 2 := ⟨f2 - 2, by omega⟩
      have r1 : a % b < b := Nat.mod_lt _ b0
      obtain ⟨s1, s2⟩ := step a b (f1 + 1) (f2 + 1) x9 b0 a6 b6 (by omega)
      rw [s1, s2]
      rcases Nat.eq_zero_or_pos (a % b) with q | q
      · rw [q]
        exact last b _ _ _ b0 b6 (by omega) (by omega) (by omega)
      · obtain ⟨s3, s4⟩ := step b (a % b) f1 f2 (x9 + 1) q b6 (by omega) (by omega)
        rw [s3, s4]
        have r2 : b % (a % b) < a % b := Nat.mod_lt _ q
        have r3 : a % b + b % (a % b) ≤ b := by
          have h := Nat.div_add_mod b (a % b)
          have h2 : 1 ≤ b / (a % b) := (Nat.one_le_div_iff q).mpr (Nat.le_of_lt r1)
          have h3 : a % b * 1 ≤ a % b * (b / (a % b)) := Nat.mul_le_mul_left _ h2
          omega
        have r4 : b % (a % b) < 2 ^ n := by
          rw [Nat.pow_succ] at hb
          omega
        exact ih (a % b) (b % (a % b)) f1 f2 (x9 + 1 + 1) r4 q (by omega) (by omega) (by omega) (by omega) (by omega)
theorem q_partOf {u v : Nat} (which : Int32) (v0 : 0 < v) (hu : u < 2 ^ 49) (hv : v < 2 ^ 49) : ∃ x, FX_partOf (lN u) (lN v) which = some x ∧ FM_part (lN u) (lN v) which = some x := by
  unfold FX_partOf FM_part
  exact q_part _ _ _ 49 v u 1000 1000 0 hu v0 (by omega) (by omega) (by omega) (by omega) (by omega)
theorem q_safe_L {c m0 : gM} (h0 : RR c m0) (z0 : m0 464 0 = 0) (x part : Int32) : ∀ (q i : Nat), i + q = nW m0 → ∀ f, q < f → ∀ u v, u ≤ 16 ^ i → 0 < v → v ≤ 16 ^ i → qq 1 (FX_safe_L27 x part f (lN u) (lN v) (nI i) c) (FM_safe_L46 x part f (lN u) (lN v) (nI i) m0) := by
  have hb := h0
  obtain ⟨t1, t2, ⟨hg, rg⟩, ⟨hl, rl⟩, t7, t8, t9, t10⟩ := hb
  obtain ⟨b1, b2, b3⟩ := hg.2.1
  intro q
  induction q with
  | zero =>
    intro i hi f hf u v hu v0 hv
    obtain ⟨f, rfl⟩ : ∃ g, f = g + 1 := ⟨f - 1, by omega⟩
    have : i = nW m0 := by omega
    subst this
    have e8 : 16 ^ nW m0 ≤ 16 ^ 8 := Nat.pow_le_pow_right (by decide) b1
    have e9 : (16 : Nat) ^ 8 = 4294967296 := by decide
    rw [FX_safe_L27, FM_safe_L46, rg.1.1, hg.1.1, if_pos (Int32.le_refl _), if_pos (Int32.le_refl _)]
    obtain ⟨y, y1, y2⟩ := q_partOf (u := u) (v := v) part v0 (by omega) (by omega)
    exact qq_bX y1 (qq_bM y2 (qq_ok z0 h0))
  | succ q ih =>
    intro i hi f hf u v hu v0 hv
    obtain ⟨f, rfl⟩ : ∃ g, f = g + 1 := ⟨f - 1, by omega⟩
    have g : ¬ nI (nW m0) ≤ nI i := nI_ge (by omega) (by omega)
    have p16 : (16 : Nat) ^ (i + 1) = 16 ^ i * 16 := Nat.pow_succ 16 i
    obtain ⟨p, hp, ep⟩ := hg.2.2.2.2 i (by omega)
    rw [FX_safe_L27, FM_safe_L46, rg.1.1, hg.1.1, if_neg g, if_neg g, show FM_has x (nI i) = F_hasBit x (nI i) from rfl, r_at_in _ (by omega) (by decide), ix_in (by omega) (by decide), (rg.2.1 i (by omega)).2, ep, nI_1]
    by_cases e : F_hasBit x (nI i) = 0
    · rw [if_pos e, if_pos e]
      exact ih (i + 1) (by omega) f (by omega) u v (by omega) v0 (by omega)
    · rw [if_neg e, if_neg e, show (16 : Int32) = nI 16 from rfl, pk_sub hp, nI_l (by omega), lN_mul, show (16 : Int64) = lN 16 from rfl, lN_mul]
      refine ih (i + 1) (by omega) f (by omega) _ _ ?_ (by omega) (by omega)
      rw [p16]
      exact Nat.mul_le_mul hu (by omega)

theorem q_safe {c m : gM} (h : RR c m) (w part : Int32) : qq 1 (FX_safe w part c) (FM_safe w part m) := by
  have h0 := RR_t h 0
  obtain ⟨m0, e0⟩ : ∃ y, y = g_set m 464 0 0 := ⟨_, rfl⟩
  rw [← e0] at h0
  have z0 : m0 464 0 = 0 := by rw [e0, g_set_eq]
  have hb := h0
  obtain ⟨t1, t2, ⟨hg, rg⟩, ⟨hl, rl⟩, t7, t8, t9, t10⟩ := hb
  have rs := t8.2
  have hv := t8.1.1
  unfold FX_safe FM_safe
  rw [← e0]
  rcases nd_bW rg w with ⟨f1, aw, bw, x1⟩ | ⟨f1, x1⟩
  · refine qq_bX x1 (qq_tX rfl (qq_fM (by rw [f1]; decide) ?_))
    rcases c_needIn c part 0 1 with ⟨f2, apart, bpart, x2⟩ | ⟨f2, x2⟩
    · refine qq_bX x2 (qq_tX rfl (qq_fM (by rw [f2]; decide) ?_))
      unfold FM_safe_J28
      refine qq_bM (m_bad0 z0 _ _) (qq_tM rfl ?_)
      dsimp only
      exact q_safe_L h0 z0 _ _ (nW m0) 0 (by omega) 1000 (by have := hg.2.1.1; omega) 1 1 (by decide) (by decide) (by decide)
    · refine qq_bX x2 (qq_fX n20 (qq_tM f2 ?_))
      unfold FM_safe_J23
      unfold FM_safe_J28
      refine qq_bM (m_bad_il z0 (by decide)) (qq_fM i10 ?_)
      exact qq_il h0
  · refine qq_bX x1 (qq_fX n20 (qq_tM f1 ?_))
    unfold FM_safe_J23
    unfold FM_safe_J28
    refine qq_bM (m_bad_il z0 (by decide)) (qq_fM i10 ?_)
    exact qq_il h0

theorem q_stands_L {c m0 : gM} (h0 : RR c m0) (z0 : m0 464 0 = 0) {Q N : Nat} (hQ : Q ≤ 16) (hN : N ≤ 12) (part : Int32) : ∀ (q i : Nat), i + q = N → ∀ f, q < f → ∀ u v, u ≤ 16 ^ i → 0 < v → v ≤ 16 ^ i → qq 1 (FX_stands_L32 (nI Q) (nI N) part f (lN u) (lN v) (nI i) c) (FM_stands_L59 (nI Q) (nI N) part f (lN u) (lN v) (nI i) m0) := by
  intro q
  induction q with
  | zero =>
    intro i hi f hf u v hu v0 hv
    obtain ⟨f, rfl⟩ : ∃ g, f = g + 1 := ⟨f - 1, by omega⟩
    have : i = N := by omega
    subst this
    have e8 : 16 ^ i ≤ 16 ^ 12 := Nat.pow_le_pow_right (by decide) hN
    have e9 : (16 : Nat) ^ 12 = 2 ^ 48 := by decide
    rw [FX_stands_L32, FM_stands_L59, if_pos (Int32.le_refl (nI i)), if_pos (Int32.le_refl (nI i))]
    obtain ⟨y, y1, y2⟩ := q_partOf (u := u) (v := v) part v0 (by omega) (by omega)
    exact qq_bX y1 (qq_bM y2 (qq_ok z0 h0))
  | succ q ih =>
    intro i hi f hf u v hu v0 hv
    obtain ⟨f, rfl⟩ : ∃ g, f = g + 1 := ⟨f - 1, by omega⟩
    have g : ¬ nI N ≤ nI i := nI_ge (by omega) (by omega)
    have p16 : (16 : Nat) ^ (i + 1) = 16 ^ i * 16 := Nat.pow_succ 16 i
    rw [FX_stands_L32, FM_stands_L59, if_neg g, if_neg g, nI_1, show (16 : Int32) = nI 16 from rfl, pk_sub hQ, nI_l (by omega), lN_mul, show (16 : Int64) = lN 16 from rfl, lN_mul]
    refine ih (i + 1) (by omega) f (by omega) _ _ ?_ (by omega) (by omega)
    rw [p16]
    exact Nat.mul_le_mul hu (by omega)

theorem q_stands {c m : gM} (h : RR c m) (q n part : Int32) : qq 1 (FX_stands q n part c) (FM_stands q n part m) := by
  have h0 := RR_t h 0
  obtain ⟨m0, e0⟩ : ∃ y, y = g_set m 464 0 0 := ⟨_, rfl⟩
  rw [← e0] at h0
  have z0 : m0 464 0 = 0 := by rw [e0, g_set_eq]
  have hb := h0
  obtain ⟨t1, t2, ⟨hg, rg⟩, ⟨hl, rl⟩, t7, t8, t9, t10⟩ := hb
  have rs := t8.2
  have hv := t8.1.1
  unfold FX_stands FM_stands
  rw [← e0]
  rcases c_needIn c q 0 16 with ⟨f1, aq, bq, x1⟩ | ⟨f1, x1⟩
  · refine qq_bX x1 (qq_tX rfl (qq_fM (by rw [f1]; decide) ?_))
    rcases c_needIn c n 0 12 with ⟨f2, an, bn, x2⟩ | ⟨f2, x2⟩
    · refine qq_bX x2 (qq_tX rfl (qq_fM (by rw [f2]; decide) ?_))
      rcases c_needIn c part 0 1 with ⟨f3, apart, bpart, x3⟩ | ⟨f3, x3⟩
      · refine qq_bX x3 (qq_tX rfl (qq_fM (by rw [f3]; decide) ?_))
        unfold FM_stands_J40
        refine qq_bM (m_bad0 z0 _ _) (qq_tM rfl ?_)
        dsimp only
        obtain ⟨Q, hQ, rfl⟩ := nI_of2 (n := 16) (by decide) aq bq
        obtain ⟨N, hN, rfl⟩ := nI_of2 (n := 12) (by decide) an bn
        exact q_stands_L h0 z0 hQ hN _ N 0 (by omega) 1000 (by omega) 1 1 (by decide) (by decide) (by decide)
      · refine qq_bX x3 (qq_fX n20 (qq_tM f3 ?_))
        unfold FM_stands_J35
        unfold FM_stands_J40
        refine qq_bM (m_bad_il z0 (by decide)) (qq_fM i10 ?_)
        exact qq_il h0
    · refine qq_bX x2 (qq_fX n20 (qq_tM f2 ?_))
      unfold FM_stands_J35
      unfold FM_stands_J40
      refine qq_bM (m_bad_il z0 (by decide)) (qq_fM i10 ?_)
      exact qq_il h0
  · refine qq_bX x1 (qq_fX n20 (qq_tM f1 ?_))
    unfold FM_stands_J35
    unfold FM_stands_J40
    refine qq_bM (m_bad_il z0 (by decide)) (qq_fM i10 ?_)
    exact qq_il h0

theorem has_all : ∀ W, W ≤ 8 → ∀ w, w < W → F_hasBit (F_allOf (nI W)) (nI w) = 1 := by decide +kernel
def fl (m : gM) (w : Nat) : Nat := (m (481 + w) 1).toNatClampNeg
theorem fl_e {m : gM} (hg : v_g m) {w : Nat} (hw : w < nW m) : m (481 + w) 1 = nI (fl m w) ∧ fl m w ≤ 16 := by
  obtain ⟨p, hp, e⟩ := hg.2.2.2.2 w hw
  unfold fl
  rw [e, nI_clamp (by omega)]
  exact ⟨rfl, hp⟩
def fsum (f : Nat → Nat) : Nat → Nat
  | 0 => 0
  | n + 1 => fsum f n + f n
theorem fsum_le {f : Nat → Nat} {b : Nat} : ∀ n, (∀ k, k < n → f k ≤ b) → fsum f n ≤ b * n := by
  intro n
  induction n with
  | zero => intro _; exact Nat.le_refl _
  | succ n ih =>
    intro h
    show fsum f n + f n ≤ b * (n + 1)
    have h1 := ih (fun k hk => h k (by omega))
    have h2 := h n (by omega)
    rw [Nat.mul_succ]
    omega
theorem m_watchedAll {m : gM} (hg : v_g m) : FM_watchedBy (F_allOf (nI (nW m))) m = some (nI (fsum (fl m) (nW m))) := by
  obtain ⟨b1, b2, b3⟩ := hg.2.1
  have L : ∀ (q i : Nat), i + q = nW m → ∀ f, q < f → FM_watchedBy_L4 (F_allOf (nI (nW m))) m f (nI (fsum (fl m) i)) (nI i) = some (nI (fsum (fl m) (nW m))) := by
    intro q
    induction q with
    | zero =>
      intro i hi f hf
      obtain ⟨f, rfl⟩ : ∃ g, f = g + 1 := ⟨f - 1, by omega⟩
      have : i = nW m := by omega
      subst this
      rw [FM_watchedBy_L4, hg.1.1, if_pos (Int32.le_refl _)]
    | succ q ih =>
      intro i hi f hf
      obtain ⟨f, rfl⟩ : ∃ g, f = g + 1 := ⟨f - 1, by omega⟩
      have w1 : FM_isWatched (F_allOf (nI (nW m))) (nI i) m = some 1 := by
        unfold FM_isWatched
        rw [show FM_has (F_allOf (nI (nW m))) (nI i) = F_hasBit (F_allOf (nI (nW m))) (nI i) from rfl, has_all (nW m) b1 i (by omega), if_neg i10]
      rw [FM_watchedBy_L4, hg.1.1, if_neg (nI_ge (by omega) (by omega)), w1, Option.bind_some, if_neg i10, ix_in (by omega) (by decide), (fl_e hg (by omega)).1, nI_add, nI_1]
      exact ih (i + 1) (by omega) f (by omega)
  exact L (nW m) 0 (by omega) 1000 (by omega)
theorem q_mean_L {c m0 : gM} (h0 : RR c m0) {N : Nat} (hN : N ≤ 99) (part : Int32) : ∀ (q i : Nat), i + q = nW m0 → ∀ f, q < f → ∃ y, FX_mean_L20 (nI N) part f (lN (N * fsum (fl m0) i)) (nI i) c = some (0, y.toInt32, c) ∧ FM_part (lN (N * fsum (fl m0) (nW m0))) 16 part = some y := by
  obtain ⟨t1, t2, ⟨hg, rg⟩, ⟨hl, rl⟩, t7, t8, t9, t10⟩ := h0
  obtain ⟨b1, b2, b3⟩ := hg.2.1
  intro q
  induction q with
  | zero =>
    intro i hi f hf
    obtain ⟨f, rfl⟩ : ∃ g, f = g + 1 := ⟨f - 1, by omega⟩
    have : i = nW m0 := by omega
    subst this
    have hs := fsum_le (f := fl m0) (b := 16) (nW m0) (fun k hk => (fl_e hg hk).2)
    have hs2 : N * fsum (fl m0) (nW m0) ≤ 99 * 128 := Nat.mul_le_mul hN (by omega)
    rw [FX_mean_L20, rg.1.1, hg.1.1, if_pos (Int32.le_refl _)]
    obtain ⟨y, y1, y2⟩ := q_partOf (u := N * fsum (fl m0) (nW m0)) (v := 16) part (by decide) (by omega) (by decide)
    exact ⟨y, by rw [show (16 : Int64) = lN 16 from rfl, y1]; rfl, y2⟩
  | succ q ih =>
    intro i hi f hf
    obtain ⟨f, rfl⟩ : ∃ g, f = g + 1 := ⟨f - 1, by omega⟩
    have e : lN (N * fsum (fl m0) i) + (nI N).toInt64 * (nI (fl m0 i)).toInt64 = lN (N * fsum (fl m0) (i + 1)) := by
      have := (fl_e hg (show i < nW m0 by omega)).2
      rw [nI_l (by omega), nI_l (by omega), lN_mul, lN_add, ← Nat.mul_add]
      rfl
    rw [FX_mean_L20, rg.1.1, hg.1.1, if_neg (nI_ge (by omega) (by omega)), r_at_in _ (by omega) (by decide), (rg.2.1 i (by omega)).2, (fl_e hg (by omega)).1, e, nI_1]
    exact ih (i + 1) (by omega) f (by omega)

theorem q_mean {c m : gM} (h : RR c m) (n part : Int32) : qq 1 (FX_mean n part c) (FM_mean n part m) := by
  have h0 := RR_t h 0
  obtain ⟨m0, e0⟩ : ∃ y, y = g_set m 464 0 0 := ⟨_, rfl⟩
  rw [← e0] at h0
  have z0 : m0 464 0 = 0 := by rw [e0, g_set_eq]
  have hb := h0
  obtain ⟨t1, t2, ⟨hg, rg⟩, ⟨hl, rl⟩, t7, t8, t9, t10⟩ := hb
  have rs := t8.2
  have hv := t8.1.1
  unfold FX_mean FM_mean
  rw [← e0]
  rcases c_needIn c n 0 99 with ⟨f1, an, bn, x1⟩ | ⟨f1, x1⟩
  · refine qq_bX x1 (qq_tX rfl (qq_fM (by rw [f1]; decide) ?_))
    rcases c_needIn c part 0 1 with ⟨f2, apart, bpart, x2⟩ | ⟨f2, x2⟩
    · refine qq_bX x2 (qq_tX rfl (qq_fM (by rw [f2]; decide) ?_))
      unfold FM_mean_J30
      refine qq_bM (m_bad0 z0 _ _) (qq_tM rfl ?_)
      dsimp only
      obtain ⟨N, hN, rfl⟩ := nI_of2 (n := 99) (by decide) an bn
      obtain ⟨y, y1, y2⟩ := q_mean_L h0 hN part (nW m0) 0 (by omega) 1000 (by have := hg.2.1.1; omega)
      have e1 : FX_mean_L20 (nI N) part 1000 (0 : Int64) (0 : Int32) c = some (0, y.toInt32, c) := y1
      rw [e1]
      have hs := fsum_le (f := fl m0) (b := 16) (nW m0) (fun k hk => (fl_e hg hk).2)
      have hw8 := hg.2.1.1
      refine qq_bM (show FM_watchedBy ((1 : Int32) <<< (m0 468 0 &&& 31) - 1) m0 = some (nI (fsum (fl m0) (nW m0))) by rw [hg.1.1]; exact m_watchedAll hg) ?_
      refine qq_bM (show FM_part ((nI N).toInt64 * (nI (fsum (fl m0) (nW m0))).toInt64) 16 part = some y by rw [nI_l (by omega), nI_l (by omega), lN_mul]; exact y2) ?_
      exact qq_ok z0 h0
    · refine qq_bX x2 (qq_fX n20 (qq_tM f2 ?_))
      unfold FM_mean_J25
      unfold FM_mean_J30
      refine qq_bM (m_bad_il z0 (by decide)) (qq_fM i10 ?_)
      exact qq_il h0
  · refine qq_bX x1 (qq_fX n20 (qq_tM f1 ?_))
    unfold FM_mean_J25
    unfold FM_mean_J30
    refine qq_bM (m_bad_il z0 (by decide)) (qq_fM i10 ?_)
    exact qq_il h0

theorem gain_e (w g o : Int32) : FX_gain w g o = FM_hasBy g o w := by
  unfold FX_gain FM_hasBy
  by_cases h : g ≤ o
  · rw [if_pos h, if_pos h, Int32.zero_sub]
  · rw [if_neg h, if_neg h]
def bB (w own other : Int32) (K : Nat) : Prop := ∀ e, e ≤ K → FM_hasBy (nI e) other w ≤ FM_hasBy own other w
theorem m_isBest (w own other : Int32) {K : Nat} (hK : K ≤ 9) : (FM_isBest own other w (nI K) = some 1 ∧ bB w own other K) ∨ (FM_isBest own other w (nI K) = some 0 ∧ ¬ bB w own other K) := by
  have L : ∀ (q i : Nat), i + q = K + 1 → ∀ f, q < f → (∀ e, e < i → FM_hasBy (nI e) other w ≤ FM_hasBy own other w) → (FM_isBest_L3 own other w (nI K) f (nI i) = some 1 ∧ bB w own other K) ∨ (FM_isBest_L3 own other w (nI K) f (nI i) = some 0 ∧ ¬ bB w own other K) := by
    intro q
    induction q with
    | zero =>
      intro i hi f hf h
      obtain ⟨f, rfl⟩ : ∃ g, f = g + 1 := ⟨f - 1, by omega⟩
      rw [FM_isBest_L3, if_pos (nI_lt (show K < i by omega) (by omega))]
      exact Or.inl ⟨rfl, fun e he => h e (by omega)⟩
    | succ q ih =>
      intro i hi f hf h
      obtain ⟨f, rfl⟩ : ∃ g, f = g + 1 := ⟨f - 1, by omega⟩
      rw [FM_isBest_L3, if_neg (nI_nlt (show i ≤ K by omega) (by omega))]
      by_cases e : FM_hasBy (nI i) other w ≤ FM_hasBy own other w
      · rw [if_pos e, nI_1]
        exact ih (i + 1) (by omega) f (by omega) (fun k hk => by
          by_cases ek : k = i
          · rw [ek]; exact e
          · exact h k (by omega))
      · rw [if_neg e]
        exact Or.inr ⟨rfl, fun hb => e (hb i (by omega))⟩
  exact L (K + 1) 0 (by omega) 1000 (by omega) (fun e he => absurd he (by omega))
theorem c_rests (w one other : Int32) {K : Nat} (hK : K ≤ 9) : (FX_rests w (nI K) one other = some 1 ∧ bB w one other K ∧ bB w other one K) ∨ (FX_rests w (nI K) one other = some 0 ∧ ¬ (bB w one other K ∧ bB w other one K)) := by
  have L : ∀ (q i : Nat), i + q = K + 1 → ∀ f, q < f → (∀ e, e < i → FM_hasBy (nI e) other w ≤ FM_hasBy one other w) → (∀ e, e < i → FM_hasBy (nI e) one w ≤ FM_hasBy other one w) → (FX_rests_L19 w (nI K) one other f (FM_hasBy one other w) (FM_hasBy other one w) (nI i) = some 1 ∧ bB w one other K ∧ bB w other one K) ∨ (FX_rests_L19 w (nI K) one other f (FM_hasBy one other w) (FM_hasBy other one w) (nI i) = some 0 ∧ ¬ (bB w one other K ∧ bB w other one K)) := by
    intro q
    induction q with
    | zero =>
      intro i hi f hf h1 h2
      obtain ⟨f, rfl⟩ : ∃ g, f = g + 1 := ⟨f - 1, by omega⟩
      rw [FX_rests_L19, if_pos (nI_lt (show K < i by omega) (by omega))]
      exact Or.inl ⟨rfl, fun e he => h1 e (by omega), fun e he => h2 e (by omega)⟩
    | succ q ih =>
      intro i hi f hf h1 h2
      obtain ⟨f, rfl⟩ : ∃ g, f = g + 1 := ⟨f - 1, by omega⟩
      rw [FX_rests_L19, if_neg (nI_nlt (show i ≤ K by omega) (by omega)), gain_e, gain_e]
      by_cases e : FM_hasBy (nI i) other w ≤ FM_hasBy one other w
      · rw [if_neg (Int32.not_lt.mpr e)]
        by_cases e2 : FM_hasBy (nI i) one w ≤ FM_hasBy other one w
        · rw [if_pos e2, nI_1]
          refine ih (i + 1) (by omega) f (by omega) (fun k hk => ?_) (fun k hk => ?_)
          · by_cases ek : k = i
            · rw [ek]; exact e
            · exact h1 k (by omega)
          · by_cases ek : k = i
            · rw [ek]; exact e2
            · exact h2 k (by omega)
        · rw [if_neg e2]
          exact Or.inr ⟨rfl, fun hb => e2 (hb.2 i (by omega))⟩
      · rw [if_pos (Int32.not_le.mp e)]
        exact Or.inr ⟨rfl, fun hb => e (hb.1 i (by omega))⟩
  unfold FX_rests
  rw [gain_e, gain_e]
  exact L (K + 1) 0 (by omega) 1000 (by omega) (fun e he => absurd he (by omega)) (fun e he => absurd he (by omega))
theorem q_toffee_L {c m0 : gM} (h0 : RR c m0) (z0 : m0 464 0 = 0) {H K : Nat} (hH : H < nH m0) (hK : K ≤ 9) (what : Int32) : ∀ (p a : Nat), a + p = K + 1 → ∀ f1, p < f1 → ∀ x y z, qq 2 (FX_toffee_L52 (nI H) (nI K) what f1 (m0 470 H) x y z (nI a) c) (FM_toffee_L74 (nI H) (nI K) what f1 x y z (nI a) m0) := by
  have hb := h0
  obtain ⟨t1, t2, ⟨hg, rg⟩, ⟨hl, rl⟩, t7, t8, t9, t10⟩ := hb
  obtain ⟨b1, b2, b3⟩ := hg.2.1
  intro p
  induction p with
  | zero =>
    intro a ha f1 hf1 x y z
    obtain ⟨f1, rfl⟩ : ∃ g, f1 = g + 1 := ⟨f1 - 1, by omega⟩
    have e : nI K < nI a := nI_lt (by omega) (by omega)
    rw [FX_toffee_L52, FM_toffee_L74, if_pos e, if_pos e]
    by_cases e0 : what = 0
    · rw [if_pos e0, if_pos e0]; exact qq_ok z0 h0
    · rw [if_neg e0, if_neg e0]
      by_cases e1 : what = 1
      · rw [if_pos e1, if_pos e1]; exact qq_ok z0 h0
      · rw [if_neg e1, if_neg e1]; exact qq_ok z0 h0
  | succ p ihp =>
    intro a ha f1 hf1 x y z
    obtain ⟨f1, rfl⟩ : ∃ g, f1 = g + 1 := ⟨f1 - 1, by omega⟩
    have e : ¬ nI K < nI a := nI_nlt (by omega) (by omega)
    rw [FX_toffee_L52, FM_toffee_L74, if_neg e, if_neg e]
    have L : ∀ (q b : Nat), b + q = K + 1 → ∀ f, q < f → ∀ x y z, qq 2 (FX_toffee_L61 (nI H) (nI K) what (FX_toffee_L52 (nI H) (nI K) what f1) f (m0 470 H) x y z (nI a) (nI b) c) (FM_toffee_L83 (nI H) (nI K) what (FM_toffee_L74 (nI H) (nI K) what f1) f x y z (nI a) (nI b) m0) := by
      intro q
      induction q with
      | zero =>
        intro b hb f hf x y z
        obtain ⟨f, rfl⟩ : ∃ g, f = g + 1 := ⟨f - 1, by omega⟩
        have e : nI K < nI b := nI_lt (by omega) (by omega)
        rw [FX_toffee_L61, FM_toffee_L83, if_pos e, if_pos e, nI_1]
        exact ihp (a + 1) (by omega) f1 (by omega) x y z
      | succ q ih =>
        intro b hb f hf x y z
        obtain ⟨f, rfl⟩ : ∃ g, f = g + 1 := ⟨f - 1, by omega⟩
        have e : ¬ nI K < nI b := nI_nlt (by omega) (by omega)
        rw [FX_toffee_L61, FM_toffee_L83, if_neg e, if_neg e, ix_in (by omega) (by decide)]
        have no : qq 2 (FX_toffee_L61 (nI H) (nI K) what (FX_toffee_L52 (nI H) (nI K) what f1) f (m0 470 H) x y z (nI a) (nI b + 1) c) (FM_toffee_L83 (nI H) (nI K) what (FM_toffee_L74 (nI H) (nI K) what f1) f x y z (nI a) (nI b + 1) m0) := by
          rw [nI_1]
          exact ih (b + 1) (by omega) f (by omega) x y z
        rcases c_rests (m0 470 H) (nI a) (nI b) hK with ⟨r1, r2, r3⟩ | ⟨r1, r2⟩
        · refine qq_bX r1 (qq_fX i10 ?_)
          rcases m_isBest (m0 470 H) (nI a) (nI b) hK with ⟨s1, s2⟩ | ⟨s1, s2⟩
          · refine qq_bM s1 (qq_fM i10 ?_)
            rw [ix_in (by omega) (by decide)]
            rcases m_isBest (m0 470 H) (nI b) (nI a) hK with ⟨u1, u2⟩ | ⟨u1, u2⟩
            · refine qq_bM u1 (qq_fM i10 ?_)
              unfold FM_toffee_J144
              rw [ix_in (by omega) (by decide), ix_in (by omega) (by decide), gain_e, gain_e, nI_1]
              by_cases ex : x = 0
              · rw [if_pos ex, if_pos ex, if_pos ex]
                exact ih (b + 1) (by omega) f (by omega) _ _ _
              · rw [if_neg ex, if_neg ex, if_neg ex]
                exact ih (b + 1) (by omega) f (by omega) _ _ _
            · exact absurd r3 u2
          · exact absurd r2 s2
        · refine qq_bX r1 (qq_tX rfl ?_)
          rcases m_isBest (m0 470 H) (nI a) (nI b) hK with ⟨s1, s2⟩ | ⟨s1, s2⟩
          · refine qq_bM s1 (qq_fM i10 ?_)
            rw [ix_in (by omega) (by decide)]
            rcases m_isBest (m0 470 H) (nI b) (nI a) hK with ⟨u1, u2⟩ | ⟨u1, u2⟩
            · exact absurd ⟨s2, u2⟩ r2
            · exact qq_bM u1 (qq_tM rfl no)
          · exact qq_bM s1 (qq_tM rfl no)
    exact L (K + 1) 0 (by omega) 1000 (by omega) x y z

theorem q_toffee {c m : gM} (h : RR c m) (hh k what : Int32) : qq 2 (FX_toffee hh k what c) (FM_toffee hh k what m) := by
  have h0 := RR_t h 0
  obtain ⟨m0, e0⟩ : ∃ y, y = g_set m 464 0 0 := ⟨_, rfl⟩
  rw [← e0] at h0
  have z0 : m0 464 0 = 0 := by rw [e0, g_set_eq]
  have hb := h0
  obtain ⟨t1, t2, ⟨hg, rg⟩, ⟨hl, rl⟩, t7, t8, t9, t10⟩ := hb
  have rs := t8.2
  have hv := t8.1.1
  unfold FX_toffee FM_toffee
  rw [← e0]
  rcases nd_H hg rg hh with ⟨f1, ⟨jhh, hhh, rfl⟩, x1⟩ | ⟨f1, x1⟩
  · refine qq_bX x1 (qq_tX rfl (qq_fM (by rw [f1]; decide) ?_))
    unfold FM_toffee_J19
    refine qq_bM (m_bad0 z0 _ _) (qq_tM rfl ?_)
    rcases c_needIn c k 0 9 with ⟨f2, ak, bk, x2⟩ | ⟨f2, x2⟩
    · refine qq_bX x2 (qq_tX rfl (qq_fM (by rw [f2]; decide) ?_))
      rcases c_needIn c what 0 2 with ⟨f3, awhat, bwhat, x3⟩ | ⟨f3, x3⟩
      · refine qq_bX x3 (qq_tX rfl (qq_fM (by rw [f3]; decide) ?_))
        unfold FM_toffee_J52
        refine qq_bM (m_bad0 z0 _ _) (qq_tM rfl ?_)
        dsimp only
        obtain ⟨K, hK, rfl⟩ := nI_of2 (n := 9) (by decide) ak bk
        rw [r_at_in _ (show jhh < 8 by have := hg.2.1.2.2; omega) (by decide), rg.2.2.2 jhh hhh]
        exact q_toffee_L h0 z0 hhh hK what (K + 1) 0 (by omega) 1000 (by omega) _ _ _
      · refine qq_bX x3 (qq_fX n20 (qq_tM f3 ?_))
        unfold FM_toffee_J47
        unfold FM_toffee_J52
        refine qq_bM (m_bad_il z0 (by decide)) (qq_fM i10 ?_)
        exact qq_il h0
    · refine qq_bX x2 (qq_fX n20 (qq_tM f2 ?_))
      unfold FM_toffee_J47
      unfold FM_toffee_J52
      refine qq_bM (m_bad_il z0 (by decide)) (qq_fM i10 ?_)
      exact qq_il h0
  · refine qq_bX x1 (qq_fX n10 (qq_tM f1 ?_))
    unfold FM_toffee_J19
    refine qq_bM (m_bad_no z0 (by decide)) (qq_fM i10 ?_)
    exact qq_no h0
