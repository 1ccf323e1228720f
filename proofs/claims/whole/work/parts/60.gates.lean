/-! Noon's weight shared; where to put nannies. -/
def ag (m : gM) (k : Nat) : Nat := (m (499 + k) 1).toNatClampNeg
theorem ag_e {m : gM} (hg : v_g m) {k : Nat} (hk : k < nC m) : m (499 + k) 1 = nI (ag m k) ∧ ag m k ≤ 14 := by
  obtain ⟨p, h3, hp, e⟩ := hg.2.2.2.1 k hk
  unfold ag
  rw [e, nI_clamp (by omega)]
  exact ⟨rfl, hp⟩
theorem hb01 (x z : Int32) : F_hasBit x z = 0 ∨ F_hasBit x z = 1 := by
  unfold F_hasBit
  by_cases h : ((x >>> (z &&& 31)) &&& (1 : Int32)) = (1 : Int32)
  · rw [if_pos h]; exact Or.inr rfl
  · rw [if_neg h]; exact Or.inl rfl
theorem less_min {a b : Nat} (ha : a < 2 ^ 31) (hb : b < 2 ^ 31) : FM_less (nI a) (nI b) = nI (min a b) := by
  unfold FM_less
  by_cases h : b ≤ a
  · rw [if_pos (nI_le h ha), Nat.min_eq_right h]
  · rw [if_neg (nI_ge (by omega) hb), Nat.min_eq_left (by omega)]
/-- what child k gets by bound b -/
def gv (m : gM) (ch : Int32) (b k : Nat) : Nat := if F_hasBit ch (nI k) = 0 then 0 else min b (ag m k)
theorem fsum_mono {f g : Nat → Nat} : ∀ n, (∀ k, k < n → f k ≤ g k) → fsum f n ≤ fsum g n := by
  intro n
  induction n with
  | zero => intro _; exact Nat.le_refl _
  | succ n ih =>
    intro h
    show fsum f n + f n ≤ fsum g n + g n
    have h1 := ih (fun k hk => h k (by omega))
    have h2 := h n (by omega)
    omega
def gt (m : gM) (ch : Int32) (b : Nat) : Nat := fsum (gv m ch b) (nC m)
theorem gt_mono {m : gM} {ch : Int32} {a b : Nat} (h : a ≤ b) : gt m ch a ≤ gt m ch b := by
  refine fsum_mono _ (fun k _ => ?_)
  unfold gv
  by_cases e : F_hasBit ch (nI k) = 0
  · rw [if_pos e, if_pos e]; exact Nat.le_refl _
  · rw [if_neg e, if_neg e]; omega
theorem gt_le {m : gM} (hg : v_g m) {ch : Int32} {b : Nat} : gt m ch b ≤ 112 := by
  have := fsum_le (f := gv m ch b) (b := 14) (nC m) (fun k hk => by
    have := (ag_e hg hk).2
    unfold gv
    by_cases e : F_hasBit ch (nI k) = 0
    · rw [if_pos e]; omega
    · rw [if_neg e]; omega)
  have h8 := hg.2.1.2.1
  unfold gt
  omega
theorem m_givenBy {m : gM} (hg : v_g m) (ch : Int32) {b : Nat} (hb : b ≤ 14) : FM_givenBy ch (nI b) m = some (nI (gt m ch b)) := by
  obtain ⟨b1, b2, b3⟩ := hg.2.1
  have L : ∀ (q i : Nat), i + q = nC m → ∀ f, q < f → FM_givenBy_L5 ch (nI b) m f (nI (fsum (gv m ch b) i)) (nI i) = some (nI (gt m ch b)) := by
    intro q
    induction q with
    | zero =>
      intro i hi f hf
      obtain ⟨f, rfl⟩ : ∃ g, f = g + 1 := ⟨f - 1, by omega⟩
      have : i = nC m := by omega
      subst this
      rw [FM_givenBy_L5, hg.1.2.1, if_pos (Int32.le_refl _)]
      rfl
    | succ q ih =>
      intro i hi f hf
      obtain ⟨f, rfl⟩ : ∃ g, f = g + 1 := ⟨f - 1, by omega⟩
      have ha := ag_e hg (show i < nC m by omega)
      rw [FM_givenBy_L5, hg.1.2.1, if_neg (nI_ge (by omega) (by omega)), show FM_has ch (nI i) = F_hasBit ch (nI i) from rfl, ix_in (by omega) (by decide), ha.1, less_min (by omega) (by omega), nI_1]
      have h := ih (i + 1) (by omega) f (by omega)
      rw [show fsum (gv m ch b) (i + 1) = fsum (gv m ch b) i + gv m ch b i from rfl] at h
      by_cases e : F_hasBit ch (nI i) = 0
      · rw [if_pos e, Int32.add_zero]
        rw [show gv m ch b i = 0 from if_pos e] at h
        exact h
      · rw [if_neg e, nI_add]
        rw [show gv m ch b i = min b (ag m i) from if_neg e] at h
        exact h
  exact L (nC m) 0 (by omega) 1000 (by omega)
theorem c_boundOf {c m : gM} (hg : v_g m) (rg : r_g c m) (ch : Int32) {N : Nat} (hN : N ≤ 99) : ∃ b, b ≤ 14 ∧ FP_boundOf ch (nI N) c = some (nI b) ∧ (b = 0 ∨ gt m ch b ≤ N) ∧ ∀ q, b < q → q ≤ 14 → N < gt m ch q := by
  obtain ⟨b1, b2, b3⟩ := hg.2.1
  have L13 : ∀ (c3 : Int32 → Option Int32) (b : Nat), b ≤ 14 → ∀ (q i : Nat), i + q = nC m → ∀ f, q < f → FP_boundOf_L13 ch (nI N) c c3 f (nI b) (nI (fsum (gv m ch b) i)) (nI i) = if N < gt m ch b then c3 (nI b + (-1)) else some (nI b) := by
    intro c3 b hb q
    induction q with
    | zero =>
      intro i hi f hf
      obtain ⟨f, rfl⟩ : ∃ g, f = g + 1 := ⟨f - 1, by omega⟩
      have : i = nC m := by omega
      subst this
      have := gt_le hg (ch := ch) (b := b)
      rw [FP_boundOf_L13, rg.1.2.1, hg.1.2.1, if_pos (Int32.le_refl _), show fsum (gv m ch b) (nC m) = gt m ch b from rfl]
      by_cases e : N < gt m ch b
      · rw [if_pos e, if_pos (nI_lt e (by omega))]
      · rw [if_neg e, if_neg (nI_nlt (by omega) (by omega))]
    | succ q ih =>
      intro i hi f hf
      obtain ⟨f, rfl⟩ : ∃ g, f = g + 1 := ⟨f - 1, by omega⟩
      have ha := ag_e hg (show i < nC m by omega)
      rw [FP_boundOf_L13, rg.1.2.1, hg.1.2.1, if_neg (nI_ge (by omega) (by omega)), r_at_in _ (by omega) (by decide), (rg.2.2.1 i (by omega)).2, ha.1, m_less, less_min (by omega) (by omega), nI_1]
      have h := ih (i + 1) (by omega) f (by omega)
      rw [show fsum (gv m ch b) (i + 1) = fsum (gv m ch b) i + gv m ch b i from rfl] at h
      by_cases e : F_hasBit ch (nI i) = 0
      · rw [if_pos e, Int32.add_zero]
        rw [show gv m ch b i = 0 from if_pos e] at h
        exact h
      · rw [if_neg e, nI_add]
        rw [show gv m ch b i = min b (ag m i) from if_neg e] at h
        exact h
  have L4 : ∀ b, b ≤ 14 → ∀ f, b < f → (∀ q, b < q → q ≤ 14 → N < gt m ch q) → ∃ r, r ≤ 14 ∧ FP_boundOf_L3 ch (nI N) c f (nI b) = some (nI r) ∧ (r = 0 ∨ gt m ch r ≤ N) ∧ ∀ q, r < q → q ≤ 14 → N < gt m ch q := by
    intro b
    induction b with
    | zero =>
      intro hb f hf h
      obtain ⟨f, rfl⟩ : ∃ g, f = g + 1 := ⟨f - 1, by omega⟩
      rw [FP_boundOf_L3, if_pos (show nI 0 ≤ 0 by decide)]
      exact ⟨0, by omega, rfl, Or.inl rfl, h⟩
    | succ b ih =>
      intro hb f hf h
      obtain ⟨f, rfl⟩ : ∃ g, f = g + 1 := ⟨f - 1, by omega⟩
      have k := L13 (FP_boundOf_L3 ch (nI N) c f) (b + 1) hb (nC m) 0 (by omega) 1000 (by omega)
      have k2 : FP_boundOf_L13 ch (nI N) c (FP_boundOf_L3 ch (nI N) c f) 1000 (nI (b + 1)) (0 : Int32) (0 : Int32) = if N < gt m ch (b + 1) then FP_boundOf_L3 ch (nI N) c f (nI (b + 1) + (-1)) else some (nI (b + 1)) := k
      rw [FP_boundOf_L3, if_neg (nI_nle (by omega) (by omega)), k2]
      by_cases e : N < gt m ch (b + 1)
      · rw [if_pos e, nI_m1]
        exact ih (by omega) f (by omega) (fun q h1 h2 => by
          by_cases eq : q = b + 1
          · rw [eq]; exact e
          · exact h q (by omega) h2)
      · rw [if_neg e]
        exact ⟨b + 1, hb, rfl, Or.inr (by omega), h⟩
  exact L4 14 (by omega) 1000 (by omega) (fun q h1 h2 => by omega)
theorem m_share {m : gM} (hg : v_g m) (x ch : Int32) {N : Nat} (hN : N ≤ 99) {r : Nat} (hr : r ≤ 14) (h1 : r = 0 ∨ gt m ch r ≤ N) (h2 : ∀ q, r < q → q ≤ 14 → N < gt m ch q) : ∀ (q b : Nat), b + q = r → ∀ f, q < f → FM_share_L74 x ch (nI N) f (nI b) m = FM_share_J100 x ch (nI N) (nI r) m := by
  intro q
  induction q with
  | zero =>
    intro b hb f hf
    obtain ⟨f, rfl⟩ : ∃ g, f = g + 1 := ⟨f - 1, by omega⟩
    have : b = r := by omega
    subst this
    rw [FM_share_L74]
    by_cases e : b = 14
    · rw [if_pos (show (14 : Int32) ≤ nI b from nI_le (a := 14) (by omega) (by omega))]
    · have hb2 := h2 (b + 1) (by omega) (by omega)
      have := gt_le hg (ch := ch) (b := b + 1)
      rw [if_neg (show ¬ (14 : Int32) ≤ nI b from nI_ge (b := 14) (by omega) (by decide)), nI_1, m_givenBy hg ch (by omega), Option.bind_some, if_pos (nI_lt hb2 (by omega))]
  | succ q ih =>
    intro b hb f hf
    obtain ⟨f, rfl⟩ : ∃ g, f = g + 1 := ⟨f - 1, by omega⟩
    have hb2 : gt m ch (b + 1) ≤ gt m ch r := gt_mono (by omega)
    rw [FM_share_L74, if_neg (show ¬ (14 : Int32) ≤ nI b from nI_ge (b := 14) (by omega) (by decide)), nI_1, m_givenBy hg ch (by omega), Option.bind_some, if_neg (nI_nlt (by omega) (by omega))]
    exact ih (b + 1) (by omega) f (by omega)

theorem q_share {c m : gM} (h : RR c m) (cc ch n : Int32) : qq 2 (FX_share cc ch n c) (FM_share cc ch n m) := by
  have h0 := RR_t h 0
  obtain ⟨m0, e0⟩ : ∃ y, y = g_set m 464 0 0 := ⟨_, rfl⟩
  rw [← e0] at h0
  have z0 : m0 464 0 = 0 := by rw [e0, g_set_eq]
  have hb := h0
  obtain ⟨t1, t2, ⟨hg, rg⟩, ⟨hl, rl⟩, t7, t8, t9, t10⟩ := hb
  have rs := t8.2
  have hv := t8.1.1
  unfold FX_share FM_share
  rw [← e0]
  rcases nd_C hg rg cc with ⟨f1, ⟨jcc, hcc, rfl⟩, x1⟩ | ⟨f1, x1⟩
  · refine qq_bX x1 (qq_tX rfl (qq_fM (by rw [f1]; decide) ?_))
    unfold FM_share_J19
    refine qq_bM (m_bad0 z0 _ _) (qq_tM rfl ?_)
    rcases nd_bC rg ch with ⟨f2, ach, bch, x2⟩ | ⟨f2, x2⟩
    · refine qq_bX x2 (qq_tX rfl (qq_fM (by rw [f2]; decide) ?_))
      rcases c_needIn c n 0 99 with ⟨f3, an, bn, x3⟩ | ⟨f3, x3⟩
      · refine qq_bX x3 (qq_tX rfl (qq_fM (by rw [f3]; decide) ?_))
        unfold FM_share_J61
        refine qq_bM (m_bad0 z0 _ _) (qq_tM rfl ?_)
        dsimp only
        obtain ⟨N, hN, rfl⟩ := nI_of2 (n := 99) (by decide) an bn
        have c8 : jcc < 8 := by have := hg.2.1.2.1; omega
        obtain ⟨r, r14, q1, q2, q3⟩ := c_boundOf hg rg ch hN
        have hm := m_share hg (nI jcc) ch hN r14 q2 q3 r 0 (by omega) 1000 (by omega)
        have hm2 : FM_share_L74 (nI jcc) ch (nI N) 1000 (0 : Int32) m0 = FM_share_J100 (nI jcc) ch (nI N) (nI r) m0 := hm
        rw [hm2]
        unfold FM_share_J100
        rw [show FM_has ch (nI jcc) = F_hasBit ch (nI jcc) from rfl]
        by_cases e : F_hasBit ch (nI jcc) = 0
        · rw [if_pos e, if_pos e]
          exact qq_ok z0 h0
        · have ha := ag_e hg hcc
          rw [if_neg e, if_neg e, q1, Option.bind_some, ix_in c8 (by decide), r_at_in _ c8 (by decide), (rg.2.2.1 jcc hcc).2, ha.1, m_less, less_min (by omega) (by omega), less_min (by omega) (by omega), Nat.min_comm]
          exact qq_ok z0 h0
      · refine qq_bX x3 (qq_fX n20 (qq_tM f3 ?_))
        unfold FM_share_J56
        unfold FM_share_J61
        refine qq_bM (m_bad_il z0 (by decide)) (qq_fM i10 ?_)
        exact qq_il h0
    · refine qq_bX x2 (qq_fX n20 (qq_tM f2 ?_))
      unfold FM_share_J56
      unfold FM_share_J61
      refine qq_bM (m_bad_il z0 (by decide)) (qq_fM i10 ?_)
      exact qq_il h0
  · refine qq_bX x1 (qq_fX n10 (qq_tM f1 ?_))
    unfold FM_share_J19
    refine qq_bM (m_bad_no z0 (by decide)) (qq_fM i10 ?_)
    exact qq_no h0

theorem hb_bt (x : Int32) {k : Nat} (hk : k < 32) : F_hasBit x (nI k) = if bt x k = true then 1 else 0 := by
  have b1 : ∀ i, i < 32 → bt 1 i = decide (i = 0) := by decide +kernel
  have e : (x >>> (nI k &&& 31)) &&& (1 : Int32) = if bt x k = true then 1 else 0 := by
    apply b_ext
    intro i hi
    rw [b_and, b_sshr k hk x hi, b1 i hi]
    by_cases i0 : i = 0
    · subst i0
      rw [if_pos (show k + 0 < 32 by omega), Nat.add_zero]
      cases h : bt x k
      · simp [b_0]
      · simp [b1]
    · rw [decide_eq_false i0, Bool.and_false]
      cases h : bt x k
      · simp [b_0]
      · simp [b1 i hi, i0]
  unfold F_hasBit
  rw [e]
  cases h : bt x k
  · simp
  · simp
theorem bt_kid : ∀ k, k < 8 → ∀ i, i < 32 → bt ((1 : Int32) <<< (nI k &&& 31)) i = decide (i = k) := by decide +kernel
theorem bt_ors (P : Nat → Bool) : ∀ n, n ≤ 8 → ∀ i, i < 32 → bt (a_ors (a_kid P) n) i = (decide (i < n) && P i) := by
  intro n
  induction n with
  | zero => intro _ i hi; show bt 0 i = _; rw [b_0, decide_eq_false (by omega)]; rfl
  | succ n ih =>
    intro hn i hi
    show bt (a_ors (a_kid P) n ||| a_kid P n) i = _
    rw [b_or, ih (by omega) i hi]
    have e : bt (a_kid P n) i = (decide (i = n) && P n) := by
      unfold a_kid
      by_cases h : P n = true
      · rw [if_pos h, bt_kid n (by omega) i hi, h, Bool.and_true]
      · rw [if_neg h, b_0, Bool.eq_false_iff.mpr h, Bool.and_false]
    rw [e]
    by_cases e1 : i = n
    · subst e1
      simp
    · by_cases e2 : i < n
      · rw [decide_eq_true e2, decide_eq_true (show i < n + 1 by omega), decide_eq_false e1]; simp
      · rw [decide_eq_false e2, decide_eq_false (show ¬ i < n + 1 by omega), decide_eq_false e1]; simp
/-- the gate behind a walk -/
def bh (W w : Nat) : Nat := if w + 1 < W then w + 1 else 0
def wt (W : Nat) (gates : Int32) (w : Nat) : Bool := (F_hasBit gates (nI w) == 1) || (F_hasBit gates (nI (bh W w)) == 1)
theorem c_watched {c m : gM} (hg : v_g m) (rg : r_g c m) (gates : Int32) : FP_watchedFrom gates c = some (a_ors (a_kid (wt (nW m) gates)) (nW m)) := by
  obtain ⟨b1, b2, b3⟩ := hg.2.1
  have L : ∀ (q i : Nat), i + q = nW m → ∀ f, q < f → FP_watchedFrom_L4 gates c f (a_ors (a_kid (wt (nW m) gates)) i) (nI i) = some (a_ors (a_kid (wt (nW m) gates)) (nW m)) := by
    intro q
    induction q with
    | zero =>
      intro i hi f hf
      obtain ⟨f, rfl⟩ : ∃ g, f = g + 1 := ⟨f - 1, by omega⟩
      have : i = nW m := by omega
      subst this
      rw [FP_watchedFrom_L4, rg.1.1, hg.1.1, if_pos (Int32.le_refl _)]
    | succ q ih =>
      intro i hi f hf
      obtain ⟨f, rfl⟩ : ∃ g, f = g + 1 := ⟨f - 1, by omega⟩
      have h := ih (i + 1) (by omega) f (by omega)
      rw [show a_ors (a_kid (wt (nW m) gates)) (i + 1) = a_ors (a_kid (wt (nW m) gates)) i ||| a_kid (wt (nW m) gates) i from rfl] at h
      have J : FP_watchedFrom_J29 gates c (FP_watchedFrom_L4 gates c f) (a_ors (a_kid (wt (nW m) gates)) i) (nI i) (nI (bh (nW m) i)) = some (a_ors (a_kid (wt (nW m) gates)) (nW m)) := by
        unfold FP_watchedFrom_J29
        rw [nI_1]
        rcases hb01 gates (nI i) with e1 | e1
        · rw [if_pos e1]
          rcases hb01 gates (nI (bh (nW m) i)) with e2 | e2
          · rw [if_pos e2]
            rw [show a_kid (wt (nW m) gates) i = 0 from if_neg (by unfold wt; rw [e1, e2]; decide), Int32.or_zero] at h
            exact h
          · rw [if_neg (by rw [e2]; decide)]
            rw [show a_kid (wt (nW m) gates) i = (1 : Int32) <<< (nI i &&& 31) from if_pos (by unfold wt; rw [e1, e2]; decide)] at h
            exact h
        · rw [if_neg (by rw [e1]; decide)]
          rw [show a_kid (wt (nW m) gates) i = (1 : Int32) <<< (nI i &&& 31) from if_pos (by unfold wt; rw [e1]; simp)] at h
          exact h
      rw [FP_watchedFrom_L4, rg.1.1, hg.1.1, if_neg (nI_ge (by omega) (by omega)), nI_1]
      by_cases e : i + 1 < nW m
      · rw [if_neg (nI_ge e (by omega))]
        rw [show bh (nW m) i = i + 1 from if_pos e] at J
        exact J
      · rw [if_pos (nI_le (by omega) (by omega))]
        rw [show bh (nW m) i = 0 from if_neg e] at J
        exact J
  exact L (nW m) 0 (by omega) 1000 (by omega)
theorem m_watched {m : gM} (hg : v_g m) (gates : Int32) {w : Nat} (hw : w < nW m) : FM_isWatched gates (nI w) m = some (if wt (nW m) gates w = true then 1 else 0) := by
  obtain ⟨b1, b2, b3⟩ := hg.2.1
  have e : (w + 1) % nW m = bh (nW m) w := by
    unfold bh
    by_cases h : w + 1 < nW m
    · rw [if_pos h]; exact Nat.mod_eq_of_lt h
    · rw [if_neg h, show w + 1 = nW m by omega]; exact Nat.mod_self _
  unfold FM_isWatched
  rw [hg.1.1, if_neg (nI_ne0 (show 0 < nW m by omega) (by omega)), nI_1, pk_rem (by omega) (by omega) (by omega), e, show FM_has gates (nI w) = F_hasBit gates (nI w) from rfl, show FM_has gates (nI (bh (nW m) w)) = F_hasBit gates (nI (bh (nW m) w)) from rfl]
  unfold wt
  rcases hb01 gates (nI w) with e1 | e1
  · rw [e1, if_pos rfl]
    rcases hb01 gates (nI (bh (nW m) w)) with e2 | e2
    · rw [e2, if_pos rfl]; rfl
    · rw [e2, if_neg i10]; rfl
  · rw [e1, if_neg i10]
    simp
def wf (m : gM) (gates : Int32) (w : Nat) : Nat := if wt (nW m) gates w = true then fl m w else 0
theorem wf_le {m : gM} (hg : v_g m) (gates : Int32) {w : Nat} (hw : w < nW m) : wf m gates w ≤ 16 := by
  have := (fl_e hg hw).2
  unfold wf
  by_cases h : wt (nW m) gates w = true
  · rw [if_pos h]; exact this
  · rw [if_neg h]; omega
theorem m_watchedBy {m : gM} (hg : v_g m) (gates : Int32) : FM_watchedBy gates m = some (nI (fsum (wf m gates) (nW m))) := by
  obtain ⟨b1, b2, b3⟩ := hg.2.1
  have L : ∀ (q i : Nat), i + q = nW m → ∀ f, q < f → FM_watchedBy_L4 gates m f (nI (fsum (wf m gates) i)) (nI i) = some (nI (fsum (wf m gates) (nW m))) := by
    intro q
    induction q with
    | zero =>
      intro i hi f hf
      obtain ⟨f, rfl⟩ : ∃ g, f = g + 1 := ⟨f - 1, by omega⟩
      have : i = nW m := by omega
      subst this
      rw [FM_watchedBy_L4, hg.1.1, if_pos (Int32.le_refl _)]
    | succ q ih =>
      intro i hi f hf
      obtain ⟨f, rfl⟩ : ∃ g, f = g + 1 := ⟨f - 1, by omega⟩
      have h := ih (i + 1) (by omega) f (by omega)
      rw [show fsum (wf m gates) (i + 1) = fsum (wf m gates) i + wf m gates i from rfl] at h
      rw [FM_watchedBy_L4, hg.1.1, if_neg (nI_ge (by omega) (by omega)), m_watched hg gates (by omega), Option.bind_some, nI_1, ix_in (by omega) (by decide), (fl_e hg (by omega)).1, nI_add, Int32.add_zero]
      by_cases e : wt (nW m) gates i = true
      · rw [if_pos e, if_neg i10]
        rw [show wf m gates i = fl m i from if_pos e] at h
        exact h
      · rw [if_neg e, if_pos rfl]
        rw [show wf m gates i = 0 from if_neg e] at h
        exact h
  exact L (nW m) 0 (by omega) 1000 (by omega)
theorem c_falls {c m : gM} (hg : v_g m) (rg : r_g c m) (gates : Int32) : FP_fallsOn (a_ors (a_kid (wt (nW m) gates)) (nW m)) c = some (nI (fsum (wf m gates) (nW m))) := by
  obtain ⟨b1, b2, b3⟩ := hg.2.1
  have L : ∀ (q i : Nat), i + q = nW m → ∀ f, q < f → FP_fallsOn_L4 (a_ors (a_kid (wt (nW m) gates)) (nW m)) c f (nI (fsum (wf m gates) i)) (nI i) = some (nI (fsum (wf m gates) (nW m))) := by
    intro q
    induction q with
    | zero =>
      intro i hi f hf
      obtain ⟨f, rfl⟩ : ∃ g, f = g + 1 := ⟨f - 1, by omega⟩
      have : i = nW m := by omega
      subst this
      rw [FP_fallsOn_L4, rg.1.1, hg.1.1, if_pos (Int32.le_refl _)]
    | succ q ih =>
      intro i hi f hf
      obtain ⟨f, rfl⟩ : ∃ g, f = g + 1 := ⟨f - 1, by omega⟩
      have h := ih (i + 1) (by omega) f (by omega)
      rw [show fsum (wf m gates) (i + 1) = fsum (wf m gates) i + wf m gates i from rfl] at h
      rw [FP_fallsOn_L4, rg.1.1, hg.1.1, if_neg (nI_ge (by omega) (by omega)), hb_bt _ (show i < 32 by omega), bt_ors _ _ b1 i (by omega), decide_eq_true (show i < nW m by omega), Bool.true_and, r_at_in _ (by omega) (by decide), (rg.2.1 i (by omega)).2, (fl_e hg (by omega)).1, nI_1, nI_add, Int32.add_zero]
      by_cases e : wt (nW m) gates i = true
      · rw [if_pos e, if_neg i10]
        rw [show wf m gates i = fl m i from if_pos e] at h
        exact h
      · rw [if_neg e, if_pos rfl]
        rw [show wf m gates i = 0 from if_neg e] at h
        exact h
  exact L (nW m) 0 (by omega) 1000 (by omega)
/-- how many bits -/
def pc (g : Nat) : Nat := (F_bitCount (nI g)).toNatClampNeg
theorem pc_e : ∀ g, g < 256 → F_bitCount (nI g) = nI (pc g) ∧ FM_ones (nI g) = some (nI (pc g)) ∧ pc g ≤ 8 := by decide +kernel
theorem allOf_e : ∀ W, W ≤ 8 → F_allOf (nI W) = nI (2 ^ W - 1) ∧ (1 : Int32) <<< (nI W &&& 31) = nI (2 ^ W) ∧ 2 ^ W ≤ 256 ∧ 1 ≤ 2 ^ W := by decide +kernel
theorem q_watch_L {c m0 : gM} (h0 : RR c m0) (z0 : m0 464 0 = 0) {N : Nat} (hN : N ≤ 8) (what : Int32) : ∀ (q g : Nat), g + q = 2 ^ nW m0 → ∀ f, q < f → ∀ s t, qq 1 (FX_watch_L23 (nI N) what f s t (nI g) c) (FM_watch_L48 (nI N) what f s t (nI g) m0) := by
  have hb := h0
  obtain ⟨t1, t2, ⟨hg, rg⟩, ⟨hl, rl⟩, t7, t8, t9, t10⟩ := hb
  obtain ⟨b1, b2, b3⟩ := hg.2.1
  obtain ⟨p1, p2, p3, p4⟩ := allOf_e (nW m0) b1
  intro q
  induction q with
  | zero =>
    intro g hgq f hf s t
    obtain ⟨f, rfl⟩ : ∃ k, f = k + 1 := ⟨f - 1, by omega⟩
    rw [FX_watch_L23, FM_watch_L48, rg.1.1, hg.1.1, p1, p2, if_pos (nI_lt (show 2 ^ nW m0 - 1 < g by omega) (by omega)), if_pos (nI_le (show 2 ^ nW m0 ≤ g by omega) (by omega))]
    by_cases e0 : what = 0
    · rw [if_pos e0, if_pos e0]; exact qq_ok z0 h0
    · rw [if_neg e0, if_neg e0]; exact qq_ok z0 h0
  | succ q ih =>
    intro g hgq f hf s t
    obtain ⟨f, rfl⟩ : ∃ k, f = k + 1 := ⟨f - 1, by omega⟩
    obtain ⟨c1, c2, c3⟩ := pc_e g (by omega)
    rw [FX_watch_L23, FM_watch_L48, rg.1.1, hg.1.1, p1, p2, if_neg (nI_nlt (show g ≤ 2 ^ nW m0 - 1 by omega) (by omega)), if_neg (nI_ge (show g < 2 ^ nW m0 by omega) (by omega)), nI_1, c1]
    refine qq_bX (c_watched hg rg (nI g)) (qq_bX (c_falls hg rg (nI g)) (qq_bM c2 ?_))
    by_cases e : nI (pc g) = nI N
    · rw [if_pos e, if_pos e]
      refine qq_bM (m_watchedBy hg (nI g)) ?_
      by_cases e2 : nI (fsum (wf m0 (nI g)) (nW m0)) ≤ t
      · rw [if_pos e2, if_neg (Int32.not_lt.mpr e2)]
        exact ih (g + 1) (by omega) f (by omega) _ _
      · rw [if_neg e2, if_pos (Int32.not_le.mp e2)]
        refine qq_bM (m_watchedBy hg (nI g)) ?_
        exact ih (g + 1) (by omega) f (by omega) _ _
    · rw [if_neg e, if_neg e]
      exact ih (g + 1) (by omega) f (by omega) _ _

theorem q_watch {c m : gM} (h : RR c m) (n what : Int32) : qq 1 (FX_watch n what c) (FM_watch n what m) := by
  have h0 := RR_t h 0
  obtain ⟨m0, e0⟩ : ∃ y, y = g_set m 464 0 0 := ⟨_, rfl⟩
  rw [← e0] at h0
  have z0 : m0 464 0 = 0 := by rw [e0, g_set_eq]
  have hb := h0
  obtain ⟨t1, t2, ⟨hg, rg⟩, ⟨hl, rl⟩, t7, t8, t9, t10⟩ := hb
  have rs := t8.2
  have hv := t8.1.1
  unfold FX_watch FM_watch
  rw [← e0]
  rcases c_needIn c n 0 8 with ⟨f1, an, bn, x1⟩ | ⟨f1, x1⟩
  · refine qq_bX x1 (qq_tX rfl (qq_fM (by rw [f1]; decide) ?_))
    rcases c_needIn c what 0 1 with ⟨f2, awhat, bwhat, x2⟩ | ⟨f2, x2⟩
    · refine qq_bX x2 (qq_tX rfl (qq_fM (by rw [f2]; decide) ?_))
      unfold FM_watch_J30
      refine qq_bM (m_bad0 z0 _ _) (qq_tM rfl ?_)
      dsimp only
      obtain ⟨N, hN, rfl⟩ := nI_of2 (n := 8) (by decide) an bn
      exact q_watch_L h0 z0 hN what (2 ^ nW m0) 0 (by omega) 1000 (by have := (allOf_e (nW m0) hg.2.1.1).2.2.1; omega) _ _
    · refine qq_bX x2 (qq_fX n20 (qq_tM f2 ?_))
      unfold FM_watch_J25
      unfold FM_watch_J30
      refine qq_bM (m_bad_il z0 (by decide)) (qq_fM i10 ?_)
      exact qq_il h0
  · refine qq_bX x1 (qq_fX n20 (qq_tM f1 ?_))
    unfold FM_watch_J25
    unfold FM_watch_J30
    refine qq_bM (m_bad_il z0 (by decide)) (qq_fM i10 ?_)
    exact qq_il h0

def cv (W : Nat) (walks : Int32) (g : Nat) : Prop := ∀ w, w < W → F_hasBit walks (nI w) = 1 → wt W (nI g) w = true
theorem m_isCover {m : gM} (hg : v_g m) (walks : Int32) (g : Nat) : (FM_isCover (nI g) walks m = some 1 ∧ cv (nW m) walks g) ∨ (FM_isCover (nI g) walks m = some 0 ∧ ¬ cv (nW m) walks g) := by
  obtain ⟨b1, b2, b3⟩ := hg.2.1
  have L : ∀ (q i : Nat), i + q = nW m → ∀ f, q < f → (∀ w, w < i → F_hasBit walks (nI w) = 1 → wt (nW m) (nI g) w = true) → (FM_isCover_L2 (nI g) walks m f (nI i) = some 1 ∧ cv (nW m) walks g) ∨ (FM_isCover_L2 (nI g) walks m f (nI i) = some 0 ∧ ¬ cv (nW m) walks g) := by
    intro q
    induction q with
    | zero =>
      intro i hi f hf h
      obtain ⟨f, rfl⟩ : ∃ g, f = g + 1 := ⟨f - 1, by omega⟩
      have : i = nW m := by omega
      subst this
      rw [FM_isCover_L2, hg.1.1, if_pos (Int32.le_refl _)]
      exact Or.inl ⟨rfl, h⟩
    | succ q ih =>
      intro i hi f hf h
      obtain ⟨f, rfl⟩ : ∃ g, f = g + 1 := ⟨f - 1, by omega⟩
      rw [FM_isCover_L2, hg.1.1, if_neg (nI_ge (by omega) (by omega)), show FM_has walks (nI i) = F_hasBit walks (nI i) from rfl, nI_1, m_watched hg _ (by omega), Option.bind_some]
      rcases hb01 walks (nI i) with e1 | e1
      · rw [if_pos e1]
        exact ih (i + 1) (by omega) f (by omega) (fun w hw hx => by
          by_cases ew : w = i
          · rw [ew, e1] at hx; exact absurd hx (by decide)
          · exact h w (by omega) hx)
      · rw [if_neg (by rw [e1]; decide)]
        by_cases e2 : wt (nW m) (nI g) i = true
        · rw [if_pos e2, if_neg i10]
          exact ih (i + 1) (by omega) f (by omega) (fun w hw hx => by
            by_cases ew : w = i
            · rw [ew]; exact e2
            · exact h w (by omega) hx)
        · rw [if_neg e2, if_pos rfl]
          exact Or.inr ⟨rfl, fun hc => e2 (hc i (by omega) e1)⟩
  exact L (nW m) 0 (by omega) 1000 (by omega) (fun w hw => absurd hw (by omega))
theorem cv_and {W k : Nat} (hW : W ≤ 8) (hk : k < 2 ^ W) (g : Nat) : (a_ors (a_kid (wt W (nI g))) W &&& nI k) = nI k ↔ cv W (nI k) g := by
  have hz : ∀ i, i < 32 → ¬ i < W → bt (nI k) i = false := by
    intro i hi h
    show (BitVec.ofNat 32 k).getLsbD i = false
    rw [BitVec.getLsbD_ofNat]
    rw [Nat.testBit_lt_two_pow (Nat.lt_of_lt_of_le hk (Nat.pow_le_pow_right (by decide) (by omega)))]
    exact Bool.and_false _
  constructor
  · intro h w hw hx
    have hb : bt (a_ors (a_kid (wt W (nI g))) W &&& nI k) w = bt (nI k) w := by rw [h]
    rw [b_and, bt_ors _ _ hW w (by omega), decide_eq_true hw, Bool.true_and] at hb
    rw [hb_bt _ (show w < 32 by omega)] at hx
    cases h2 : bt (nI k) w with
    | false => rw [h2] at hx; exact absurd hx (by decide)
    | true => rw [h2, Bool.and_true] at hb; exact hb
  · intro h
    apply b_ext
    intro i hi
    rw [b_and, bt_ors _ _ hW i hi]
    by_cases e : i < W
    · rw [decide_eq_true e, Bool.true_and]
      cases h2 : bt (nI k) i with
      | false => rw [Bool.and_false]
      | true =>
        rw [Bool.and_true]
        exact h i e (by rw [hb_bt _ (show i < 32 by omega), h2]; rfl)
    · rw [hz i hi e, Bool.and_false]
/-- least of all covers: fewest gates first, then the least number -/
def lx (W : Nat) (walks : Int32) (b : Nat) : Prop := b ≤ 2 ^ W - 1 ∧ cv W walks b ∧ ∀ g, g ≤ 2 ^ W - 1 → cv W walks g → pc b < pc g ∨ (pc b = pc g ∧ b ≤ g)
theorem lx_u {W : Nat} {walks : Int32} {a b : Nat} (ha : lx W walks a) (hb : lx W walks b) : a = b := by
  have h1 := ha.2.2 b hb.1 hb.2.1
  have h2 := hb.2.2 a ha.1 ha.2.1
  omega
theorem pc_N : ∀ W, W ≤ 8 → ∀ g, g < 2 ^ W - 1 → pc g < pc (2 ^ W - 1) := by decide +kernel
theorem cv_N {W : Nat} (hW : W ≤ 8) (walks : Int32) : cv W walks (2 ^ W - 1) := by
  intro w hw _
  have h := has_all W hW w hw
  rw [(allOf_e W hW).1] at h
  unfold wt
  rw [h]
  rfl
theorem c_cover_L {c m0 : gM} (hg : v_g m0) (rg : r_g c m0) {k : Nat} (hk : k < 2 ^ nW m0) : ∀ (q g : Nat), g + q = 2 ^ nW m0 → ∀ f, q < f → ∀ b, b ≤ 2 ^ nW m0 - 1 → cv (nW m0) (nI k) b → (b < g ∨ b = 2 ^ nW m0 - 1) → (∀ x, x < g → cv (nW m0) (nI k) x → pc b < pc x ∨ (pc b = pc x ∧ b ≤ x)) → ∃ r, lx (nW m0) (nI k) r ∧ FX_cover_L25 (nI k) f (nI b) (nI g) c = some (0, nI r, c) := by
  obtain ⟨b1, b2, b3⟩ := hg.2.1
  obtain ⟨p1, p2, p3, p4⟩ := allOf_e (nW m0) b1
  intro q
  induction q with
  | zero =>
    intro g hgq f hf b hb1 hb2 hb3 hb4
    obtain ⟨f, rfl⟩ : ∃ k, f = k + 1 := ⟨f - 1, by omega⟩
    rw [FX_cover_L25, rg.1.1, hg.1.1, p1, if_pos (nI_lt (show 2 ^ nW m0 - 1 < g by omega) (by omega))]
    exact ⟨b, ⟨hb1, hb2, fun x hx => hb4 x (by omega)⟩, rfl⟩
  | succ q ih =>
    intro g hgq f hf b hb1 hb2 hb3 hb4
    obtain ⟨f, rfl⟩ : ∃ k, f = k + 1 := ⟨f - 1, by omega⟩
    obtain ⟨c1, c2, c3⟩ := pc_e g (by omega)
    obtain ⟨d1, d2, d3⟩ := pc_e b (by omega)
    rw [FX_cover_L25, rg.1.1, hg.1.1, p1, if_neg (nI_nlt (show g ≤ 2 ^ nW m0 - 1 by omega) (by omega)), c_watched hg rg, Option.bind_some]
    unfold FX_cover_J58
    rw [nI_1, c1, d1]
    by_cases e : (a_ors (a_kid (wt (nW m0) (nI g))) (nW m0) &&& nI k) = nI k
    · have hc := (cv_and b1 hk g).mp e
      rw [if_pos e, if_neg i10]
      by_cases e2 : pc b ≤ pc g
      · rw [if_pos (nI_le e2 (by omega))]
        refine ih (g + 1) (by omega) f (by omega) b hb1 hb2 (by omega) (fun x hx hcx => ?_)
        by_cases ex : x = g
        · subst ex
          rcases Nat.lt_or_ge (pc b) (pc x) with w | w
          · exact Or.inl w
          · refine Or.inr ⟨by omega, ?_⟩
            rcases hb3 with w2 | w2
            · omega
            · rcases Nat.lt_or_ge x (2 ^ nW m0 - 1) with w3 | w3
              · have := pc_N (nW m0) b1 x w3
                rw [← w2] at this
                omega
              · omega
        · exact hb4 x (by omega) hcx
      · rw [if_neg (nI_ge (by omega) (by omega))]
        refine ih (g + 1) (by omega) f (by omega) g (by omega) hc (by omega) (fun x hx hcx => ?_)
        by_cases ex : x = g
        · exact Or.inr ⟨by rw [ex], by omega⟩
        · have := hb4 x (by omega) hcx
          omega
    · rw [if_neg e, if_pos rfl]
      refine ih (g + 1) (by omega) f (by omega) b hb1 hb2 (by omega) (fun x hx hcx => ?_)
      by_cases ex : x = g
      · rw [ex] at hcx
        exact absurd ((cv_and b1 hk g).mpr hcx) e
      · exact hb4 x (by omega) hcx
theorem m_cover_L {m0 : gM} (hg : v_g m0) (walks : Int32) : ∀ (g : Nat), g ≤ 2 ^ nW m0 → ∀ f, g < f → ∀ b, g ≤ b + 1 → b ≤ 2 ^ nW m0 - 1 → cv (nW m0) walks b → (∀ x, g ≤ x → x ≤ 2 ^ nW m0 - 1 → cv (nW m0) walks x → pc b < pc x ∨ (pc b = pc x ∧ b ≤ x)) → ∃ r, lx (nW m0) walks r ∧ FM_cover_L42 walks f (nI b) (nI g + (-1)) m0 = some (nI r, m0) := by
  obtain ⟨b1, b2, b3⟩ := hg.2.1
  obtain ⟨p1, p2, p3, p4⟩ := allOf_e (nW m0) b1
  intro g
  induction g with
  | zero =>
    intro hgq f hf b hb0 hb1 hb2 hb4
    obtain ⟨f, rfl⟩ : ∃ k, f = k + 1 := ⟨f - 1, by omega⟩
    rw [FM_cover_L42, if_pos (show nI 0 + (-1) < 0 by decide)]
    exact ⟨b, ⟨hb1, hb2, fun x hx => hb4 x (by omega) hx⟩, rfl⟩
  | succ g ih =>
    intro hgq f hf b hb0 hb1 hb2 hb4
    obtain ⟨f, rfl⟩ : ∃ k, f = k + 1 := ⟨f - 1, by omega⟩
    obtain ⟨c1, c2, c3⟩ := pc_e g (by omega)
    obtain ⟨d1, d2, d3⟩ := pc_e b (by omega)
    rw [FM_cover_L42, nI_m1, if_neg (nI_pos (by omega))]
    rcases m_isCover hg walks g with ⟨e1, e2⟩ | ⟨e1, e2⟩
    · rw [e1, Option.bind_some, if_neg i10, c2, Option.bind_some, d2, Option.bind_some]
      by_cases e : pc b < pc g
      · rw [if_pos (nI_lt e (by omega))]
        refine ih (by omega) f (by omega) b (by omega) hb1 hb2 (fun x hx hx2 hcx => ?_)
        by_cases ex : x = g
        · rw [ex]; exact Or.inl e
        · exact hb4 x (by omega) hx2 hcx
      · rw [if_neg (nI_nlt (by omega) (by omega))]
        refine ih (by omega) f (by omega) g (by omega) (by omega) e2 (fun x hx hx2 hcx => ?_)
        by_cases ex : x = g
        · exact Or.inr ⟨by rw [ex], by omega⟩
        · have := hb4 x (by omega) hx2 hcx
          omega
    · rw [e1, Option.bind_some, if_pos rfl]
      refine ih (by omega) f (by omega) b (by omega) hb1 hb2 (fun x hx hx2 hcx => ?_)
      by_cases ex : x = g
      · rw [ex] at hcx; exact absurd hcx e2
      · exact hb4 x (by omega) hx2 hcx

theorem q_cover {c m : gM} (h : RR c m) (w : Int32) : qq 1 (FX_cover w c) (FM_cover w m) := by
  have h0 := RR_t h 0
  obtain ⟨m0, e0⟩ : ∃ y, y = g_set m 464 0 0 := ⟨_, rfl⟩
  rw [← e0] at h0
  have z0 : m0 464 0 = 0 := by rw [e0, g_set_eq]
  have hb := h0
  obtain ⟨t1, t2, ⟨hg, rg⟩, ⟨hl, rl⟩, t7, t8, t9, t10⟩ := hb
  have rs := t8.2
  have hv := t8.1.1
  unfold FX_cover FM_cover
  rw [← e0]
  rcases nd_bW rg w with ⟨f1, aw, bw, x1⟩ | ⟨f1, x1⟩
  · refine qq_bX x1 (qq_tX rfl (qq_fM (by rw [f1]; decide) ?_))
    unfold FM_cover_J19
    refine qq_bM (m_bad0 z0 _ _) (qq_tM rfl ?_)
    dsimp only
    have W8 := hg.2.1.1
    obtain ⟨p1, p2, p3, p4⟩ := allOf_e (nW m0) W8
    rw [hg.1.1, p1] at bw
    obtain ⟨k, hk, rfl⟩ := nI_of2 (n := 2 ^ nW m0 - 1) (nI_toInt (by omega)) aw bw
    obtain ⟨r, hr, x2⟩ := c_cover_L hg rg (k := k) (by omega) (2 ^ nW m0) 0 (by omega) 1000 (by omega) (2 ^ nW m0 - 1) (by omega) (cv_N W8 _) (Or.inr rfl) (fun x hx => absurd hx (by omega))
    obtain ⟨r2, hr2, y2⟩ := m_cover_L hg (nI k) (2 ^ nW m0) (by omega) 1000 (by omega) (2 ^ nW m0 - 1) (by omega) (by omega) (cv_N W8 _) (fun x hx hx2 => absurd hx (by omega))
    have er := lx_u hr hr2
    subst er
    rw [rg.1.1, hg.1.1, p1, show (1 : Int32) <<< (nI (nW m0) &&& 31) - 1 = nI (2 ^ nW m0 - 1) from p1]
    have y3 : FM_cover_L42 (nI k) 1000 (nI (2 ^ nW m0 - 1)) (nI (2 ^ nW m0 - 1)) m0 = some (nI r, m0) := by
      rw [show nI (2 ^ nW m0) + (-1) = nI (2 ^ nW m0 - 1) by rw [show 2 ^ nW m0 = (2 ^ nW m0 - 1) + 1 by omega, nI_m1, Nat.add_sub_cancel]] at y2
      exact y2
    have x3 : FX_cover_L25 (nI k) 1000 (nI (2 ^ nW m0 - 1)) (0 : Int32) c = some (0, nI r, c) := x2
    rw [x3, y3]
    exact qq_ok z0 h0
  · refine qq_bX x1 (qq_fX n20 (qq_tM f1 ?_))
    unfold FM_cover_J19
    refine qq_bM (m_bad_il z0 (by decide)) (qq_fM i10 ?_)
    exact qq_il h0
