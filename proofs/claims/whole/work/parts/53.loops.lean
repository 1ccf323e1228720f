/-! Calls that look over all hoops, or all children. -/
theorem q_load_L {c m0 : gM} (h0 : RR c m0) (z0 : m0 464 0 = 0) (x : Int32) : ∀ (q i : Nat), i + q = nH m0 → ∀ f, q < f → ∀ s, qq 1 (FX_load_L16 x f s (nI i) c) (FM_load_L33 x f s (nI i) m0) := by
  have hb := h0
  obtain ⟨t1, t2, ⟨hg, rg⟩, ⟨hl, rl⟩, t7, t8, t9, t10⟩ := hb
  obtain ⟨b1, b2, b3⟩ := hg.2.1
  intro q
  induction q with
  | zero =>
    intro i hi f hf s
    obtain ⟨f, rfl⟩ : ∃ g, f = g + 1 := ⟨f - 1, by omega⟩
    have : i = nH m0 := by omega
    subst this
    unfold FX_load_L16 FM_load_L33
    rw [rg.1.2.2.1, hg.1.2.2, if_pos (Int32.le_refl _), if_pos (Int32.le_refl _)]
    exact qq_ok z0 h0
  | succ q ih =>
    intro i hi f hf s
    obtain ⟨f, rfl⟩ : ∃ g, f = g + 1 := ⟨f - 1, by omega⟩
    unfold FX_load_L16 FM_load_L33
    have g : ¬ nI (nH m0) ≤ nI i := nI_ge (by omega) (by omega)
    rw [rg.1.2.2.1, hg.1.2.2, if_neg g, if_neg g, nI_00, ix_in (by omega) (by omega), ix_in (by omega) (by omega), r_at_in _ (by omega) (by decide), r_at_in _ (by omega) (by decide), (t8.2.1 i (by omega)).1, rg.2.2.2 i (by omega), nI_1, Int32.add_zero]
    by_cases e : m0 930 i = x
    · rw [if_pos e, if_pos e]
      exact ih (i + 1) (by omega) f (by omega) _
    · rw [if_neg e, if_neg e]
      exact ih (i + 1) (by omega) f (by omega) _

theorem q_load {c m : gM} (h : RR c m) (cc : Int32) : qq 1 (FX_load cc c) (FM_load cc m) := by
  have h0 := RR_t h 0
  obtain ⟨m0, e0⟩ : ∃ y, y = g_set m 464 0 0 := ⟨_, rfl⟩
  rw [← e0] at h0
  have z0 : m0 464 0 = 0 := by rw [e0, g_set_eq]
  have hb := h0
  obtain ⟨t1, t2, ⟨hg, rg⟩, ⟨hl, rl⟩, t7, t8, t9, t10⟩ := hb
  have rs := t8.2
  have hv := t8.1.1
  unfold FX_load FM_load
  rw [← e0]
  rcases nd_C hg rg cc with ⟨f1, ⟨jcc, hcc, rfl⟩, x1⟩ | ⟨f1, x1⟩
  · refine qq_bX x1 (qq_tX rfl (qq_fM (by rw [f1]; decide) ?_))
    unfold FM_load_J19
    refine qq_bM (m_bad0 z0 _ _) (qq_tM rfl ?_)
    dsimp only
    exact q_load_L h0 z0 _ (nH m0) 0 (by omega) 1000 (by have := hg.2.1.2.2; omega) _
  · refine qq_bX x1 (qq_fX n10 (qq_tM f1 ?_))
    unfold FM_load_J19
    refine qq_bM (m_bad_no z0 (by decide)) (qq_fM i10 ?_)
    exact qq_no h0

theorem q_debtor_L {c m0 : gM} (h0 : RR c m0) (z0 : m0 464 0 = 0) (what : Int32) : ∀ (q i : Nat), i + q = nC m0 → ∀ f, q < f → ∀ s t, qq 1 (FX_debtor_L14 what f s t (nI i) c) (FM_debtor_L37 what f s t (nI i) m0) := by
  have hb := h0
  obtain ⟨t1, t2, ⟨hg, rg⟩, ⟨hl, rl⟩, t7, t8, t9, t10⟩ := hb
  obtain ⟨b1, b2, b3⟩ := hg.2.1
  intro q
  induction q with
  | zero =>
    intro i hi f hf s t
    obtain ⟨f, rfl⟩ : ∃ g, f = g + 1 := ⟨f - 1, by omega⟩
    have : i = nC m0 := by omega
    subst this
    unfold FX_debtor_L14 FM_debtor_L37
    rw [rg.1.2.1, hg.1.2.1, if_pos (Int32.le_refl _), if_pos (Int32.le_refl _)]
    by_cases e1 : s = -1
    · rw [if_pos e1, if_pos e1, e1]
      by_cases e2 : what = 0
      · rw [if_pos e2]; exact qq_ok z0 h0
      · rw [if_neg e2]; exact qq_ok z0 h0
    · rw [if_neg e1, if_neg e1]
      by_cases e2 : what = 0
      · rw [if_pos e2, if_pos e2]; exact qq_ok z0 h0
      · rw [if_neg e2, if_neg e2]; exact qq_ok z0 h0
  | succ q ih =>
    intro i hi f hf s t
    obtain ⟨f, rfl⟩ : ∃ g, f = g + 1 := ⟨f - 1, by omega⟩
    unfold FX_debtor_L14 FM_debtor_L37
    have g : ¬ nI (nC m0) ≤ nI i := nI_ge (by omega) (by omega)
    rw [rg.1.2.1, hg.1.2.1, if_neg g, if_neg g, nI_24, ix_in (by omega) (by omega), ix_in (by omega) (by omega), r_at_in _ (by omega) (by decide), (t8.2.1 i (by omega)).2.2.2.1, nI_1]
    by_cases e : m0 930 (24 + i) ≤ t
    · rw [if_pos e, if_neg (Int32.not_lt.mpr e)]
      exact ih (i + 1) (by omega) f (by omega) _ _
    · rw [if_neg e, if_pos (Int32.not_le.mp e)]
      exact ih (i + 1) (by omega) f (by omega) _ _

theorem q_debtor {c m : gM} (h : RR c m) (what : Int32) : qq 1 (FX_debtor what c) (FM_debtor what m) := by
  have h0 := RR_t h 0
  obtain ⟨m0, e0⟩ : ∃ y, y = g_set m 464 0 0 := ⟨_, rfl⟩
  rw [← e0] at h0
  have z0 : m0 464 0 = 0 := by rw [e0, g_set_eq]
  have hb := h0
  obtain ⟨t1, t2, ⟨hg, rg⟩, ⟨hl, rl⟩, t7, t8, t9, t10⟩ := hb
  have rs := t8.2
  have hv := t8.1.1
  unfold FX_debtor FM_debtor
  rw [← e0]
  rcases c_needIn c what 0 1 with ⟨f1, awhat, bwhat, x1⟩ | ⟨f1, x1⟩
  · refine qq_bX x1 (qq_tX rfl (qq_fM (by rw [f1]; decide) ?_))
    unfold FM_debtor_J20
    refine qq_bM (m_bad0 z0 _ _) (qq_tM rfl ?_)
    dsimp only
    exact q_debtor_L h0 z0 _ (nC m0) 0 (by omega) 1000 (by have := hg.2.1.2.1; omega) _ _
  · refine qq_bX x1 (qq_fX n20 (qq_tM f1 ?_))
    unfold FM_debtor_J20
    refine qq_bM (m_bad_il z0 (by decide)) (qq_fM i10 ?_)
    exact qq_il h0

theorem q_quickest_L {c0 m0 : gM} (h0 : RR c0 m0) (z0 : m0 464 0 = 0) {h : Nat} (hh : h < nH m0) (what : Int32) : ∀ (q i : Nat), i + q = nC m0 → ∀ f, q < f → ∀ s t c m, eC0 c0 c → eM0 m0 m → qq 2 (FX_quickest_L27 (nI h) what f s t (nI i) c) (FM_quickest_L60 (nI h) what f s t (nI i) m) := by
  have hb := h0
  obtain ⟨t1, t2, ⟨hg, rg⟩, ⟨hl, rl⟩, t7, t8, t9, t10⟩ := hb
  obtain ⟨b1, b2, b3⟩ := hg.2.1
  intro q
  induction q with
  | zero =>
    intro i hi f hf s t c m ec em
    obtain ⟨f, rfl⟩ : ∃ g, f = g + 1 := ⟨f - 1, by omega⟩
    have : i = nC m0 := by omega
    subst this
    unfold FX_quickest_L27 FM_quickest_L60
    rw [ec.1 3 (by decide), em 468 (by decide), rg.1.2.1, hg.1.2.1, if_pos (Int32.le_refl _), if_pos (Int32.le_refl _)]
    have h9 := RR_e h0 ec.eC em.eM
    have z9 : m 464 0 = 0 := by rw [em 464 (by decide)]; exact z0
    by_cases e2 : what = 0
    · rw [if_pos e2, if_pos e2]; exact qq_ok z9 h9
    · rw [if_neg e2, if_neg e2]; exact qq_ok z9 h9
  | succ q ih =>
    intro i hi f hf s t c m ec em
    obtain ⟨f, rfl⟩ : ∃ g, f = g + 1 := ⟨f - 1, by omega⟩
    unfold FX_quickest_L27 FM_quickest_L60
    have g : ¬ nI (nC m0) ≤ nI i := nI_ge (by omega) (by omega)
    have h9 := RR_e h0 ec.eC em.eM
    obtain ⟨u1, u2, ⟨ug, vg⟩, ⟨ul, vl⟩, u7, u8, u9, u10⟩ := h9
    have eH : nH m = nH m0 := eM_H em.eM
    have eK : nC m = nC m0 := eM_C em.eM
    rw [ec.1 3 (by decide), em 468 (by decide), rg.1.2.1, hg.1.2.1, if_neg g, if_neg g]
    obtain ⟨c1, x1, q1⟩ := c_longOf ug vg vl (a := 48) (by decide) (by decide) u8.2 (k := i) (h := h) (by omega) (by omega)
    obtain ⟨m1, y1, p1⟩ := m_longOf ug ul (c := i) (h := h) (by omega) (by omega)
    rw [x1, y1]
    simp only [Option.bind_some, nI_1]
    by_cases e1 : s = -1
    · rw [if_pos e1, if_pos e1]
      exact ih (i + 1) (by omega) f (by omega) _ _ _ _ (ec.trans q1) (em.trans p1)
    · rw [if_neg e1, if_neg e1]
      by_cases e : t ≤ a_long m (m 930) i h
      · rw [if_pos e, if_neg (Int32.not_lt.mpr e)]
        exact ih (i + 1) (by omega) f (by omega) _ _ _ _ (ec.trans q1) (em.trans p1)
      · rw [if_neg e, if_pos (Int32.not_le.mp e)]
        exact ih (i + 1) (by omega) f (by omega) _ _ _ _ (ec.trans q1) (em.trans p1)

theorem q_quickest {c m : gM} (h : RR c m) (hh what : Int32) : qq 2 (FX_quickest hh what c) (FM_quickest hh what m) := by
  have h0 := RR_t h 0
  obtain ⟨m0, e0⟩ : ∃ y, y = g_set m 464 0 0 := ⟨_, rfl⟩
  rw [← e0] at h0
  have z0 : m0 464 0 = 0 := by rw [e0, g_set_eq]
  have hb := h0
  obtain ⟨t1, t2, ⟨hg, rg⟩, ⟨hl, rl⟩, t7, t8, t9, t10⟩ := hb
  have rs := t8.2
  have hv := t8.1.1
  unfold FX_quickest FM_quickest
  rw [← e0]
  rcases nd_H hg rg hh with ⟨f1, ⟨jhh, hhh, rfl⟩, x1⟩ | ⟨f1, x1⟩
  · refine qq_bX x1 (qq_tX rfl (qq_fM (by rw [f1]; decide) ?_))
    unfold FM_quickest_J19
    refine qq_bM (m_bad0 z0 _ _) (qq_tM rfl ?_)
    rcases c_needIn c what 0 1 with ⟨f2, awhat, bwhat, x2⟩ | ⟨f2, x2⟩
    · refine qq_bX x2 (qq_tX rfl (qq_fM (by rw [f2]; decide) ?_))
      unfold FM_quickest_J42
      refine qq_bM (m_bad0 z0 _ _) (qq_tM rfl ?_)
      dsimp only
      exact q_quickest_L h0 z0 hhh what (nC m0) 0 (by omega) 1000 (by have := hg.2.1.2.1; omega) _ _ _ _ (eC0.rfl' c) (eM0.rfl' m0)
    · refine qq_bX x2 (qq_fX n20 (qq_tM f2 ?_))
      unfold FM_quickest_J42
      refine qq_bM (m_bad_il z0 (by decide)) (qq_fM i10 ?_)
      exact qq_il h0
  · refine qq_bX x1 (qq_fX n10 (qq_tM f1 ?_))
    unfold FM_quickest_J19
    refine qq_bM (m_bad_no z0 (by decide)) (qq_fM i10 ?_)
    exact qq_no h0

theorem q_slowest_L {c0 m0 : gM} (h0 : RR c0 m0) (z0 : m0 464 0 = 0) (what : Int32) : ∀ (q i : Nat), i + q = nH m0 → ∀ f, q < f → ∀ s t c m, eC0 c0 c → eM0 m0 m → qq 1 (FX_slowest_L14 what f s t (nI i) c) (FM_slowest_L37 what f s t (nI i) m) := by
  have hb := h0
  obtain ⟨t1, t2, ⟨hg, rg⟩, ⟨hl, rl⟩, t7, t8, t9, t10⟩ := hb
  obtain ⟨b1, b2, b3⟩ := hg.2.1
  intro q
  induction q with
  | zero =>
    intro i hi f hf s t c m ec em
    obtain ⟨f, rfl⟩ : ∃ g, f = g + 1 := ⟨f - 1, by omega⟩
    have : i = nH m0 := by omega
    subst this
    unfold FX_slowest_L14 FM_slowest_L37
    rw [ec.1 3 (by decide), em 468 (by decide), rg.1.2.2.1, hg.1.2.2, if_pos (Int32.le_refl _), if_pos (Int32.le_refl _)]
    have h9 := RR_e h0 ec.eC em.eM
    have z9 : m 464 0 = 0 := by rw [em 464 (by decide)]; exact z0
    by_cases e2 : what = 0
    · rw [if_pos e2, if_pos e2]; exact qq_ok z9 h9
    · rw [if_neg e2, if_neg e2]; exact qq_ok z9 h9
  | succ q ih =>
    intro i hi f hf s t c m ec em
    obtain ⟨f, rfl⟩ : ∃ g, f = g + 1 := ⟨f - 1, by omega⟩
    unfold FX_slowest_L14 FM_slowest_L37
    have g : ¬ nI (nH m0) ≤ nI i := nI_ge (by omega) (by omega)
    have h9 := RR_e h0 ec.eC em.eM
    obtain ⟨u1, u2, ⟨ug, vg⟩, ⟨ul, vl⟩, u7, u8, u9, u10⟩ := h9
    have eH : nH m = nH m0 := eM_H em.eM
    have eK : nC m = nC m0 := eM_C em.eM
    have tail : ∀ y c1 m1, eC0 c0 c1 → eM0 m0 m1 → qq 1 (FX_slowest_J71 what (FX_slowest_L14 what f) s t (nI i) y c1) (FM_slowest_J80 what (FM_slowest_L37 what f) s t (nI i) y m1) := by
      intro y c1 m1 k1 k2
      unfold FX_slowest_J71 FM_slowest_J80
      rw [nI_1]
      by_cases e : y ≤ t
      · rw [if_pos e, if_neg (Int32.not_lt.mpr e)]
        exact ih (i + 1) (by omega) f (by omega) _ _ _ _ k1 k2
      · rw [if_neg e, if_pos (Int32.not_le.mp e)]
        exact ih (i + 1) (by omega) f (by omega) _ _ _ _ k1 k2
    rw [ec.1 3 (by decide), em 468 (by decide), rg.1.2.2.1, hg.1.2.2, if_neg g, if_neg g, nI_00, ix_in (by omega) (by omega), ix_in (by omega) (by omega), r_at_in _ (by omega) (by decide), (u8.2.1 i (by omega)).1]
    by_cases e : m 930 i = -1
    · rw [if_pos e, if_pos e]
      exact tail _ _ _ ec em
    · rw [if_neg e, if_neg e]
      rcases u8.1.1.1 i (by omega) with q0 | ⟨-, k, hk, q0⟩
      · exact absurd q0 e
      · rw [q0]
        obtain ⟨c1, x1, q1⟩ := c_longOf ug vg vl (a := 48) (by decide) (by decide) u8.2 (k := k) (h := i) (by omega) (by omega)
        obtain ⟨m1, y1, p1⟩ := m_longOf ug ul (c := k) (h := i) (by omega) (by omega)
        rw [x1, y1]
        exact tail _ _ _ (ec.trans q1) (em.trans p1)

theorem q_slowest {c m : gM} (h : RR c m) (what : Int32) : qq 1 (FX_slowest what c) (FM_slowest what m) := by
  have h0 := RR_t h 0
  obtain ⟨m0, e0⟩ : ∃ y, y = g_set m 464 0 0 := ⟨_, rfl⟩
  rw [← e0] at h0
  have z0 : m0 464 0 = 0 := by rw [e0, g_set_eq]
  have hb := h0
  obtain ⟨t1, t2, ⟨hg, rg⟩, ⟨hl, rl⟩, t7, t8, t9, t10⟩ := hb
  have rs := t8.2
  have hv := t8.1.1
  unfold FX_slowest FM_slowest
  rw [← e0]
  rcases c_needIn c what 0 1 with ⟨f1, awhat, bwhat, x1⟩ | ⟨f1, x1⟩
  · refine qq_bX x1 (qq_tX rfl (qq_fM (by rw [f1]; decide) ?_))
    unfold FM_slowest_J20
    refine qq_bM (m_bad0 z0 _ _) (qq_tM rfl ?_)
    dsimp only
    exact q_slowest_L h0 z0 what (nH m0) 0 (by omega) 1000 (by have := hg.2.1.2.2; omega) _ _ _ _ (eC0.rfl' c) (eM0.rfl' m0)
  · refine qq_bX x1 (qq_fX n20 (qq_tM f1 ?_))
    unfold FM_slowest_J20
    refine qq_bM (m_bad_il z0 (by decide)) (qq_fM i10 ?_)
    exact qq_il h0

/-- the bits of the children that a predicate picks -/
def a_kid (P : Nat → Bool) (k : Nat) : Int32 := if P k then (1 : Int32) <<< (nI k &&& 31) else 0
theorem i_and_or (x z n : Int32) : (x ||| z) &&& n = (x &&& n) ||| (z &&& n) := by
  apply Int32.toBitVec_inj.mp
  simp only [Int32.toBitVec_and, Int32.toBitVec_or]
  apply BitVec.eq_of_getLsbD_eq
  intro i hi
  simp only [BitVec.getLsbD_and, BitVec.getLsbD_or]
  cases x.toBitVec.getLsbD i <;> cases z.toBitVec.getLsbD i <;> cases n.toBitVec.getLsbD i <;> rfl
theorem i_bit_not : ∀ k, k < 8 → ∀ j, j < 8 → (((1 : Int32) <<< (nI k &&& 31)) &&& (((1 : Int32) <<< (nI j &&& 31)) ^^^ (-1 : Int32))) = if k = j then 0 else (1 : Int32) <<< (nI k &&& 31) := by decide +kernel
theorem a_kid_cg {P Q : Nat → Bool} {k : Nat} (h : P k = Q k) : a_kid P k = a_kid Q k := by
  unfold a_kid
  rw [h]
theorem a_kid_off (P : Nat → Bool) {j : Nat} (hj : j < 8) : ∀ n, n ≤ 8 → a_ors (a_kid P) n &&& (((1 : Int32) <<< (nI j &&& 31)) ^^^ (-1 : Int32)) = a_ors (a_kid (fun k => P k && !(k == j))) n := by
  intro n
  induction n with
  | zero => intro _; exact Int32.zero_and
  | succ n ih =>
    intro hn
    show (a_ors (a_kid P) n ||| a_kid P n) &&& _ = a_ors _ n ||| a_kid _ n
    rw [i_and_or, ih (by omega)]
    congr 1
    unfold a_kid
    by_cases h : P n
    · rw [if_pos h, i_bit_not n (by omega) j hj]
      by_cases e : n = j
      · rw [if_pos e, if_neg (by simp [e])]
      · rw [if_neg e, if_pos (by simp [h, e])]
    · rw [if_neg h, if_neg (by simp [h]), Int32.zero_and]
theorem a_kid_all : ∀ n, n ≤ 8 → ((1 : Int32) <<< (nI n &&& 31)) - 1 = a_ors (a_kid (fun _ => true)) n := by decide +kernel
theorem a_ors_congr {f g : Nat → Int32} : ∀ {n : Nat}, (∀ k, k < n → f k = g k) → a_ors f n = a_ors g n := by
  intro n
  induction n with
  | zero => intro _; rfl
  | succ n ih => intro h; show a_ors f n ||| f n = a_ors g n ||| g n; rw [ih (fun k hk => h k (by omega)), h n (by omega)]
/-- no hoop of the first n is this child's -/
def a_free (r : Nat → Int32) (k : Nat) : Nat → Bool
  | 0 => true
  | n + 1 => a_free r k n && !(r n == nI k)
theorem m_idle_L {m : gM} (hg : v_g m) (hv : v_row (nW m) (nC m) (nH m) (m 930)) : ∀ (q i : Nat), i + q = nH m → ∀ f, q < f → FM_idle_L18 f (a_ors (a_kid (fun k => a_free (m 930) k i)) (nC m)) (nI i) m = some (a_ors (a_kid (fun k => a_free (m 930) k (nH m))) (nC m), m) := by
  obtain ⟨b1, b2, b3⟩ := hg.2.1
  intro q
  induction q with
  | zero =>
    intro i hi f hf
    obtain ⟨f, rfl⟩ : ∃ g, f = g + 1 := ⟨f - 1, by omega⟩
    have : i = nH m := by omega
    subst this
    unfold FM_idle_L18
    rw [if_pos (by rw [hg.1.2.2]; exact Int32.le_refl _)]
  | succ q ih =>
    intro i hi f hf
    obtain ⟨f, rfl⟩ : ∃ g, f = g + 1 := ⟨f - 1, by omega⟩
    have h := ih (i + 1) (by omega) f (by omega)
    unfold FM_idle_L18
    rw [if_neg (by rw [hg.1.2.2]; exact nI_ge (by omega) (by omega)), nI_00, ix_in (by omega) (by omega), ix_in (by omega) (by omega), nI_1]
    rcases hv.1 i (by omega) with e | ⟨-, j, hj, e⟩
    · rw [if_pos e, Int32.and_self]
      rw [a_ors_congr (g := a_kid (fun k => a_free (m 930) k i)) (fun k hk => a_kid_cg (by
        show (a_free (m 930) k i && !(m 930 i == nI k)) = a_free (m 930) k i
        rw [show (m 930 i == nI k) = false from by rw [e]; exact beq_eq_false_iff_ne.mpr (nI_m1ne (by omega))]
        simp))] at h
      exact h
    · have ne : ¬ nI j = -1 := fun q => nI_m1ne (show j < 8 by omega) q.symm
      rw [if_neg (by rw [e]; exact ne), e, a_kid_off _ (by omega) _ (by omega)]
      rw [a_ors_congr (g := a_kid (fun k => a_free (m 930) k i && !(k == j))) (fun k hk => a_kid_cg (by
        show (a_free (m 930) k i && !(m 930 i == nI k)) = (a_free (m 930) k i && !(k == j))
        have : (m 930 i == nI k) = (k == j) := by
          rw [e]
          by_cases q : k = j
          · subst q; simp
          · have q2 : ¬ nI j = nI k := fun w => q ((nI_eq (by omega) (by omega)).mp w).symm
            rw [beq_eq_false_iff_ne.mpr q2, beq_eq_false_iff_ne.mpr q]
        rw [this]))] at h
      exact h
theorem a_free_iff {r : Nat → Int32} {k : Nat} (hk : k < 8) : ∀ n, n ≤ 8 → (a_free r k n = true ↔ a_ors (a_his r (nI k)) n = 0) := by
  have key : ∀ x z : Int32, x ||| z = 0 ↔ x = 0 ∧ z = 0 := by
    intro x z
    constructor
    · intro h
      have hb : ∀ i, i < 32 → x.toBitVec.getLsbD i = false ∧ z.toBitVec.getLsbD i = false := by
        intro i hi
        have h2 : (x ||| z).toBitVec.getLsbD i = false := by rw [h]; simp
        rw [Int32.toBitVec_or, BitVec.getLsbD_or] at h2
        exact Bool.or_eq_false_iff.mp h2
      constructor
      · apply Int32.toBitVec_inj.mp
        apply BitVec.eq_of_getLsbD_eq
        intro i hi
        rw [(hb i hi).1]; simp
      · apply Int32.toBitVec_inj.mp
        apply BitVec.eq_of_getLsbD_eq
        intro i hi
        rw [(hb i hi).2]; simp
    · rintro ⟨rfl, rfl⟩; decide
  have nz : ∀ q, q < 8 → ¬ (1 : Int32) <<< (nI q &&& 31) = 0 := by decide +kernel
  intro n
  induction n with
  | zero => intro _; exact ⟨fun _ => rfl, fun _ => rfl⟩
  | succ n ih =>
    intro hn
    show (a_free r k n && !(r n == nI k)) = true ↔ a_ors (a_his r (nI k)) n ||| a_his r (nI k) n = 0
    rw [key, ← ih (by omega), Bool.and_eq_true]
    have : (!(r n == nI k)) = true ↔ a_his r (nI k) n = 0 := by
      unfold a_his
      by_cases e : r n = nI k
      · rw [if_pos e]
        simp only [e, beq_self_eq_true, Bool.not_true, Bool.false_eq_true, false_iff]
        exact nz n (by omega)
      · rw [if_neg e]
        simp [beq_eq_false_iff_ne.mpr e]
    rw [this]
theorem c_idle {c m : gM} (hg : v_g m) (rg : r_g c m) {r : Nat → Int32} (hv : v_row (nW m) (nC m) (nH m) r) (rs : r_st c 48 r) : FX_idle c = some (a_ors (a_kid (fun k => a_free r k (nH m))) (nC m)) := by
  obtain ⟨b1, b2, b3⟩ := hg.2.1
  have L : ∀ (q i : Nat), i + q = nC m → ∀ f, q < f → FX_idle_L4 c f (a_ors (a_kid (fun k => a_free r k (nH m))) i) (nI i) = some (a_ors (a_kid (fun k => a_free r k (nH m))) (nC m)) := by
    intro q
    induction q with
    | zero =>
      intro i hi f hf
      obtain ⟨f, rfl⟩ : ∃ g, f = g + 1 := ⟨f - 1, by omega⟩
      have : i = nC m := by omega
      subst this
      unfold FX_idle_L4
      rw [if_pos (by rw [rg.1.2.1, hg.1.2.1]; exact Int32.le_refl _)]
    | succ q ih =>
      intro i hi f hf
      obtain ⟨f, rfl⟩ : ∃ g, f = g + 1 := ⟨f - 1, by omega⟩
      have h := ih (i + 1) (by omega) f (by omega)
      rw [show a_ors (a_kid (fun k => a_free r k (nH m))) (i + 1) = a_ors (a_kid (fun k => a_free r k (nH m))) i ||| a_kid (fun k => a_free r k (nH m)) i from rfl] at h
      unfold FX_idle_L4
      rw [if_neg (by rw [rg.1.2.1, hg.1.2.1]; exact nI_ge (by omega) (by omega)), c_hoopsOf rs, Option.bind_some, a_ors_H hv b3 (by omega), nI_1]
      have key := a_free_iff (r := r) (k := i) (by omega) (nH m) b3
      by_cases e : a_ors (a_his r (nI i)) (nH m) = 0
      · rw [if_pos e]
        rw [show a_kid (fun k => a_free r k (nH m)) i = (1 : Int32) <<< (nI i &&& 31) from if_pos (key.mpr e)] at h
        exact h
      · rw [if_neg e]
        rw [show a_kid (fun k => a_free r k (nH m)) i = 0 from if_neg (fun q => e (key.mp q)), Int32.or_zero] at h
        exact h
  unfold FX_idle
  exact L (nC m) 0 (by omega) 1000 (by omega)
/-- calls that answer at once and leave the class as it was -/
def qp (fx : Option Int32) (c : gM) (fm : Option (Int32 × gM)) : Prop := okk fx (fun x => okk fm (fun t => t.1 = x ∧ RR c t.2))
theorem q_idle {c m : gM} (h : RR c m) : qp (FX_idle c) c (FM_idle m) := by
  have h0 := RR_t h 0
  obtain ⟨t1, t2, ⟨hg, rg⟩, ⟨hl, rl⟩, t7, t8, t9, t10⟩ := id h0
  have hn : m 468 1 = nI (nC m) := h.2.2.1.1.1.2.1
  have e1 : nC (g_set m 464 0 0) = nC m := rfl
  unfold FM_idle
  rw [c_idle hg rg t8.1.1 t8.2]
  have b3 := hg.2.1.2.2
  have hL := m_idle_L hg t8.1.1 (nH (g_set m 464 0 0)) 0 (by omega) 1000 (by omega)
  rw [show a_ors (a_kid (fun k => a_free ((g_set m 464 0 0) 930) k 0)) (nC (g_set m 464 0 0)) = ((1 : Int32) <<< (m 468 1 &&& 31)) - 1 from by rw [hn, ← e1]; exact (a_kid_all _ hg.2.1.2.1).symm] at hL
  exact okk_some (okk_eq hL ⟨rfl, h0⟩)
theorem q_fault {c m : gM} (h : RR c m) : qp (some (FX_fault c)) c (FM_fault m) := by
  unfold FM_fault FX_fault
  exact okk_some (okk_some ⟨h.2.1.1.symm, RR_t h 0⟩)
theorem q_status {c m : gM} (h : RR c m) (what : Int32) : qp (some (FX_status what c)) c (FM_status what m) := by
  have h0 := RR_t h 0
  refine okk_some ?_
  unfold FM_status FX_status
  rcases c_needIn c what 0 1 with ⟨f, a1, a2, -⟩ | ⟨f, -⟩
  · rw [if_neg (by rw [f]; decide)]
    obtain ⟨k, hk, rfl⟩ := nI_of2 (n := 1) (by decide) a1 a2
    rw [ix_in (by omega) (by decide)]
    rcases (show k = 0 ∨ k = 1 by omega) with rfl | rfl
    · exact okk_some ⟨h.2.1.2.2.1.symm, h0⟩
    · exact okk_some ⟨h.2.1.2.2.2.symm, h0⟩
  · rw [if_pos f]
    have n0 : ¬ what = 0 := fun e => by rw [e] at f; exact absurd f (by decide)
    have n1 : ¬ what = 1 := fun e => by rw [e] at f; exact absurd f (by decide)
    rw [if_neg n0, if_neg n1]
    exact okk_some ⟨rfl, h0⟩
theorem q_count {c m : gM} (h : RR c m) (what : Int32) : qp (some (FX_count what c)) c (FM_count what m) := by
  have h0 := RR_t h 0
  refine okk_some ?_
  unfold FM_count FX_count
  obtain ⟨i, i3, e1, e2, -⟩ := h.2.2.2.2.2.2.2
  obtain ⟨k, k16, e3, e4, -⟩ := h.2.2.2.2.2.2.1
  obtain ⟨t, t6, e5, e6, -⟩ := h.1
  by_cases n0 : what = 0
  · rw [if_pos n0, if_pos n0]
    exact okk_some ⟨e1.trans e2.symm, h0⟩
  · rw [if_neg n0, if_neg n0]
    by_cases n1 : what = 1
    · rw [if_pos n1, if_pos n1]
      exact okk_some ⟨e6.trans e5.symm, h0⟩
    · rw [if_neg n1, if_neg n1]
      by_cases n2 : what = 2
      · rw [if_pos n2, if_pos n2]
        exact okk_some ⟨e3.trans e4.symm, h0⟩
      · rw [if_neg n2, if_neg n2]
        exact okk_some ⟨rfl, h0⟩
