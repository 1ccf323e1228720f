/-! Works taken back; images. -/
theorem v_r_c {m m' : gM} {r r2 : Nat → Int32} (h : m' 468 = m 468) (hv : v_r m r) (e : ∀ j, j < 48 → r2 j = r j) : v_r m' r2 := by
  refine v_r_e h ⟨v_row_c hv.1 e, ?_⟩
  rw [e 43 (by omega)]
  exact hv.2
theorem q_undo {c m : gM} (h : RR c m) : qn (FX_undo c) (FM_undo m) := by
  have h0 := RR_t h 0
  have hm : m 464 34 = (g_set m 464 0 0) 464 34 := rfl
  obtain ⟨m0, e0⟩ : ∃ y, y = g_set m 464 0 0 := ⟨_, rfl⟩
  unfold FX_undo FM_undo
  rw [hm]
  rw [← e0] at h0 ⊢
  obtain ⟨t1, t2, ⟨t3, t4⟩, ⟨t5, t6⟩, t7, t8, ⟨k, k16, w1, w2, w3⟩, t10⟩ := h0
  rw [w1, w2]
  rcases Nat.eq_zero_or_pos k with rfl | k0
  · rw [if_neg (show ¬ (0 : Int32) < nI 0 by decide), if_pos (show nI 0 = 0 from rfl)]
    exact qn_ok rfl ⟨t1, t2, ⟨t3, t4⟩, ⟨t5, t6⟩, t7, t8, ⟨0, k16, w1, w2, w3⟩, t10⟩
  · obtain ⟨k, rfl⟩ : ∃ q, k = q + 1 := ⟨k - 1, by omega⟩
    rw [if_pos (show (0 : Int32) < nI (k + 1) from nI_lt (a := 0) (by omega) (by omega)), if_neg (nI_ne0 (by omega) (by omega)), nI_pred, ix_in (by omega) (by decide)]
    obtain ⟨v1, v2⟩ := w3 k (by omega)
    have X : okk (FH_takeBack 47 c) (fun s => s 47 2 = nI k ∧ r_st s 48 (m0 (933 + k)) ∧ (∀ b, ¬ (47 ≤ b ∧ b ≤ 53) → s b = c b)) := by
      unfold FH_takeBack
      rw [w2, if_neg (nI_nle (by omega) (by omega)), if_pos (show nI (k + 1) ≤ nI 16 from nI_le (by omega) (by decide))]
      refine okk_let (fun M3 e3 => ?_)
      have v3 : M3 47 2 = nI k := by rw [e3, g_set_eq, nI_pred]
      rw [v3, ix_in (by omega) (by decide)]
      have s3 : r_st M3 (55 + 6 * k) (m0 (933 + k)) := r_st_m v2 (fun b b1 b2 => by rw [e3]; exact g_set_ne (by omega))
      refine okk_bind (c_copyS (a := 47 + 1) (b := 47 + 8 + 6 * k) s3 (by omega)) (fun s hs => okk_some ⟨?_, hs.1, fun b hb => ?_⟩)
      · rw [hs.2 47 (by omega)]; exact v3
      · rw [hs.2 b (by omega), e3]; exact g_set_ne (by omega)
    obtain ⟨c1, e1, x1, x2, x3⟩ := X
    obtain ⟨m1, e2, y1, y2⟩ := m_copies (m := g_set m0 464 34 (nI k)) (a := 933 + k) (b := 930) (by omega)
    refine qn_bX e1 (qn_bM e2 (qn_ok ?_ ?_))
    · show c1 47 2 = m1 464 34
      rw [x1, y2 464 (by decide), g_set_eq]
    · have n0 : ∀ b, b ≠ 0 → g_set c1 0 15 0 b = c1 b := fun b hb => g_set_ne hb
      have n1 : ∀ b, b ≠ 464 → b ≠ 930 → g_set m1 464 35 0 b = m0 b := fun b b1 b2 => by rw [g_set_ne b1, y2 b b2, g_set_ne b1]
      have n4 : ∀ j, j ≠ 35 → j ≠ 34 → g_set m1 464 35 0 464 j = m0 464 j := fun j j1 j2 => by rw [g_set_k j1, y2 464 (by decide), g_set_k j2]
      have n34 : g_set m1 464 35 0 464 34 = nI k := by rw [g_set_k (by decide), y2 464 (by decide), g_set_eq]
      have e468 := n1 468 (by decide) (by decide)
      have ew : ∀ w, w < 8 → g_set m1 464 35 0 (481 + w) = m0 (481 + w) := fun w hw => n1 _ (by omega) (by omega)
      have ek : ∀ w, w < 8 → g_set m1 464 35 0 (499 + w) = m0 (499 + w) := fun w hw => n1 _ (by omega) (by omega)
      have el : ∀ w, w < 160 → g_set m1 464 35 0 (508 + w) = m0 (508 + w) := fun w hw => n1 _ (by omega) (by omega)
      have c0k : ∀ j, j ≠ 15 → g_set c1 0 15 0 0 j = c 0 j := fun j hj => by rw [g_set_k hj, x3 0 (by omega)]
      have cb : ∀ b, b ≠ 0 → ¬ (47 ≤ b ∧ b ≤ 53) → g_set c1 0 15 0 b = c b := fun b b1 b2 => by rw [n0 b b1, x3 b b2]
      obtain ⟨u1, u2, u3, u4⟩ := t2
      refine ⟨R_tape_e t1 (by rw [cb 1 (by decide) (by omega)]) (cb 2 (by decide) (by omega)) (n4 1 (by decide) (by decide)) (n1 465 (by decide) (by decide)), ⟨?_, ?_, ?_, ?_⟩, ⟨v_g_e t3 e468 ew ek, r_g_e t3 t4 e468 (n1 470 (by decide) (by decide)) ew ek (fun b b1 b2 => cb b (by omega) (by omega))⟩, ⟨v_law_e t5 (n4 19 (by decide) (by decide)) el, r_law_e t6 (n4 19 (by decide) (by decide)) el (by rw [cb 15 (by decide) (by omega)]) (by rw [cb 15 (by decide) (by omega)]) (cb 16 (by decide) (by omega)) (cb 17 (by decide) (by omega))⟩, R_songs_e t7 (n4 33 (by decide) (by decide)) e468 (fun k hk => n1 _ (by omega) (by omega)) (by rw [cb 23 (by decide) (by omega)]) (cb 24 (by decide) (by omega)), ⟨?_, ?_⟩, ⟨k, by omega, n34, by rw [n0 47 (by decide)]; exact x1, fun j hj => ⟨?_, ?_⟩⟩, R_img_e t10 e468 (n4 36 (by decide) (by decide)) (fun j hj => n1 _ (by omega) (by omega)) (c0k 14 (by decide)) (fun b b1 b2 => cb b (by omega) (by omega))⟩
      · rw [cb 1 (by decide) (by omega), n4 3 (by decide) (by decide)]; exact u1
      · rw [g_set_eq, g_set_eq]
      · rw [c0k 16 (by decide), n1 466 (by decide) (by decide)]; exact u3
      · rw [c0k 17 (by decide), n1 466 (by decide) (by decide)]; exact u4
      · refine v_r_c e468 v1 (fun j hj => ?_)
        rw [g_set_ne (by decide), y1 j hj]
        exact congrFun (g_set_ne (by omega)) j
      · refine r_st_r (r_st_m x2 (fun b b1 b2 => n0 b (by omega))) (fun s hs => ?_)
        rw [g_set_ne (by decide), y1 s (by omega)]
        exact congrFun (g_set_ne (by omega)) s
      · rw [n1 _ (by omega) (by omega)]; exact v_r_e e468 (w3 j (by omega)).1
      · rw [n1 _ (by omega) (by omega)]; exact r_st_m (w3 j (by omega)).2 (fun b b1 b2 => cb b (by omega) (by omega))
/-- a History of the class copied -/
theorem c_copyH {c : gM} {a b k : Nat} (hab : a + 103 < b ∨ b + 103 < a) (hk : k ≤ 16) (e : c b 2 = nI k) {r0 : Nat → Int32} {rr : Nat → Nat → Int32} (h0 : r_st c (b + 1) r0) (hr : ∀ q, q < k → r_st c (b + 8 + 6 * q) (rr q)) : okk (FH_copy a b c) (fun s => s a 2 = nI k ∧ r_st s (a + 1) r0 ∧ (∀ q, q < k → r_st s (a + 8 + 6 * q) (rr q)) ∧ ∀ x, ¬ (a ≤ x ∧ x ≤ a + 103) → s x = c x) := by
  have L : ∀ (q i : Nat), i + q = k → ∀ f, q < f → ∀ M : gM, M a 2 = nI k → r_st M (a + 1) r0 → (∀ q, q < i → r_st M (a + 8 + 6 * q) (rr q)) → (∀ x, ¬ (a ≤ x ∧ x ≤ a + 103) → M x = c x) → okk (FH_copy_L21 a b f (nI i) M) (fun s => s a 2 = nI k ∧ r_st s (a + 1) r0 ∧ (∀ q, q < k → r_st s (a + 8 + 6 * q) (rr q)) ∧ ∀ x, ¬ (a ≤ x ∧ x ≤ a + 103) → s x = c x) := by
    intro q
    induction q with
    | zero =>
      intro i hi f hf M h1 h2 h3 h4
      obtain ⟨f, rfl⟩ : ∃ g, f = g + 1 := ⟨f - 1, by omega⟩
      have : i = k := by omega
      subst this
      rw [FH_copy_L21, h1, if_pos (Int32.le_refl _)]
      exact okk_some ⟨h1, h2, h3, h4⟩
    | succ q ih =>
      intro i hi f hf M h1 h2 h3 h4
      obtain ⟨f, rfl⟩ : ∃ g, f = g + 1 := ⟨f - 1, by omega⟩
      have n16 : ¬ nI 16 ≤ nI i := nI_ge (by omega) (by decide)
      rw [FH_copy_L21, h1, if_neg (nI_ge (by omega) (by omega)), if_neg n16, if_neg n16, ix_in (by omega) (by decide), ix_in (by omega) (by decide), nI_1]
      have s1 : r_st M (b + 8 + 6 * i) (rr i) := r_st_m (hr i (by omega)) (fun x x1 x2 => h4 x (by omega))
      refine okk_bind (c_copyS (a := a + 8 + 6 * i) (b := b + 8 + 6 * i) s1 (by omega)) (fun s hs => ih (i + 1) (by omega) f (by omega) s ?_ ?_ ?_ ?_)
      · rw [hs.2 a (by omega)]; exact h1
      · exact r_st_m h2 (fun x x1 x2 => hs.2 x (by omega))
      · intro p hp
        by_cases ep : p = i
        · rw [ep]; exact hs.1
        · exact r_st_m (h3 p (by omega)) (fun x x1 x2 => hs.2 x (by omega))
      · intro x hx
        rw [hs.2 x (by omega)]; exact h4 x hx
  unfold FH_copy
  refine okk_bind (c_copyS (a := a + 1) (b := b + 1) h0 (by omega)) (fun s hs => okk_let (fun M2 e2 => ?_))
  have eb : s b 2 = nI k := by rw [hs.2 b (by omega)]; exact e
  refine L k 0 (by omega) 1000 (by omega) M2 ?_ ?_ (fun q hq => absurd hq (by omega)) ?_
  · rw [e2, g_set_eq, eb]
  · exact r_st_m hs.1 (fun x x1 x2 => by rw [e2]; exact g_set_ne (by omega))
  · intro x hx
    rw [e2, g_set_ne (by omega)]
    exact hs.2 x (by omega)
theorem m_puts0 {m : gM} {a s : Nat} (ha : a ≠ 464) (hs : s < 817) (h : m 464 37 = nI s) (v : Int32) : FM_puts a v 0 m = some (v, g_set (g_set m a s v) 464 37 (nI (s + 1))) := by
  unfold FM_puts g_let
  have e : (g_set m a s v) 464 37 = nI s := by rw [g_set_ne (Ne.symm ha)]; exact h
  rw [if_pos rfl, h, ix_in hs (by decide)]
  dsimp only
  rw [e, nI_1, nI_pred, ix_in hs (by decide), g_set_ne ha, g_set_eq]
theorem m_puts1 {m : gM} {a s : Nat} (ha : a ≠ 464) (hs : s < 817) (h : m 464 37 = nI s) (v : Int32) : FM_puts a v 1 m = some (m a s, g_set m 464 37 (nI (s + 1))) := by
  unfold FM_puts
  rw [if_neg i10, h, nI_1, nI_pred, ix_in hs (by decide), g_set_ne ha]
/-- the model's row of an image: what it lays, what it takes -/
def pI (m : gM) (works : Int32) (s : Nat) : Int32 := if s = 0 then works else if s < 49 then m 930 (s - 1) else m (933 + (s - 49) / 48) ((s - 49) % 48)
/-- image: laid up to s -/
def pA (m : gM) (a s : Nat) (M : gM) : Prop := M 464 37 = nI s ∧ (∀ k, k ≠ 37 → M 464 k = m 464 k) ∧ (∀ b, b ≠ a → b ≠ 464 → ∀ k, M b k = m b k) ∧ ∀ j, j < s → M a j = pI m (m 464 34) j
theorem pA_s {m : gM} {a s : Nat} (ha : a ≠ 464) {M : gM} (h : pA m a s M) {v : Int32} (hv : v = pI m (m 464 34) s) {b k : Nat} (hb : b ≠ a) (hb2 : b ≠ 464 ∨ k ≠ 37) (hk : m b k = v) : pA m a (s + 1) (g_set (g_set (g_set M a s v) 464 37 (nI (s + 1))) b k v) := by
  obtain ⟨h1, h2, h3, h4⟩ := h
  refine ⟨?_, fun q hq => ?_, fun q q1 q2 j => ?_, fun j hj => ?_⟩
  · by_cases e : b = 464
    · subst e
      rw [g_set_k (by omega), g_set_eq]
    · rw [g_set_ne (Ne.symm e), g_set_eq]
  · by_cases e : b = 464
    · subst e
      by_cases eq : q = k
      · rw [eq, g_set_eq]; exact hk.symm
      · rw [g_set_k eq, g_set_k hq, g_set_ne (Ne.symm ha)]; exact h2 q hq
    · rw [g_set_ne (Ne.symm e), g_set_k hq, g_set_ne (Ne.symm ha)]; exact h2 q hq
  · by_cases e : q = b
    · subst e
      by_cases ej : j = k
      · rw [ej, g_set_eq]; exact hk.symm
      · rw [g_set_k ej, g_set_ne q2, g_set_ne q1]; exact h3 q q1 q2 j
    · rw [g_set_ne e, g_set_ne q2, g_set_ne q1]; exact h3 q q1 q2 j
  · rw [g_set_ne (Ne.symm hb), g_set_ne ha]
    by_cases e : j = s
    · rw [e, g_set_eq]; exact hv
    · rw [g_set_k e]; exact h4 j (by omega)
theorem m_putsAll0 {m : gM} {a : Nat} (ha : 950 ≤ a) : okk (FM_putsAll a 0 m) (fun M => pA m a 817 M) := by
  have ha4 : a ≠ 464 := by omega
  have L62 : ∀ (c53 : Int32 → gM → Option gM) (w : Nat), w < 16 → (∀ M, pA m a (49 + 48 * (w + 1)) M → okk (c53 (nI w + 1) M) (fun M => pA m a 817 M)) → ∀ (q i : Nat), i + q = 48 → ∀ f, q < f → ∀ M, pA m a (49 + 48 * w + i) M → okk (FM_putsAll_L62 a 0 c53 f (nI w) (nI i) M) (fun M => pA m a 817 M) := by
    intro c53 w hw K q
    induction q with
    | zero =>
      intro i hi f hf M h
      obtain ⟨f, rfl⟩ : ∃ g, f = g + 1 := ⟨f - 1, by omega⟩
      have : i = 48 := by omega
      subst this
      rw [FM_putsAll_L62, if_pos (show (48 : Int32) ≤ nI 48 from Int32.le_refl _)]
      exact K M h
    | succ q ih =>
      intro i hi f hf M h
      obtain ⟨f, rfl⟩ : ∃ g, f = g + 1 := ⟨f - 1, by omega⟩
      have ev : M (933 + w) i = m (933 + w) i := h.2.2.1 _ (by omega) (by omega) i
      rw [FM_putsAll_L62, if_neg (show ¬ (48 : Int32) ≤ nI i from nI_ge (b := 48) (by omega) (by decide)), ix_in hw (by decide), ix_in hw (by decide), ix_in (by omega) (by decide), m_puts0 ha4 (show 49 + 48 * w + i < 817 by omega) h.1, Option.bind_some, ix_in (by omega) (by decide), nI_1, ev]
      refine okk_let (fun M7 e7 => ih (i + 1) (by omega) f (by omega) M7 ?_)
      dsimp only at e7
      rw [e7]
      exact pA_s ha4 h (by unfold pI; rw [if_neg (by omega), if_neg (by omega), show (49 + 48 * w + i - 49) / 48 = w by omega, show (49 + 48 * w + i - 49) % 48 = i by omega]) (by omega) (by omega) rfl
  have L53 : ∀ (q w : Nat), w + q = 16 → ∀ f, q < f → ∀ M, pA m a (49 + 48 * w) M → okk (FM_putsAll_L53 a 0 f (nI w) M) (fun M => pA m a 817 M) := by
    intro q
    induction q with
    | zero =>
      intro w hw f hf M h
      obtain ⟨f, rfl⟩ : ∃ g, f = g + 1 := ⟨f - 1, by omega⟩
      have : w = 16 := by omega
      subst this
      rw [FM_putsAll_L53, if_pos (show (16 : Int32) ≤ nI 16 from Int32.le_refl _)]
      exact okk_some h
    | succ q ih =>
      intro w hw f hf M h
      obtain ⟨f, rfl⟩ : ∃ g, f = g + 1 := ⟨f - 1, by omega⟩
      rw [FM_putsAll_L53, if_neg (show ¬ (16 : Int32) ≤ nI w from nI_ge (b := 16) (by omega) (by decide))]
      exact L62 _ w (by omega) (fun M h => by rw [nI_1]; exact ih (w + 1) (by omega) f (by omega) M h) 48 0 (by omega) 1000 (by omega) M h
  have L21 : ∀ (q i : Nat), i + q = 48 → ∀ f, q < f → ∀ M, pA m a (1 + i) M → okk (FM_putsAll_L21 a 0 f (nI i) M) (fun M => pA m a 817 M) := by
    intro q
    induction q with
    | zero =>
      intro i hi f hf M h
      obtain ⟨f, rfl⟩ : ∃ g, f = g + 1 := ⟨f - 1, by omega⟩
      have : i = 48 := by omega
      subst this
      rw [FM_putsAll_L21, if_pos (show (48 : Int32) ≤ nI 48 from Int32.le_refl _)]
      exact L53 16 0 (by omega) 1000 (by omega) M h
    | succ q ih =>
      intro i hi f hf M h
      obtain ⟨f, rfl⟩ : ∃ g, f = g + 1 := ⟨f - 1, by omega⟩
      have ev : M 930 i = m 930 i := h.2.2.1 _ (by omega) (by omega) i
      rw [FM_putsAll_L21, if_neg (show ¬ (48 : Int32) ≤ nI i from nI_ge (b := 48) (by omega) (by decide)), ix_in (by omega) (by decide), m_puts0 ha4 (show 1 + i < 817 by omega) h.1, Option.bind_some, ix_in (by omega) (by decide), nI_1, ev]
      refine okk_let (fun M7 e7 => ih (i + 1) (by omega) f (by omega) M7 ?_)
      dsimp only at e7
      rw [e7]
      exact pA_s ha4 h (by unfold pI; rw [if_neg (by omega), if_pos (by omega), show 1 + i - 1 = i by omega]) (by omega) (by omega) rfl
  unfold FM_putsAll
  have h0 : pA m a 0 (g_set m 464 37 0) := ⟨g_set_eq _ _ _ _, fun k hk => g_set_k hk, fun b b1 b2 k => by rw [g_set_ne b2], fun j hj => absurd hj (by omega)⟩
  rw [m_puts0 ha4 (show 0 < 817 by decide) h0.1, Option.bind_some]
  exact L21 48 0 (by omega) 1000 (by omega) _ (pA_s ha4 h0 rfl (b := 464) (k := 34) (by omega) (Or.inr (by decide)) rfl)
/-- restore: taken up to s -/
def pB (m : gM) (a s : Nat) (M : gM) : Prop := M 464 37 = nI s ∧ (∀ k, k ≠ 37 → k ≠ 34 → M 464 k = m 464 k) ∧ M 464 34 = m a 0 ∧ (∀ b, b ≠ 930 → ¬ (933 ≤ b ∧ b ≤ 948) → b ≠ 464 → M b = m b) ∧ (∀ j, j < 48 → 1 + j < s → M 930 j = m a (1 + j)) ∧ ∀ w j, w < 16 → j < 48 → 49 + 48 * w + j < s → M (933 + w) j = m a (49 + 48 * w + j)
theorem m_putsAll1 {m : gM} {a : Nat} (ha : 950 ≤ a) : okk (FM_putsAll a 1 m) (fun M => pB m a 817 M) := by
  have ha4 : a ≠ 464 := by omega
  have L62 : ∀ (c53 : Int32 → gM → Option gM) (w : Nat), w < 16 → (∀ M, pB m a (49 + 48 * (w + 1)) M → okk (c53 (nI w + 1) M) (fun M => pB m a 817 M)) → ∀ (q i : Nat), i + q = 48 → ∀ f, q < f → ∀ M, pB m a (49 + 48 * w + i) M → okk (FM_putsAll_L62 a 1 c53 f (nI w) (nI i) M) (fun M => pB m a 817 M) := by
    intro c53 w hw K q
    induction q with
    | zero =>
      intro i hi f hf M h
      obtain ⟨f, rfl⟩ : ∃ g, f = g + 1 := ⟨f - 1, by omega⟩
      have : i = 48 := by omega
      subst this
      rw [FM_putsAll_L62, if_pos (show (48 : Int32) ≤ nI 48 from Int32.le_refl _)]
      exact K M h
    | succ q ih =>
      intro i hi f hf M h
      obtain ⟨f, rfl⟩ : ∃ g, f = g + 1 := ⟨f - 1, by omega⟩
      obtain ⟨h1, h2, h3, h4, h5, h6⟩ := h
      rw [FM_putsAll_L62, if_neg (show ¬ (48 : Int32) ≤ nI i from nI_ge (b := 48) (by omega) (by decide)), ix_in hw (by decide), ix_in hw (by decide), ix_in (by omega) (by decide), m_puts1 ha4 (show 49 + 48 * w + i < 817 by omega) h1, Option.bind_some, ix_in (by omega) (by decide), nI_1, h4 a (by omega) (by omega) ha4]
      refine okk_let (fun M7 e7 => ih (i + 1) (by omega) f (by omega) M7 ?_)
      dsimp only at e7
      rw [e7]
      refine ⟨?_, fun k k1 k2 => ?_, ?_, fun b b1 b2 b3 => ?_, fun j j1 j2 => ?_, fun v j v1 j1 j2 => ?_⟩
      · rw [g_set_ne (by omega), g_set_eq]; rfl
      · rw [g_set_ne (by omega), g_set_k k1]; exact h2 k k1 k2
      · rw [g_set_ne (by omega), g_set_k (by decide)]; exact h3
      · rw [g_set_ne (by omega), g_set_ne b3]; exact h4 b b1 b2 b3
      · rw [g_set_ne (by omega), g_set_ne (by omega)]; exact h5 j j1 (by omega)
      · by_cases ev : v = w
        · subst ev
          by_cases ej : j = i
          · rw [ej, g_set_eq]
          · rw [g_set_k ej, g_set_ne (by omega)]; exact h6 v j v1 j1 (by omega)
        · rw [g_set_ne (by omega), g_set_ne (by omega)]; exact h6 v j v1 j1 (by omega)
  have L53 : ∀ (q w : Nat), w + q = 16 → ∀ f, q < f → ∀ M, pB m a (49 + 48 * w) M → okk (FM_putsAll_L53 a 1 f (nI w) M) (fun M => pB m a 817 M) := by
    intro q
    induction q with
    | zero =>
      intro w hw f hf M h
      obtain ⟨f, rfl⟩ : ∃ g, f = g + 1 := ⟨f - 1, by omega⟩
      have : w = 16 := by omega
      subst this
      rw [FM_putsAll_L53, if_pos (show (16 : Int32) ≤ nI 16 from Int32.le_refl _)]
      exact okk_some h
    | succ q ih =>
      intro w hw f hf M h
      obtain ⟨f, rfl⟩ : ∃ g, f = g + 1 := ⟨f - 1, by omega⟩
      rw [FM_putsAll_L53, if_neg (show ¬ (16 : Int32) ≤ nI w from nI_ge (b := 16) (by omega) (by decide))]
      exact L62 _ w (by omega) (fun M h => by rw [nI_1]; exact ih (w + 1) (by omega) f (by omega) M h) 48 0 (by omega) 1000 (by omega) M h
  have L21 : ∀ (q i : Nat), i + q = 48 → ∀ f, q < f → ∀ M, pB m a (1 + i) M → okk (FM_putsAll_L21 a 1 f (nI i) M) (fun M => pB m a 817 M) := by
    intro q
    induction q with
    | zero =>
      intro i hi f hf M h
      obtain ⟨f, rfl⟩ : ∃ g, f = g + 1 := ⟨f - 1, by omega⟩
      have : i = 48 := by omega
      subst this
      rw [FM_putsAll_L21, if_pos (show (48 : Int32) ≤ nI 48 from Int32.le_refl _)]
      exact L53 16 0 (by omega) 1000 (by omega) M h
    | succ q ih =>
      intro i hi f hf M h
      obtain ⟨f, rfl⟩ : ∃ g, f = g + 1 := ⟨f - 1, by omega⟩
      obtain ⟨h1, h2, h3, h4, h5, h6⟩ := h
      rw [FM_putsAll_L21, if_neg (show ¬ (48 : Int32) ≤ nI i from nI_ge (b := 48) (by omega) (by decide)), ix_in (by omega) (by decide), m_puts1 ha4 (show 1 + i < 817 by omega) h1, Option.bind_some, ix_in (by omega) (by decide), nI_1, h4 a (by omega) (by omega) ha4]
      refine okk_let (fun M7 e7 => ih (i + 1) (by omega) f (by omega) M7 ?_)
      dsimp only at e7
      rw [e7]
      refine ⟨?_, fun k k1 k2 => ?_, ?_, fun b b1 b2 b3 => ?_, fun j j1 j2 => ?_, fun v j v1 j1 j2 => ?_⟩
      · rw [g_set_ne (by omega), g_set_eq]; rfl
      · rw [g_set_ne (by omega), g_set_k k1]; exact h2 k k1 k2
      · rw [g_set_ne (by omega), g_set_k (by decide)]; exact h3
      · rw [g_set_ne b1, g_set_ne b3]; exact h4 b b1 b2 b3
      · by_cases ej : j = i
        · rw [ej, g_set_eq]
        · rw [g_set_k ej, g_set_ne (by omega)]; exact h5 j j1 (by omega)
      · rw [g_set_ne (by omega), g_set_ne (by omega)]; exact h6 v j v1 j1 (by omega)
  unfold FM_putsAll
  rw [m_puts1 ha4 (show 0 < 817 by decide) (show (g_set m 464 37 0) 464 37 = nI 0 from g_set_eq _ _ _ _), Option.bind_some]
  dsimp only
  refine L21 48 0 (by omega) 1000 (by omega) _ ⟨?_, fun k k1 k2 => ?_, ?_, fun b b1 b2 b3 => ?_, fun j j1 j2 => absurd j2 (by omega), fun w j w1 j1 j2 => absurd j2 (by omega)⟩
  · rw [g_set_k (by decide), g_set_eq]
  · rw [g_set_k k2, g_set_k k1, g_set_k k1]
  · rw [g_set_eq, g_set_ne ha4]
  · rw [g_set_ne b3, g_set_ne b3, g_set_ne b3]
theorem q_image {c m : gM} (h : RR c m) : qn (FX_image c) (FM_image m) := by
  have h0 := RR_t h 0
  have hm : m 464 36 = (g_set m 464 0 0) 464 36 := rfl
  obtain ⟨m0, e0⟩ : ∃ y, y = g_set m 464 0 0 := ⟨_, rfl⟩
  unfold FX_image FM_image
  rw [hm]
  rw [← e0] at h0 ⊢
  have hb := h0
  obtain ⟨t1, t2, ⟨t3, t4⟩, ⟨t5, t6⟩, t7, t8, ⟨k, k16, p1, p2, p3⟩, ⟨i, i3, w1, w2, w3⟩⟩ := hb
  rw [w1, w2, if_neg (nI_pos (by omega))]
  rcases Nat.lt_or_ge i 3 with hi | hi
  · rw [if_pos (show nI i < nI 3 from nI_lt hi (by decide)), if_neg (show ¬ nI i = 3 from fun q => by have := (nI_eq (b := 3) (by omega) (by decide)).mp q; omega), ix_in hi (by decide), ix_in hi (by decide)]
    obtain ⟨c1, e1, x1, x2, x3, x4⟩ := c_copyH (c := c) (a := 152 + 104 * i) (b := 47) (k := k) (by omega) k16 p2 (r0 := m0 930) (rr := fun q => m0 (933 + q)) t8.2 (fun q hq => (p3 q hq).2)
    obtain ⟨m1, e2, y1, y2, y3, y4⟩ := m_putsAll0 (m := m0) (a := 950 + i) (by omega)
    have c0 : c1 0 = c 0 := x4 0 (by omega)
    have m36 : m1 464 36 = nI i := by rw [y2 36 (by decide)]; exact w1
    refine qn_bX e1 (qn_bM e2 (qn_ok ?_ ?_))
    · rw [c0, w2, m36]
    · rw [c0, w2, m36, nI_1]
      have nb : ∀ b, b ≠ 464 → b ≠ 950 + i → g_set m1 464 36 (nI (i + 1)) b = m0 b := fun b b1 b2 => by
        rw [g_set_ne b1]
        exact funext (y3 b b2 b1)
      have nk : ∀ j, j ≠ 36 → j ≠ 37 → g_set m1 464 36 (nI (i + 1)) 464 j = m0 464 j := fun j j1 j2 => by rw [g_set_k j1, y2 j j2]
      have cb : ∀ b, b ≠ 0 → ¬ (152 + 104 * i ≤ b ∧ b ≤ 152 + 104 * i + 103) → g_set c1 0 14 (nI (i + 1)) b = c b := fun b b1 b2 => by rw [g_set_ne b1, x4 b b2]
      have ck : ∀ j, j ≠ 14 → g_set c1 0 14 (nI (i + 1)) 0 j = c 0 j := fun j j1 => by rw [g_set_k j1, c0]
      have e468 := nb 468 (by decide) (by omega)
      have ew : ∀ w, w < 8 → g_set m1 464 36 (nI (i + 1)) (481 + w) = m0 (481 + w) := fun w hw => nb _ (by omega) (by omega)
      have ek : ∀ w, w < 8 → g_set m1 464 36 (nI (i + 1)) (499 + w) = m0 (499 + w) := fun w hw => nb _ (by omega) (by omega)
      have el : ∀ w, w < 160 → g_set m1 464 36 (nI (i + 1)) (508 + w) = m0 (508 + w) := fun w hw => nb _ (by omega) (by omega)
      obtain ⟨u1, u2, u3, u4⟩ := t2
      refine ⟨R_tape_e t1 (by rw [cb 1 (by decide) (by omega)]) (cb 2 (by decide) (by omega)) (nk 1 (by decide) (by decide)) (nb 465 (by decide) (by omega)), ⟨?_, ?_, ?_, ?_⟩, ⟨v_g_e t3 e468 ew ek, r_g_e t3 t4 e468 (nb 470 (by decide) (by omega)) ew ek (fun b b1 b2 => cb b (by omega) (by omega))⟩, ⟨v_law_e t5 (nk 19 (by decide) (by decide)) el, r_law_e t6 (nk 19 (by decide) (by decide)) el (by rw [cb 15 (by decide) (by omega)]) (by rw [cb 15 (by decide) (by omega)]) (cb 16 (by decide) (by omega)) (cb 17 (by decide) (by omega))⟩, R_songs_e t7 (nk 33 (by decide) (by decide)) e468 (fun k hk => nb _ (by omega) (by omega)) (by rw [cb 23 (by decide) (by omega)]) (cb 24 (by decide) (by omega)), R_now_e t8 e468 (nb 930 (by decide) (by omega)) (fun b b1 b2 => cb b (by omega) (by omega)), R_past_e ⟨k, k16, p1, p2, p3⟩ e468 (nk 34 (by decide) (by decide)) (fun j hj => nb _ (by omega) (by omega)) (by rw [cb 47 (by decide) (by omega)]) (fun b b1 b2 => cb b (by omega) (by omega)), i + 1, by omega, by rw [g_set_eq], by rw [g_set_eq], fun j hj => ?_⟩
      · rw [cb 1 (by decide) (by omega), nk 3 (by decide) (by decide)]; exact u1
      · rw [ck 15 (by decide), nk 35 (by decide) (by decide)]; exact u2
      · rw [ck 16 (by decide), nb 466 (by decide) (by omega)]; exact u3
      · rw [ck 17 (by decide), nb 466 (by decide) (by omega)]; exact u4
      · by_cases ej : j = i
        · subst ej
          have f1 : ∀ q, q < 817 → g_set m1 464 36 (nI (j + 1)) (950 + j) q = pI m0 (m0 464 34) q := fun q hq => by
            rw [g_set_ne (by omega)]
            exact y4 q hq
          have g1 : ∀ b, 152 + 104 * j ≤ b → g_set c1 0 14 (nI (j + 1)) b = c1 b := fun b hb => g_set_ne (by omega)
          have x5 : ∀ q, q < k → r_st c1 (160 + 104 * j + 6 * q) (m0 (933 + q)) := fun q hq => by
            have := x3 q hq
            rwa [show 152 + 104 * j + 8 + 6 * q = 160 + 104 * j + 6 * q by omega] at this
          have x6 : r_st c1 (153 + 104 * j) (m0 930) := by rwa [show 152 + 104 * j + 1 = 153 + 104 * j by omega] at x2
          refine ⟨k, k16, ?_, ?_, ⟨v_r_c e468 t8.1 (fun x hx => ?_), r_st_r (r_st_m x6 (fun b b1 b2 => g1 b (by omega))) (fun x hx => ?_)⟩, fun q hq => ⟨v_r_c e468 (p3 q hq).1 (fun x hx => ?_), r_st_r (r_st_m (x5 q hq) (fun b b1 b2 => g1 b (by omega))) (fun x hx => ?_)⟩⟩
          · rw [f1 0 (by omega)]; exact p1
          · rw [g1 _ (by omega)]; exact x1
          · rw [f1 _ (by omega)]; unfold pI; rw [if_neg (by omega), if_pos (by omega), show 1 + x - 1 = x by omega]
          · rw [f1 _ (by omega)]; unfold pI; rw [if_neg (by omega), if_pos (by omega), show 1 + x - 1 = x by omega]
          · rw [f1 _ (by omega)]; unfold pI; rw [if_neg (by omega), if_neg (by omega), show (49 + 48 * q + x - 49) / 48 = q by omega, show (49 + 48 * q + x - 49) % 48 = x by omega]
          · rw [f1 _ (by omega)]; unfold pI; rw [if_neg (by omega), if_neg (by omega), show (49 + 48 * q + x - 49) / 48 = q by omega, show (49 + 48 * q + x - 49) % 48 = x by omega]
        · exact R_im_e (w3 j (by omega)) e468 (nb _ (by omega) (by omega)) (fun b b1 b2 => cb b (by omega) (by omega))
  · have : i = 3 := by omega
    subst this
    rw [if_neg (show ¬ nI 3 < nI 3 from Int32.lt_irrefl), if_pos (show nI 3 = 3 from rfl)]
    exact qn_ok rfl h0
theorem q_restore {c m : gM} (h : RR c m) : qn (FX_restore c) (FM_restore m) := by
  have h0 := RR_t h 0
  have hm : m 464 36 = (g_set m 464 0 0) 464 36 := rfl
  obtain ⟨m0, e0⟩ : ∃ y, y = g_set m 464 0 0 := ⟨_, rfl⟩
  unfold FX_restore FM_restore
  rw [hm]
  rw [← e0] at h0 ⊢
  have hb := h0
  obtain ⟨t1, t2, ⟨t3, t4⟩, ⟨t5, t6⟩, t7, t8, t9, ⟨i, i3, w1, w2, w3⟩⟩ := hb
  rw [w1, w2]
  rcases Nat.eq_zero_or_pos i with rfl | i0
  · rw [if_pos (show nI 0 ≤ 0 by decide), if_pos (show nI 0 = 0 from rfl)]
    exact qn_ok rfl h0
  · obtain ⟨i, rfl⟩ : ∃ q, i = q + 1 := ⟨i - 1, by omega⟩
    rw [if_neg (nI_nle (by omega) (by omega)), if_pos (show nI (i + 1) ≤ nI 3 from nI_le (by omega) (by decide)), if_neg (nI_ne0 (by omega) (by omega)), nI_pred, ix_in (by omega) (by decide), ix_in (by omega) (by decide)]
    obtain ⟨k, k16, p0, p1, ⟨p2, p3⟩, p4⟩ := w3 i (by omega)
    have sc : ∀ b, b ≠ 0 → g_set c 0 14 (nI i) b = c b := fun b hb => g_set_ne hb
    obtain ⟨c1, e1, x1, x2, x3, x4⟩ := c_copyH (c := g_set c 0 14 (nI i)) (a := 47) (b := 152 + 104 * i) (k := k) (by omega) k16 (by rw [sc _ (by omega)]; exact p1) (r0 := fun x => m0 (950 + i) (1 + x)) (rr := fun q x => m0 (950 + i) (49 + 48 * q + x)) (by rw [show 152 + 104 * i + 1 = 153 + 104 * i by omega]; exact r_st_m p3 (fun b b1 b2 => sc b (by omega))) (fun q hq => by rw [show 152 + 104 * i + 8 + 6 * q = 160 + 104 * i + 6 * q by omega]; exact r_st_m (p4 q hq).2 (fun b b1 b2 => sc b (by omega)))
    obtain ⟨m1, e2, y1, y2, y3, y4, y5, y6⟩ := m_putsAll1 (m := g_set m0 464 36 (nI i)) (a := 950 + i) (by omega)
    have sm : ∀ b, b ≠ 464 → g_set m0 464 36 (nI i) b = m0 b := fun b hb => g_set_ne hb
    rw [sm (950 + i) (by omega)] at y3 y5 y6
    have c0 : c1 0 = g_set c 0 14 (nI i) 0 := x4 0 (by omega)
    have m36 : m1 464 36 = nI i := by rw [y2 36 (by decide) (by decide), g_set_eq]
    refine qn_bX e1 (qn_bM e2 (qn_ok ?_ ?_))
    · rw [c0, g_set_eq, m36]
    · have nb : ∀ b, b ≠ 464 → b ≠ 930 → ¬ (933 ≤ b ∧ b ≤ 948) → g_set m1 464 35 0 b = m0 b := fun b b1 b2 b3 => by rw [g_set_ne b1, y4 b b2 b3 b1, sm b b1]
      have nk : ∀ j, j ≠ 34 → j ≠ 35 → j ≠ 36 → j ≠ 37 → g_set m1 464 35 0 464 j = m0 464 j := fun j j1 j2 j3 j4 => by rw [g_set_k j2, y2 j j4 j1, g_set_k j3]
      have cb : ∀ b, b ≠ 0 → ¬ (47 ≤ b ∧ b ≤ 150) → g_set c1 0 15 0 b = c b := fun b b1 b2 => by rw [g_set_ne b1, x4 b (by omega), sc b b1]
      have ck : ∀ j, j ≠ 14 → j ≠ 15 → g_set c1 0 15 0 0 j = c 0 j := fun j j1 j2 => by rw [g_set_k j2, c0, g_set_k j1]
      have cn : ∀ b, b ≠ 0 → g_set c1 0 15 0 b = c1 b := fun b b1 => g_set_ne b1
      have e468 := nb 468 (by decide) (by decide) (by omega)
      have ew : ∀ w, w < 8 → g_set m1 464 35 0 (481 + w) = m0 (481 + w) := fun w hw => nb _ (by omega) (by omega) (by omega)
      have ek : ∀ w, w < 8 → g_set m1 464 35 0 (499 + w) = m0 (499 + w) := fun w hw => nb _ (by omega) (by omega) (by omega)
      have el : ∀ w, w < 160 → g_set m1 464 35 0 (508 + w) = m0 (508 + w) := fun w hw => nb _ (by omega) (by omega) (by omega)
      obtain ⟨u1, u2, u3, u4⟩ := t2
      refine ⟨R_tape_e t1 (by rw [cb 1 (by decide) (by omega)]) (cb 2 (by decide) (by omega)) (nk 1 (by decide) (by decide) (by decide) (by decide)) (nb 465 (by decide) (by decide) (by omega)), ⟨?_, ?_, ?_, ?_⟩, ⟨v_g_e t3 e468 ew ek, r_g_e t3 t4 e468 (nb 470 (by decide) (by decide) (by omega)) ew ek (fun b b1 b2 => cb b (by omega) (by omega))⟩, ⟨v_law_e t5 (nk 19 (by decide) (by decide) (by decide) (by decide)) el, r_law_e t6 (nk 19 (by decide) (by decide) (by decide) (by decide)) el (by rw [cb 15 (by decide) (by omega)]) (by rw [cb 15 (by decide) (by omega)]) (cb 16 (by decide) (by omega)) (cb 17 (by decide) (by omega))⟩, R_songs_e t7 (nk 33 (by decide) (by decide) (by decide) (by decide)) e468 (fun k hk => nb _ (by omega) (by omega) (by omega)) (by rw [cb 23 (by decide) (by omega)]) (cb 24 (by decide) (by omega)), ⟨v_r_c e468 p2 (fun x hx => ?_), r_st_r (r_st_m x2 (fun b b1 b2 => cn b (by omega))) (fun x hx => ?_)⟩, ⟨k, k16, ?_, ?_, fun q hq => ⟨v_r_c e468 (p4 q hq).1 (fun x hx => ?_), r_st_r (r_st_m (x3 q hq) (fun b b1 b2 => cn b (by omega))) (fun x hx => ?_)⟩⟩, i, by omega, by rw [g_set_k (by decide)]; exact m36, by rw [g_set_k (by decide), c0, g_set_eq], fun j hj => R_im_e (w3 j (by omega)) e468 (nb _ (by omega) (by omega) (by omega)) (fun b b1 b2 => cb b (by omega) (by omega))⟩
      · rw [cb 1 (by decide) (by omega), nk 3 (by decide) (by decide) (by decide) (by decide)]; exact u1
      · rw [g_set_eq, g_set_eq]
      · rw [ck 16 (by decide) (by decide), nb 466 (by decide) (by decide) (by omega)]; exact u3
      · rw [ck 17 (by decide) (by decide), nb 466 (by decide) (by decide) (by omega)]; exact u4
      · rw [g_set_ne (by decide), y5 x hx (by omega)]
      · rw [g_set_ne (by decide), y5 x (by omega) (by omega)]
      · rw [g_set_k (by decide), y3]; exact p0
      · rw [cn 47 (by decide)]; exact x1
      · rw [g_set_ne (by omega), y6 q x (by omega) hx (by omega)]
      · rw [g_set_ne (by omega), y6 q x (by omega) (by omega) (by omega)]
