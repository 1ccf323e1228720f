/-! The call park. -/
theorem m_tells (m : gM) : okk (FM_tellsNothing m) (fun s => (s 467 0 = nI 0 ∧ s 467 1 = nI 0 ∧ s 467 2 = nI 0 ∧ s 467 3 = 60 ∧ s 467 4 = 5) ∧ ∀ b, b ≠ 467 → s b = m b) := by
  have ix : ∀ (k : Nat) (f : Nat → Option gM), k < 5 → g_ix (nI k) 5 f = f k := fun k f hk => ix_in hk (by decide)
  have st : ∀ (f i : Nat) (M : gM), i < 3 → FM_tellsNothing_L2 (f + 1) (nI i) M = FM_tellsNothing_L2 f (nI (i + 1)) (g_set M 467 i 0) := by
    intro f i M hi
    rw [FM_tellsNothing_L2, if_neg (show ¬ (3 : Int32) ≤ nI i from nI_ge (b := 3) hi (by decide)), ix i _ (by omega)]
    unfold g_let
    rw [nI_1]
  unfold FM_tellsNothing
  rw [show (0 : Int32) = nI 0 from rfl, st 999 0 m (by decide), st 998 1 _ (by decide), st 997 2 _ (by decide), FM_tellsNothing_L2, if_pos (show (3 : Int32) ≤ nI (2 + 1) by decide)]
  unfold g_let
  refine okk_some ⟨⟨?_, ?_, ?_, ?_, ?_⟩, fun b hb => ?_⟩
  · rw [g_set_k (by decide), g_set_k (by decide), g_set_k (by decide), g_set_k (by decide), g_set_eq]; rfl
  · rw [g_set_k (by decide), g_set_k (by decide), g_set_k (by decide), g_set_eq]; rfl
  · rw [g_set_k (by decide), g_set_k (by decide), g_set_eq]; rfl
  · rw [g_set_k (by decide), g_set_eq]
  · rw [g_set_eq]
  · rw [g_set_ne hb, g_set_ne hb, g_set_ne hb, g_set_ne hb, g_set_ne hb]
def BN (M s : gM) : Prop := (∀ k, k < 48 → s 930 k = if k < 8 then -1 else 0) ∧ (s 464 19 = 0 ∧ s 464 33 = 0 ∧ s 464 34 = 0 ∧ s 464 35 = 0 ∧ s 464 36 = 0) ∧ (∀ b, b ≠ 930 → b ≠ 464 → s b = M b) ∧ ∀ k, k ≠ 19 → k ≠ 33 → k ≠ 34 → k ≠ 35 → k ≠ 36 → s 464 k = M 464 k
theorem m_91 : ∀ (q i : Nat), i + q = 48 → ∀ f, q < f → ∀ M : gM, (∀ k, k < i → M 930 k = if k < 8 then -1 else 0) → okk (FM_beginsAnew_L91 f (nI i) M) (BN M) := by
  intro q
  induction q with
  | zero =>
    intro i hi f hf M h1
    obtain ⟨f, rfl⟩ : ∃ g, f = g + 1 := ⟨f - 1, by omega⟩
    have : i = 48 := by omega
    subst this
    rw [FM_beginsAnew_L91, if_pos (show (48 : Int32) ≤ nI 48 by decide)]
    refine okk_some ⟨fun k hk => ?_, ⟨?_, ?_, ?_, ?_, ?_⟩, fun b b1 b2 => ?_, fun k k1 k2 k3 k4 k5 => ?_⟩
    · rw [g_set_ne (by decide), g_set_ne (by decide), g_set_ne (by decide), g_set_ne (by decide), g_set_ne (by decide)]; exact h1 k hk
    · rw [g_set_k (by decide), g_set_k (by decide), g_set_k (by decide), g_set_k (by decide), g_set_eq]
    · rw [g_set_k (by decide), g_set_k (by decide), g_set_k (by decide), g_set_eq]
    · rw [g_set_k (by decide), g_set_k (by decide), g_set_eq]
    · rw [g_set_k (by decide), g_set_eq]
    · rw [g_set_eq]
    · rw [g_set_ne b2, g_set_ne b2, g_set_ne b2, g_set_ne b2, g_set_ne b2]
    · rw [g_set_k k5, g_set_k k4, g_set_k k3, g_set_k k2, g_set_k k1]
  | succ q ih =>
    intro i hi f hf M h1
    obtain ⟨f, rfl⟩ : ∃ g, f = g + 1 := ⟨f - 1, by omega⟩
    have go : ∀ x : Int32, x = (if i < 8 then -1 else 0) → okk (FM_beginsAnew_L91 f (nI (i + 1)) (g_set M 930 i x)) (BN M) := by
      intro x hx
      refine okk_w (ih (i + 1) (by omega) f (by omega) _ (fun k hk => ?_)) ?_
      · by_cases e : k = i
        · rw [e, g_set_eq]; exact hx
        · rw [g_set_k e]; exact h1 k (by omega)
      · rintro s ⟨a1, a2, a3, a4⟩
        exact ⟨a1, a2, fun b b1 b2 => by rw [a3 b b1 b2, g_set_ne b1], fun k k1 k2 k3 k4 k5 => by rw [a4 k k1 k2 k3 k4 k5, g_set_ne (by decide)]⟩
    rw [FM_beginsAnew_L91, if_neg (show ¬ (48 : Int32) ≤ nI i from nI_ge (b := 48) (by omega) (by decide))]
    by_cases e8 : i < 8
    · rw [if_neg (nl_8 i e8), ix_in (show i < 48 by omega) (by decide)]
      unfold g_let
      rw [nI_1]
      exact go _ (by rw [if_pos e8])
    · rw [if_pos (show (8 : Int32) ≤ nI i from (nI_leI (a := 8) (by decide) (by omega)).mpr (by omega)), ix_in (show i < 48 by omega) (by decide)]
      unfold g_let
      rw [nI_1]
      exact go _ (by rw [if_neg e8])
theorem m_61 {H : Nat} (hH : H ≤ 8) : ∀ (q i : Nat), i + q = H → ∀ f, q < f → ∀ M : gM, M 468 2 = nI H → (∀ k, k < i → M 470 k = M 469 k) → okk (FM_beginsAnew_L61 f (nI i) M) (fun s => ∃ M3, BN M3 s ∧ (∀ k, k < H → M3 470 k = M 469 k) ∧ ∀ b, b ≠ 470 → M3 b = M b) := by
  intro q
  induction q with
  | zero =>
    intro i hi f hf M h2 h1
    obtain ⟨f, rfl⟩ : ∃ g, f = g + 1 := ⟨f - 1, by omega⟩
    have : i = H := by omega
    subst this
    rw [FM_beginsAnew_L61, h2, if_pos (Int32.le_refl _)]
    refine okk_w (m_91 48 0 (by omega) 1000 (by omega) M (fun k hk => absurd hk (by omega))) ?_
    intro s hs
    exact ⟨M, hs, h1, fun _ _ => rfl⟩
  | succ q ih =>
    intro i hi f hf M h2 h1
    obtain ⟨f, rfl⟩ : ∃ g, f = g + 1 := ⟨f - 1, by omega⟩
    rw [FM_beginsAnew_L61, h2, if_neg (nI_ge (show i < H by omega) (by omega)), ix_in (show i < 8 by omega) (by decide), ix_in (show i < 8 by omega) (by decide)]
    unfold g_let
    dsimp only
    rw [nI_1]
    refine okk_w (ih (i + 1) (by omega) f (by omega) _ (by rw [g_set_ne (by decide)]; exact h2) (fun k hk => ?_)) ?_
    · rw [g_set_ne (show 469 ≠ 470 by decide)]
      by_cases e : k = i
      · rw [e, g_set_eq]
      · rw [g_set_k e]; exact h1 k (by omega)
    · rintro s ⟨M3, b1, b2, b3⟩
      exact ⟨M3, b1, fun k hk => by rw [b2 k hk, g_set_ne (by decide)], fun b hb => by rw [b3 b hb, g_set_ne hb]⟩
theorem m_begins {m : gM} {W C H : Nat} (hW : W ≤ 8) (hC : C ≤ 8) (hH : H ≤ 8) (eW : m 467 0 = nI W) (eC : m 467 1 = nI C) (eH : m 467 2 = nI H) : okk (FM_beginsAnew m) (fun s => (∀ k, k < 48 → s 930 k = if k < 8 then -1 else 0) ∧ (s 464 19 = 0 ∧ s 464 33 = 0 ∧ s 464 34 = 0 ∧ s 464 35 = 0 ∧ s 464 36 = 0) ∧ (∀ k, k ≠ 19 → k ≠ 33 → k ≠ 34 → k ≠ 35 → k ≠ 36 → s 464 k = m 464 k) ∧ (s 468 0 = nI W ∧ s 468 1 = nI C ∧ s 468 2 = nI H ∧ s 468 3 = m 467 3 ∧ s 468 4 = m 467 4) ∧ (∀ j, j < W → s (481 + j) 0 = m (472 + j) 0 ∧ s (481 + j) 1 = m (472 + j) 1) ∧ (∀ j, j < C → s (499 + j) 0 = m (490 + j) 0 ∧ s (499 + j) 1 = m (490 + j) 1) ∧ (∀ k, k < H → s 470 k = m 469 k) ∧ s 466 = m 466) := by
  have ix : ∀ (k : Nat) (f : Nat → Option gM), k < 5 → g_ix (nI k) 5 f = f k := fun k f hk => ix_in hk (by decide)
  have E : ∃ M5, (FM_beginsAnew m = (FM_laysW (M5 468 0) M5).bind fun s2 => (FM_laysC (s2 468 1) s2).bind fun s3 => FM_beginsAnew_L61 1000 (0 : Int32) s3) ∧ (∀ k, k < 5 → M5 468 k = m 467 k) ∧ ∀ b, b ≠ 468 → M5 b = m b := by
    have st : ∀ (f i : Nat) (M : gM), i < 5 → FM_beginsAnew_L2 (f + 1) (nI i) M = FM_beginsAnew_L2 f (nI (i + 1)) (g_set M 468 i (M 467 i)) := by
      intro f i M hi
      rw [FM_beginsAnew_L2, if_neg (show ¬ (5 : Int32) ≤ nI i from nI_ge (b := 5) hi (by decide)), ix i _ hi, ix i _ hi]
      unfold g_let
      rw [nI_1]
    unfold FM_beginsAnew
    rw [show (0 : Int32) = nI 0 from rfl, st 999 0 m (by decide), st 998 1 _ (by decide), st 997 2 _ (by decide), st 996 3 _ (by decide), st 995 4 _ (by decide), FM_beginsAnew_L2, if_pos (show (5 : Int32) ≤ nI (4 + 1) by decide)]
    refine ⟨_, rfl, ?_, fun b hb => ?_⟩
    · intro k hk
      have n7 : ∀ (M : gM) (j : Nat) (x : Int32), g_set M 468 j x 467 = M 467 := fun M j x => g_set_ne (by decide)
      rw [n7, n7, n7, n7]
      rcases (show k = 0 ∨ k = 1 ∨ k = 2 ∨ k = 3 ∨ k = 4 by omega) with rfl | rfl | rfl | rfl | rfl
      · rw [g_set_k (by decide), g_set_k (by decide), g_set_k (by decide), g_set_k (by decide), g_set_eq]
      · rw [g_set_k (by decide), g_set_k (by decide), g_set_k (by decide), g_set_eq]
      · rw [g_set_k (by decide), g_set_k (by decide), g_set_eq]
      · rw [g_set_k (by decide), g_set_eq]; simp only [n7]
      · rw [g_set_eq]; simp only [n7]
    · rw [g_set_ne hb, g_set_ne hb, g_set_ne hb, g_set_ne hb, g_set_ne hb]
  obtain ⟨M5, e, h5, o5⟩ := E
  rw [e, h5 0 (by decide), eW]
  refine okk_bind (m_laysW (m := M5) hW) ?_
  rintro s2 ⟨u1, u2⟩
  rw [u2 468 (by omega), h5 1 (by decide), eC]
  refine okk_bind (m_laysC (m := s2) hC) ?_
  rintro s3 ⟨v1, v2⟩
  rw [show (0 : Int32) = nI 0 from rfl]
  have e3 : s3 468 = M5 468 := by rw [v2 468 (by omega), u2 468 (by omega)]
  refine okk_w (m_61 hH H 0 (by omega) 1000 (by omega) s3 (by rw [e3, h5 2 (by decide), eH]) (fun k hk => absurd hk (by omega))) ?_
  rintro s ⟨M3, ⟨a1, a2, a3, a4⟩, b1, b2⟩
  have s8 : s 468 = M5 468 := by rw [a3 468 (by decide) (by decide), b2 468 (by decide), e3]
  refine ⟨a1, a2, fun k k1 k2 k3 k4 k5 => ?_, ⟨?_, ?_, ?_, ?_, ?_⟩, fun j hj => ?_, fun j hj => ?_, fun k hk => ?_, ?_⟩
  · rw [a4 k k1 k2 k3 k4 k5, b2 464 (by decide), v2 464 (by omega), u2 464 (by omega), o5 464 (by decide)]
  · rw [s8, h5 0 (by decide), eW]
  · rw [s8, h5 1 (by decide), eC]
  · rw [s8, h5 2 (by decide), eH]
  · rw [s8, h5 3 (by decide)]
  · rw [s8, h5 4 (by decide)]
  · rw [a3 (481 + j) (by omega) (by omega), b2 (481 + j) (by omega), v2 (481 + j) (by omega), (u1 j hj).1, (u1 j hj).2, o5 (472 + j) (by omega)]; exact ⟨rfl, rfl⟩
  · rw [a3 (499 + j) (by omega) (by omega), b2 (499 + j) (by omega), (v1 j hj).1, (v1 j hj).2, u2 (490 + j) (by omega), o5 (490 + j) (by omega)]; exact ⟨rfl, rfl⟩
  · rw [a3 470 (by decide) (by decide), b1 k hk, v2 469 (by omega), u2 469 (by omega), o5 469 (by decide)]
  · rw [a3 466 (by decide) (by decide), b2 466 (by decide), v2 466 (by omega), u2 466 (by omega), o5 466 (by decide)]
