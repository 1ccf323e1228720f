/-! Rolls that are only asked about: the class on a State of its own, the model on its trial row. -/
theorem r_copy_in {M : gM} {f t n j : Nat} (h : j < n) : r_copy M f t n t j = M f j := by
  unfold r_copy
  rw [if_pos rfl, if_pos h]
theorem c_copyS {c : gM} {a b : Nat} {r : Nat → Int32} (rs : r_st c b r) (hab : a + 5 < b ∨ b + 5 < a) : okk (FZ_copy a b c) (fun s => r_st s a r ∧ ∀ q, ¬ (a ≤ q ∧ q ≤ a + 5) → s q = c q) := by
  have key : okk (FZ_copy a b c) (fun s => r_st s a r) := by
    obtain ⟨h1, h2, h3, h4, h5, h6, h7, h8⟩ := rs
    unfold FZ_copy
    refine okk_let (fun M1 e1 => okk_let (fun M2 e2 => okk_let (fun M3 e3 => okk_let (fun M4 e4 => okk_let (fun M5 e5 => ?_)))))
    have k5 : ∀ q, (q < a + 1 ∨ a + 5 < q) → M5 q = c q := by
      intro q hq
      rw [e5, r_copy_ne (by omega), e4, r_copy_ne (by omega), e3, r_copy_ne (by omega), e2, r_copy_ne (by omega), e1, r_copy_ne (by omega)]
    have p1 : ∀ j, j < 8 → M5 (a + 1) j = r (8 + j) := by
      intro j hj
      rw [e5, r_copy_ne (by omega), e4, r_copy_ne (by omega), e3, r_copy_ne (by omega), e2, r_copy_ne (by omega), e1, r_copy_in hj]
      exact (h1 j hj).2.1
    have p2 : ∀ j, j < 8 → M5 (a + 2) j = r (16 + j) := by
      intro j hj
      rw [e5, r_copy_ne (by omega), e4, r_copy_ne (by omega), e3, r_copy_ne (by omega), e2, r_copy_in hj, e1, r_copy_ne (by omega)]
      exact (h1 j hj).2.2.1
    have p3 : ∀ j, j < 8 → M5 (a + 3) j = r (24 + j) := by
      intro j hj
      rw [e5, r_copy_ne (by omega), e4, r_copy_ne (by omega), e3, r_copy_in hj, e2, r_copy_ne (by omega), e1, r_copy_ne (by omega)]
      exact (h1 j hj).2.2.2.1
    have p4 : ∀ j, j < 8 → M5 (a + 4) j = r j := by
      intro j hj
      rw [e5, r_copy_ne (by omega), e4, r_copy_in hj, e3, r_copy_ne (by omega), e2, r_copy_ne (by omega), e1, r_copy_ne (by omega)]
      exact (h1 j hj).1
    have p5 : ∀ j, j < 8 → M5 (a + 5) j = r (32 + j) := by
      intro j hj
      rw [e5, r_copy_in hj, e4, r_copy_ne (by omega), e3, r_copy_ne (by omega), e2, r_copy_ne (by omega), e1, r_copy_ne (by omega)]
      exact (h1 j hj).2.2.2.2
    have nb : b ≠ a := by omega
    have eb : M5 b = c b := k5 b (by omega)
    have n1 : a + 1 ≠ a := by omega
    have n2 : a + 2 ≠ a := by omega
    have n3 : a + 3 ≠ a := by omega
    have n4 : a + 4 ≠ a := by omega
    have n5 : a + 5 ≠ a := by omega
    unfold g_let
    refine okk_some ⟨fun j hj => ?_, ?_⟩
    · simp only [g_set_ne n1, g_set_ne n2, g_set_ne n3, g_set_ne n4, g_set_ne n5]
      exact ⟨p4 j hj, p1 j hj, p2 j hj, p3 j hj, p5 j hj⟩
    · simp only [g_set_ne nb, eb]
      simp [g_set, h2, h3, h4, h5, h6, h7, h8]
  exact okk_fr key (fun R hR => w_FZ_copy a b c R hR)
theorem m_copies {m : gM} {a b : Nat} (hab : a ≠ b) : okk (FM_copies a b m) (fun s => (∀ j, j < 48 → s b j = m a j) ∧ ∀ q, ¬ q = b → s q = m q) := by
  have L : ∀ (q i : Nat) (M : gM), i + q = 48 → (∀ j, j < i → M b j = m a j) → (∀ q, ¬ q = b → M q = m q) → ∀ f, q < f → okk (FM_copies_L2 a b f (nI i) M) (fun s => ∀ j, j < 48 → s b j = m a j) := by
    intro q
    induction q with
    | zero =>
      intro i M hi h1 h2 f hf
      obtain ⟨f, rfl⟩ : ∃ g, f = g + 1 := ⟨f - 1, by omega⟩
      have : i = 48 := by omega
      subst this
      unfold FM_copies_L2
      rw [if_pos (show (48 : Int32) ≤ nI 48 from Int32.le_refl _)]
      exact okk_some h1
    | succ q ih =>
      intro i M hi h1 h2 f hf
      obtain ⟨f, rfl⟩ : ∃ g, f = g + 1 := ⟨f - 1, by omega⟩
      unfold FM_copies_L2
      rw [if_neg (show ¬ (48 : Int32) ≤ nI i from nI_ge (b := 48) (by omega) (by decide)), ix_in (by omega) (by omega), ix_in (by omega) (by omega), nI_1]
      refine okk_let (fun M2 e2 => ih (i + 1) M2 (by omega) (fun j hj => ?_) (fun q hq => ?_) f (by omega))
      · rw [e2]
        by_cases hji : j = i
        · rw [hji, g_set_eq, h2 a hab]
        · rw [g_set_k hji]; exact h1 j (by omega)
      · rw [e2, g_set_ne hq]; exact h2 q hq
  exact okk_fr (L 48 0 m (by omega) (fun j hj => absurd hj (by omega)) (fun _ _ => rfl) 1000 (by omega)) (fun R hR => w_FM_copies a b m R hR)
theorem v_row_c {W C H : Nat} {r r2 : Nat → Int32} (hv : v_row W C H r) (h : ∀ j, j < 48 → r2 j = r j) : v_row W C H r2 := by
  obtain ⟨h1, h2, h3, h4, h5, h6, h7⟩ := hv
  unfold v_row
  rw [h 40 (by omega), h 41 (by omega), h 43 (by omega), h 46 (by omega)]
  exact ⟨fun k hk => by rw [h k (by omega)]; exact h1 k hk, fun k hk => by rw [h (8 + k) (by omega)]; exact h2 k hk, fun k hk => by rw [h (16 + k) (by omega)]; exact h3 k hk, fun k h8 hk => by rw [h (24 + k) (by omega)]; exact h4 k h8 hk, h5, h6, h7⟩
/-- what a roll leaves in a row -/
theorem a_gone_free {m : gM} {r : Nat → Int32} {L : Int32} {p : Nat} (h1 : p ≠ 8 + who r) (h2 : p ≠ 41) (h3 : p ≠ 42) (h4 : p ≠ 44) (h5 : p ≠ 47) : a_gone m r L p = r p := by
  unfold a_gone
  rw [upd_ne h2, upd_ne h5, upd_ne h4, upd_ne h3, upd_ne h1]
theorem a_hour_free {m : gM} {r : Nat → Int32} {h k p : Nat} (h1 : p ≠ 16 + k) (h2 : p ≠ 24 + k) (h3 : p ≠ 32 + h) (h4 : p ≠ 40) (h5 : p ≠ 41) (h6 : p ≠ 42) (h7 : p ≠ 43) (h8 : p ≠ 44) (h9 : p ≠ 46) : a_hour m h k r p = r p := by
  rw [a_hour_e]
  unfold a_end
  by_cases e1 : nI h + 1 = m 468 2
  · rw [if_pos e1]
    by_cases e2 : r 42 ≤ m 468 3
    · rw [if_pos e2, upd_ne h8, upd_ne h7, upd_ne h4, upd_ne h5, upd_ne h6, upd_ne h1, upd_ne h3]
    · rw [if_neg e2, upd_ne h8, upd_ne h7, upd_ne h4, upd_ne h5, upd_ne h6, upd_ne h1, upd_ne h9, upd_ne h2, upd_ne h3]
  · rw [if_neg e1]
    by_cases e2 : r 42 ≤ m 468 3
    · rw [if_pos e2, upd_ne h4, upd_ne h5, upd_ne h6, upd_ne h1, upd_ne h3]
    · rw [if_neg e2, upd_ne h4, upd_ne h5, upd_ne h6, upd_ne h1, upd_ne h9, upd_ne h2, upd_ne h3]
/-- hour's end: rest of the row at the places that count -/
theorem a_hour_at {m : gM} {r : Nat → Int32} {h k : Nat} (hh : h < 8) (hk : k < 8) : a_hour m h k r (16 + k) = 0 ∧ a_hour m h k r 41 = 0 ∧ (a_hour m h k r 46 = r 46 ∨ a_hour m h k r 46 = r 46 + 1) ∧ ((nI h + 1 = m 468 2 ∧ a_hour m h k r 40 = 0 ∧ a_hour m h k r 43 = r 43 + 1) ∨ (¬ nI h + 1 = m 468 2 ∧ a_hour m h k r 40 = nI h + 1 ∧ a_hour m h k r 43 = r 43)) := by
  rw [a_hour_e]
  unfold a_end
  by_cases e1 : nI h + 1 = m 468 2
  · simp only [if_pos e1]
    refine ⟨?_, ?_, ?_, Or.inl ⟨e1, ?_, ?_⟩⟩
    · rw [upd_ne (by omega), upd_ne (by omega), upd_ne (by omega), upd_ne (by omega), upd_ne (by omega), upd_eq]
    · rw [upd_ne (by omega), upd_ne (by omega), upd_ne (by omega), upd_eq]
    · rw [upd_ne (by omega), upd_ne (by omega), upd_ne (by omega), upd_ne (by omega), upd_ne (by omega), upd_ne (by omega)]
      by_cases e2 : r 42 ≤ m 468 3
      · rw [if_pos e2, upd_ne (by omega)]; exact Or.inl rfl
      · rw [if_neg e2, upd_eq]; exact Or.inr rfl
    · rw [upd_ne (by omega), upd_ne (by omega), upd_eq]
    · rw [upd_ne (by omega), upd_eq]
  · simp only [if_neg e1]
    refine ⟨?_, ?_, ?_, Or.inr ⟨e1, ?_, ?_⟩⟩
    · rw [upd_ne (by omega), upd_ne (by omega), upd_ne (by omega), upd_eq]
    · rw [upd_ne (by omega), upd_eq]
    · rw [upd_ne (by omega), upd_ne (by omega), upd_ne (by omega), upd_ne (by omega)]
      by_cases e2 : r 42 ≤ m 468 3
      · rw [if_pos e2, upd_ne (by omega)]; exact Or.inl rfl
      · rw [if_neg e2, upd_eq]; exact Or.inr rfl
    · rw [upd_eq]
    · rw [upd_ne (by omega), upd_ne (by omega), upd_ne (by omega), upd_ne (by omega)]
      by_cases e2 : r 42 ≤ m 468 3
      · rw [if_pos e2, upd_ne (by omega)]
      · rw [if_neg e2, upd_ne (by omega), upd_ne (by omega), upd_ne (by omega)]
theorem v_roll {m : gM} (hg : v_g m) {r : Nat → Int32} (hv : v_row (nW m) (nC m) (nH m) r) (hc : a_can m r) (L : Int32) {n : Nat} (hn : n < 1000) (hd : ∃ d, d ≤ n ∧ r 43 = nI d) : v_row (nW m) (nC m) (nH m) (a_roll m r L) ∧ (∃ d, d ≤ n + 1 ∧ a_roll m r L 43 = nI d) ∧ a_roll m r L 47 = r 47 + a_took m r L ∧ (a_roll m r L 46 = r 46 ∨ a_roll m r L 46 = r 46 + 1) ∧ a_roll m r L 45 = r 45 := by
  obtain ⟨b1, b2, b3⟩ := hg.2.1
  obtain ⟨eh, hh⟩ := v_row_hop hv hc.2.1 b3
  obtain ⟨ew, hw⟩ := v_row_who hv hc.2.1 b3 b2 hc.2.2
  obtain ⟨eg, hgt⟩ := v_row_gate hv hc.1 b1
  obtain ⟨g, eg2, hg2⟩ : ∃ g, r 41 = nI g ∧ g < nW m := ⟨_, eg, hgt⟩
  obtain ⟨h1, h2, h3, h4, h5, h6, d, o, h, hd1, e43, e40, hh8, e46, ho⟩ := hv
  have hhop : h = hop r := by
    rw [eh] at e40
    exact ((nI_eq (by omega) (by omega)).mp e40).symm
  obtain ⟨d2, hd2, e432⟩ := hd
  have hdd : d = d2 := by
    rw [e43] at e432
    exact (nI_eq (by omega) (by omega)).mp e432
  subst hdd
  -- pointwise
  have free : ∀ p, p ≠ 8 + who r → p ≠ 16 + who r → p ≠ 24 + who r → p ≠ 32 + hop r → p ≠ 40 → p ≠ 41 → p ≠ 42 → p ≠ 43 → p ≠ 44 → p ≠ 46 → p ≠ 47 → a_roll m r L p = r p := by
    intro p p1 p2 p3 p4 p5 p6 p7 p8 p9 p10 p11
    unfold a_roll
    by_cases e : r 41 + 1 = m 468 0
    · rw [if_pos e, a_hour_free p2 p3 p4 p5 p6 p7 p8 p9 p10, a_gone_free p1 p6 p7 p9 p11]
    · rw [if_neg e, a_gone_free p1 p6 p7 p9 p11]
  have tir : a_roll m r L (8 + who r) = FM_less 99 (r (8 + who r) + 1) := by
    have t : a_gone m r L (8 + who r) = FM_less 99 (r (8 + who r) + 1) := by
      unfold a_gone
      rw [upd_ne (by omega), upd_ne (by omega), upd_ne (by omega), upd_ne (by omega), upd_eq]
    unfold a_roll
    by_cases e : r 41 + 1 = m 468 0
    · rw [if_pos e, a_hour_free (by omega) (by omega) (by omega) (by omega) (by omega) (by omega) (by omega) (by omega) (by omega), t]
    · rw [if_neg e, t]
  have g47 : a_roll m r L 47 = r 47 + a_took m r L := by
    have t : a_gone m r L 47 = r 47 + a_took m r L := by
      unfold a_gone
      rw [upd_ne (by omega), upd_eq]
    unfold a_roll
    by_cases e : r 41 + 1 = m 468 0
    · rw [if_pos e, a_hour_free (by omega) (by omega) (by omega) (by omega) (by omega) (by omega) (by omega) (by omega) (by omega), t]
    · rw [if_neg e, t]
  have go : ∀ p, p = 40 ∨ p = 43 ∨ p = 46 ∨ (16 ≤ p ∧ p < 24) → a_gone m r L p = r p := fun p hp => a_gone_free (by omega) (by omega) (by omega) (by omega) (by omega)
  have rest : (∃ t, t ≤ 99 ∧ a_roll m r L (16 + who r) = nI t) ∧ (∃ q, (q < nW m ∨ q = 0) ∧ a_roll m r L 41 = nI q) ∧ (a_roll m r L 46 = r 46 ∨ a_roll m r L 46 = r 46 + 1) ∧ ((a_roll m r L 40 = 0 ∧ a_roll m r L 43 = nI (d + 1)) ∨ (h + 1 < nH m ∧ a_roll m r L 40 = nI (h + 1) ∧ a_roll m r L 43 = nI d) ∨ (a_roll m r L 40 = nI h ∧ a_roll m r L 43 = nI d ∧ a_roll m r L 46 = r 46)) := by
    unfold a_roll
    by_cases e : r 41 + 1 = m 468 0
    · simp only [if_pos e]
      obtain ⟨u1, u2, u3, u4⟩ := a_hour_at (m := m) (r := a_gone m r L) (h := hop r) (k := who r) (by omega) (by omega)
      rw [go 46 (by omega), go 43 (by omega)] at *
      refine ⟨⟨0, by omega, u1⟩, ⟨0, Or.inr rfl, u2⟩, u3, ?_⟩
      rcases u4 with ⟨-, v1, v2⟩ | ⟨v0, v1, v2⟩
      · exact Or.inl ⟨v1, by rw [v2, e43, nI_1]⟩
      · refine Or.inr (Or.inl ⟨?_, by rw [v1, nI_1, hhop], by rw [v2, e43]⟩)
        rcases Nat.lt_or_ge (h + 1) (nH m) with q | q
        · exact q
        · exact absurd (by rw [hg.1.2.2, nI_1, ← hhop, show h + 1 = nH m by omega]) v0
    · simp only [if_neg e]
      rw [go 40 (by omega), go 43 (by omega), go 46 (by omega), go (16 + who r) (by omega)]
      refine ⟨h3 (who r) (by omega), ⟨g + 1, Or.inl ?_, ?_⟩, Or.inl rfl, Or.inr (Or.inr ⟨e40, e43, rfl⟩)⟩
      · rcases Nat.lt_or_ge (g + 1) (nW m) with q | q
        · exact q
        · exact absurd (by rw [hg.1.1, eg2, nI_1, show g + 1 = nW m by omega]) e
      · unfold a_gone
        rw [upd_eq, eg2, nI_1]
  obtain ⟨s1, s2, s3, s4⟩ := rest
  refine ⟨⟨fun k hk => ?_, fun k hk => ?_, fun k hk => ?_, fun k hk hk8 => ?_, ?_, s2, ?_⟩, ?_, g47, s3, ?_⟩
  · rw [free k (by omega) (by omega) (by omega) (by omega) (by omega) (by omega) (by omega) (by omega) (by omega) (by omega) (by omega)]
    exact h1 k hk
  · by_cases ek : k = who r
    · rw [ek, tir]
      obtain ⟨t, t9, et⟩ := h2 (who r) (by omega)
      rw [et]
      exact less_99s t9
    · rw [free (8 + k) (by omega) (by omega) (by omega) (by omega) (by omega) (by omega) (by omega) (by omega) (by omega) (by omega) (by omega)]
      exact h2 k hk
  · by_cases ek : k = who r
    · rw [ek]; exact s1
    · rw [free (16 + k) (by omega) (by omega) (by omega) (by omega) (by omega) (by omega) (by omega) (by omega) (by omega) (by omega) (by omega)]
      exact h3 k hk
  · rw [free (24 + k) (by omega) (by omega) (by omega) (by omega) (by omega) (by omega) (by omega) (by omega) (by omega) (by omega) (by omega)]
    exact h4 k hk hk8
  · rcases s4 with ⟨q, -⟩ | ⟨q1, q2, -⟩ | ⟨q, -, -⟩
    · exact ⟨0, Or.inr rfl, q⟩
    · exact ⟨h + 1, Or.inl q1, q2⟩
    · exact ⟨h, Or.inl (by omega), q⟩
  · rcases s4 with ⟨q1, q2⟩ | ⟨q0, q1, q2⟩ | ⟨q1, q2, q3⟩
    · rcases s3 with w | w
      · exact ⟨d + 1, o, 0, by omega, q2, q1, by omega, by rw [w, e46], by omega⟩
      · exact ⟨d + 1, o + 1, 0, by omega, q2, q1, by omega, by rw [w, e46, nI_1], by omega⟩
    · rcases s3 with w | w
      · exact ⟨d, o, h + 1, by omega, q2, q1, by omega, by rw [w, e46], by omega⟩
      · exact ⟨d, o + 1, h + 1, by omega, q2, q1, by omega, by rw [w, e46, nI_1], by omega⟩
    · exact ⟨d, o, h, by omega, q2, q1, by omega, by rw [q3, e46], by omega⟩
  · rcases s4 with ⟨-, q2⟩ | ⟨-, -, q2⟩ | ⟨-, q2, -⟩
    · exact ⟨d + 1, by omega, q2⟩
    · exact ⟨d, by omega, q2⟩
    · exact ⟨d, by omega, q2⟩
  · exact free 45 (by omega) (by omega) (by omega) (by omega) (by omega) (by omega) (by omega) (by omega) (by omega) (by omega) (by omega)
/-- nothing has changed but what a trial works on -/
def eM1 (m M : gM) : Prop := ∀ b, ¬ ((847 ≤ b ∧ b ≤ 848) ∨ b = 931) → M b = m b
theorem eM1.eM {m M : gM} (h : eM1 m M) : eM m M := eM.of (fun b hb => h b (by omega))
theorem eM1.trans {a b c : gM} (h1 : eM1 a b) (h2 : eM1 b c) : eM1 a c := fun q hq => (h2 q hq).trans (h1 q hq)
/-- both sides ahead by rolls only asked, from c0 and m0; n bounds the day -/
def gI (c0 m0 : gM) (n : Nat) (c m : gM) : Prop := eC c0 c ∧ eM m0 m ∧ m 464 0 = 0 ∧ v_row (nW m) (nC m) (nH m) (m 931) ∧ r_st c 33 (m 931) ∧ (∃ d, d ≤ n ∧ m 931 43 = nI d) ∧ c 32 3 = m 931 47 - m 930 47
theorem c_start {c0 m0 : gM} (h0 : RR c0 m0) (z0 : m0 464 0 = 0) : okk (FG_start c0) (fun c => okk (FM_copies 930 931 m0) (fun m => gI c0 m0 200 c m ∧ eM1 m0 m ∧ c 32 4 = 0 ∧ c 32 5 = 0 ∧ c 32 6 = 0)) := by
  have w := fun R hR => w_FG_start c0 R hR
  obtain ⟨t1, t2, ⟨hg, rg⟩, ⟨hl, rl⟩, t7, t8, t9, t10⟩ := h0
  have key : okk (FG_start c0) (fun c => r_st c 33 (m0 930) ∧ c 32 3 = 0 ∧ c 32 4 = 0 ∧ c 32 5 = 0 ∧ c 32 6 = 0) := by
    unfold FG_start
    refine okk_bind (c_copyS (a := 33) (b := 48) t8.2 (by omega)) (fun s hs => okk_some ⟨?_, ?_, ?_, ?_, ?_⟩)
    · exact r_st_m hs.1 (fun b h1 h2 => by
        have : b ≠ 32 := by omega
        rw [g_set_ne this, g_set_ne this, g_set_ne this, g_set_ne this])
    · simp [g_set]
    · simp [g_set]
    · simp [g_set]
    · simp [g_set]
  refine okk_w (okk_fr key w) ?_
  rintro c ⟨⟨k1, k2, k3, k4, k5⟩, wc⟩
  refine okk_w (m_copies (m := m0) (a := 930) (b := 931) (by decide)) ?_
  rintro m ⟨q1, q2⟩
  have em : eM1 m0 m := fun b hb => q2 b (by omega)
  refine ⟨⟨⟨fun b hb => wc b (by omega), by rw [wc 15 (by omega)], by rw [wc 15 (by omega)]⟩, em.eM, by rw [q2 464 (by decide)]; exact z0, ?_, ?_, ?_, ?_⟩, em, k3, k4, k5⟩
  · rw [eM_W em.eM, eM_C em.eM, eM_H em.eM]
    exact v_row_c t8.1.1 q1
  · exact r_st_r k1 (fun s hs => q1 s (by omega))
  · rw [q1 43 (by omega)]; exact t8.1.2
  · rw [k2, q1 47 (by omega), q2 930 (by decide), Int32.sub_self]
theorem c_can {c0 m0 : gM} (h0 : RR c0 m0) {n : Nat} {c m : gM} (hi : gI c0 m0 n c m) : (FB_canBowl 33 c = 1 ∧ FM_canRoll 931 m = some 1 ∧ a_can m (m 931)) ∨ (FB_canBowl 33 c = 0 ∧ FM_canRoll 931 m = some 0 ∧ ¬ a_can m (m 931)) := by
  obtain ⟨t1, t2, ⟨hg, rg⟩, ⟨hl, rl⟩, t7, t8, t9, t10⟩ := RR_e h0 hi.1 hi.2.1
  obtain ⟨x, e, hx⟩ := m_canRoll hg (b := 931) hi.2.2.2.1
  rcases c_canBowl hg rg (a := 33) hi.2.2.2.1 hi.2.2.2.2.1 with ⟨q1, q2⟩ | ⟨q1, q2⟩
  · rcases hx with ⟨p1, p2⟩ | ⟨p1, p2⟩
    · exact Or.inl ⟨q1, by rw [e, p1], q2⟩
    · exact absurd q2 p2
  · rcases hx with ⟨p1, p2⟩ | ⟨p1, p2⟩
    · exact absurd p2 q2
    · exact Or.inr ⟨q1, by rw [e, p1], q2⟩
theorem c_stay {c : gM} (h : FB_canBowl 33 c = 0) (L : Int32) : FG_goOn L c = some (0, c) := by
  unfold FG_goOn
  rw [if_pos h]
theorem c_goOn {c0 m0 : gM} (h0 : RR c0 m0) {n : Nat} (hn : n < 1000) {c m : gM} (hi : gI c0 m0 n c m) (h1 : FB_canBowl 33 c = 1) (hc : a_can m (m 931)) (L : Int32) : okk (FG_goOn L c) (fun s => okk (FM_rolls 931 L m) (fun t => s.1 = 1 ∧ gI c0 m0 (n + 1) s.2 t.2 ∧ eM1 m t.2 ∧ t.1 = a_took m (m 931) L ∧ t.2 931 = a_roll m (m 931) L ∧ s.2 32 4 = c 32 4 + 1 ∧ s.2 32 5 = c 32 5 ∧ s.2 32 6 = c 32 6 ∧ s.2 32 7 = c 32 7)) := by
  obtain ⟨i1, i2, i3, i4, i5, i6, i7⟩ := hi
  obtain ⟨t1, t2, ⟨hg, rg⟩, ⟨hl, rl⟩, t7, t8, t9, t10⟩ := RR_e h0 i1 i2
  obtain ⟨v1, v2, v3, v4, v5⟩ := v_roll hg i4 hc L hn i6
  unfold FG_goOn
  rw [if_neg (by rw [h1]; decide)]
  refine okk_bind (c_bowl hg rg rl (a := 33) (by decide) (by decide) i4 i5 hc L) ?_
  rintro ⟨v, c1⟩ ⟨rfl, s1', s2'⟩
  have s1 : r_st c1 33 (a_roll m (m 931) L) := s1'
  have s2 : eCs 33 c c1 := s2'
  obtain ⟨m1, y1, y2, y3⟩ := m_rolls hg hl (b := 931) (Or.inr rfl) i4 hc L
  have em : eM1 m m1 := fun b hb => y3 b hb
  refine okk_some (okk_eq y1 ⟨rfl, ⟨⟨fun b hb => ?_, ?_, ?_⟩, i2.trans em.eM, ?_, ?_, ?_, ?_, ?_⟩, em, rfl, y2, ?_, ?_, ?_, ?_⟩)
  · have : b ≠ 32 := by omega
    show g_set (g_set c1 32 3 _) 32 4 _ b = c0 b
    rw [g_set_ne this, g_set_ne this, s2.1 b (by omega)]
    exact i1.1 b hb
  · show c1 15 3 = c0 15 3
    rw [s2.2.1, i1.2.1]
  · show c1 15 4 = c0 15 4
    rw [s2.2.2, i1.2.2]
  · show m1 464 0 = 0
    rw [em 464 (by decide)]; exact i3
  · show v_row (nW m1) (nC m1) (nH m1) (m1 931)
    rw [eM_W em.eM, eM_C em.eM, eM_H em.eM, y2]; exact v1
  · show r_st _ 33 (m1 931)
    rw [y2]
    refine r_st_m s1 (fun b b1 b2 => ?_)
    have : b ≠ 32 := by omega
    show g_set (g_set c1 32 3 _) 32 4 _ b = c1 b
    rw [g_set_ne this, g_set_ne this]
  · show ∃ d, d ≤ n + 1 ∧ m1 931 43 = nI d
    rw [y2]; exact v2
  · show c 32 3 + a_took m (m 931) L = m1 931 47 - m1 930 47
    rw [y2, v3, i7, em 930 (by decide)]
    grind
  · show c1 32 4 + 1 = c 32 4 + 1
    rw [s2.1 32 (by omega)]
  · show c1 32 5 = c 32 5
    rw [s2.1 32 (by omega)]
  · show c1 32 6 = c 32 6
    rw [s2.1 32 (by omega)]
  · show c1 32 7 = c 32 7
    rw [s2.1 32 (by omega)]
theorem gI_RR {c0 m0 : gM} (h0 : RR c0 m0) {n : Nat} {c m : gM} (hi : gI c0 m0 n c m) : RR c m := RR_e h0 hi.1 hi.2.1
theorem gI_fines {c0 m0 : gM} (h0 : RR c0 m0) {n : Nat} {c m : gM} (hi : gI c0 m0 n c m) : FZ_fines 33 c = some (a_sum (fun k => m 931 (24 + k)) 8) ∧ FZ_fines 48 c = some (a_sum (fun k => m 930 (24 + k)) 8) ∧ FM_finesIn 931 m = some (a_sum (fun k => m 931 (24 + k)) 8) ∧ FM_finesIn 930 m = some (a_sum (fun k => m 930 (24 + k)) 8) := by
  obtain ⟨t1, t2, ⟨hg, rg⟩, ⟨hl, rl⟩, t7, t8, t9, t10⟩ := gI_RR h0 hi
  exact ⟨c_fines hi.2.2.2.2.1, c_fines t8.2, m_fines hg hi.2.2.2.1.2.2.2.1, m_fines hg t8.1.1.2.2.2.1⟩
