/-! Both readers side by side: still right and at one place, or both at the same fault. -/
/-- both have failed alike -/
def PF (n : Nat) (B : Nat → Nat) (c m : gM) : Prop := ∃ p q f w, f ≠ 0 ∧ tC n B p f w c ∧ tM n B q f w m
/-- both are right, and at one place but for blanks -/
def PS (n : Nat) (B : Nat → Nat) (p q : Nat) (c m : gM) : Prop := tC n B p 0 (-1) c ∧ tM n B q 0 (-1) m ∧ skp n B p = skp n B q
theorem fz_n {f k : Int32} (hf : f ≠ 0) : fz f k = f := by
  unfold fz ff
  by_cases h : k = 0
  · rw [if_pos h]
  · rw [if_neg h, if_neg hf]
theorem wz_n {f w k q : Int32} (hf : f ≠ 0) : wz f w k q = w := by
  unfold wz fw
  by_cases h : k = 0
  · rw [if_pos h]
  · rw [if_neg h, if_neg hf]
theorem P_number {n : Nat} {B : Nat → Nat} {p q : Nat} {c m : gM} (h : PS n B p q c m) (lo : Int32) {hi : Int32} (hhi : hi < 10000) (hlo : 0 ≤ lo) : okk (F_number lo hi c) (fun s => okk (FM_number lo hi m) (fun t => cS c s.2 ∧ mS m t.2 ∧ s.2 1 4 = nI (skp n B p) ∧ ((∃ e v, p < e ∧ e ≤ n ∧ PS n B e e s.2 t.2 ∧ s.1 = nI v ∧ t.1 = nI v ∧ v ≤ 10000 ∧ FM_in (nI v) lo hi = 1) ∨ PF n B s.2 t.2))) := by
  obtain ⟨h1, h2, h3⟩ := h
  have hp := skp_le (B := B) h1.2.2.2.2.1
  refine okk_w (L_number h1 lo hi) ?_
  rintro ⟨v, M⟩ ⟨rfl, s2, s3, s4⟩
  refine okk_w (M_number h2 lo hhi hlo) ?_
  rintro ⟨x, N⟩ ⟨k, ek, t1, t2, t3⟩
  rw [← h3] at ek t1 t2
  dsimp only at s2 s3 s4 t1 t2 t3 ⊢
  rw [← ek] at s2
  have hv := nv_le 10000 B (n - skp n B p) (skp n B p) 0 (by omega)
  refine ⟨s4, t3, s3, ?_⟩
  have he := dgp_le (B := B) hp.2
  by_cases e : k = 0
  · left
    have e2 : dgp n B (skp n B p) ≠ skp n B p := fun z => by
      rw [e] at ek
      unfold nfk at ek
      rw [if_pos z] at ek
      exact i10 ek.symm
    have e3 : FM_in (nI (nv 10000 B (n - skp n B p) (skp n B p) 0)) lo hi = 1 := by
      rcases in_2 (nI (nv 10000 B (n - skp n B p) (skp n B p) 0)) lo hi with z | z
      · rw [e] at ek
        unfold nfk at ek
        rw [if_neg e2, if_pos z] at ek
        exact absurd ek.symm i20
      · exact z
    rw [if_pos e] at t1 t2
    rw [e] at s2 t2
    exact ⟨dgp n B (skp n B p), nv 10000 B (n - skp n B p) (skp n B p) 0, by omega, he.2, ⟨s2, t2, rfl⟩, rfl, t1, hv, e3⟩
  · right
    rw [if_neg e] at t1 t2
    refine ⟨dgp n B (skp n B p), dgp n B (skp n B p), k, nI (skp n B p), e, ?_, t2⟩
    have f1 : fz 0 k = k := by unfold fz ff; rw [if_neg e, if_pos rfl]
    have f2 : wz 0 (-1) k (nI (skp n B p)) = nI (skp n B p) := by unfold wz fw; rw [if_neg e, if_pos rfl]
    rw [f1, f2] at s2
    exact s2
theorem P_need {n : Nat} {B : Nat → Nat} {p q : Nat} {c m : gM} (h : PS n B p q c m) {k : Nat} (hk : k < 256) : okk (F_need (nI k) c) (fun s => okk (FM_sign (nI k) m) (fun t => cS c s ∧ mS m t ∧ s 1 4 = c 1 4 ∧ ((∃ e, p < e ∧ e = skp n B p + 1 ∧ e ≤ n ∧ PS n B e e s t) ∨ PF n B s t))) := by
  obtain ⟨h1, h2, h3⟩ := h
  have hp := skp_le (B := B) h1.2.2.2.2.1
  refine okk_w (L_need h1 hk) ?_
  rintro M ⟨s2, s3, s4⟩
  refine okk_w (M_sign h2 hk) ?_
  rintro N ⟨t2, t3⟩
  rw [← h3] at t2
  refine ⟨s4, t3, s3, ?_⟩
  by_cases e : skp n B p < n ∧ B (skp n B p) = k
  · left
    rw [if_pos e, if_pos e] at s2 t2
    have e2 : nP n B k (skp n B p) = skp n B p + 1 := if_pos e
    rw [e2] at s2 t2
    exact ⟨skp n B p + 1, by omega, rfl, by omega, s2, t2, rfl⟩
  · right
    rw [if_neg e, if_neg e] at s2 t2
    exact ⟨_, _, 1, nI (skp n B p), i10, s2, t2⟩
/-- the class reads on after a fault -/
theorem CF_number {n : Nat} {B : Nat → Nat} {p : Nat} {f w : Int32} {c : gM} (hf : f ≠ 0) (h : tC n B p f w c) (lo hi : Int32) : okk (F_number lo hi c) (fun s => cS c s.2 ∧ ∃ e, tC n B e f w s.2) := by
  refine okk_w (L_number h lo hi) ?_
  rintro s ⟨s1, s2, s3, s4⟩
  rw [fz_n hf, wz_n hf] at s2
  exact ⟨s4, _, s2⟩
theorem CF_need {n : Nat} {B : Nat → Nat} {p : Nat} {f w : Int32} {c : gM} (hf : f ≠ 0) (h : tC n B p f w c) {k : Nat} (hk : k < 256) : okk (F_need (nI k) c) (fun s => cS c s ∧ ∃ e, tC n B e f w s) := by
  refine okk_w (L_need h hk) ?_
  rintro s ⟨s1, s2, s3⟩
  have e1 : ff f 1 = f := if_neg hf
  have e2 : fw f w (nI (skp n B p)) = w := if_neg hf
  rw [e1, e2] at s1
  refine ⟨s3, nP n B k (skp n B p), ?_⟩
  by_cases e : skp n B p < n ∧ B (skp n B p) = k
  · rw [if_pos e, if_pos e] at s1; exact s1
  · rw [if_neg e, if_neg e] at s1; exact s1
theorem CF_fail {n : Nat} {B : Nat → Nat} {p : Nat} {f w : Int32} {c : gM} (hf : f ≠ 0) (h : tC n B p f w c) (k q : Int32) : okk (F_fail k q c) (fun s => cS c s ∧ tC n B p f w s) := by
  refine okk_w (L_fail h k q) ?_
  rintro s ⟨s1, s2, s3⟩
  rw [show ff f k = f from if_neg hf, show fw f w q = w from if_neg hf] at s1
  exact ⟨s3, s1⟩
/-- the model does nothing after a fault -/
theorem MF_number {m : gM} (hf : m 464 5 ≠ 0) (lo hi : Int32) : FM_number lo hi m = some (0, m) := by
  unfold FM_number
  rw [if_neg hf]
theorem MF_sign {m : gM} (hf : m 464 5 ≠ 0) (k : Int32) : FM_sign k m = some m := by
  unfold FM_sign
  rw [if_neg hf]
theorem MF_takes {m : gM} (hf : m 464 5 ≠ 0) (k : Int32) : FM_takesSign k m = some (0, m) := by
  unfold FM_takesSign
  rw [if_neg hf]
theorem MF_isWord {m : gM} (hf : m 464 5 ≠ 0) (a b c d e f : Int32) : FM_isWord a b c d e f m = some (0, m) := by
  unfold FM_isWord
  rw [if_neg hf]
theorem PF_fail {n : Nat} {B : Nat → Nat} {p q : Nat} {c m : gM} (h1 : tC n B p 0 (-1) c) (h2 : tM n B q 0 (-1) m) {k : Int32} (hk : k ≠ 0) (x : Int32) : okk (F_fail k x c) (fun s => okk (FM_wrong k x m) (fun t => cS c s ∧ mS m t ∧ PF n B s t)) := by
  refine okk_w (L_fail h1 k x) ?_
  rintro s ⟨s1, s2, s3⟩
  refine okk_w (M_wrong h2 k x) ?_
  rintro t ⟨t1, t2⟩
  exact ⟨s3, t2, p, q, k, x, hk, s1, t1⟩
/-- a text's length is in order -/
theorem nd_text {c m : gM} (ht : R_tape c m) (v : Int32) {mo : Nat} (hmo : mo ≤ 600) : (∃ N, v = nI N ∧ N ≤ mo ∧ (∀ j, j < N → ∃ b, b < 256 ∧ c 2 j = nI b ∧ m 465 j = nI b) ∧ N ≤ 600 ∧ FM_in v 0 (m 464 1) = 1 ∧ v ≤ nI mo ∧ FX_needText v (nI mo) c = some (0, c)) ∨ ((FM_in v 0 (m 464 1) = 0 ∨ (FM_in v 0 (m 464 1) = 1 ∧ ¬ v ≤ nI mo)) ∧ FX_needText v (nI mo) c = some (2, g_set c 0 17 (c 0 17 + 1))) := by
  obtain ⟨t, t6, e1, e2, e3⟩ := ht
  unfold FX_needText
  rw [e1, e2, m_less, less_min (by omega) (by omega)]
  rcases c_needIn c v 0 (nI (min t mo)) with ⟨h1, h2, h3, h4⟩ | ⟨h1, h2⟩
  · left
    rw [h4]
    obtain ⟨N, hN, rfl⟩ := nI_of h2
    have hle := (nI_leI hN (by omega)).mp h3
    refine ⟨N, rfl, by omega, fun j hj => e3 j (by omega), by omega, ?_, nI_le (by omega) (by omega), rfl⟩
    exact in_1 (nI_pos hN) (nI_nlt (by omega) (by omega))
  · right
    rw [h2]
    refine ⟨?_, rfl⟩
    unfold FM_in at h1 ⊢
    by_cases q1 : v < 0
    · left; rw [if_pos q1]
    · rw [if_neg q1] at h1 ⊢
      obtain ⟨N, hN, rfl⟩ := nI_of q1
      by_cases q2 : nI (min t mo) < nI N
      · have q3 := (nI_ltI (by omega) hN).mp q2
        by_cases q4 : nI t < nI N
        · left; rw [if_pos q4]
        · right
          rw [if_neg q4]
          refine ⟨rfl, ?_⟩
          have q5 : ¬ t < N := fun z => q4 ((nI_ltI (by omega) hN).mpr z)
          exact nI_ge (by omega) (by omega)
      · rw [if_neg q2] at h1
        exact absurd h1 i10
theorem R_tape_0 {c m : gM} (h1 : c 1 1 = 0) (h2 : m 464 1 = 0) : R_tape c m := ⟨0, by omega, h1, h2, fun j hj => absurd hj (by omega)⟩
/-- the class opens its tape, the model starts -/
theorem P_open {c m : gM} {N : Nat} (hN : N ≤ 600) (hb : ∀ j, j < N → ∃ b, b < 256 ∧ c 2 j = nI b ∧ m 465 j = nI b) : ∃ B : Nat → Nat, okk (F_open (nI N) c) (fun s => okk (FM_starts (nI N) m) (fun t => PS N B 0 (skp N B 0) s t ∧ s 1 1 = 0 ∧ t 464 1 = 0 ∧ t 464 7 = 0 ∧ t 464 8 = 0 ∧ (∀ b, b ≠ 1 → s b = c b) ∧ (∀ b, b ≠ 464 → t b = m b) ∧ ∀ k, k = 0 ∨ k = 3 ∨ 9 ≤ k → t 464 k = m 464 k)) := by
  refine ⟨fun j => (c 2 j).toNatClampNeg, ?_⟩
  have hbb : ∀ j, j < N → (c 2 j).toNatClampNeg < 256 ∧ c 2 j = nI (c 2 j).toNatClampNeg ∧ m 465 j = nI (c 2 j).toNatClampNeg := fun j hj => by
    obtain ⟨b, b1, b2, b3⟩ := hb j hj
    rw [b2, nI_clamp (by omega)]
    exact ⟨b1, rfl, b3⟩
  unfold F_open
  refine okk_some ?_
  unfold FM_starts
  have hm : tM N (fun j => (c 2 j).toNatClampNeg) 0 0 (-1) (g_set (g_set (g_set (g_set (g_set (g_set (g_set m 464 1 (0 : Int32)) 464 2 (nI N)) 464 4 (0 : Int32)) 464 5 (0 : Int32)) 464 6 (-1 : Int32)) 464 7 (0 : Int32)) 464 8 (0 : Int32)) := by
    refine ⟨rfl, rfl, rfl, rfl, by omega, hN, fun j hj => ⟨(hbb j hj).1, ?_⟩⟩
    simp only [g_set_ne (show (465 : Nat) ≠ 464 by decide)]
    exact (hbb j hj).2.2
  refine okk_bind (M_blanks hm) ?_
  rintro t ⟨t1, t2, t3⟩
  refine okk_some ⟨⟨⟨rfl, rfl, rfl, rfl, by omega, hN, fun j hj => ⟨(hbb j hj).1, ?_⟩⟩, t1, (skp_i 0).symm⟩, rfl, ?_, ?_, ?_, fun b hb => ?_, fun b hb => ?_, fun k hk => ?_⟩
  · simp only [g_set_ne (show (2 : Nat) ≠ 1 by decide)]
    exact (hbb j hj).2.1
  · rw [t3 1 (by decide) (by decide) (by decide)]; rfl
  · rw [t3 7 (by decide) (by decide) (by decide)]; rfl
  · rw [t3 8 (by decide) (by decide) (by decide)]; rfl
  · simp only [g_set_ne hb]
  · rw [t2 b hb]; simp only [g_set_ne hb]
  · rw [t3 k (by omega) (by omega) (by omega)]
    rw [g_set_k (by omega), g_set_k (by omega), g_set_k (by omega), g_set_k (by omega), g_set_k (by omega), g_set_k (by omega), g_set_k (by omega)]
/-- the answer of a text that failed -/
theorem q_ends {c0 m0 c m : gM} {n : Nat} {B : Nat → Nat} (h0 : RR c0 m0) (z0 : m0 464 0 = 0) (hf : PF n B c m) (hc : kC c0 c) (hm : kM m0 m) (h1 : c 1 1 = 0) (h2 : m 464 1 = 0) (h3 : m 464 0 = m0 464 0) (h35 : m 464 35 = m0 464 35) : qq 1 (some (0, (c 1 5) - (10 : Int32), c)) ((FM_ends m).bind fun s3 => some (s3.1, s3.2)) := by
  obtain ⟨p, q, f, w, f0, a1, a2⟩ := hf
  unfold FM_ends
  refine qq_bM rfl ?_
  refine qq_v (by show g_set m 464 3 (m 464 6) 464 0 = 0; rw [g_set_k (by decide), h3]; exact z0) ?_ (by rw [a1.2.2.1, a2.2.2.1])
  obtain ⟨n1, n2, n3, n4⟩ := h0.2.1
  refine RR_k h0 hc ⟨fun b hb => ?_, ?_, ?_, ?_, ?_⟩ (R_tape_0 h1 (by show g_set m 464 3 (m 464 6) 464 1 = 0; rw [g_set_k (by decide)]; exact h2)) ⟨?_, ?_, ?_, ?_⟩
  · show g_set m 464 3 (m 464 6) b = m0 b
    rw [g_set_ne (by omega)]; exact hm.1 b hb
  · show g_set m 464 3 (m 464 6) 464 19 = _
    rw [g_set_k (by decide)]; exact hm.2.1
  · show g_set m 464 3 (m 464 6) 464 33 = _
    rw [g_set_k (by decide)]; exact hm.2.2.1
  · show g_set m 464 3 (m 464 6) 464 34 = _
    rw [g_set_k (by decide)]; exact hm.2.2.2.1
  · show g_set m 464 3 (m 464 6) 464 36 = _
    rw [g_set_k (by decide)]; exact hm.2.2.2.2
  · show c 1 6 = g_set m 464 3 (m 464 6) 464 3
    rw [g_set_eq, a1.2.2.2.1, a2.2.2.2.1]
  · show c 0 15 = g_set m 464 3 (m 464 6) 464 35
    rw [g_set_k (by decide), hc 0 (by omega), h35]; exact n2
  · show c 0 16 = g_set m 464 3 (m 464 6) 466 0
    rw [g_set_ne (by decide), hc 0 (by omega), hm.1 466 (by omega)]; exact n3
  · show c 0 17 = g_set m 464 3 (m 464 6) 466 1
    rw [g_set_ne (by decide), hc 0 (by omega), hm.1 466 (by omega)]; exact n4
