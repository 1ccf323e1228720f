/-! A sign taken by the model, seen from both. -/
theorem P_sign {n : Nat} {B : Nat → Nat} {p q : Nat} {c m : gM} (h : PS n B p q c m) {k : Nat} (hk : k < 256) : okk (FM_takesSign (nI k) m) (fun t => mS m t.2 ∧ ((t.1 = 1 ∧ skp n B p < n ∧ B (skp n B p) = k ∧ tM n B (skp n B p + 1) 0 (-1) t.2) ∨ (t.1 = 0 ∧ ¬ (skp n B p < n ∧ B (skp n B p) = k) ∧ tM n B (skp n B p) 0 (-1) t.2))) := by
  refine okk_w (M_takes h.2.1 hk) ?_
  rintro ⟨v, t⟩ ⟨a1, a2, a3⟩
  dsimp only at a1 a2 a3 ⊢
  unfold nP at a2
  rw [← h.2.2] at a1 a2
  refine ⟨a3, ?_⟩
  by_cases e : skp n B p < n ∧ B (skp n B p) = k
  · rw [if_pos e] at a1 a2
    exact Or.inl ⟨a1, e.1, e.2, a2⟩
  · rw [if_neg e] at a1 a2
    exact Or.inr ⟨a1, e, a2⟩
