/-! A law's marks, put down on both sides. -/
/-- a law as far as read: k marks -/
def LD (k : Nat) (c m : gM) : Prop := c 19 3 = nI k ∧ m 464 20 = nI k ∧ k ≤ 150 ∧ ∀ j, j < k → c 20 j = a_mk (m (669 + j) 0) ∧ c 21 j = m (669 + j) 1
theorem LD_e {k : Nat} {c m c2 m2 : gM} (h : LD k c m) (h1 : c2 19 3 = c 19 3) (h2 : c2 20 = c 20) (h3 : c2 21 = c 21) (h4 : m2 464 20 = m 464 20) (h5 : ∀ j, j < 150 → m2 (669 + j) = m (669 + j)) : LD k c2 m2 := by
  obtain ⟨a1, a2, a3, a4⟩ := h
  unfold LD
  rw [h1, h2, h3, h4]
  exact ⟨a1, a2, a3, fun j hj => by rw [h5 j (by omega)]; exact a4 j hj⟩
theorem L_note {k : Nat} {c m : gM} (hk : k < 150) (h : LD k c m) (m5 : m 464 5 = 0) (what v : Int32) : okk (FL_mark (a_mk what) v c) (fun s => okk (FM_notes what v m) (fun t => LD (k + 1) s t ∧ (∀ b, b ≠ 19 → b ≠ 20 → b ≠ 21 → s b = c b) ∧ (∀ x, x ≠ 3 → s 19 x = c 19 x) ∧ (∀ b, b ≠ 464 → b ≠ 669 + k → t b = m b) ∧ (∀ x, x ≠ 20 → t 464 x = m 464 x) ∧ t (669 + k) 0 = what ∧ t (669 + k) 1 = v)) := by
  obtain ⟨a1, a2, a3, a4⟩ := h
  unfold FL_mark FM_notes
  rw [a1, r_put_in _ _ _ hk (by decide), if_pos m5, a2, ix_in (show k < 160 by omega) (by decide)]
  unfold g_let
  dsimp only
  rw [g_set_ne (show 19 ≠ 20 by decide), a1, r_put_in _ _ _ hk (by decide), g_set_ne (show 464 ≠ 669 + k by omega), a2, ix_in (show k < 160 by omega) (by decide), g_set_ne (show 19 ≠ 21 by decide), g_set_ne (show 19 ≠ 20 by decide), a1, g_set_ne (show 464 ≠ 669 + k by omega), g_set_ne (show 464 ≠ 669 + k by omega), a2, nI_1]
  refine okk_some (okk_some ⟨⟨g_set_eq _ _ _ _, g_set_eq _ _ _ _, by omega, fun j hj => ?_⟩, fun b b1 b2 b3 => ?_, fun x hx => ?_, fun b b1 b2 => ?_, fun x hx => ?_, ?_, ?_⟩)
  · rw [g_set_ne (show 20 ≠ 19 by decide), g_set_ne (show 20 ≠ 21 by decide), g_set_ne (show 21 ≠ 19 by decide), g_set_ne (show 669 + j ≠ 464 by omega)]
    by_cases e : j = k
    · rw [e, g_set_eq, g_set_eq, g_set_eq, g_set_k (by decide), g_set_eq]
      exact ⟨rfl, rfl⟩
    · rw [g_set_k e, g_set_k e, g_set_ne (show 21 ≠ 20 by decide), g_set_ne (show 669 + j ≠ 669 + k by omega), g_set_ne (show 669 + j ≠ 669 + k by omega)]
      exact a4 j (by omega)
  · rw [g_set_ne b1, g_set_ne b3, g_set_ne b2]
  · rw [g_set_k hx, g_set_ne (by decide), g_set_ne (by decide)]
  · rw [g_set_ne b1, g_set_ne b2, g_set_ne b2]
  · rw [g_set_k hx, g_set_ne (by omega), g_set_ne (by omega)]
  · rw [g_set_ne (by omega), g_set_k (by decide), g_set_eq]
  · rw [g_set_ne (by omega), g_set_eq]
