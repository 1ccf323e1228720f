/-! Steps performed: one step. -/
def GE (c0 m0 : gM) : Prop := v_g m0 ∧ r_g c0 m0 ∧ v_law m0 ∧ r_law c0 m0
/-- both while the steps are performed; b steps begun -/
def GP (c0 m0 : gM) (b : Nat) (c m : gM) : Prop := (∀ x, ¬ (x = 15 ∨ x = 18 ∨ x = 28 ∨ (48 ≤ x ∧ x ≤ 53)) → c x = c0 x) ∧ (c 15 3 = c0 15 3 ∧ c 15 4 = c0 15 4) ∧ (∀ x, ¬ (x = 464 ∨ x = 847 ∨ x = 848 ∨ x = 930) → m x = m0 x) ∧ (∀ k, k ≠ 39 → k ≠ 40 → k ≠ 35 → m 464 k = m0 464 k) ∧ (c 28 6 = nI b ∧ m 464 39 = nI b ∧ c 28 7 = m 464 40 ∧ c 28 8 = m 464 35) ∧ R_now c m
theorem GP_env {c0 m0 : gM} (hE : GE c0 m0) {c m : gM} (h1 : ∀ x, ¬ (x = 15 ∨ x = 18 ∨ x = 28 ∨ (48 ≤ x ∧ x ≤ 53)) → c x = c0 x) (h2 : c 15 3 = c0 15 3 ∧ c 15 4 = c0 15 4) (h3 : ∀ x, ¬ (x = 464 ∨ x = 847 ∨ x = 848 ∨ x = 930) → m x = m0 x) (h4 : m 464 19 = m0 464 19) : GE c m := by
  obtain ⟨a1, a2, a3, a4⟩ := hE
  have e := h3 468 (by omega)
  have ew : ∀ w, w < 8 → m (481 + w) = m0 (481 + w) := fun w hw => h3 _ (by omega)
  have ek : ∀ w, w < 8 → m (499 + w) = m0 (499 + w) := fun w hw => h3 _ (by omega)
  have el : ∀ w, w < 160 → m (508 + w) = m0 (508 + w) := fun w hw => h3 _ (by omega)
  exact ⟨v_g_e a1 e ew ek, r_g_e a1 a2 e (h3 470 (by omega)) ew ek (fun b b1 b2 => h1 b (by omega)), v_law_e a3 h4 el, r_law_e a4 h4 el h2.1 h2.2 (h1 16 (by omega)) (h1 17 (by omega))⟩
theorem m_bribe (t : Nat) (ht : t < 100) (b : Nat) (hb : b < 10) : ∃ u, u ≤ 99 ∧ FM_less 99 (nI t + nI b) = nI u := by
  rw [nI_add t b, show (99 : Int32) = nI 99 from rfl, less_min (by decide) (by omega)]
  exact ⟨min 99 (t + b), by omega, rfl⟩
theorem G_done {c0 m0 : gM} {b : Nat} {c m s t : gM} (h : GP c0 m0 b c m) (h1 : ∀ x, ¬ (x = 15 ∨ x = 18 ∨ x = 28 ∨ (48 ≤ x ∧ x ≤ 53)) → s x = c x) (h2 : s 15 3 = c 15 3 ∧ s 15 4 = c 15 4) (h3 : s 28 6 = nI (b + 1) ∧ s 28 7 = c 28 7 + 1 ∧ s 28 8 = c 28 8) (h4 : ∀ x, ¬ (x = 464 ∨ x = 847 ∨ x = 848 ∨ x = 930) → t x = m x) (h5 : ∀ k, k ≠ 39 → t 464 k = m 464 k) (h6 : t 464 39 = nI (b + 1)) (h7 : r_st s 48 (t 930)) (h8 : v_r m (t 930)) : GP c0 m0 (b + 1) s (g_set (g_set t 464 40 (t 464 40 + (1 : Int32))) 464 35 (t 464 35 + (0 : Int32))) := by
  obtain ⟨a1, a2, a3, a4, ⟨a5, a6, a7, a8⟩, a9⟩ := h
  refine ⟨fun x hx => (h1 x hx).trans (a1 x hx), ⟨h2.1.trans a2.1, h2.2.trans a2.2⟩, fun x hx => by rw [g_set_ne (by omega), g_set_ne (by omega)]; exact (h4 x hx).trans (a3 x hx), fun k k1 k2 k3 => by rw [g_set_k k3, g_set_k k2, h5 k k1]; exact a4 k k1 k2 k3, ⟨h3.1, ?_, ?_, ?_⟩, ?_, ?_⟩
  · rw [g_set_k (by decide), g_set_k (by decide)]; exact h6
  · rw [g_set_k (by decide), g_set_eq, h5 40 (by decide), h3.2.1, a7]
  · rw [g_set_eq, h5 35 (by decide), h3.2.2, a8, Int32.add_zero]
  · rw [g_set_ne (show 930 ≠ 464 by decide), g_set_ne (show 930 ≠ 464 by decide)]
    exact v_r_e (by rw [g_set_ne (show 468 ≠ 464 by decide), g_set_ne (show 468 ≠ 464 by decide)]; exact h4 468 (by omega)) h8
  · rw [g_set_ne (show 930 ≠ 464 by decide), g_set_ne (show 930 ≠ 464 by decide)]; exact h7
theorem G_no {c0 m0 : gM} {b : Nat} {c m : gM} (h : GP c0 m0 b c m) : GP c0 m0 (b + 1) (g_set (g_set c 28 6 (nI (b + 1))) 28 8 ((g_set c 28 6 (nI (b + 1))) 28 8 + (1 : Int32))) (g_set (g_set (g_set m 464 39 (nI (b + 1))) 464 40 ((g_set m 464 39 (nI (b + 1))) 464 40 + (0 : Int32))) 464 35 ((g_set m 464 39 (nI (b + 1))) 464 35 + (1 : Int32))) := by
  obtain ⟨a1, a2, a3, a4, ⟨a5, a6, a7, a8⟩, a9, a10⟩ := h
  refine ⟨fun x hx => by rw [g_set_ne (by omega), g_set_ne (by omega)]; exact a1 x hx, ⟨by rw [g_set_ne (by decide), g_set_ne (by decide)]; exact a2.1, by rw [g_set_ne (by decide), g_set_ne (by decide)]; exact a2.2⟩, fun x hx => by rw [g_set_ne (by omega), g_set_ne (by omega), g_set_ne (by omega)]; exact a3 x hx, fun k k1 k2 k3 => by rw [g_set_k k3, g_set_k k2, g_set_k k1]; exact a4 k k1 k2 k3, ⟨?_, ?_, ?_, ?_⟩, ?_, ?_⟩
  · rw [g_set_k (by decide), g_set_eq]
  · rw [g_set_k (by decide), g_set_k (by decide), g_set_eq]
  · rw [g_set_k (by decide), g_set_k (by decide), g_set_k (by decide), g_set_eq, g_set_k (by decide), Int32.add_zero]; exact a7
  · rw [g_set_eq, g_set_eq, g_set_k (by decide), g_set_k (by decide), a8]
  · rw [g_set_ne (show 930 ≠ 464 by decide), g_set_ne (show 930 ≠ 464 by decide), g_set_ne (show 930 ≠ 464 by decide)]
    exact v_r_e (by rw [g_set_ne (show 468 ≠ 464 by decide), g_set_ne (show 468 ≠ 464 by decide), g_set_ne (show 468 ≠ 464 by decide)]) a9
  · rw [g_set_ne (show 930 ≠ 464 by decide), g_set_ne (show 930 ≠ 464 by decide), g_set_ne (show 930 ≠ 464 by decide)]
    exact r_st_m a10 (fun x x1 x2 => by rw [g_set_ne (by omega), g_set_ne (by omega)])
