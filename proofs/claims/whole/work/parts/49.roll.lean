/-! One roll, both sides over rows. -/
def a_hour (m : gM) (h c : Nat) (r : Nat → Int32) : Nat → Int32 :=
  let r1 := upd r (32 + h) (r 42)
  let r2 := if r 42 ≤ m 468 3 then r1 else upd (upd r1 (24 + c) (r (24 + c) + m 468 4)) 46 (r 46 + 1)
  let r5 := upd (upd (upd r2 (16 + c) 0) 42 0) 41 0
  if nI h + 1 = m 468 2 then upd (upd (upd r5 40 0) 43 (r 43 + 1)) 44 0 else upd r5 40 (nI h + 1)
def hop (r : Nat → Int32) : Nat := (r 40).toNatClampNeg
def who (r : Nat → Int32) : Nat := (r (hop r)).toNatClampNeg
def a_took (m : gM) (r : Nat → Int32) (longer : Int32) : Int32 := a_min m (r 41).toNatClampNeg (who r) (hop r) (r (8 + who r)) (r 45) (r (16 + who r)) + longer
def a_gone (m : gM) (r : Nat → Int32) (longer : Int32) : Nat → Int32 := upd (upd (upd (upd (upd r (8 + who r) (FM_less 99 (r (8 + who r) + 1))) 42 (r 42 + a_took m r longer)) 44 (r 44 + a_took m r longer)) 47 (r 47 + a_took m r longer)) 41 (r 41 + 1)
def a_roll (m : gM) (r : Nat → Int32) (longer : Int32) : Nat → Int32 := if r 41 + 1 = m 468 0 then a_hour m (hop r) (who r) (a_gone m r longer) else a_gone m r longer
def a_can (m : gM) (r : Nat → Int32) : Prop := 0 < nW m ∧ 0 < nH m ∧ ¬ r (hop r) = -1
/-- of a row that can roll: whose hoop, which gate -/
theorem v_row_hop {W C H : Nat} {r : Nat → Int32} (hv : v_row W C H r) (hH : 0 < H) (h8 : H ≤ 8) : r 40 = nI (hop r) ∧ hop r < H := by
  obtain ⟨h, h1, h2⟩ := hv.2.2.2.2.1
  have e : hop r = h := by unfold hop; rw [h2, nI_clamp (by omega)]
  rw [e]
  exact ⟨h2, by omega⟩
theorem v_row_who {W C H : Nat} {r : Nat → Int32} (hv : v_row W C H r) (hH : 0 < H) (h8 : H ≤ 8) (hc8 : C ≤ 8) (hw : ¬ r (hop r) = -1) : r (hop r) = nI (who r) ∧ who r < C := by
  have hh := (v_row_hop hv hH h8).2
  rcases hv.1 (hop r) (by omega) with q | ⟨-, c, h1, h2⟩
  · exact absurd q hw
  · have e : who r = c := by unfold who; rw [h2, nI_clamp (by omega)]
    rw [e]
    exact ⟨h2, h1⟩
theorem v_row_gate {W C H : Nat} {r : Nat → Int32} (hv : v_row W C H r) (hW : 0 < W) (h8 : W ≤ 8) : r 41 = nI (r 41).toNatClampNeg ∧ (r 41).toNatClampNeg < W := by
  obtain ⟨g, h1, h2⟩ := hv.2.2.2.2.2.1
  rw [h2, nI_clamp (by omega)]
  exact ⟨rfl, by omega⟩
theorem m_hourEnds {m : gM} {b h c : Nat} (hb : b = 930 ∨ b = 931) (hh : h < 8) (hc : c < 8) : ∃ M2, FM_hourEnds b (nI h) (nI c) m = some M2 ∧ M2 b = a_hour m h c (m b) := by
  have hb2 : (468 : Nat) ≠ b := by omega
  have pos : ¬ nI h + 1 ≤ 0 := by rw [nI_1]; exact nI_nle (by omega) (by omega)
  unfold FM_hourEnds FM_hourEnds_J46 FM_hourEnds_J85
  simp only [nI_32, nI_24, nI_16, ix_in (show 32 + h < 48 by omega) (by decide), ix_in (show 24 + c < 48 by omega) (by decide), ix_in (show 16 + c < 48 by omega) (by decide), ix_in (j := 40) (n := 48) (by decide) (by decide), show (40 : Int32) = nI 40 from rfl, g_let]
  unfold a_hour
  simp only [g_set_at, g_set_ne hb2]
  have n1 : ∀ x, upd (m b) (32 + h) x 42 = m b 42 := fun x => upd_ne (by omega)
  rw [n1]
  have f40 : ∀ (r : Nat → Int32) (x : Int32), upd r 40 x 40 = x := fun r x => upd_eq _ _ _
  by_cases h1 : m b 42 ≤ m 468 3
  · rw [if_pos h1, if_pos h1]
    by_cases h2 : nI h + 1 = m 468 2
    · rw [if_pos h2, if_pos h2, f40, if_pos (by decide)]
      refine ⟨_, rfl, ?_⟩
      simp only [g_set_at]
      congr 2
      simp [upd, show ¬ (43 : Nat) = 16 + c by omega, show ¬ (43 : Nat) = 32 + h by omega]
    · rw [if_neg h2, if_neg h2, f40, if_neg pos]
      exact ⟨_, rfl, by simp only [g_set_at]⟩
  · rw [if_neg h1, if_neg h1]
    by_cases h2 : nI h + 1 = m 468 2
    · rw [if_pos h2, if_pos h2, f40, if_pos (by decide)]
      refine ⟨_, rfl, ?_⟩
      simp only [g_set_at]
      simp [upd, show ¬ (43 : Nat) = 16 + c by omega, show ¬ (43 : Nat) = 32 + h by omega, show ¬ (43 : Nat) = 24 + c by omega, show ¬ (46 : Nat) = 24 + c by omega, show ¬ (46 : Nat) = 32 + h by omega, show ¬ 24 + c = 32 + h by omega]
    · rw [if_neg h2, if_neg h2, f40, if_neg pos]
      refine ⟨_, rfl, ?_⟩
      simp only [g_set_at]
      simp [upd, show ¬ (46 : Nat) = 24 + c by omega, show ¬ (46 : Nat) = 32 + h by omega, show ¬ 24 + c = 32 + h by omega]
theorem m_canRoll {m : gM} (hg : v_g m) {b : Nat} (hv : v_row (nW m) (nC m) (nH m) (m b)) : ∃ x, FM_canRoll b m = some x ∧ ((x = 1 ∧ a_can m (m b)) ∨ (x = 0 ∧ ¬ a_can m (m b))) := by
  obtain ⟨⟨g1, g2, g3⟩, ⟨b1, b2, b3⟩, -⟩ := hg
  unfold FM_canRoll
  by_cases h1 : m 468 0 ≤ 0
  · refine ⟨0, by rw [if_pos h1], Or.inr ⟨rfl, fun q => ?_⟩⟩
    rw [g1] at h1
    exact nI_nle q.1 (by omega) h1
  · rw [if_neg h1]
    have w1 : 0 < nW m := by
      rcases Nat.eq_zero_or_pos (nW m) with q | q
      · rw [g1, q] at h1; exact absurd (show nI 0 ≤ 0 by decide) h1
      · exact q
    by_cases h2 : m 468 2 ≤ 0
    · refine ⟨0, by rw [if_pos h2], Or.inr ⟨rfl, fun q => ?_⟩⟩
      rw [g3] at h2
      exact nI_nle q.2.1 (by omega) h2
    · rw [if_neg h2]
      have w2 : 0 < nH m := by
        rcases Nat.eq_zero_or_pos (nH m) with q | q
        · rw [g3, q] at h2; exact absurd (show nI 0 ≤ 0 by decide) h2
        · exact q
      obtain ⟨e, hh⟩ := v_row_hop hv w2 b3
      rw [e, nI_00, ix_in (by omega) (by decide)]
      by_cases h3 : m b (hop (m b)) = -1
      · exact ⟨0, by rw [if_pos h3], Or.inr ⟨rfl, fun q => q.2.2 h3⟩⟩
      · exact ⟨1, by rw [if_neg h3], Or.inl ⟨rfl, w1, w2, h3⟩⟩
theorem c_canBowl {c m : gM} (hg : v_g m) (rg : r_g c m) {a : Nat} {r : Nat → Int32} (hv : v_row (nW m) (nC m) (nH m) r) (rs : r_st c a r) : (FB_canBowl a c = 1 ∧ a_can m r) ∨ (FB_canBowl a c = 0 ∧ ¬ a_can m r) := by
  obtain ⟨⟨g1, g2, g3⟩, ⟨b1, b2, b3⟩, -⟩ := hg
  unfold FB_canBowl
  rw [rg.1.1, rg.1.2.2.1]
  by_cases h1 : m 468 0 ≤ 0
  · refine Or.inr ⟨by rw [if_pos h1], fun q => ?_⟩
    rw [g1] at h1
    exact nI_nle q.1 (by omega) h1
  · rw [if_neg h1]
    have w1 : 0 < nW m := by
      rcases Nat.eq_zero_or_pos (nW m) with q | q
      · rw [g1, q] at h1; exact absurd (show nI 0 ≤ 0 by decide) h1
      · exact q
    by_cases h2 : m 468 2 ≤ 0
    · refine Or.inr ⟨by rw [if_pos h2], fun q => ?_⟩
      rw [g3] at h2
      exact nI_nle q.2.1 (by omega) h2
    · rw [if_neg h2]
      have w2 : 0 < nH m := by
        rcases Nat.eq_zero_or_pos (nH m) with q | q
        · rw [g3, q] at h2; exact absurd (show nI 0 ≤ 0 by decide) h2
        · exact q
      obtain ⟨e, hh⟩ := v_row_hop hv w2 b3
      rw [rs.2.1, e, r_at_in _ (by omega) (by decide), (rs.1 (hop r) (by omega)).1]
      by_cases h3 : r (hop r) = -1
      · exact Or.inr ⟨by rw [if_pos h3], fun q => q.2.2 h3⟩
      · exact Or.inl ⟨by rw [if_neg h3], w1, w2, h3⟩
theorem m_rolls {m : gM} (hg : v_g m) (hl : v_law m) {b : Nat} (hb : b = 930 ∨ b = 931) (hv : v_row (nW m) (nC m) (nH m) (m b)) (hc : a_can m (m b)) (longer : Int32) : ∃ M2, FM_rolls b longer m = some (a_took m (m b) longer, M2) ∧ M2 b = a_roll m (m b) longer ∧ ∀ q, ¬ ((847 ≤ q ∧ q ≤ 848) ∨ q = b) → M2 q = m q := by
  have key : ∃ M2, FM_rolls b longer m = some (a_took m (m b) longer, M2) ∧ M2 b = a_roll m (m b) longer := by
    obtain ⟨b1, b2, b3⟩ := hg.2.1
    obtain ⟨eh, hh⟩ := v_row_hop hv hc.2.1 b3
    obtain ⟨ew, hw⟩ := v_row_who hv hc.2.1 b3 b2 hc.2.2
    obtain ⟨eg, hgt⟩ := v_row_gate hv hc.1 b1
    have hb2 : (468 : Nat) ≠ b := by omega
    unfold FM_rolls
    rw [eh, nI_00, ix_in (by omega) (by decide), ew, eg]
    unfold FM_minutesOf
    simp only [nI_8, nI_16, ix_in (show 8 + who (m b) < 48 by omega) (by decide), ix_in (show 16 + who (m b) < 48 by omega) (by decide)]
    obtain ⟨M1, e1, f1⟩ := m_minutesBy hg hl hgt hw hh (m b (8 + who (m b))) (m b 45) (m b (16 + who (m b)))
    rw [e1]
    simp only [Option.bind_some, g_let]
    rw [show a_min m (m b 41).toNatClampNeg (who (m b)) (hop (m b)) (m b (8 + who (m b))) (m b 45) (m b (16 + who (m b))) + longer = a_took m (m b) longer from rfl]
    obtain ⟨M9, e9⟩ : ∃ y, y = g_set (g_set (g_set (g_set (g_set M1 b (8 + who (m b)) (FM_less 99 (M1 b (8 + who (m b)) + 1))) b 42 (g_set M1 b (8 + who (m b)) (FM_less 99 (M1 b (8 + who (m b)) + 1)) b 42 + a_took m (m b) longer)) b 44 (g_set (g_set M1 b (8 + who (m b)) (FM_less 99 (M1 b (8 + who (m b)) + 1))) b 42 (g_set M1 b (8 + who (m b)) (FM_less 99 (M1 b (8 + who (m b)) + 1)) b 42 + a_took m (m b) longer) b 44 + a_took m (m b) longer)) b 47 (g_set (g_set (g_set M1 b (8 + who (m b)) (FM_less 99 (M1 b (8 + who (m b)) + 1))) b 42 (g_set M1 b (8 + who (m b)) (FM_less 99 (M1 b (8 + who (m b)) + 1)) b 42 + a_took m (m b) longer)) b 44 (g_set (g_set M1 b (8 + who (m b)) (FM_less 99 (M1 b (8 + who (m b)) + 1))) b 42 (g_set M1 b (8 + who (m b)) (FM_less 99 (M1 b (8 + who (m b)) + 1)) b 42 + a_took m (m b) longer) b 44 + a_took m (m b) longer) b 47 + a_took m (m b) longer)) b 41 (g_set (g_set (g_set (g_set M1 b (8 + who (m b)) (FM_less 99 (M1 b (8 + who (m b)) + 1))) b 42 (g_set M1 b (8 + who (m b)) (FM_less 99 (M1 b (8 + who (m b)) + 1)) b 42 + a_took m (m b) longer)) b 44 (g_set (g_set M1 b (8 + who (m b)) (FM_less 99 (M1 b (8 + who (m b)) + 1))) b 42 (g_set M1 b (8 + who (m b)) (FM_less 99 (M1 b (8 + who (m b)) + 1)) b 42 + a_took m (m b) longer) b 44 + a_took m (m b) longer)) b 47 (g_set (g_set (g_set M1 b (8 + who (m b)) (FM_less 99 (M1 b (8 + who (m b)) + 1))) b 42 (g_set M1 b (8 + who (m b)) (FM_less 99 (M1 b (8 + who (m b)) + 1)) b 42 + a_took m (m b) longer)) b 44 (g_set (g_set M1 b (8 + who (m b)) (FM_less 99 (M1 b (8 + who (m b)) + 1))) b 42 (g_set M1 b (8 + who (m b)) (FM_less 99 (M1 b (8 + who (m b)) + 1)) b 42 + a_took m (m b) longer) b 44 + a_took m (m b) longer) b 47 + a_took m (m b) longer) b 41 + 1) := ⟨_, rfl⟩
    rw [← e9]
    have r9 : M9 b = a_gone m (m b) longer := by
      rw [e9]
      simp only [g_set_at]
      rw [f1 b (by omega)]
      unfold a_gone
      simp [upd, show ¬ (42 : Nat) = 8 + who (m b) by omega, show ¬ (44 : Nat) = 8 + who (m b) by omega, show ¬ (47 : Nat) = 8 + who (m b) by omega, show ¬ (41 : Nat) = 8 + who (m b) by omega]
    have p9 : M9 468 = m 468 := by
      rw [e9]
      simp only [g_set_ne hb2]
      exact f1 468 (by omega)
    have g9 : a_gone m (m b) longer 41 = m b 41 + 1 := by unfold a_gone; exact upd_eq _ _ _
    rw [r9, p9, g9]
    unfold a_roll
    by_cases h : m b 41 + 1 = m 468 0
    · rw [if_pos h, if_pos h]
      obtain ⟨M2, e2, f2⟩ := m_hourEnds (m := M9) hb (h := hop (m b)) (c := who (m b)) (by omega) (by omega)
      rw [e2]
      refine ⟨M2, rfl, ?_⟩
      rw [f2, r9]
      unfold a_hour
      rw [p9]
    · rw [if_neg h, if_neg h]
      exact ⟨M9, rfl, r9⟩
  obtain ⟨M2, e, h⟩ := key
  exact ⟨M2, e, h, fun q hq => w_FM_rolls _ _ m _ e q hq⟩
