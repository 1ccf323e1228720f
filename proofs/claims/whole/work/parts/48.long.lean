/-! An hour bowled by one child: sums along the walks. -/
def a_sum (f : Nat → Int32) : Nat → Int32
  | 0 => 0
  | n + 1 => a_sum f n + f n
theorem a_sum_congr {f g : Nat → Int32} : ∀ {n : Nat}, (∀ k, k < n → f k = g k) → a_sum f n = a_sum g n := by
  intro n
  induction n with
  | zero => intro _; rfl
  | succ n ih => intro h; show a_sum f n + f n = a_sum g n + g n; rw [ih (fun k hk => h k (by omega)), h n (by omega)]
/-- how long child c takes for hoop h along n walks, so tired at first -/
def a_lasts (m : gM) (n c h : Nat) (tired rain sweet : Int32) : Int32 := a_sum (fun w => a_min m w c h (FM_less 99 (tired + nI w)) rain sweet) n
def a_long (m : gM) (r : Nat → Int32) (c h : Nat) : Int32 := a_lasts m (nW m) c h (r (8 + c)) (r 45) (r (16 + c))
theorem m_lastsBy {m : gM} (hg : v_g m) (hl : v_law m) {n c h : Nat} (hn : n ≤ nW m) (hc : c < nC m) (hh : h < nH m) (tired : Int32) : ∃ M2, FM_lastsBy (nI h) (nI c) (nI n) tired m = some (a_lasts m n c h tired (m 930 45) (m 930 (16 + c)), M2) ∧ eM0 m M2 := by
  obtain ⟨b1, b2, b3⟩ := hg.2.1
  have L : ∀ (q w : Nat) (M : gM), w + q = n → eM0 m M → ∀ f, q < f → ∃ M2, FM_lastsBy_L6 (nI h) (nI c) (nI n) tired f (a_lasts m w c h tired (m 930 45) (m 930 (16 + c))) (nI w) M = some (a_lasts m n c h tired (m 930 45) (m 930 (16 + c)), M2) ∧ eM0 m M2 := by
    intro q
    induction q with
    | zero =>
      intro w M hw e f hf
      obtain ⟨f, rfl⟩ : ∃ g, f = g + 1 := ⟨f - 1, by omega⟩
      have : w = n := by omega
      subst this
      exact ⟨M, by unfold FM_lastsBy_L6; rw [if_pos (Int32.le_refl _)], e⟩
    | succ q ih =>
      intro w M hw e f hf
      obtain ⟨f, rfl⟩ : ∃ g, f = g + 1 := ⟨f - 1, by omega⟩
      unfold FM_lastsBy_L6
      rw [if_neg (nI_ge (by omega) (by omega)), nI_16, ix_in (by omega) (by omega), e 930 (by omega)]
      obtain ⟨M2, e2, f2⟩ := m_minutesBy (eM_g e.eM hg) (eM_law e.eM hl) (w := w) (c := c) (h := h) (by rw [eM_W e.eM]; omega) (by rw [eM_C e.eM]; exact hc) (by rw [eM_H e.eM]; exact hh) (FM_less 99 (tired + nI w)) (m 930 45) (m 930 (16 + c))
      rw [e2, eM_min e.eM hl (by omega) (by omega), Option.bind_some, nI_1]
      exact ih (w + 1) M2 (by omega) (e.trans f2) f (by omega)
  exact L n 0 m (by omega) (eM0.rfl' m) 1000 (by omega)
theorem m_longOf {m : gM} (hg : v_g m) (hl : v_law m) {c h : Nat} (hc : c < nC m) (hh : h < nH m) : ∃ M2, FM_longOf (nI h) (nI c) m = some (a_long m (m 930) c h, M2) ∧ eM0 m M2 := by
  obtain ⟨b1, b2, b3⟩ := hg.2.1
  unfold FM_longOf
  rw [nI_8, ix_in (by omega) (by omega), hg.1.1]
  obtain ⟨M2, e, f⟩ := m_lastsBy hg hl (Nat.le_refl _) hc hh (m 930 (8 + c))
  rw [e]
  exact ⟨M2, rfl, f⟩
theorem c_longOf {c m : gM} (hg : v_g m) (rg : r_g c m) (rl : r_law c m) {a : Nat} (ha : 32 < a) (ha2 : a < 464) {r : Nat → Int32} (rs : r_st c a r) {k h : Nat} (hk : k < nC m) (hh : h < nH m) : ∃ M2, FB_longOf a (nI h) (nI k) c = some (a_long m r k h, M2) ∧ eC0 c M2 := by
  obtain ⟨b1, b2, b3⟩ := hg.2.1
  have ek := rs.1 k (by omega)
  have L : ∀ (q w : Nat) (M : gM), w + q = nW m → eC0 c M → ∀ f, q < f → ∃ M2, FB_longOf_L16 a (nI h) (nI k) f (r (8 + k)) (a_lasts m w k h (r (8 + k)) (r 45) (r (16 + k))) (nI w) M = some (a_long m r k h, M2) ∧ eC0 c M2 := by
    intro q
    induction q with
    | zero =>
      intro w M hw e f hf
      obtain ⟨f, rfl⟩ : ∃ g, f = g + 1 := ⟨f - 1, by omega⟩
      have : w = nW m := by omega
      subst this
      exact ⟨M, by unfold FB_longOf_L16; rw [if_pos (by rw [e.1 3 (by omega), rg.1.1, hg.1.1]; exact Int32.le_refl _)]; rfl, e⟩
    | succ q ih =>
      intro w M hw e f hf
      obtain ⟨f, rfl⟩ : ∃ g, f = g + 1 := ⟨f - 1, by omega⟩
      unfold FB_longOf_L16
      rw [if_neg (by rw [e.1 3 (by omega), rg.1.1, hg.1.1]; exact nI_ge (by omega) (by omega))]
      obtain ⟨M2, e2, f2⟩ := c_minutesOf hg (eC_g e.eC rg) (eC_law e.eC rl) ha ha2 (w := w) (by omega) hk hh (r (8 + k) + nI w)
      rw [e2, Option.bind_some, nI_1, e.1 a (by omega), e.1 (a + 2) (by omega), ek.2.2.1, rs.2.2.2.2.2.2.1]
      exact ih (w + 1) M2 (by omega) (e.trans f2) f (by omega)
  unfold FB_longOf
  rw [r_at_in _ (by omega) (by decide), ek.2.1]
  exact L (nW m) 0 c (by omega) (eC0.rfl' c) 1000 (by omega)
