/-! The park's numbers, minutes along a walk, a hoop's hour; both sides over one value. -/
theorem nI_8 (c : Nat) : (8 : Int32) + nI c = nI (8 + c) := nI_add 8 c
theorem nI_16 (c : Nat) : (16 : Int32) + nI c = nI (16 + c) := nI_add 16 c
theorem nI_24 (c : Nat) : (24 : Int32) + nI c = nI (24 + c) := nI_add 24 c
theorem nI_32 (c : Nat) : (32 : Int32) + nI c = nI (32 + c) := nI_add 32 c
theorem nI_00 (c : Nat) : (0 : Int32) + nI c = nI c := by rw [show (0 : Int32) = nI 0 from rfl, nI_add, Nat.zero_add]
theorem m_less (x y : Int32) : m_min x y = FM_less x y := by
  unfold m_min FM_less
  by_cases h : y < x
  · rw [if_pos h, if_pos (Int32.le_of_lt h)]
  · rw [if_neg h]
    by_cases h2 : y ≤ x
    · rw [if_pos h2]; exact Int32.le_antisymm (Int32.not_lt.mp h) h2
    · rw [if_neg h2]
def nW (m : gM) : Nat := (m 468 0).toNatClampNeg
def nC (m : gM) : Nat := (m 468 1).toNatClampNeg
def nH (m : gM) : Nat := (m 468 2).toNatClampNeg
def nL (m : gM) : Nat := (m 464 19).toNatClampNeg
/-- the park's numbers are such -/
def v_g (m : gM) : Prop := (m 468 0 = nI (nW m) ∧ m 468 1 = nI (nC m) ∧ m 468 2 = nI (nH m)) ∧ (nW m ≤ 8 ∧ nC m ≤ 8 ∧ nH m ≤ 8) ∧ (∀ c, c < nC m → ∃ p, 1 ≤ p ∧ p ≤ 9 ∧ m (499 + c) 0 = nI p) ∧ (∀ c, c < nC m → ∃ p, 3 ≤ p ∧ p ≤ 14 ∧ m (499 + c) 1 = nI p) ∧ (∀ w, w < nW m → ∃ p, p ≤ 16 ∧ m (481 + w) 1 = nI p)
def v_law (m : gM) : Prop := m 464 19 = nI (nL m) ∧ (nL m = 0 ∨ a_wf m (nL m))
/-- the class's grounds over the model's -/
def r_g (c m : gM) : Prop := (c 3 5 = m 468 0 ∧ c 3 6 = m 468 1 ∧ c 3 7 = m 468 2 ∧ c 3 8 = m 468 3 ∧ c 3 9 = m 468 4) ∧ (∀ w, w < nW m → c 4 w = m (481 + w) 0 ∧ c 5 w = m (481 + w) 1) ∧ (∀ k, k < nC m → c 6 k = m (499 + k) 0 ∧ c 7 k = m (499 + k) 1) ∧ ∀ h, h < nH m → c 8 h = m 470 h
/-- nothing but what is reckoned with has changed -/
def eM (m M : gM) : Prop := (∀ b, ¬ (b = 464 ∨ b = 847 ∨ b = 848 ∨ b = 931 ∨ (953 ≤ b ∧ b ≤ 955)) → M b = m b) ∧ (M 464 0 = m 464 0 ∧ M 464 1 = m 464 1 ∧ M 464 3 = m 464 3 ∧ M 464 19 = m 464 19 ∧ M 464 33 = m 464 33 ∧ M 464 34 = m 464 34 ∧ M 464 35 = m 464 35 ∧ M 464 36 = m 464 36)
theorem eM.rfl' (m : gM) : eM m m := ⟨fun _ _ => rfl, rfl, rfl, rfl, rfl, rfl, rfl, rfl, rfl⟩
theorem eM.trans {a b c : gM} (h1 : eM a b) (h2 : eM b c) : eM a c := by
  obtain ⟨a1, a2, a3, a4, a5, a6, a7, a8, a9⟩ := h1
  obtain ⟨b1, b2, b3, b4, b5, b6, b7, b8, b9⟩ := h2
  exact ⟨fun q hq => (b1 q hq).trans (a1 q hq), b2.trans a2, b3.trans a3, b4.trans a4, b5.trans a5, b6.trans a6, b7.trans a7, b8.trans a8, b9.trans a9⟩
theorem eM.of {m M : gM} (h : ∀ b, ¬ (b = 847 ∨ b = 848 ∨ b = 931 ∨ (953 ≤ b ∧ b ≤ 955)) → M b = m b) : eM m M := by
  have e : M 464 = m 464 := h 464 (by omega)
  exact ⟨fun b hb => h b (by omega), by rw [e], by rw [e], by rw [e], by rw [e], by rw [e], by rw [e], by rw [e], by rw [e]⟩
def eC (c M : gM) : Prop := (∀ b, ¬ (b = 15 ∨ b = 18 ∨ (32 ≤ b ∧ b ≤ 46)) → M b = c b) ∧ M 15 3 = c 15 3 ∧ M 15 4 = c 15 4
theorem eC.rfl' (c : gM) : eC c c := ⟨fun _ _ => rfl, rfl, rfl⟩
theorem eC.trans {a b c : gM} (h1 : eC a b) (h2 : eC b c) : eC a c := by
  obtain ⟨a1, a2, a3⟩ := h1
  obtain ⟨b1, b2, b3⟩ := h2
  exact ⟨fun q hq => (b1 q hq).trans (a1 q hq), b2.trans a2, b3.trans a3⟩
/-- nothing has changed but what the law works on -/
def eM0 (m M : gM) : Prop := ∀ b, ¬ (847 ≤ b ∧ b ≤ 848) → M b = m b
def eC0 (c M : gM) : Prop := (∀ b, ¬ (b = 15 ∨ b = 18) → M b = c b) ∧ M 15 3 = c 15 3 ∧ M 15 4 = c 15 4
theorem eM0.eM {m M : gM} (h : eM0 m M) : eM m M := eM.of (fun b hb => h b (by omega))
theorem eC0.eC {c M : gM} (h : eC0 c M) : eC c M := ⟨fun b hb => h.1 b (by omega), h.2⟩
theorem eM0.rfl' (m : gM) : eM0 m m := fun _ _ => rfl
theorem eC0.rfl' (c : gM) : eC0 c c := ⟨fun _ _ => rfl, rfl, rfl⟩
theorem eM0.trans {a b c : gM} (h1 : eM0 a b) (h2 : eM0 b c) : eM0 a c := fun q hq => (h2 q hq).trans (h1 q hq)
theorem eC0.trans {a b c : gM} (h1 : eC0 a b) (h2 : eC0 b c) : eC0 a c := ⟨fun q hq => (h2.1 q hq).trans (h1.1 q hq), h2.2.1.trans h1.2.1, h2.2.2.trans h1.2.2⟩
theorem eM_W {m M : gM} (h : eM m M) : nW M = nW m := by unfold nW; rw [h.1 468 (by omega)]
theorem eM_C {m M : gM} (h : eM m M) : nC M = nC m := by unfold nC; rw [h.1 468 (by omega)]
theorem eM_H {m M : gM} (h : eM m M) : nH M = nH m := by unfold nH; rw [h.1 468 (by omega)]
theorem eM_L {m M : gM} (h : eM m M) : nL M = nL m := by unfold nL; rw [h.2.2.2.2.1]
theorem eM_g {m M : gM} (h : eM m M) (hv : v_g m) : v_g M := by
  unfold v_g
  rw [eM_W h, eM_C h, eM_H h, h.1 468 (by omega)]
  obtain ⟨h1, h2, h3, h4, h5⟩ := hv
  exact ⟨h1, h2, fun c hc => by rw [h.1 _ (by omega)]; exact h3 c hc, fun c hc => by rw [h.1 _ (by omega)]; exact h4 c hc, fun w hw => by rw [h.1 _ (by omega)]; exact h5 w hw⟩
theorem eM_ht {m M : gM} (h : eM m M) : ∀ k, k ≤ 160 → a_ht M k = a_ht m k := by
  intro k
  induction k with
  | zero => intro _; rfl
  | succ k ih => intro hk; rw [a_ht_s, a_ht_s, ih (by omega), h.1 (508 + k) (by omega)]
theorem eM_ev {m M : gM} (h : eM m M) (kn : Nat → Int32) : ∀ k, k ≤ 160 → a_ev M kn k = a_ev m kn k := by
  intro k
  induction k with
  | zero => intro _; rfl
  | succ k ih => intro hk; rw [a_ev_s, a_ev_s, ih (by omega), eM_ht h k (by omega), h.1 (508 + k) (by omega)]
theorem eM_wf {m M : gM} (h : eM m M) {n : Nat} (hw : a_wf m n) : a_wf M n := by
  obtain ⟨h1, h2, h3, h4⟩ := hw
  exact ⟨h1, by rw [eM_ht h n (by omega)]; exact h2, fun k hk => by rw [eM_ht h k (by omega)]; exact h3 k hk, fun k hk => by rw [eM_ht h k (by omega), h.1 (508 + k) (by omega)]; exact h4 k hk⟩
theorem eM_law {m M : gM} (h : eM m M) (hv : v_law m) : v_law M := by
  unfold v_law
  rw [eM_L h, h.2.2.2.2.1]
  exact ⟨hv.1, hv.2.elim Or.inl (fun q => Or.inr (eM_wf h q))⟩
theorem v_law_160 {m : gM} (hv : v_law m) : nL m ≤ 150 := by
  rcases hv.2 with h | h
  · omega
  · exact h.1
theorem eM_out {m M : gM} (h : eM m M) (hv : v_law m) (kn : Nat → Int32) : a_out M kn = a_out m kn := by
  have := v_law_160 hv
  unfold a_out
  rw [h.2.2.2.2.1, eM_ev h kn _ (show (m 464 19).toNatClampNeg ≤ 160 from by unfold nL at this; omega)]
/-- what the law knows of a walk, a child, a hoop -/
def a_kn (m : gM) (w c h : Nat) (t rain sweet : Int32) (j : Nat) : Int32 := if j = 0 then m (481 + w) 0 else if j = 1 then m (499 + c) 0 else if j = 2 then m (499 + c) 1 else if j = 3 then m 470 h else if j = 4 then t else if j = 5 then rain else if j = 6 then nI w else if j = 7 then nI h else sweet
def a_min (m : gM) (w c h : Nat) (t rain sweet : Int32) : Int32 := a_out m (a_kn m w c h t rain sweet)
theorem eM_min {m M : gM} (h : eM m M) (hv : v_law m) {w c k : Nat} (hw : w < 8) (hc : c < 8) (t rain sweet : Int32) : a_min M w c k t rain sweet = a_min m w c k t rain sweet := by
  unfold a_min
  rw [eM_out h hv]
  congr 1
  funext j
  unfold a_kn
  rw [h.1 (481 + w) (by omega), h.1 (499 + c) (by omega), h.1 470 (by omega)]
theorem a_kn1 {m : gM} {w c h : Nat} {t rain sweet : Int32} (hv : v_g m) (hc : c < nC m) : (1 : Int32) ≤ a_kn m w c h t rain sweet 1 := by
  obtain ⟨p, h1, h9, e⟩ := hv.2.2.1 c hc
  show (1 : Int32) ≤ m (499 + c) 0
  rw [e]
  exact nI_le (a := 1) h1 (by omega)
theorem m_minutesBy {m : gM} (hg : v_g m) (hl : v_law m) {w c h : Nat} (hw : w < nW m) (hc : c < nC m) (hh : h < nH m) (t rain sweet : Int32) : ∃ M2, FM_minutesBy (nI w) (nI c) (nI h) t rain sweet m = some (a_min m w c h t rain sweet, M2) ∧ eM0 m M2 := by
  obtain ⟨b1, b2, b3⟩ := hg.2.1
  have key : ∃ M2, FM_minutesBy (nI w) (nI c) (nI h) t rain sweet m = some (a_min m w c h t rain sweet, M2) := by
    unfold FM_minutesBy
    rw [ix_in (by omega) (by omega)]
    simp only [g_let]
    rw [ix_in (by omega) (by omega), ix_in (by omega) (by omega), ix_in (by omega) (by omega)]
    have q : ∀ M : gM, (∀ j, j < 9 → M 848 j = a_kn m w c h t rain sweet j) → (∀ b, b ≠ 848 → M b = m b) → ∃ M2, ((FM_byLaw M).bind fun s14 => some (s14.1, s14.2)) = some (a_min m w c h t rain sweet, M2) := by
      intro M h1 h2
      have e : eM m M := eM.of (fun b hb => h2 b (by omega))
      obtain ⟨M2, e2⟩ := m_byLaw M (a_kn m w c h t rain sweet) (nL M) (eM_law e hl).1 (eM_law e hl).2 h1 (a_kn1 hg hc)
      rw [e2]
      exact ⟨M2, by rw [Option.bind_some, eM_out e hl]; rfl⟩
    refine q _ (fun j hj => ?_) (fun b hb => ?_)
    · rcases (show j = 0 ∨ j = 1 ∨ j = 2 ∨ j = 3 ∨ j = 4 ∨ j = 5 ∨ j = 6 ∨ j = 7 ∨ j = 8 by omega) with rfl | rfl | rfl | rfl | rfl | rfl | rfl | rfl | rfl <;> simp [g_set, a_kn, show ¬ 499 + c = 848 by omega]
    · simp [g_set_ne hb]
  obtain ⟨M2, e⟩ := key
  exact ⟨M2, e, fun b hb => w_FM_minutesBy _ _ _ _ _ _ m _ e b (by omega)⟩
/-- a State of the class at a, over a row of the model -/
def r_st (c : gM) (a : Nat) (r : Nat → Int32) : Prop := (∀ k, k < 8 → c (a + 4) k = r k ∧ c (a + 1) k = r (8 + k) ∧ c (a + 2) k = r (16 + k) ∧ c (a + 3) k = r (24 + k) ∧ c (a + 5) k = r (32 + k)) ∧ c a 5 = r 40 ∧ c a 6 = r 41 ∧ c a 7 = r 42 ∧ c a 8 = r 43 ∧ c a 9 = r 44 ∧ c a 10 = r 45 ∧ c a 11 = r 46
/-- the numbers of a row are such, in a park of W walks, C children, H hoops -/
def v_row (W C H : Nat) (r : Nat → Int32) : Prop := (∀ k, k < 8 → (r k = -1 ∨ (k < H ∧ ∃ c, c < C ∧ r k = nI c))) ∧ (∀ k, k < 8 → ∃ t, t ≤ 99 ∧ r (8 + k) = nI t) ∧ (∀ k, k < 8 → ∃ t, t ≤ 99 ∧ r (16 + k) = nI t) ∧ (∀ k, C ≤ k → k < 8 → r (24 + k) = 0) ∧ (∃ h, (h < H ∨ h = 0) ∧ r 40 = nI h) ∧ (∃ g, (g < W ∨ g = 0) ∧ r 41 = nI g) ∧ (∃ d o h, d ≤ 1000 ∧ r 43 = nI d ∧ r 40 = nI h ∧ h < 8 ∧ r 46 = nI o ∧ o ≤ 8 * d + h)
theorem eC_g {c M m : gM} (h : eC c M) (hr : r_g c m) : r_g M m := by
  unfold r_g
  rw [h.1 3 (by omega), h.1 4 (by omega), h.1 5 (by omega), h.1 6 (by omega), h.1 7 (by omega), h.1 8 (by omega)]
  exact hr
theorem eC_law {c M m : gM} (h : eC c M) (hr : r_law c m) : r_law M m := by
  unfold r_law
  rw [h.2.1, h.2.2, h.1 16 (by omega), h.1 17 (by omega)]
  exact hr
theorem eM_rg {c m M : gM} (h : eM m M) (hv : v_g m) (hr : r_g c m) : r_g c M := by
  obtain ⟨b1, b2, b3⟩ := hv.2.1
  unfold r_g
  rw [eM_W h, eM_C h, eM_H h, h.1 468 (by omega), h.1 470 (by omega)]
  obtain ⟨h1, h2, h3, h4⟩ := hr
  exact ⟨h1, fun w hw => by rw [h.1 _ (by omega)]; exact h2 w hw, fun w hw => by rw [h.1 _ (by omega)]; exact h3 w hw, h4⟩
theorem eM_rlaw {c m M : gM} (h : eM m M) (hr : r_law c m) : r_law c M := by
  unfold r_law
  rw [h.2.2.2.2.1]
  rcases hr with q | ⟨n, h1, h2, h3, h4, h5, h6⟩
  · exact Or.inl q
  · have := h3.1
    exact Or.inr ⟨n, h1, h2, eM_wf h h3, h4, h5, fun k hk => by rw [h.1 (508 + k) (by omega)]; exact h6 k hk⟩
theorem c_minutesOf {c m : gM} (hg : v_g m) (rg : r_g c m) (rl : r_law c m) {a : Nat} (ha : 32 < a) (ha2 : a < 464) {w k h : Nat} (hw : w < nW m) (hk : k < nC m) (hh : h < nH m) (t : Int32) : ∃ M2, FB_minutesOf a (nI w) (nI k) (nI h) t c = some (a_min m w k h (FM_less 99 t) (c a 10) (c (a + 2) k), M2) ∧ eC0 c M2 := by
  obtain ⟨b1, b2, b3⟩ := hg.2.1
  have key : ∃ M1 M2, FB_minutesOf a (nI w) (nI k) (nI h) t c = some (a_min m w k h (FM_less 99 t) (c a 10) (c (a + 2) k), M2) ∧ (∀ b, b ≠ 15 → M1 b = c b) ∧ M1 15 3 = c 15 3 ∧ M1 15 4 = c 15 4 ∧ FL_outcome M1 = some (a_min m w k h (FM_less 99 t) (c a 10) (c (a + 2) k), M2) := by
    unfold FB_minutesOf
    rw [r_at_in _ (show w < 8 by omega) (by decide), r_at_in _ (show k < 8 by omega) (by decide), r_at_in _ (show k < 8 by omega) (by decide), r_at_in _ (show h < 8 by omega) (by decide), r_at_in _ (show k < 8 by omega) (by decide)]
    have q : ∀ M : gM, (∀ j, j < 9 → M 15 (5 + j) = a_kn m w k h (FM_less 99 t) (c a 10) (c (a + 2) k) j) → (∀ b, b ≠ 15 → M b = c b) → M 15 3 = c 15 3 → M 15 4 = c 15 4 → ∃ M1 M2, ((FL_outcome M).bind fun s1 => some (s1.1, s1.2)) = some (a_min m w k h (FM_less 99 t) (c a 10) (c (a + 2) k), M2) ∧ (∀ b, b ≠ 15 → M1 b = c b) ∧ M1 15 3 = c 15 3 ∧ M1 15 4 = c 15 4 ∧ FL_outcome M1 = some (a_min m w k h (FM_less 99 t) (c a 10) (c (a + 2) k), M2) := by
      intro M h1 h2 h3 h4
      have rl2 : r_law M m := by
        unfold r_law
        rw [h3, h4, h2 16 (by decide), h2 17 (by decide)]
        exact rl
      obtain ⟨M2, e2⟩ := c_outcome M m (a_kn m w k h (FM_less 99 t) (c a 10) (c (a + 2) k)) rl2 h1 (a_kn1 hg hk)
      exact ⟨M, M2, by rw [e2]; rfl, h2, h3, h4, e2⟩
    refine q _ (fun j hj => ?_) (fun b hb => ?_) ?_ ?_
    · rcases (show j = 0 ∨ j = 1 ∨ j = 2 ∨ j = 3 ∨ j = 4 ∨ j = 5 ∨ j = 6 ∨ j = 7 ∨ j = 8 by omega) with rfl | rfl | rfl | rfl | rfl | rfl | rfl | rfl | rfl <;> simp [g_set, a_kn, show ¬ a = 15 by omega, show ¬ a + 2 = 15 by omega, (rg.2.1 w hw).1, (rg.2.2.1 k hk).1, (rg.2.2.1 k hk).2, rg.2.2.2 h hh, m_less]
    · simp [g_set_ne hb]
    · simp [g_set]
    · simp [g_set]
  obtain ⟨M1, M2, e, h2, h3, h4, e2⟩ := key
  have f : ∀ b, b ≠ 18 → M2 b = M1 b := fun b hb => w_FL_outcome M1 _ e2 b (by omega)
  exact ⟨M2, e, fun b hb => by rw [f b (by omega), h2 b (by omega)], by rw [f 15 (by decide)]; exact h3, by rw [f 15 (by decide)]; exact h4⟩
