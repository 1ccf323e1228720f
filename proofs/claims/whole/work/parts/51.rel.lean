/-! The class's memory over the model's: what holds between calls. -/
def R_tape (c m : gM) : Prop := ∃ t, t ≤ 600 ∧ c 1 1 = nI t ∧ m 464 1 = nI t ∧ ∀ j, j < t → ∃ b, b < 256 ∧ c 2 j = nI b ∧ m 465 j = nI b
def v_r (m : gM) (r : Nat → Int32) : Prop := v_row (nW m) (nC m) (nH m) r ∧ ∃ d, d ≤ 200 ∧ r 43 = nI d
def R_now (c m : gM) : Prop := v_r m (m 930) ∧ r_st c 48 (m 930)
def R_past (c m : gM) : Prop := ∃ k, k ≤ 16 ∧ m 464 34 = nI k ∧ c 47 2 = nI k ∧ ∀ j, j < k → v_r m (m (933 + j)) ∧ r_st c (55 + 6 * j) (m (933 + j))
def R_im (c m : gM) (j : Nat) : Prop := ∃ k, k ≤ 16 ∧ m (950 + j) 0 = nI k ∧ c (152 + 104 * j) 2 = nI k ∧ (v_r m (fun x => m (950 + j) (1 + x)) ∧ r_st c (153 + 104 * j) (fun x => m (950 + j) (1 + x))) ∧ ∀ q, q < k → v_r m (fun x => m (950 + j) (49 + 48 * q + x)) ∧ r_st c (160 + 104 * j + 6 * q) (fun x => m (950 + j) (49 + 48 * q + x))
def R_img (c m : gM) : Prop := ∃ i, i ≤ 3 ∧ m 464 36 = nI i ∧ c 0 14 = nI i ∧ ∀ j, j < i → R_im c m j
def R_songs (c m : gM) : Prop := ∃ n, n ≤ 8 ∧ m 464 33 = nI n ∧ c 23 1 = nI n ∧ (∀ k, k < n → ∃ g t, 1 ≤ g ∧ g < nW m ∧ t ≤ 999 ∧ m (830 + k) 0 = nI g ∧ m (830 + k) 1 = nI t ∧ c 24 g = nI t) ∧ ∀ g, g < 8 → c 24 g = -1 ∨ ∃ k, k < n ∧ m (830 + k) 0 = nI g
def R_num (c m : gM) : Prop := c 1 6 = m 464 3 ∧ c 0 15 = m 464 35 ∧ c 0 16 = m 466 0 ∧ c 0 17 = m 466 1
def RR (c m : gM) : Prop := R_tape c m ∧ R_num c m ∧ (v_g m ∧ r_g c m) ∧ (v_law m ∧ r_law c m) ∧ R_songs c m ∧ R_now c m ∧ R_past c m ∧ R_img c m
/-- each part, moved to a memory that agrees -/
theorem R_tape_e {c m c' m' : gM} (h : R_tape c m) (h1 : c' 1 1 = c 1 1) (h2 : c' 2 = c 2) (h3 : m' 464 1 = m 464 1) (h4 : m' 465 = m 465) : R_tape c' m' := by
  unfold R_tape
  rw [h1, h2, h3, h4]
  exact h
theorem R_num_e {c m c' m' : gM} (h : R_num c m) (h1 : c' 1 6 = c 1 6) (h2 : c' 0 15 = c 0 15) (h3 : c' 0 16 = c 0 16) (h4 : c' 0 17 = c 0 17) (h5 : m' 464 3 = m 464 3) (h6 : m' 464 35 = m 464 35) (h7 : m' 466 = m 466) : R_num c' m' := by
  unfold R_num
  rw [h1, h2, h3, h4, h5, h6, h7]
  exact h
theorem nW_e {m m' : gM} (h : m' 468 = m 468) : nW m' = nW m := by unfold nW; rw [h]
theorem nC_e {m m' : gM} (h : m' 468 = m 468) : nC m' = nC m := by unfold nC; rw [h]
theorem nH_e {m m' : gM} (h : m' 468 = m 468) : nH m' = nH m := by unfold nH; rw [h]
theorem v_g_e {m m' : gM} (hv : v_g m) (h : m' 468 = m 468) (hw : ∀ w, w < 8 → m' (481 + w) = m (481 + w)) (hc : ∀ k, k < 8 → m' (499 + k) = m (499 + k)) : v_g m' := by
  unfold v_g
  rw [nW_e h, nC_e h, nH_e h, h]
  obtain ⟨h1, h2, h3, h4, h5⟩ := hv
  exact ⟨h1, h2, fun k hk => by rw [hc k (by omega)]; exact h3 k hk, fun k hk => by rw [hc k (by omega)]; exact h4 k hk, fun w hh => by rw [hw w (by omega)]; exact h5 w hh⟩
theorem r_g_e {c c' m m' : gM} (hv : v_g m) (hr : r_g c m) (h : m' 468 = m 468) (h0 : m' 470 = m 470) (hw : ∀ w, w < 8 → m' (481 + w) = m (481 + w)) (hc : ∀ k, k < 8 → m' (499 + k) = m (499 + k)) (hl : ∀ b, 3 ≤ b → b ≤ 8 → c' b = c b) : r_g c' m' := by
  obtain ⟨b1, b2, b3⟩ := hv.2.1
  unfold r_g
  rw [nW_e h, nC_e h, nH_e h, h, h0, hl 3 (by omega) (by omega), hl 4 (by omega) (by omega), hl 5 (by omega) (by omega), hl 6 (by omega) (by omega), hl 7 (by omega) (by omega), hl 8 (by omega) (by omega)]
  obtain ⟨h1, h2, h3, h4⟩ := hr
  exact ⟨h1, fun w hh => by rw [hw w (by omega)]; exact h2 w hh, fun k hk => by rw [hc k (by omega)]; exact h3 k hk, h4⟩
theorem a_ht_e {m m' : gM} (h : ∀ k, k < 160 → m' (508 + k) = m (508 + k)) : ∀ k, k ≤ 160 → a_ht m' k = a_ht m k := by
  intro k
  induction k with
  | zero => intro _; rfl
  | succ k ih => intro hk; rw [a_ht_s, a_ht_s, ih (by omega), h k (by omega)]
theorem a_wf_e {m m' : gM} (h : ∀ k, k < 160 → m' (508 + k) = m (508 + k)) {n : Nat} (hw : a_wf m n) : a_wf m' n := by
  obtain ⟨h1, h2, h3, h4⟩ := hw
  exact ⟨h1, by rw [a_ht_e h n (by omega)]; exact h2, fun k hk => by rw [a_ht_e h k (by omega)]; exact h3 k hk, fun k hk => by rw [a_ht_e h k (by omega), h k (by omega)]; exact h4 k hk⟩
theorem v_law_e {m m' : gM} (hv : v_law m) (h0 : m' 464 19 = m 464 19) (h : ∀ k, k < 160 → m' (508 + k) = m (508 + k)) : v_law m' := by
  have e : nL m' = nL m := by unfold nL; rw [h0]
  unfold v_law
  rw [e, h0]
  exact ⟨hv.1, hv.2.elim Or.inl (fun q => Or.inr (a_wf_e h q))⟩
theorem r_law_e {c c' m m' : gM} (hr : r_law c m) (h0 : m' 464 19 = m 464 19) (h : ∀ k, k < 160 → m' (508 + k) = m (508 + k)) (h3 : c' 15 3 = c 15 3) (h4 : c' 15 4 = c 15 4) (h5 : c' 16 = c 16) (h6 : c' 17 = c 17) : r_law c' m' := by
  unfold r_law
  rw [h0, h3, h4, h5, h6]
  rcases hr with q | ⟨n, h1, h2, g3, g4, g5, g6⟩
  · exact Or.inl q
  · have := g3.1
    exact Or.inr ⟨n, h1, h2, a_wf_e h g3, g4, g5, fun k hk => by rw [h k (by omega)]; exact g6 k hk⟩
theorem R_songs_e {c c' m m' : gM} (h : R_songs c m) (h1 : m' 464 33 = m 464 33) (h2 : m' 468 = m 468) (h3 : ∀ k, k < 8 → m' (830 + k) = m (830 + k)) (h4 : c' 23 1 = c 23 1) (h5 : c' 24 = c 24) : R_songs c' m' := by
  obtain ⟨n, n8, e1, e2, q1, q2⟩ := h
  unfold R_songs
  rw [h1, nW_e h2, h4, h5]
  refine ⟨n, n8, e1, e2, fun k hk => ?_, fun g hg => ?_⟩
  · rw [h3 k (by omega)]
    exact q1 k hk
  · rcases q2 g hg with q | ⟨k, hk, q⟩
    · exact Or.inl q
    · exact Or.inr ⟨k, hk, by rw [h3 k (by omega)]; exact q⟩
theorem v_r_e {m m' : gM} {r : Nat → Int32} (h : m' 468 = m 468) (hv : v_r m r) : v_r m' r := by
  unfold v_r
  rw [nW_e h, nC_e h, nH_e h]
  exact hv
theorem R_now_e {c c' m m' : gM} (h : R_now c m) (h1 : m' 468 = m 468) (h2 : m' 930 = m 930) (h3 : ∀ b, 48 ≤ b → b ≤ 53 → c' b = c b) : R_now c' m' := by
  unfold R_now
  rw [h2]
  exact ⟨v_r_e h1 h.1, r_st_m h.2 h3⟩
theorem R_past_e {c c' m m' : gM} (h : R_past c m) (h1 : m' 468 = m 468) (h2 : m' 464 34 = m 464 34) (h3 : ∀ j, j < 16 → m' (933 + j) = m (933 + j)) (h4 : c' 47 2 = c 47 2) (h5 : ∀ b, 55 ≤ b → b ≤ 150 → c' b = c b) : R_past c' m' := by
  obtain ⟨k, k16, e1, e2, q⟩ := h
  unfold R_past
  rw [h2, h4]
  refine ⟨k, k16, e1, e2, fun j hj => ?_⟩
  rw [h3 j (by omega)]
  exact ⟨v_r_e h1 (q j hj).1, r_st_m (q j hj).2 (fun b b1 b2 => h5 b (by omega) (by omega))⟩
theorem R_im_e {c c' m m' : gM} {j : Nat} (h : R_im c m j) (h1 : m' 468 = m 468) (h3 : m' (950 + j) = m (950 + j)) (h5 : ∀ b, 152 + 104 * j ≤ b → b ≤ 255 + 104 * j → c' b = c b) : R_im c' m' j := by
  obtain ⟨k, k16, g1, g2, g3, g4⟩ := h
  unfold R_im
  rw [h3, h5 (152 + 104 * j) (by omega) (by omega)]
  refine ⟨k, k16, g1, g2, ⟨v_r_e h1 g3.1, r_st_m g3.2 (fun b b1 b2 => h5 b (by omega) (by omega))⟩, fun q hq => ⟨v_r_e h1 (g4 q hq).1, r_st_m (g4 q hq).2 (fun b b1 b2 => h5 b (by omega) (by omega))⟩⟩
theorem R_img_e {c c' m m' : gM} (h : R_img c m) (h1 : m' 468 = m 468) (h2 : m' 464 36 = m 464 36) (h3 : ∀ j, j < 3 → m' (950 + j) = m (950 + j)) (h4 : c' 0 14 = c 0 14) (h5 : ∀ b, 152 ≤ b → b ≤ 463 → c' b = c b) : R_img c' m' := by
  obtain ⟨i, i3, e1, e2, q⟩ := h
  unfold R_img
  rw [h2, h4]
  exact ⟨i, i3, e1, e2, fun j hj => R_im_e (q j hj) h1 (h3 j (by omega)) (fun b b1 b2 => h5 b (by omega) (by omega))⟩
theorem RR_e {c c' m m' : gM} (h : RR c m) (hc : eC c c') (hm : eM m m') : RR c' m' := by
  obtain ⟨t1, t2, ⟨t3, t4⟩, ⟨t5, t6⟩, t7, t8, t9, t10⟩ := h
  obtain ⟨c1, c2, c3⟩ := hc
  obtain ⟨m1, m2, m3, m4, m5, m6, m7, m8, m9⟩ := hm
  have e468 := m1 468 (by omega)
  have ew : ∀ w, w < 8 → m' (481 + w) = m (481 + w) := fun w hw => m1 _ (by omega)
  have ek : ∀ w, w < 8 → m' (499 + w) = m (499 + w) := fun w hw => m1 _ (by omega)
  have el : ∀ w, w < 160 → m' (508 + w) = m (508 + w) := fun w hw => m1 _ (by omega)
  have c0 := c1 0 (by omega)
  have c10 := c1 1 (by omega)
  refine ⟨R_tape_e t1 (by rw [c10]) (c1 2 (by omega)) m3 (m1 465 (by omega)), R_num_e t2 (by rw [c10]) (by rw [c0]) (by rw [c0]) (by rw [c0]) m4 m8 (m1 466 (by omega)), ⟨v_g_e t3 e468 ew ek, r_g_e t3 t4 e468 (m1 470 (by omega)) ew ek (fun b b1 b2 => c1 b (by omega))⟩, ⟨v_law_e t5 m5 el, r_law_e t6 m5 el c2 c3 (c1 16 (by omega)) (c1 17 (by omega))⟩, R_songs_e t7 m6 e468 (fun k hk => m1 _ (by omega)) (by rw [c1 23 (by omega)]) (c1 24 (by omega)), R_now_e t8 e468 (m1 930 (by omega)) (fun b b1 b2 => c1 b (by omega)), R_past_e t9 e468 m7 (fun j hj => m1 _ (by omega)) (by rw [c1 47 (by omega)]) (fun b b1 b2 => c1 b (by omega)), R_img_e t10 e468 m9 (fun j hj => m1 _ (by omega)) (by rw [c0]) (fun b b1 b2 => c1 b (by omega))⟩
theorem RR_t {c m : gM} (h : RR c m) (x : Int32) : RR c (g_set m 464 0 x) := by
  obtain ⟨t1, t2, ⟨t3, t4⟩, ⟨t5, t6⟩, t7, t8, t9, t10⟩ := h
  have n : ∀ b, b ≠ 464 → g_set m 464 0 x b = m b := fun b hb => g_set_ne hb
  have k : ∀ b, b ≠ 0 → g_set m 464 0 x 464 b = m 464 b := fun b hb => g_set_k hb
  have ew : ∀ w, w < 8 → g_set m 464 0 x (481 + w) = m (481 + w) := fun w hw => n _ (by omega)
  have ek : ∀ w, w < 8 → g_set m 464 0 x (499 + w) = m (499 + w) := fun w hw => n _ (by omega)
  have el : ∀ w, w < 160 → g_set m 464 0 x (508 + w) = m (508 + w) := fun w hw => n _ (by omega)
  have e468 := n 468 (by omega)
  exact ⟨R_tape_e t1 rfl rfl (k 1 (by omega)) (n 465 (by omega)), R_num_e t2 rfl rfl rfl rfl (k 3 (by omega)) (k 35 (by omega)) (n 466 (by omega)), ⟨v_g_e t3 e468 ew ek, r_g_e t3 t4 e468 (n 470 (by omega)) ew ek (fun b b1 b2 => rfl)⟩, ⟨v_law_e t5 (k 19 (by omega)) el, r_law_e t6 (k 19 (by omega)) el rfl rfl rfl rfl⟩, R_songs_e t7 (k 33 (by omega)) e468 (fun k hk => n _ (by omega)) rfl rfl, R_now_e t8 e468 (n 930 (by omega)) (fun b b1 b2 => rfl), R_past_e t9 e468 (k 34 (by omega)) (fun j hj => n _ (by omega)) rfl (fun b b1 b2 => rfl), R_img_e t10 e468 (k 36 (by omega)) (fun j hj => n _ (by omega)) rfl (fun b b1 b2 => rfl)⟩
/-- a call refused, counted: by reason 0 or 1 -/
theorem RR_no {c m : gM} (h : RR c m) {q : Nat} (hq : q < 2) (x : Int32) : RR (g_set c 0 (16 + q) (c 0 (16 + q) + 1)) (g_set (g_set m 464 0 x) 466 q (m 466 q + 1)) := by
  obtain ⟨t1, t2, ⟨t3, t4⟩, ⟨t5, t6⟩, t7, t8, t9, t10⟩ := RR_t h x
  have n : ∀ b, b ≠ 466 → g_set (g_set m 464 0 x) 466 q (m 466 q + 1) b = g_set m 464 0 x b := fun b hb => g_set_ne hb
  have cn : ∀ b, b ≠ 0 → g_set c 0 (16 + q) (c 0 (16 + q) + 1) b = c b := fun b hb => g_set_ne hb
  have c0 : ∀ b, b ≠ 16 + q → g_set c 0 (16 + q) (c 0 (16 + q) + 1) 0 b = c 0 b := fun b hb => g_set_k hb
  have ew : ∀ w, w < 8 → g_set (g_set m 464 0 x) 466 q (m 466 q + 1) (481 + w) = g_set m 464 0 x (481 + w) := fun w hw => n _ (by omega)
  have ek : ∀ w, w < 8 → g_set (g_set m 464 0 x) 466 q (m 466 q + 1) (499 + w) = g_set m 464 0 x (499 + w) := fun w hw => n _ (by omega)
  have el : ∀ w, w < 160 → g_set (g_set m 464 0 x) 466 q (m 466 q + 1) (508 + w) = g_set m 464 0 x (508 + w) := fun w hw => n _ (by omega)
  have e468 := n 468 (by omega)
  have e464 := n 464 (by omega)
  have num : R_num (g_set c 0 (16 + q) (c 0 (16 + q) + 1)) (g_set (g_set m 464 0 x) 466 q (m 466 q + 1)) := by
    have s2 := h.2.1
    obtain ⟨n1, n2, n3, n4⟩ := t2
    refine ⟨by rw [cn 1 (by omega), e464]; exact n1, by rw [c0 15 (by omega), e464]; exact n2, ?_, ?_⟩
    · rcases (show q = 0 ∨ q = 1 by omega) with rfl | rfl
      · show g_set c 0 16 _ 0 16 = g_set _ 466 0 _ 466 0
        rw [g_set_eq, g_set_eq, s2.2.2.1]
      · show g_set c 0 17 _ 0 16 = g_set _ 466 1 _ 466 0
        rw [g_set_k (by omega), g_set_k (by omega)]; exact n3
    · rcases (show q = 0 ∨ q = 1 by omega) with rfl | rfl
      · show g_set c 0 16 _ 0 17 = g_set _ 466 0 _ 466 1
        rw [g_set_k (by omega), g_set_k (by omega)]; exact n4
      · show g_set c 0 17 _ 0 17 = g_set _ 466 1 _ 466 1
        rw [g_set_eq, g_set_eq, s2.2.2.2]
  exact ⟨R_tape_e t1 (by rw [cn 1 (by omega)]) (cn 2 (by omega)) (by rw [e464]) (n 465 (by omega)), num, ⟨v_g_e t3 e468 ew ek, r_g_e t3 t4 e468 (n 470 (by omega)) ew ek (fun b b1 b2 => cn b (by omega))⟩, ⟨v_law_e t5 (by rw [e464]) el, r_law_e t6 (by rw [e464]) el (by rw [cn 15 (by omega)]) (by rw [cn 15 (by omega)]) (cn 16 (by omega)) (cn 17 (by omega))⟩, R_songs_e t7 (by rw [e464]) e468 (fun k hk => n _ (by omega)) (by rw [cn 23 (by omega)]) (cn 24 (by omega)), R_now_e t8 e468 (n 930 (by omega)) (fun b b1 b2 => cn b (by omega)), R_past_e t9 e468 (by rw [e464]) (fun j hj => n _ (by omega)) (by rw [cn 47 (by omega)]) (fun b b1 b2 => cn b (by omega)), R_img_e t10 e468 (by rw [e464]) (fun j hj => n _ (by omega)) (c0 14 (by omega)) (fun b b1 b2 => cn b (by omega))⟩
/-! What is needed of a call's numbers. -/
theorem in_1 {v lo hi : Int32} (h1 : ¬ v < lo) (h2 : ¬ hi < v) : FM_in v lo hi = 1 := by unfold FM_in; rw [if_neg h1, if_neg h2]
theorem c_needIn (c : gM) (v lo hi : Int32) : (FM_in v lo hi = 1 ∧ ¬ v < lo ∧ v ≤ hi ∧ FX_needIn v lo hi c = some (0, c)) ∨ (FM_in v lo hi = 0 ∧ FX_needIn v lo hi c = some (2, g_set c 0 17 (c 0 17 + 1))) := by
  unfold FX_needIn FX_needIn_J10 FM_in
  by_cases h1 : v < lo
  · right
    rw [if_pos h1, if_pos h1]
    exact ⟨rfl, rfl⟩
  · by_cases h2 : hi < v
    · right
      have h3 : ¬ v ≤ hi := Int32.not_le.mpr h2
      rw [if_neg h1, if_pos h2, if_neg h1, if_neg h3]
      exact ⟨rfl, rfl⟩
    · left
      have h3 : v ≤ hi := Int32.not_lt.mp h2
      rw [if_neg h1, if_neg h2, if_neg h1, if_pos h3]
      exact ⟨rfl, h1, h3, rfl⟩
theorem c_needOne (c : gM) (v : Int32) {n : Nat} (hn : n ≤ 8) : (FM_in v 0 (nI n - 1) = 1 ∧ (∃ j, j < n ∧ v = nI j) ∧ FX_needOne v (nI n) c = some (0, c)) ∨ (FM_in v 0 (nI n - 1) = 0 ∧ FX_needOne v (nI n) c = some (1, g_set c 0 16 (c 0 16 + 1))) := by
  unfold FX_needOne FX_needOne_J9 FM_in
  by_cases h1 : v < 0
  · right
    rw [if_pos h1, if_pos h1]
    exact ⟨rfl, rfl⟩
  · obtain ⟨j, hj, rfl⟩ := nI_of h1
    rcases Nat.lt_or_ge j n with q | q
    · left
      obtain ⟨n, rfl⟩ : ∃ k, n = k + 1 := ⟨n - 1, by omega⟩
      rw [if_neg h1, if_neg h1, nI_pred, if_neg (nI_nlt (by omega) (by omega)), if_pos (nI_lt q (by omega))]
      exact ⟨rfl, ⟨j, q, rfl⟩, rfl⟩
    · right
      rw [if_neg h1, if_neg h1, if_neg (nI_nlt q hj)]
      refine ⟨?_, rfl⟩
      rw [if_pos]
      rcases Nat.eq_zero_or_pos n with rfl | q0
      · exact Int32.lt_of_lt_of_le (show nI 0 - 1 < 0 by decide) (nI_pos' hj)
      · obtain ⟨n, rfl⟩ : ∃ k, n = k + 1 := ⟨n - 1, by omega⟩
        rw [nI_pred]
        exact nI_lt (by omega) hj
theorem m_bad0 {m : gM} (h : m 464 0 = 0) (w q : Int32) : FM_bad 0 w q m = some (0, m) := by
  unfold FM_bad FM_bad_J26
  rw [if_pos rfl, if_pos h]
theorem m_bad1 {m : gM} (h : m 464 0 = 0) {w : Int32} (hw : ¬ w = 0) {q : Nat} (hq : q < 2) : FM_bad 1 w (nI q) m = some (1, g_set (g_set m 464 0 w) 466 q (m 466 q + 1)) := by
  unfold FM_bad FM_bad_J26
  rw [if_neg (by decide), if_pos h, ix_in hq (by decide), ix_in hq (by decide)]
  show (if (g_set (g_set m 464 0 w) 466 q (m 466 q + 1)) 464 0 = 0 then _ else _) = _
  rw [if_neg (by rw [g_set_ne (by decide), g_set_eq]; exact hw)]
theorem m_bad_no {m : gM} (h : m 464 0 = 0) {w : Int32} (hw : ¬ w = 0) : FM_bad 1 w 0 m = some (1, g_set (g_set m 464 0 w) 466 0 (m 466 0 + 1)) := m_bad1 h hw (q := 0) (by decide)
theorem m_bad_il {m : gM} (h : m 464 0 = 0) {w : Int32} (hw : ¬ w = 0) : FM_bad 1 w 1 m = some (1, g_set (g_set m 464 0 w) 466 1 (m 466 1 + 1)) := m_bad1 h hw (q := 1) (by decide)
theorem c_needBits (c : gM) (v n : Int32) : (FM_in v 0 (F_allOf n) = 1 ∧ ¬ v < 0 ∧ v ≤ F_allOf n ∧ FX_needBits v n c = some (0, c)) ∨ (FM_in v 0 (F_allOf n) = 0 ∧ FX_needBits v n c = some (2, g_set c 0 17 (c 0 17 + 1))) := by
  unfold FX_needBits
  rcases c_needIn c v 0 (F_allOf n) with ⟨h1, h2, h3, h4⟩ | ⟨h1, h2⟩
  · left
    rw [h4]
    exact ⟨h1, h2, h3, rfl⟩
  · right
    rw [h2]
    exact ⟨h1, rfl⟩
/-- two calls that answer alike: ill tells what the law counts an illegal one as -/
def qq {α : Type} (ill : Int32) (fx : Option (Nat × α × gM)) (fm : Option (α × gM)) : Prop := okk fx (fun s => okk fm (fun t => t.2 464 0 = (if s.1 = 0 then 0 else if s.1 = 1 then 1 else ill) ∧ (s.1 = 0 → s.2.1 = t.1) ∧ RR s.2.2 t.2))
theorem qq_ok {α : Type} {ill : Int32} {x : α} {c m : gM} (h0 : m 464 0 = 0) (h : RR c m) : qq ill (some (0, x, c)) (some (x, m)) := okk_some (okk_some ⟨h0, fun _ => rfl, h⟩)
theorem qq_no {α : Type} {ill : Int32} {x z : α} {c m : gM} (h : RR c m) : qq ill (some (1, x, g_set c 0 16 (c 0 16 + 1))) (some (z, g_set (g_set m 464 0 1) 466 0 (m 466 0 + 1))) := okk_some (okk_some ⟨rfl, fun q => absurd q (show ¬ (1 : Nat) = 0 by decide), RR_no h (q := 0) (by decide) 1⟩)
theorem qq_il {α : Type} {ill : Int32} {x z : α} {c m : gM} (h : RR c m) : qq ill (some (2, x, g_set c 0 17 (c 0 17 + 1))) (some (z, g_set (g_set m 464 0 ill) 466 1 (m 466 1 + 1))) := okk_some (okk_some ⟨rfl, fun q => absurd q (show ¬ (2 : Nat) = 0 by decide), RR_no h (q := 1) (by decide) ill⟩)
theorem qq_v {α : Type} {ill : Int32} {x z : α} {c m : gM} (h0 : m 464 0 = 0) (h : RR c m) (e : x = z) : qq ill (some (0, x, c)) (some (z, m)) := by
  subst e
  exact qq_ok h0 h
theorem qq_e {α : Type} {ill : Int32} {fx fx2 : Option (Nat × α × gM)} {fm fm2 : Option (α × gM)} (e1 : fx = fx2) (e2 : fm = fm2) (h : qq ill fx2 fm2) : qq ill fx fm := by rw [e1, e2]; exact h
