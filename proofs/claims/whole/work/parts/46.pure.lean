/-! THE PURE SIDE: small rows; the law's reckoning, of the model and of the class. -/
theorem ix_in {α : Type} {j n : Nat} {f : Nat → Option α} (h : j < n) (hn : n < 2 ^ 31) : g_ix (nI j) n f = f j := by
  unfold g_ix
  rw [if_neg (nI_in h hn), nI_clamp (by omega)]
theorem g_set_eq (M : gM) (a k : Nat) (x : Int32) : g_set M a k x a k = x := by simp [g_set]
theorem g_set_k {M : gM} {a k j : Nat} {x : Int32} (h : j ≠ k) : g_set M a k x a j = M a j := by simp [g_set, h]
theorem g_set_b {M : gM} {a k b : Nat} {x : Int32} (h : b ≠ a) (j : Nat) : g_set M a k x b j = M b j := by rw [g_set_ne h]
theorem nI_m1 (n : Nat) : nI (n + 1) + (-1 : Int32) = nI n := by
  rw [nI_succ, Int32.add_assoc]
  have : (1 : Int32) + (-1) = 0 := by decide
  rw [this, Int32.add_zero]
theorem nI_m2 (n : Nat) : nI (n + 1) - (1 : Int32) = nI n := nI_pred n
theorem nI_nle' {a b : Nat} (h : b < a) (ha : a < 2 ^ 31) : ¬ nI a ≤ nI b := nI_ge h ha
def a_by (how u v : Int32) : Int32 := if how = 2 then u + v else if how = 3 then u - v else if how = 4 then u * v else if how = 5 then (if v = 0 then 0 else u / v) else if how = 6 then (if v = 0 then 0 else u - u / v * v) else if how = 7 then FM_less u v else FM_more u v
theorem i_div_m1 (u : Int32) : u / (-1) = -u := by
  apply Int32.toBitVec_inj.mp
  rw [Int32.toBitVec_div, Int32.toBitVec_neg]
  show BitVec.sdiv u.toBitVec (-1#32) = -u.toBitVec
  apply BitVec.eq_of_toInt_eq
  rw [BitVec.toInt_sdiv]
  simp [BitVec.toInt_neg, Int.tdiv_neg]
theorem m_by (how u v : Int32) : FM_by how u v = some (a_by how u v) := by
  unfold FM_by a_by
  by_cases hv : v = 0
  · simp only [hv, if_true]; repeat (first | rfl | split)
  · by_cases hm : v = -1
    · subst hm
      simp only [i_div_m1, if_true]
      have e : u - -u * -1 = 0 := by grind
      rw [e]
      repeat (first | rfl | split)
    · simp only [hv, hm, if_false]; repeat (first | rfl | split)
def a_mk (w : Int32) : Int32 := if w = 0 then 110 else if w = 1 then 102 else if w = 2 then 43 else if w = 3 then 45 else if w = 4 then 42 else if w = 5 then 47 else if w = 6 then 37 else if w = 7 then 108 else 109
theorem c_joined {h : Nat} (h2 : 2 ≤ h) (h8 : h ≤ 8) (u v : Int32) : FL_joined (a_mk (nI h)) u v = some (a_by (nI h) u v) := by
  rcases (show h = 2 ∨ h = 3 ∨ h = 4 ∨ h = 5 ∨ h = 6 ∨ h = 7 ∨ h = 8 by omega) with rfl | rfl | rfl | rfl | rfl | rfl | rfl
  · rfl
  · rfl
  · rfl
  · show (if v = 0 then some 0 else if v = 0 then none else some (u / v)) = some (if v = 0 then 0 else u / v)
    by_cases hv : v = 0 <;> simp [hv]
  · show (if v = 0 then some 0 else if v = 0 then none else some (u - u / v * v)) = some (if v = 0 then 0 else u - u / v * v)
    by_cases hv : v = 0 <;> simp [hv]
  · show (if v ≤ u then some v else some u) = some (if v ≤ u then v else u)
    by_cases hv : v ≤ u <;> simp [hv]
  · show (if u ≤ v then some v else some u) = some (if u ≤ v then v else u)
    by_cases hv : u ≤ v <;> simp [hv]
/-- the height of the stack ahead of code k -/
def a_ht (m : gM) : Nat → Nat
  | 0 => 0
  | k + 1 => if m (508 + k) 0 = 0 ∨ m (508 + k) 0 = 1 then a_ht m k + 1 else a_ht m k - 1
/-- the stack ahead of code k -/
def a_ev (m : gM) (kn : Nat → Int32) : Nat → Nat → Int32
  | 0 => fun _ => 0
  | k + 1 => if m (508 + k) 0 = 0 then upd (a_ev m kn k) (a_ht m k) (m (508 + k) 1) else if m (508 + k) 0 = 1 then upd (a_ev m kn k) (a_ht m k) (kn (m (508 + k) 1).toNatClampNeg)
    else upd (a_ev m kn k) (a_ht m k - 2) (a_by (m (508 + k) 0) (a_ev m kn k (a_ht m k - 2)) (a_ev m kn k (a_ht m k - 1)))
theorem a_ht_s (m : gM) (k : Nat) : a_ht m (k + 1) = if m (508 + k) 0 = 0 ∨ m (508 + k) 0 = 1 then a_ht m k + 1 else a_ht m k - 1 := rfl
theorem a_ev_s (m : gM) (kn : Nat → Int32) (k : Nat) : a_ev m kn (k + 1) = if m (508 + k) 0 = 0 then upd (a_ev m kn k) (a_ht m k) (m (508 + k) 1) else if m (508 + k) 0 = 1 then upd (a_ev m kn k) (a_ht m k) (kn (m (508 + k) 1).toNatClampNeg) else upd (a_ev m kn k) (a_ht m k - 2) (a_by (m (508 + k) 0) (a_ev m kn k (a_ht m k - 2)) (a_ev m kn k (a_ht m k - 1))) := rfl
def a_wf (m : gM) (n : Nat) : Prop := n ≤ 150 ∧ a_ht m n = 1 ∧ (∀ k, k ≤ n → a_ht m k ≤ 24) ∧ ∀ k, k < n → m (508 + k) 0 = 0 ∨ (m (508 + k) 0 = 1 ∧ ∃ v, v < 9 ∧ m (508 + k) 1 = nI v) ∨ (2 ≤ a_ht m k ∧ ∃ h, 2 ≤ h ∧ h ≤ 8 ∧ m (508 + k) 0 = nI h)
def a_out (m : gM) (kn : Nat → Int32) : Int32 := FM_less 99 (FM_more 1 (if m 464 19 = 0 then kn 0 * 6 / kn 1 + kn 3 + kn 4 else a_ev m kn (m 464 19).toNatClampNeg 0))
theorem upd_eq (f : Nat → Int32) (k : Nat) (x : Int32) : upd f k x k = x := by simp [upd]
theorem upd_ne {f : Nat → Int32} {k j : Nat} {x : Int32} (h : j ≠ k) : upd f k x j = f j := by simp [upd, h]
theorem nI_n01 {h : Nat} (h2 : 2 ≤ h) (h8 : h ≤ 8) : ¬ nI h = 0 ∧ ¬ nI h = 1 ∧ (2 : Int32) ≤ nI h := by
  rcases (show h = 2 ∨ h = 3 ∨ h = 4 ∨ h = 5 ∨ h = 6 ∨ h = 7 ∨ h = 8 by omega) with rfl | rfl | rfl | rfl | rfl | rfl | rfl <;> decide
theorem m_byLaw_L (m : gM) (kn : Nat → Int32) (n : Nat) (hn : m 464 19 = nI n) (hw : a_wf m n) (hk : ∀ j, j < 9 → m 848 j = kn j) : ∀ (q k : Nat) (M : gM), k + q = n → (∀ b, b ≠ 847 → M b = m b) → (∀ j, j < a_ht m k → M 847 j = a_ev m kn k j) → ∀ f, q < f → ∃ M2, FM_byLaw_L44 f (nI (a_ht m k)) (nI k) M = some (FM_less 99 (FM_more 1 (a_ev m kn n 0)), M2) := by
  obtain ⟨hn1, hh, hm, hc⟩ := hw
  intro q
  induction q with
  | zero =>
    intro k M hkq hM hs f hf
    obtain ⟨f, rfl⟩ : ∃ g, f = g + 1 := ⟨f - 1, by omega⟩
    have e : k = n := by omega
    subst e
    refine ⟨M, ?_⟩
    show (if (M 464 19) ≤ nI k then _ else _) = _
    rw [if_pos (by rw [hM 464 (by decide), hn]; exact Int32.le_refl _), hs 0 (by rw [hh]; decide)]
  | succ q ih =>
    intro k M hkq hM hs f hf
    obtain ⟨f, rfl⟩ : ∃ g, f = g + 1 := ⟨f - 1, by omega⟩
    have hk1 : k < n := by omega
    have h24 := hm k (by omega)
    have e508 : M (508 + k) = m (508 + k) := hM _ (by omega)
    unfold FM_byLaw_L44
    rw [if_neg (by rw [hM 464 (by decide), hn]; exact nI_ge hk1 (by omega)), ix_in (by omega) (by omega)]
    rcases hc k hk1 with h0 | ⟨h0, v, hv, h1⟩ | ⟨h2, h, hh2, hh8, h0⟩
    · have et : a_ht m (k + 1) = a_ht m k + 1 := by rw [a_ht_s, if_pos (Or.inl h0)]
      rw [if_neg (by rw [e508, h0]; decide), ix_in (by omega) (by omega), if_pos (by rw [e508, h0]), ix_in (by omega) (by omega), ix_in (by omega) (by omega)]
      unfold g_let
      rw [nI_1, nI_1, e508, ← et]
      refine ih (k + 1) _ (by omega) (fun b hb => by rw [g_set_ne hb]; exact hM b hb) (fun j hj => ?_) f (by omega)
      rw [et] at hj
      rw [a_ev_s, if_pos h0]
      by_cases hjk : j = a_ht m k
      · rw [hjk, g_set_eq, upd_eq]
      · rw [g_set_k hjk, upd_ne hjk]; exact hs j (by omega)
    · have et : a_ht m (k + 1) = a_ht m k + 1 := by rw [a_ht_s, if_pos (Or.inr h0)]
      rw [if_neg (by rw [e508, h0]; decide), ix_in (by omega) (by omega), if_neg (by rw [e508, h0]; decide), ix_in (by omega) (by omega), e508, h1, ix_in hv (by omega), ix_in (by omega) (by omega)]
      unfold g_let
      rw [nI_1, nI_1, ← et]
      refine ih (k + 1) _ (by omega) (fun b hb => by rw [g_set_ne hb]; exact hM b hb) (fun j hj => ?_) f (by omega)
      rw [et] at hj
      rw [a_ev_s, if_neg (by rw [h0]; decide), if_pos h0, h1, nI_clamp (by omega)]
      by_cases hjk : j = a_ht m k
      · rw [hjk, g_set_eq, upd_eq, hM 848 (by decide)]; exact hk v hv
      · rw [g_set_k hjk, upd_ne hjk]; exact hs j (by omega)
    · obtain ⟨n0, n1, n2⟩ := nI_n01 hh2 hh8
      rw [← h0] at n0 n1 n2
      have et : a_ht m (k + 1) = a_ht m k - 1 := by rw [a_ht_s, if_neg (by rintro (q | q); exact n0 q; exact n1 q)]
      obtain ⟨t, ht⟩ : ∃ t, a_ht m k = t + 2 := ⟨a_ht m k - 2, by omega⟩
      rw [if_pos (by rw [e508]; exact n2), ix_in (by omega) (by omega), ht, nI_m1, nI_m2, ix_in (by omega) (by omega), ix_in (by omega) (by omega), m_by]
      simp only [Option.bind_some]
      rw [ix_in (by omega) (by omega)]
      unfold g_let
      rw [nI_1, e508, show t + 1 = a_ht m (k + 1) by omega]
      refine ih (k + 1) _ (by omega) (fun b hb => by rw [g_set_ne hb]; exact hM b hb) (fun j hj => ?_) f (by omega)
      rw [et, ht] at hj
      rw [a_ev_s, if_neg n0, if_neg n1, ht, show t + 2 - 2 = t by omega, show t + 2 - 1 = t + 1 by omega]
      by_cases hjk : j = t
      · rw [hjk, g_set_eq, upd_eq, hs t (by omega), hs (a_ht m (k + 1)) (by omega), et, ht]
        rfl
      · rw [g_set_k hjk, upd_ne hjk]; exact hs j (by omega)
theorem m_byLaw (m : gM) (kn : Nat → Int32) (n : Nat) (hn : m 464 19 = nI n) (hw : n = 0 ∨ a_wf m n) (hk : ∀ j, j < 9 → m 848 j = kn j) (hp : (1 : Int32) ≤ kn 1) : ∃ M2, FM_byLaw m = some (a_out m kn, M2) := by
  have hm : FM_more (1 : Int32) (m 848 1) = kn 1 := by rw [hk 1 (by decide)]; unfold FM_more; rw [if_pos hp]
  have h0 : ¬ kn 1 = 0 := fun q => by rw [q] at hp; exact absurd hp (by decide)
  unfold FM_byLaw
  rw [hm, if_neg h0]
  simp only [g_let]
  unfold a_out
  rcases hw with rfl | hw
  · have e : ∀ M : gM, M 464 19 = 0 → FM_byLaw_L44 1000 0 0 M = some (FM_less 99 (FM_more 1 (M 847 0)), M) := fun M h => by
      show (if M 464 19 ≤ 0 then _ else _) = _
      rw [if_pos (by rw [h]; decide)]
    rw [e _ (by rw [g_set_b (by decide), hn]; rfl), if_pos (show m 464 19 = 0 from hn), g_set_eq, hk 0 (by decide), hk 3 (by decide), hk 4 (by decide)]
    exact ⟨_, rfl⟩
  · have hn1 := hw.1
    have hn0 : ¬ m 464 19 = 0 := by
      rw [hn]
      refine nI_ne0 ?_ (by omega)
      rcases Nat.eq_zero_or_pos n with rfl | q
      · exact absurd hw.2.1 (show ¬ (0 : Nat) = 1 by decide)
      · exact q
    rw [if_neg hn0, hn, nI_clamp (by omega)]
    exact m_byLaw_L m kn n hn hw hk n 0 _ (by omega) (fun b hb => g_set_ne hb) (fun j hj => absurd hj (Nat.not_lt_zero j)) 1000 (by omega)
/-- the class's law over the model's -/
def r_law (c m : gM) : Prop := (m 464 19 = 0 ∧ c 15 4 = 0 ∧ c 15 3 = 0) ∨ ∃ n, 0 < n ∧ m 464 19 = nI n ∧ a_wf m n ∧ c 15 4 = 1 ∧ c 15 3 = nI n ∧ ∀ k, k < n → c 16 k = a_mk (m (508 + k) 0) ∧ c 17 k = m (508 + k) 1
theorem c_fact {c : gM} {kn : Nat → Int32} (hk : ∀ j, j < 9 → c 15 (5 + j) = kn j) {v : Nat} (hv : v < 9) : FL_fact (nI v) c = kn v := by
  rcases (show v = 0 ∨ v = 1 ∨ v = 2 ∨ v = 3 ∨ v = 4 ∨ v = 5 ∨ v = 6 ∨ v = 7 ∨ v = 8 by omega) with rfl | rfl | rfl | rfl | rfl | rfl | rfl | rfl | rfl
  · exact hk 0 (by decide)
  · exact hk 1 (by decide)
  · exact hk 2 (by decide)
  · exact hk 3 (by decide)
  · exact hk 4 (by decide)
  · exact hk 5 (by decide)
  · exact hk 6 (by decide)
  · exact hk 7 (by decide)
  · exact hk 8 (by decide)
theorem c_clamp (x : Int32) (M : gM) : FL_outcome_J137 x M = some (FM_less 99 (FM_more 1 x), M) := by
  unfold FL_outcome_J137 FM_more
  by_cases h1 : (1 : Int32) ≤ x
  · rw [if_pos h1, if_pos h1]
    unfold FM_less
    by_cases h2 : x ≤ 99
    · rw [if_pos h2, if_pos h2]
    · rw [if_neg h2, if_neg h2]
  · rw [if_neg h1, if_neg h1]
    rfl
theorem a_mk_n {h : Nat} (h2 : 2 ≤ h) (h8 : h ≤ 8) : ¬ a_mk (nI h) = 110 ∧ ¬ a_mk (nI h) = 102 := by
  rcases (show h = 2 ∨ h = 3 ∨ h = 4 ∨ h = 5 ∨ h = 6 ∨ h = 7 ∨ h = 8 by omega) with rfl | rfl | rfl | rfl | rfl | rfl | rfl <;> decide
theorem c_outcome_L (c m : gM) (kn : Nat → Int32) (n : Nat) (hw : a_wf m n) (h4 : c 15 4 = 1) (h3 : c 15 3 = nI n) (hr : ∀ k, k < n → c 16 k = a_mk (m (508 + k) 0) ∧ c 17 k = m (508 + k) 1) (hk : ∀ j, j < 9 → c 15 (5 + j) = kn j) : ∀ (q k : Nat) (M : gM), k + q = n → (∀ b, b ≠ 18 → M b = c b) → (∀ j, j < a_ht m k → M 18 j = a_ev m kn k j) → ∀ f, q < f → ∃ M2, FL_outcome_L4 f (nI (a_ht m k)) (nI k) M = some (FM_less 99 (FM_more 1 (a_ev m kn n 0)), M2) := by
  obtain ⟨hn1, hh, hm, hc⟩ := hw
  intro q
  induction q with
  | zero =>
    intro k M hkq hM hs f hf
    obtain ⟨f, rfl⟩ : ∃ g, f = g + 1 := ⟨f - 1, by omega⟩
    have e : k = n := by omega
    subst e
    refine ⟨M, ?_⟩
    unfold FL_outcome_L4
    rw [if_pos (by rw [hM 15 (by decide), h3]; exact Int32.le_refl _), if_neg (by rw [hM 15 (by decide), h4]; decide), show (0 : Int32) = nI 0 from rfl, r_at_in _ (by decide) (by decide), c_clamp, hs 0 (by rw [hh]; decide)]
  | succ q ih =>
    intro k M hkq hM hs f hf
    obtain ⟨f, rfl⟩ : ∃ g, f = g + 1 := ⟨f - 1, by omega⟩
    have hk1 : k < n := by omega
    have h24 := hm k (by omega)
    have em : r_at (M 16) 150 (nI k) = a_mk (m (508 + k) 0) := by rw [r_at_in _ (by omega) (by decide), hM 16 (by decide)]; exact (hr k hk1).1
    have ev : r_at (M 17) 150 (nI k) = m (508 + k) 1 := by rw [r_at_in _ (by omega) (by decide), hM 17 (by decide)]; exact (hr k hk1).2
    unfold FL_outcome_L4
    rw [if_neg (by rw [hM 15 (by decide), h3]; exact nI_ge hk1 (by omega)), em, ev]
    rcases hc k hk1 with h0 | ⟨h0, v, hv, h1⟩ | ⟨h2, h, hh2, hh8, h0⟩
    · have et : a_ht m (k + 1) = a_ht m k + 1 := by rw [a_ht_s, if_pos (Or.inl h0)]
      rw [h0, if_pos (show a_mk 0 = 110 by decide)]
      unfold FL_outcome_J43 g_let
      rw [if_pos (show a_mk 0 = 110 by decide), r_put_in _ _ _ (by omega) (by decide), nI_1, nI_1, ← et]
      refine ih (k + 1) _ (by omega) (fun b hb => by rw [g_set_ne hb]; exact hM b hb) (fun j hj => ?_) f (by omega)
      rw [et] at hj
      rw [a_ev_s, if_pos h0]
      by_cases hjk : j = a_ht m k
      · rw [hjk, g_set_eq, upd_eq]
      · rw [g_set_k hjk, upd_ne hjk]; exact hs j (by omega)
    · have et : a_ht m (k + 1) = a_ht m k + 1 := by rw [a_ht_s, if_pos (Or.inr h0)]
      rw [h0, if_neg (show ¬ a_mk 1 = 110 by decide), if_pos (show a_mk 1 = 102 by decide)]
      unfold FL_outcome_J43 g_let
      rw [if_neg (show ¬ a_mk 1 = 110 by decide), r_put_in _ _ _ (by omega) (by decide), nI_1, nI_1, ← et, h1, c_fact (kn := kn) (fun j hj => by rw [hM 15 (by decide)]; exact hk j hj) hv]
      refine ih (k + 1) _ (by omega) (fun b hb => by rw [g_set_ne hb]; exact hM b hb) (fun j hj => ?_) f (by omega)
      rw [et] at hj
      rw [a_ev_s, if_neg (by rw [h0]; decide), if_pos h0, h1, nI_clamp (by omega)]
      by_cases hjk : j = a_ht m k
      · rw [hjk, g_set_eq, upd_eq]
      · rw [g_set_k hjk, upd_ne hjk]; exact hs j (by omega)
    · obtain ⟨n0, n1, n2⟩ := nI_n01 hh2 hh8
      obtain ⟨n3, n4⟩ := a_mk_n hh2 hh8
      rw [← h0] at n0 n1 n2
      have et : a_ht m (k + 1) = a_ht m k - 1 := by rw [a_ht_s, if_neg (by rintro (q | q); exact n0 q; exact n1 q)]
      obtain ⟨t, ht⟩ : ∃ t, a_ht m k = t + 2 := ⟨a_ht m k - 2, by omega⟩
      rw [h0, if_neg n3, if_neg n4, ht, nI_m1, nI_m2, r_at_in _ (by omega) (by decide), r_at_in _ (by omega) (by decide), c_joined hh2 hh8]
      simp only [Option.bind_some]
      unfold g_let
      rw [r_put_in _ _ _ (by omega) (by decide), nI_1, show t + 1 = a_ht m (k + 1) by omega]
      refine ih (k + 1) _ (by omega) (fun b hb => by rw [g_set_ne hb]; exact hM b hb) (fun j hj => ?_) f (by omega)
      rw [et, ht] at hj
      rw [a_ev_s, if_neg n0, if_neg n1, ht, show t + 2 - 2 = t by omega, show t + 2 - 1 = t + 1 by omega]
      by_cases hjk : j = t
      · rw [hjk, g_set_eq, upd_eq, hs t (by omega), hs (a_ht m (k + 1)) (by omega), et, ht, h0]
        rfl
      · rw [g_set_k hjk, upd_ne hjk]; exact hs j (by omega)
theorem c_outcome (c m : gM) (kn : Nat → Int32) (hl : r_law c m) (hk : ∀ j, j < 9 → c 15 (5 + j) = kn j) (hp : (1 : Int32) ≤ kn 1) : ∃ M2, FL_outcome c = some (a_out m kn, M2) := by
  have h0 : ¬ kn 1 = 0 := fun q => by rw [q] at hp; exact absurd hp (by decide)
  unfold FL_outcome a_out
  rcases hl with ⟨l0, l1, l2⟩ | ⟨n, hn0, hn, hw, h4, h3, hr⟩
  · refine ⟨c, ?_⟩
    rw [if_pos l0]
    show (if c 15 3 ≤ 0 then (if c 15 4 = 0 then _ else _) else _) = _
    rw [if_pos (by rw [l2]; decide), if_pos l1]
    have e : FL_plain c = some (kn 0 * 6 / kn 1 + kn 3 + kn 4) := by
      unfold FL_plain
      rw [hk 0 (by decide), hk 1 (by decide), hk 3 (by decide), hk 4 (by decide), if_neg h0, if_neg h0]
    rw [e]
    exact c_clamp _ _
  · have hn1 := hw.1
    rw [if_neg (by rw [hn]; exact nI_ne0 hn0 (by omega)), hn, nI_clamp (by omega)]
    exact c_outcome_L c m kn n hw h4 h3 hr hk n 0 c (by omega) (fun b hb => rfl) (fun j hj => absurd hj (Nat.not_lt_zero j)) 1000 (by omega)
