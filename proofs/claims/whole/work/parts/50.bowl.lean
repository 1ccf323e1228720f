/-! A calculus for functions that may end in nothing; one roll of the class; what a roll keeps. -/
def okk {α : Type} (o : Option α) (P : α → Prop) : Prop := ∃ x, o = some x ∧ P x
theorem okk_some {α : Type} {x : α} {P : α → Prop} (h : P x) : okk (some x) P := ⟨x, rfl, h⟩
theorem okk_bind {α β : Type} {o : Option α} {f : α → Option β} {Q : α → Prop} {P : β → Prop} (h : okk o Q) (k : ∀ s, Q s → okk (f s) P) : okk (o.bind f) P := by
  obtain ⟨x, e, hx⟩ := h
  rw [e]
  exact k x hx
theorem okk_let {α : Type} {x : gM} {f : gM → Option α} {P : α → Prop} (k : ∀ y, y = x → okk (f y) P) : okk (g_let x f) P := k x rfl
theorem okk_ix {α : Type} {j n : Nat} {f : Nat → Option α} {P : α → Prop} (h : j < n) (hn : n < 2 ^ 31) (k : okk (f j) P) : okk (g_ix (nI j) n f) P := by rw [ix_in h hn]; exact k
theorem okk_t {α : Type} {q : Prop} [Decidable q] {A B : Option α} {P : α → Prop} (h : q) (k : okk A P) : okk (if q then A else B) P := by rw [if_pos h]; exact k
theorem okk_f {α : Type} {q : Prop} [Decidable q] {A B : Option α} {P : α → Prop} (h : ¬ q) (k : okk B P) : okk (if q then A else B) P := by rw [if_neg h]; exact k
theorem okk_i {α : Type} {q : Prop} [Decidable q] {A B : Option α} {P : α → Prop} (k1 : q → okk A P) (k2 : ¬ q → okk B P) : okk (if q then A else B) P := by
  by_cases h : q
  · exact okk_t h (k1 h)
  · exact okk_f h (k2 h)
theorem okk_w {α : Type} {o : Option α} {P Q : α → Prop} (h : okk o P) (k : ∀ x, P x → Q x) : okk o Q := by
  obtain ⟨x, e, hx⟩ := h
  exact ⟨x, e, k x hx⟩
theorem okk_fr {α : Type} {o : Option α} {P Q : α → Prop} (h : okk o P) (w : ∀ R, o = some R → Q R) : okk o (fun s => P s ∧ Q s) := by
  obtain ⟨x, e, hx⟩ := h
  exact ⟨x, e, hx, w x e⟩
theorem okk_of {α β : Type} {o : Option (α × β)} {v : α} {P : β → Prop} (h : ∃ M2, o = some (v, M2) ∧ P M2) : okk o (fun s => s.1 = v ∧ P s.2) := by
  obtain ⟨M2, e, hx⟩ := h
  exact ⟨_, e, rfl, hx⟩
theorem okk_eq {α : Type} {o : Option α} {x : α} {P : α → Prop} (e : o = some x) (h : P x) : okk o P := ⟨x, e, h⟩
theorem okk_e {α : Type} {o o2 : Option α} {P : α → Prop} (e : o = o2) (h : okk o2 P) : okk o P := by rw [e]; exact h
/-- rows and the states over them -/
theorem r_st_row {c : gM} {a : Nat} {r : Nat → Int32} (rs : r_st c a r) {p q k : Nat} (x : Int32) (hp : (p = 4 ∧ q = 0) ∨ (p = 1 ∧ q = 8) ∨ (p = 2 ∧ q = 16) ∨ (p = 3 ∧ q = 24) ∨ (p = 5 ∧ q = 32)) (hk : k < 8) : r_st (g_set c (a + p) k x) a (upd r (q + k) x) := by
  obtain ⟨h1, h2, h3, h4, h5, h6, h7, h8⟩ := rs
  have hp0 : a ≠ a + p := by omega
  refine ⟨fun j hj => ?_, ?_⟩
  · have h := h1 j hj
    have t : ∀ p' q', ((p' = 4 ∧ q' = 0) ∨ (p' = 1 ∧ q' = 8) ∨ (p' = 2 ∧ q' = 16) ∨ (p' = 3 ∧ q' = 24) ∨ (p' = 5 ∧ q' = 32)) → c (a + p') j = r (q' + j) → g_set c (a + p) k x (a + p') j = upd r (q + k) x (q' + j) := by
      intro p' q' hp' e
      by_cases hpp : p' = p
      · have hq : q' = q := by omega
        subst hpp
        subst hq
        by_cases hjk : j = k
        · subst hjk
          rw [g_set_eq, upd_eq]
        · rw [g_set_k hjk, upd_ne (by omega)]
          exact e
      · have e1 : a + p' ≠ a + p := by omega
        rw [g_set_ne e1, upd_ne (by omega)]
        exact e
    have t4 := t 4 0 (by omega) (by rw [Nat.zero_add]; exact h.1)
    rw [Nat.zero_add] at t4
    exact ⟨t4, t 1 8 (by omega) h.2.1, t 2 16 (by omega) h.2.2.1, t 3 24 (by omega) h.2.2.2.1, t 5 32 (by omega) h.2.2.2.2⟩
  · rw [g_set_ne hp0, upd_ne (show 40 ≠ q + k by omega), upd_ne (show 41 ≠ q + k by omega), upd_ne (show 42 ≠ q + k by omega), upd_ne (show 43 ≠ q + k by omega), upd_ne (show 44 ≠ q + k by omega), upd_ne (show 45 ≠ q + k by omega), upd_ne (show 46 ≠ q + k by omega)]
    exact ⟨h2, h3, h4, h5, h6, h7, h8⟩
theorem r_st_f {c : gM} {a : Nat} {r : Nat → Int32} (rs : r_st c a r) {i s : Nat} (x : Int32) (hi : (i = 5 ∧ s = 40) ∨ (i = 6 ∧ s = 41) ∨ (i = 7 ∧ s = 42) ∨ (i = 8 ∧ s = 43) ∨ (i = 9 ∧ s = 44) ∨ (i = 10 ∧ s = 45) ∨ (i = 11 ∧ s = 46)) : r_st (g_set c a i x) a (upd r s x) := by
  obtain ⟨h1, h2, h3, h4, h5, h6, h7, h8⟩ := rs
  have n4 : a + 4 ≠ a := by omega
  have n1 : a + 1 ≠ a := by omega
  have n2 : a + 2 ≠ a := by omega
  have n3 : a + 3 ≠ a := by omega
  have n5 : a + 5 ≠ a := by omega
  refine ⟨fun j hj => ?_, ?_⟩
  · rw [g_set_ne n4, g_set_ne n1, g_set_ne n2, g_set_ne n3, g_set_ne n5, upd_ne (show j ≠ s by omega), upd_ne (show 8 + j ≠ s by omega), upd_ne (show 16 + j ≠ s by omega), upd_ne (show 24 + j ≠ s by omega), upd_ne (show 32 + j ≠ s by omega)]
    exact h1 j hj
  · rcases hi with ⟨rfl, rfl⟩ | ⟨rfl, rfl⟩ | ⟨rfl, rfl⟩ | ⟨rfl, rfl⟩ | ⟨rfl, rfl⟩ | ⟨rfl, rfl⟩ | ⟨rfl, rfl⟩ <;> simp [g_set, upd, h2, h3, h4, h5, h6, h7, h8]
theorem r_st_47 {c : gM} {a : Nat} {r : Nat → Int32} (rs : r_st c a r) (x : Int32) : r_st c a (upd r 47 x) := by
  obtain ⟨h1, h2⟩ := rs
  refine ⟨fun j hj => ?_, ?_⟩
  · rw [upd_ne (show j ≠ 47 by omega), upd_ne (show 8 + j ≠ 47 by omega), upd_ne (show 16 + j ≠ 47 by omega), upd_ne (show 24 + j ≠ 47 by omega), upd_ne (show 32 + j ≠ 47 by omega)]
    exact h1 j hj
  · exact h2
theorem r_st_m {c M : gM} {a : Nat} {r : Nat → Int32} (rs : r_st c a r) (h : ∀ b, a ≤ b → b ≤ a + 5 → M b = c b) : r_st M a r := by
  unfold r_st
  rw [h a (by omega) (by omega), h (a + 1) (by omega) (by omega), h (a + 2) (by omega) (by omega), h (a + 3) (by omega) (by omega), h (a + 4) (by omega) (by omega), h (a + 5) (by omega) (by omega)]
  exact rs
theorem r_st_r {c : gM} {a : Nat} {r r2 : Nat → Int32} (rs : r_st c a r) (h : ∀ s, s < 47 → r2 s = r s) : r_st c a r2 := by
  refine ⟨fun j hj => ?_, ?_⟩
  · rw [h j (by omega), h (8 + j) (by omega), h (16 + j) (by omega), h (24 + j) (by omega), h (32 + j) (by omega)]
    exact rs.1 j hj
  · rw [h 40 (by omega), h 41 (by omega), h 42 (by omega), h 43 (by omega), h 44 (by omega), h 45 (by omega), h 46 (by omega)]
    exact rs.2
theorem upd_upd (f : Nat → Int32) (k : Nat) (x z : Int32) : upd (upd f k x) k z = upd f k z := by
  funext j
  unfold upd
  by_cases h : j = k <;> simp [h]
theorem upd_comm (f : Nat → Int32) {k q : Nat} (x z : Int32) (h : k ≠ q) : upd (upd f k x) q z = upd (upd f q z) k x := by
  funext j
  unfold upd
  by_cases h1 : j = k
  · have : j ≠ q := by omega
    simp [h1, h]
  · simp [h1]
def a_end (m : gM) (h k : Nat) (d : Int32) (r2 : Nat → Int32) : Nat → Int32 := if nI h + 1 = m 468 2 then upd (upd (upd (upd (upd (upd r2 (16 + k) 0) 42 0) 41 0) 40 0) 43 (d + 1)) 44 0 else upd (upd (upd (upd r2 (16 + k) 0) 42 0) 41 0) 40 (nI h + 1)
theorem a_hour_e (m : gM) (h k : Nat) (r : Nat → Int32) : a_hour m h k r = a_end m h k (r 43) (if r 42 ≤ m 468 3 then upd r (32 + h) (r 42) else upd (upd (upd r (32 + h) (r 42)) (24 + k) (r (24 + k) + m 468 4)) 46 (r 46 + 1)) := rfl
theorem c_end {c m : gM} (rg : r_g c m) (hg : v_g m) {a : Nat} (ha : 32 < a) {r2 : Nat → Int32} {h k : Nat} (hh : h < nH m) (hk : k < 8) {M : gM} (t : r_st M a r2) (pm : M 3 = c 3) (e4 : r2 40 = nI h) : okk (FB_endHour_J63 a (nI k) M) (fun s => r_st s a (a_end m h k (r2 43) r2)) := by
  obtain ⟨g1, g2, g3⟩ := hg.1
  obtain ⟨b1, b2, b3⟩ := hg.2.1
  unfold FB_endHour_J63
  rw [r_put_in _ _ _ (show k < 8 by omega) (by decide)]
  refine okk_let (fun N1 y1 => okk_let (fun N2 y2 => okk_let (fun N3 y3 => okk_let (fun N4 y4 => ?_))))
  have u1 : r_st N1 a (upd r2 (16 + k) 0) := by rw [y1]; exact r_st_row t 0 (by omega) hk
  have u2 : r_st N2 a (upd (upd r2 (16 + k) 0) 42 0) := by rw [y2]; exact r_st_f u1 0 (by omega)
  have u3 : r_st N3 a (upd (upd (upd r2 (16 + k) 0) 42 0) 41 0) := by rw [y3]; exact r_st_f u2 0 (by omega)
  have e3 : N3 a 5 = nI h := by rw [u3.2.1, upd_ne (by omega), upd_ne (by omega), upd_ne (by omega), e4]
  rw [e3] at y4
  have u4 : r_st N4 a (upd (upd (upd (upd r2 (16 + k) 0) 42 0) 41 0) 40 (nI h + 1)) := by rw [y4]; exact r_st_f u3 _ (by omega)
  have n3 : (3 : Nat) ≠ a := by omega
  have n32 : (3 : Nat) ≠ a + 2 := by omega
  have p4 : N4 3 7 = m 468 2 := by rw [y4, g_set_ne n3, y3, g_set_ne n3, y2, g_set_ne n3, y1, g_set_ne n32, pm]; exact rg.1.2.2.1
  have e5 : N4 a 5 = nI h + 1 := by rw [u4.2.1, upd_eq]
  rw [e5, p4]
  unfold a_end
  by_cases e : nI h + 1 = m 468 2
  · refine okk_f (by rw [e]; exact Int32.lt_irrefl) (okk_let (fun N6 y6 => okk_let (fun N7 y7 => okk_let (fun N8 y8 => okk_some ?_))))
    have u6 : r_st N6 a (upd (upd (upd (upd (upd r2 (16 + k) 0) 42 0) 41 0) 40 (nI h + 1)) 40 0) := by rw [y6]; exact r_st_f u4 0 (by omega)
    rw [upd_upd] at u6
    have e8 : N6 a 8 = r2 43 := by rw [u6.2.2.2.2.1, upd_ne (by omega), upd_ne (by omega), upd_ne (by omega), upd_ne (by omega)]
    rw [e8] at y7
    have u7 : r_st N7 a (upd (upd (upd (upd (upd r2 (16 + k) 0) 42 0) 41 0) 40 0) 43 (r2 43 + 1)) := by rw [y7]; exact r_st_f u6 _ (by omega)
    rw [if_pos e, y8]
    exact r_st_f u7 0 (by omega)
  · have hn : h + 1 < nH m := by
      rcases Nat.lt_or_ge (h + 1) (nH m) with q | q
      · exact q
      · exact absurd (by rw [nI_1, g3, show h + 1 = nH m by omega]) e
    refine okk_t (by rw [nI_1, g3]; exact nI_lt hn (by omega)) (okk_some ?_)
    rw [if_neg e]
    exact u4
theorem c_endHour {c m : gM} (rg : r_g c m) (hg : v_g m) {a : Nat} (ha : 32 < a) {r : Nat → Int32} (rs : r_st c a r) {h k : Nat} (hh : h < nH m) (hk : k < 8) (e40 : r 40 = nI h) : okk (FB_endHour a (nI k) c) (fun s => r_st s a (a_hour m h k r)) := by
  obtain ⟨b1, b2, b3⟩ := hg.2.1
  have n3 : (3 : Nat) ≠ a := by omega
  have n35 : (3 : Nat) ≠ a + 5 := by omega
  have n33 : (3 : Nat) ≠ a + 3 := by omega
  unfold FB_endHour
  rw [rs.2.1, e40, rs.2.2.2.1, r_put_in _ _ _ (show h < 8 by omega) (by decide), a_hour_e]
  refine okk_let (fun M1 q1 => ?_)
  have s1 : r_st M1 a (upd r (32 + h) (r 42)) := by rw [q1]; exact r_st_row rs (r 42) (by omega) (by omega)
  have p1 : M1 3 = c 3 := by rw [q1]; exact g_set_ne n35
  have v1 : M1 a 7 = r 42 := by rw [s1.2.2.2.1, upd_ne (by omega)]
  rw [v1, p1, rg.1.2.2.2.1]
  by_cases e : r 42 ≤ m 468 3
  · rw [if_pos e, if_pos e]
    have := c_end rg hg ha hh hk s1 p1 (by rw [upd_ne (by omega)]; exact e40)
    rw [upd_ne (show 43 ≠ 32 + h by omega)] at this
    exact this
  · rw [if_neg e, if_neg e]
    refine okk_let (fun M3 q3 => ?_)
    have v2 : M1 a 11 = r 46 := by rw [s1.2.2.2.2.2.2.2, upd_ne (by omega)]
    rw [v2] at q3
    have s3 : r_st M3 a (upd (upd r (32 + h) (r 42)) 46 (r 46 + 1)) := by rw [q3]; exact r_st_f s1 _ (by omega)
    have p3 : M3 3 = c 3 := by rw [q3, g_set_ne n3]; exact p1
    refine okk_let (fun M4 q4 => ?_)
    have v3 : r_at (M3 (a + 3)) 8 (nI k) = r (24 + k) := by rw [r_at_in _ hk (by decide), (s3.1 k hk).2.2.2.1, upd_ne (by omega), upd_ne (by omega)]
    rw [v3, r_put_in _ _ _ hk (by decide), p3, rg.1.2.2.2.2] at q4
    have s4 : r_st M4 a (upd (upd (upd r (32 + h) (r 42)) 46 (r 46 + 1)) (24 + k) (r (24 + k) + m 468 4)) := by rw [q4]; exact r_st_row s3 _ (by omega) hk
    have p4 : M4 3 = c 3 := by rw [q4, g_set_ne n33]; exact p3
    rw [upd_comm _ _ _ (show 46 ≠ 24 + k by omega)] at s4
    have := c_end rg hg ha hh hk s4 p4 (by rw [upd_ne (by omega), upd_ne (by omega), upd_ne (by omega)]; exact e40)
    rw [upd_ne (show 43 ≠ 46 by omega), upd_ne (show 43 ≠ 24 + k by omega), upd_ne (show 43 ≠ 32 + h by omega)] at this
    exact this
theorem less_99 {t : Nat} (h : t ≤ 99) : FM_less 99 (nI t) = nI t := by
  unfold FM_less
  rw [if_pos]
  exact nI_le (b := 99) h (by decide)
theorem less_99s {t : Nat} (h : t ≤ 99) : ∃ u, u ≤ 99 ∧ FM_less 99 (nI t + 1) = nI u := by
  rcases Nat.lt_or_ge t 99 with q | q
  · exact ⟨t + 1, by omega, by rw [nI_1]; exact less_99 (by omega)⟩
  · have : t = 99 := by omega
    subst this
    exact ⟨99, by omega, by decide⟩
/-- nothing has changed but the law's room and the State at a -/
def eCs (a : Nat) (c M : gM) : Prop := (∀ b, ¬ (b = 15 ∨ b = 18 ∨ (a ≤ b ∧ b ≤ a + 5)) → M b = c b) ∧ M 15 3 = c 15 3 ∧ M 15 4 = c 15 4
theorem c_bowl {c m : gM} (hg : v_g m) (rg : r_g c m) (rl : r_law c m) {a : Nat} (ha : 32 < a) (ha2 : a < 464) {r : Nat → Int32} (hv : v_row (nW m) (nC m) (nH m) r) (rs : r_st c a r) (hc : a_can m r) (longer : Int32) : okk (FB_bowl a longer c) (fun s => s.1 = a_took m r longer ∧ r_st s.2 a (a_roll m r longer) ∧ eCs a c s.2) := by
  have key : okk (FB_bowl a longer c) (fun s => s.1 = a_took m r longer ∧ r_st s.2 a (a_roll m r longer) ∧ s.2 15 3 = c 15 3 ∧ s.2 15 4 = c 15 4) := by
    obtain ⟨b1, b2, b3⟩ := hg.2.1
    obtain ⟨eh, hh⟩ := v_row_hop hv hc.2.1 b3
    obtain ⟨ew, hw⟩ := v_row_who hv hc.2.1 b3 b2 hc.2.2
    obtain ⟨eg, hgt⟩ := v_row_gate hv hc.1 b1
    have kh := rs.1 (hop r) (by omega)
    have kw := rs.1 (who r) (by omega)
    have e1 : r_at (c (a + 4)) 8 (c a 5) = nI (who r) := by rw [rs.2.1, eh, r_at_in _ (by omega) (by decide), kh.1, ew]
    have e2 : r_at (c (a + 1)) 8 (nI (who r)) = r (8 + who r) := by rw [r_at_in _ (by omega) (by decide), kw.2.1]
    obtain ⟨t, t9, et⟩ := hv.2.1 (who r) (by omega)
    have n15 : (15 : Nat) ≠ a := by omega
    have n151 : (15 : Nat) ≠ a + 1 := by omega
    have n3 : (3 : Nat) ≠ a := by omega
    have n31 : (3 : Nat) ≠ a + 1 := by omega
    unfold FB_bowl
    rw [e1, e2, rs.2.2.1, rs.2.1, eh]
    have hm := c_minutesOf hg rg rl ha ha2 hgt hw hh (r (8 + who r))
    rw [← eg] at hm
    refine okk_bind (okk_of hm) ?_
    rintro ⟨v, M1⟩ ⟨rfl, f1⟩
    have e3 : a_min m (r 41).toNatClampNeg (who r) (hop r) (FM_less 99 (r (8 + who r))) (c a 10) (c (a + 2) (who r)) + longer = a_took m r longer := by
      unfold a_took
      rw [rs.2.2.2.2.2.2.1, kw.2.2.1, et, less_99 t9]
    rw [r_put_in _ _ _ (show who r < 8 by omega) (by decide), m_less]
    simp only [e3]
    have s0 : r_st M1 a r := r_st_m rs (fun b h1 h2 => f1.1 b (by omega))
    refine okk_let (fun M2 q2 => ?_)
    have s2 : r_st M2 a (upd r (8 + who r) (FM_less 99 (r (8 + who r) + 1))) := by rw [q2]; exact r_st_row s0 _ (by omega) (by omega)
    refine okk_let (fun M3 q3 => ?_)
    have v3 : M2 a 7 = r 42 := by rw [s2.2.2.2.1, upd_ne (by omega)]
    rw [v3] at q3
    have s3 : r_st M3 a (upd (upd r (8 + who r) (FM_less 99 (r (8 + who r) + 1))) 42 (r 42 + a_took m r longer)) := by rw [q3]; exact r_st_f s2 _ (by omega)
    refine okk_let (fun M4 q4 => ?_)
    have v4 : M3 a 9 = r 44 := by rw [s3.2.2.2.2.2.1, upd_ne (by omega), upd_ne (by omega)]
    rw [v4] at q4
    have s4 : r_st M4 a (upd (upd (upd r (8 + who r) (FM_less 99 (r (8 + who r) + 1))) 42 (r 42 + a_took m r longer)) 44 (r 44 + a_took m r longer)) := by rw [q4]; exact r_st_f s3 _ (by omega)
    have s4b := r_st_47 s4 (r 47 + a_took m r longer)
    refine okk_let (fun M5 q5 => ?_)
    have v5 : M4 a 6 = r 41 := by rw [s4.2.2.1, upd_ne (by omega), upd_ne (by omega), upd_ne (by omega)]
    rw [v5] at q5
    have s5 : r_st M5 a (a_gone m r longer) := by rw [q5]; exact r_st_f s4b _ (by omega)
    have c3 : M5 3 = c 3 := by rw [q5, g_set_ne n3, q4, g_set_ne n3, q3, g_set_ne n3, q2, g_set_ne n31]; exact f1.1 3 (by omega)
    have c15 : M5 15 = M1 15 := by rw [q5, g_set_ne n15, q4, g_set_ne n15, q3, g_set_ne n15, q2, g_set_ne n151]
    have v6 : M5 a 6 = r 41 + 1 := by rw [q5, g_set_eq]
    rw [v6, c3, rg.1.1]
    unfold a_roll
    obtain ⟨g, eg2, hg2⟩ : ∃ g, r 41 = nI g ∧ g < nW m := ⟨_, eg, hgt⟩
    by_cases e : r 41 + 1 = m 468 0
    · rw [if_pos e]
      refine okk_f (by rw [e]; exact Int32.lt_irrefl) ?_
      have rg5 : r_g M5 m := by
        unfold r_g
        have z : ∀ b, 3 ≤ b → b ≤ 8 → M5 b = c b := by
          intro b h3 h8
          have y1 : b ≠ a := by omega
          have y2 : b ≠ a + 1 := by omega
          rw [q5, g_set_ne y1, q4, g_set_ne y1, q3, g_set_ne y1, q2, g_set_ne y2]
          exact f1.1 b (by omega)
        rw [z 3 (by omega) (by omega), z 4 (by omega) (by omega), z 5 (by omega) (by omega), z 6 (by omega) (by omega), z 7 (by omega) (by omega), z 8 (by omega) (by omega)]
        exact rg
      have e40 : a_gone m r longer 40 = nI (hop r) := by
        unfold a_gone
        rw [upd_ne (by omega), upd_ne (by omega), upd_ne (by omega), upd_ne (by omega), upd_ne (by omega)]
        exact eh
      refine okk_bind (okk_fr (c_endHour rg5 hg ha s5 hh (show who r < 8 by omega) e40) (fun R hR => w_FB_endHour _ _ _ _ hR)) ?_
      rintro M7 ⟨s7, w7⟩
      refine okk_some ⟨rfl, s7, ?_, ?_⟩
      · show M7 15 3 = c 15 3
        rw [w7 15 (by omega), c15]; exact f1.2.1
      · show M7 15 4 = c 15 4
        rw [w7 15 (by omega), c15]; exact f1.2.2
    · rw [if_neg e]
      have hn : g + 1 < nW m := by
        rcases Nat.lt_or_ge (g + 1) (nW m) with q | q
        · exact q
        · exact absurd (by rw [hg.1.1, eg2, nI_1, show g + 1 = nW m by omega]) e
      refine okk_t ?_ (okk_some ⟨rfl, s5, ?_, ?_⟩)
      · rw [hg.1.1, eg2, nI_1]
        exact nI_lt hn (by omega)
      · show M5 15 3 = c 15 3
        rw [c15]; exact f1.2.1
      · show M5 15 4 = c 15 4
        rw [c15]; exact f1.2.2
  refine okk_w (okk_fr key (fun R hR => w_FB_bowl _ _ _ _ hR)) ?_
  rintro ⟨v, M⟩ ⟨⟨h1, h2, h3, h4⟩, w⟩
  exact ⟨h1, h2, fun b hb => w b (by omega), h3, h4⟩
