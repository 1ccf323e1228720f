/-! Feeding; works taken back; images. -/
/-- what a reading that failed, and feeding, leave as it was -/
def kC (c0 c : gM) : Prop := ∀ b, (b = 0 ∨ (3 ≤ b ∧ b ≤ 8) ∨ (15 ≤ b ∧ b ≤ 17) ∨ (23 ≤ b ∧ b ≤ 24) ∨ (47 ≤ b ∧ b ≤ 463)) → c b = c0 b
def kM (m0 m : gM) : Prop := (∀ b, (b = 466 ∨ b = 468 ∨ b = 470 ∨ (481 ≤ b ∧ b ≤ 488) ∨ (499 ≤ b ∧ b ≤ 506) ∨ (508 ≤ b ∧ b ≤ 667) ∨ (830 ≤ b ∧ b ≤ 837) ∨ b = 930 ∨ (933 ≤ b ∧ b ≤ 948) ∨ (950 ≤ b ∧ b ≤ 952)) → m b = m0 b) ∧ m 464 19 = m0 464 19 ∧ m 464 33 = m0 464 33 ∧ m 464 34 = m0 464 34 ∧ m 464 36 = m0 464 36
theorem RR_k {c m c' m' : gM} (h : RR c m) (hc : kC c c') (hm : kM m m') (ht : R_tape c' m') (hn : R_num c' m') : RR c' m' := by
  obtain ⟨t1, t2, ⟨t3, t4⟩, ⟨t5, t6⟩, t7, t8, t9, t10⟩ := h
  obtain ⟨m1, m5, m6, m7, m9⟩ := hm
  have e468 := m1 468 (by omega)
  have ew : ∀ w, w < 8 → m' (481 + w) = m (481 + w) := fun w hw => m1 _ (by omega)
  have ek : ∀ w, w < 8 → m' (499 + w) = m (499 + w) := fun w hw => m1 _ (by omega)
  have el : ∀ w, w < 160 → m' (508 + w) = m (508 + w) := fun w hw => m1 _ (by omega)
  refine ⟨ht, hn, ⟨v_g_e t3 e468 ew ek, r_g_e t3 t4 e468 (m1 470 (by omega)) ew ek (fun b b1 b2 => hc b (by omega))⟩, ⟨v_law_e t5 m5 el, r_law_e t6 m5 el (by rw [hc 15 (by omega)]) (by rw [hc 15 (by omega)]) (hc 16 (by omega)) (hc 17 (by omega))⟩, R_songs_e t7 m6 e468 (fun k hk => m1 _ (by omega)) (by rw [hc 23 (by omega)]) (hc 24 (by omega)), R_now_e t8 e468 (m1 930 (by omega)) (fun b b1 b2 => hc b (by omega)), R_past_e t9 e468 m7 (fun j hj => m1 _ (by omega)) (by rw [hc 47 (by omega)]) (fun b b1 b2 => hc b (by omega)), R_img_e t10 e468 m9 (fun j hj => m1 _ (by omega)) (by rw [hc 0 (by omega)]) (fun b b1 b2 => hc b (by omega))⟩
/-- t bytes on both tapes -/
def FI (c0 m0 : gM) (t : Nat) (c m : gM) : Prop := c 1 1 = nI t ∧ m 464 1 = nI t ∧ (∀ j, j < t → ∃ b, b < 256 ∧ c 2 j = nI b ∧ m 465 j = nI b) ∧ ((∀ b, b ≠ 1 → b ≠ 2 → c b = c0 b) ∧ ∀ k, k ≠ 1 → c 1 k = c0 1 k) ∧ (∀ b, b ≠ 464 → b ≠ 465 → m b = m0 b) ∧ ∀ k, k ≠ 1 → m 464 k = m0 464 k
def puC (c : gM) (t : Nat) (x : Int32) : gM := g_set (g_set c 2 t x) 1 1 (nI (t + 1))
def puM (m : gM) (t : Nat) (x : Int32) : gM := g_set (g_set m 465 t x) 464 1 (nI (t + 1))
theorem FI_pu {c0 m0 : gM} {t : Nat} {c m : gM} (h : FI c0 m0 t c m) {b : Nat} (hb : b < 256) : FI c0 m0 (t + 1) (puC c t (nI b)) (puM m t (nI b)) := by
  obtain ⟨h1, h2, h3, ⟨h4, h5⟩, h6, h7⟩ := h
  unfold puC puM
  refine ⟨g_set_eq _ _ _ _, g_set_eq _ _ _ _, fun j hj => ?_, ⟨fun b b1 b2 => ?_, fun k hk => ?_⟩, fun b b1 b2 => ?_, fun k hk => ?_⟩
  · rw [g_set_ne (show (2 : Nat) ≠ 1 by decide), g_set_ne (show (465 : Nat) ≠ 464 by decide)]
    by_cases e : j = t
    · rw [e, g_set_eq, g_set_eq]; exact ⟨b, hb, rfl, rfl⟩
    · rw [g_set_k e, g_set_k e]; exact h3 j (by omega)
  · rw [g_set_ne b1, g_set_ne b2]; exact h4 b b1 b2
  · rw [g_set_k hk, g_set_ne (by decide)]; exact h5 k hk
  · rw [g_set_ne b1, g_set_ne b2]; exact h6 b b1 b2
  · rw [g_set_k hk, g_set_ne (by decide)]; exact h7 k hk
theorem i_byte (v : Int32) {n : Nat} (hn : n ≤ 24) : ∃ b, b < 256 ∧ ((v.toUInt32 >>> ((nI n).toUInt32 &&& Int32.toUInt32 31)).toInt32) &&& (255 : Int32) = nI b ∧ (v >>> (nI n &&& 31)) &&& (255 : Int32) = nI b := by
  obtain ⟨b, hb, e⟩ := pk_andE (v >>> (nI n &&& 31)) (m := (255 : Int32)) 8 (by decide)
  refine ⟨b, hb, ?_, e⟩
  rw [← e]
  apply b_ext
  intro i hi
  rw [b_and, b_and, b_255, b_ushr n (by omega), b_sshr n (by omega) v hi]
  by_cases h : i < 8
  · rw [if_pos (by omega)]
  · rw [decide_eq_false h, Bool.and_false, Bool.and_false]
theorem push_s (v : Int32) {t : Nat} {c : gM} (ht : t < 600) (h : c 1 1 = nI t) {n : Nat} (hn : n ≤ 24) (f : Nat) : F_push_L3 v (f + 1) (nI n) c = F_push_L3 v f (nI n + (-8)) (puC c t (((v.toUInt32 >>> ((nI n).toUInt32 &&& Int32.toUInt32 31)).toInt32) &&& (255 : Int32))) := by
  rw [F_push_L3, if_neg (nI_pos (by omega)), h, r_put_in _ _ _ ht (by decide)]
  unfold g_let puC
  dsimp only
  rw [g_set_ne (show (1 : Nat) ≠ 2 by decide), h, nI_1]
def selw (a b c d e : Int32) (k : Nat) : Int32 := if k < 4 then a else if k < 8 then b else if k < 12 then c else if k < 16 then d else e
theorem feed_s (a b c d e : Int32) {t : Nat} {m : gM} (ht : t < 600) (h : m 464 1 = nI t) {k : Nat} (hk : k < 20) (f : Nat) : FM_feed_L23 a b c d e (f + 1) (nI k) m = FM_feed_L23 a b c d e f (nI (k + 1)) (puM m t (((selw a b c d e k) >>> (nI (24 - 8 * (k % 4)) &&& 31)) &&& (255 : Int32))) := by
  have e1 : (24 : Int32) - (8 : Int32) * (nI k - nI k / (4 : Int32) * (4 : Int32)) = nI (24 - 8 * (k % 4)) := by
    rw [show (4 : Int32) = nI 4 from rfl, pk_rem (by omega) (by decide) (by decide), show (8 : Int32) = nI 8 from rfl, pk_mul, show (24 : Int32) = nI 24 from rfl, pk_sub (by omega)]
  have p : ∀ x : Int32, g_set (g_set m 465 t x) 464 1 ((g_set m 465 t x) 464 1 + 1) = puM m t x := by
    intro x
    unfold puM
    rw [show g_set m 465 t x 464 1 = m 464 1 from rfl, h, nI_1]
  rw [FM_feed_L23, if_neg (show ¬ (20 : Int32) ≤ nI k from nI_ge (b := 20) (by omega) (by decide)), e1, h, ix_in ht (by decide), ix_in ht (by decide), ix_in ht (by decide), ix_in ht (by decide), ix_in ht (by decide)]
  unfold g_let
  simp only [p, nI_1]
  unfold selw
  by_cases h4 : k < 4
  · rw [if_pos h4, if_neg (show ¬ (4 : Int32) ≤ nI k from nI_ge (b := 4) h4 (by decide))]
  · rw [if_neg h4, if_pos (show (4 : Int32) ≤ nI k from nI_le (a := 4) (by omega) (by omega))]
    by_cases h8 : k < 8
    · rw [if_pos h8, if_neg (show ¬ (8 : Int32) ≤ nI k from nI_ge (b := 8) h8 (by decide))]
    · rw [if_neg h8, if_pos (show (8 : Int32) ≤ nI k from nI_le (a := 8) (by omega) (by omega))]
      by_cases h12 : k < 12
      · rw [if_pos h12, if_neg (show ¬ (12 : Int32) ≤ nI k from nI_ge (b := 12) h12 (by decide))]
      · rw [if_neg h12, if_pos (show (12 : Int32) ≤ nI k from nI_le (a := 12) (by omega) (by omega))]
        by_cases h16 : k < 16
        · rw [if_pos h16, if_neg (show ¬ (16 : Int32) ≤ nI k from nI_ge (b := 16) h16 (by decide))]
        · rw [if_neg h16, if_pos (show (16 : Int32) ≤ nI k from nI_le (a := 16) (by omega) (by omega))]
theorem feed_4 (a b c d e : Int32) {c0 m0 : gM} {t : Nat} {cc m : gM} (h : FI c0 m0 t cc m) (ht : t + 4 ≤ 600) {j : Nat} (hj : j < 5) {v : Int32} (hv : ∀ i, i < 4 → selw a b c d e (4 * j + i) = v) (f : Nat) : ∃ c2 m2, F_push v cc = some c2 ∧ FI c0 m0 (t + 4) c2 m2 ∧ FM_feed_L23 a b c d e (f + 4) (nI (4 * j)) m = FM_feed_L23 a b c d e f (nI (4 * j + 4)) m2 := by
  obtain ⟨b0, p0, q0, r0⟩ := i_byte v (n := 24) (by decide)
  obtain ⟨b1, p1, q1, r1⟩ := i_byte v (n := 16) (by decide)
  obtain ⟨b2, p2, q2, r2⟩ := i_byte v (n := 8) (by decide)
  obtain ⟨b3, p3, q3, r3⟩ := i_byte v (n := 0) (by decide)
  have h1 := FI_pu h p0
  have h2 := FI_pu h1 p1
  have h3 := FI_pu h2 p2
  have h4 := FI_pu h3 p3
  refine ⟨_, _, ?_, h4, ?_⟩
  · unfold F_push
    rw [show (24 : Int32) = nI 24 from rfl, push_s v (by omega) h.1 (by decide), q0, show nI 24 + (-8) = nI 16 from by decide, push_s v (by omega) h1.1 (by decide), q1, show nI 16 + (-8) = nI 8 from by decide, push_s v (by omega) h2.1 (by decide), q2, show nI 8 + (-8) = nI 0 from by decide, push_s v (by omega) h3.1 (by decide), q3, F_push_L3, if_pos (by decide)]
  · have s : ∀ i, i < 4 → 24 - 8 * ((4 * j + i) % 4) = 24 - 8 * i := fun i hi => by omega
    have e0 := hv 0 (by omega)
    rw [Nat.add_zero] at e0
    have s0 := s 0 (by omega)
    rw [Nat.add_zero] at s0
    rw [feed_s a b c d e (by omega) h.2.1 (k := 4 * j) (by omega), e0, s0, r0, feed_s a b c d e (by omega) h1.2.1 (k := 4 * j + 1) (by omega), hv 1 (by omega), s 1 (by omega), r1, feed_s a b c d e (by omega) h2.2.1 (k := 4 * j + 1 + 1) (by omega), hv 2 (by omega), s 2 (by omega), r2, feed_s a b c d e (by omega) h3.2.1 (k := 4 * j + 1 + 1 + 1) (by omega), hv 3 (by omega), s 3 (by omega), r3]
theorem q_feed {c m : gM} (h : RR c m) (a b d e g : Int32) : qn (FX_feed a b d e g c) (FM_feed a b d e g m) := by
  have h0 := RR_t h 0
  have hm : m 464 1 = (g_set m 464 0 0) 464 1 := rfl
  obtain ⟨m0, e0⟩ : ∃ y, y = g_set m 464 0 0 := ⟨_, rfl⟩
  unfold FX_feed FM_feed
  rw [hm]
  rw [← e0] at h0 ⊢
  obtain ⟨t, t6, w1, w2, w3⟩ := h0.1
  rw [w1, w2, show (20 : Int32) = nI 20 from rfl, nI_add, show (600 : Int32) = nI 600 from rfl]
  by_cases q : t + 20 ≤ 600
  · rw [if_pos (nI_le q (by decide)), if_pos (nI_le q (by decide))]
    have s0 : FI c m0 t c m0 := ⟨w1, w2, w3, ⟨fun _ _ _ => rfl, fun _ _ => rfl⟩, fun _ _ _ => rfl, fun _ _ => rfl⟩
    obtain ⟨c1, m1, x1, s1, y1⟩ := feed_4 a b d e g s0 (by omega) (j := 0) (by decide) (v := a) (fun i hi => by unfold selw; rw [if_pos (by omega)]) 996
    obtain ⟨c2, m2, x2, s2, y2⟩ := feed_4 a b d e g s1 (by omega) (j := 1) (by decide) (v := b) (fun i hi => by unfold selw; rw [if_neg (by omega), if_pos (by omega)]) 992
    obtain ⟨c3, m3, x3, s3, y3⟩ := feed_4 a b d e g s2 (by omega) (j := 2) (by decide) (v := d) (fun i hi => by unfold selw; rw [if_neg (by omega), if_neg (by omega), if_pos (by omega)]) 988
    obtain ⟨c4, m4, x4, s4, y4⟩ := feed_4 a b d e g s3 (by omega) (j := 3) (by decide) (v := e) (fun i hi => by unfold selw; rw [if_neg (by omega), if_neg (by omega), if_neg (by omega), if_pos (by omega)]) 984
    obtain ⟨c5, m5, x5, s5, y5⟩ := feed_4 a b d e g s4 (by omega) (j := 4) (by decide) (v := g) (fun i hi => by unfold selw; rw [if_neg (by omega), if_neg (by omega), if_neg (by omega), if_neg (by omega)]) 980
    refine qn_bX x1 (qn_bX x2 (qn_bX x3 (qn_bX x4 (qn_bX x5 ?_))))
    have y : FM_feed_L23 a b d e g 1000 (0 : Int32) m0 = some (m5 464 1, m5) := by
      refine (y1.trans (y2.trans (y3.trans (y4.trans y5)))).trans ?_
      show FM_feed_L23 a b d e g (979 + 1) (nI 20) m5 = _
      rw [FM_feed_L23, if_pos (show (20 : Int32) ≤ nI 20 from Int32.le_refl _)]
    rw [y]
    refine qn_ok (s5.1.trans s5.2.1.symm) ?_
    obtain ⟨u1, u2, u3, ⟨u4, u5⟩, u6, u7⟩ := s5
    refine RR_k h0 (fun b hb => u4 b (by omega) (by omega)) ⟨fun b hb => u6 b (by omega) (by omega), u7 19 (by decide), u7 33 (by decide), u7 34 (by decide), u7 36 (by decide)⟩ ⟨t + 4 + 4 + 4 + 4 + 4, by omega, u1, u2, u3⟩ ?_
    obtain ⟨n1, n2, n3, n4⟩ := h0.2.1
    exact ⟨by rw [u5 6 (by decide), u7 3 (by decide)]; exact n1, by rw [u4 0 (by decide) (by decide), u7 35 (by decide)]; exact n2, by rw [u4 0 (by decide) (by decide), u6 466 (by decide) (by decide)]; exact n3, by rw [u4 0 (by decide) (by decide), u6 466 (by decide) (by decide)]; exact n4⟩
  · have nq : ¬ nI (t + 20) ≤ nI 600 := nI_ge (by omega) (by omega)
    rw [if_neg nq, if_neg nq]
    exact qn_ok rfl h0
