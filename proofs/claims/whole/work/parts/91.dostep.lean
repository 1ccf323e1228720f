/-! Steps performed: a step done or refused, by both. -/
theorem v_hop_u {W C H : Nat} {r : Nat → Int32} (hv : v_row W C H r) {h x : Nat} (hh : h < H) (h8 : h < 8) (hx : x < C) : v_row W C H (upd r h (nI x)) := by
  obtain ⟨b1, b2, b3, b4, b5, b6, b7⟩ := hv
  refine ⟨fun k hk => ?_, fun k hk => by rw [upd_ne (by omega)]; exact b2 k hk, fun k hk => by rw [upd_ne (by omega)]; exact b3 k hk, fun k h1 hk => by rw [upd_ne (by omega)]; exact b4 k h1 hk, by rw [upd_ne (by omega)]; exact b5, by rw [upd_ne (by omega)]; exact b6, by rw [upd_ne (by omega), upd_ne (by omega), upd_ne (by omega)]; exact b7⟩
  by_cases z : k = h
  · rw [z, upd_eq]; exact Or.inr ⟨hh, x, hx, rfl⟩
  · rw [upd_ne z]; exact b1 k hk
theorem v_tired_u {W C H : Nat} {r : Nat → Int32} (hv : v_row W C H r) {x u : Nat} (hx : x < 8) (hu : u ≤ 99) : v_row W C H (upd r (8 + x) (nI u)) := by
  obtain ⟨b1, b2, b3, b4, b5, b6, b7⟩ := hv
  refine ⟨fun k hk => by rw [upd_ne (by omega)]; exact b1 k hk, fun k hk => ?_, fun k hk => by rw [upd_ne (by omega)]; exact b3 k hk, fun k h1 hk => by rw [upd_ne (by omega)]; exact b4 k h1 hk, by rw [upd_ne (by omega)]; exact b5, by rw [upd_ne (by omega)]; exact b6, by rw [upd_ne (by omega), upd_ne (by omega), upd_ne (by omega)]; exact b7⟩
  by_cases z : k = x
  · rw [z, upd_eq]; exact ⟨u, hu, rfl⟩
  · rw [upd_ne (by omega)]; exact b2 k hk
theorem v_bribe_u {W C H : Nat} {r : Nat → Int32} (hv : v_row W C H r) {x u : Nat} (hx : x < 8) (hu : u ≤ 99) : v_row W C H (upd r (16 + x) (nI u)) := by
  obtain ⟨b1, b2, b3, b4, b5, b6, b7⟩ := hv
  refine ⟨fun k hk => by rw [upd_ne (by omega)]; exact b1 k hk, fun k hk => by rw [upd_ne (by omega)]; exact b2 k hk, fun k hk => ?_, fun k h1 hk => by rw [upd_ne (by omega)]; exact b4 k h1 hk, by rw [upd_ne (by omega)]; exact b5, by rw [upd_ne (by omega)]; exact b6, by rw [upd_ne (by omega), upd_ne (by omega), upd_ne (by omega)]; exact b7⟩
  by_cases z : k = x
  · rw [z, upd_eq]; exact ⟨u, hu, rfl⟩
  · rw [upd_ne (by omega)]; exact b3 k hk
theorem g_upd (m : gM) (a k : Nat) (x : Int32) : g_set m a k x a = upd (m a) k x := by
  funext j
  by_cases z : j = k
  · rw [z, g_set_eq, upd_eq]
  · rw [g_set_k z, upd_ne z]
theorem ne99 : ∀ t, t ≤ 99 → (nI t = (99 : Int32) ↔ ¬ nI t < (99 : Int32)) := by
  intro t ht
  constructor
  · intro h; rw [h]; decide
  · intro h
    have : ¬ t < 99 := fun z => h (nI_lt (b := 99) z (by decide))
    rw [show t = 99 by omega]
    rfl
theorem G_one {c0 m0 : gM} (hE : GE c0 m0) {b : Nat} {c m : gM} (h : GP c0 m0 b c m) (hb : b < 200) {j : Nat} (hj : j < 80) (hp : PL (nC m0) (nH m0) c0 m0 j) : ∃ s v t, FT_performOne (nI j) (g_set c 28 6 (nI (b + 1))) = some s ∧ FM_does 930 (850 + j) (g_set m 464 39 (nI (b + 1))) = some (v, t) ∧ ((v = 0 ∧ GP c0 m0 (b + 1) s (g_set (g_set t 464 40 (t 464 40 + (0 : Int32))) 464 35 (t 464 35 + (1 : Int32)))) ∨ (v = 1 ∧ GP c0 m0 (b + 1) s (g_set (g_set t 464 40 (t 464 40 + (1 : Int32))) 464 35 (t 464 35 + (0 : Int32))))) := by
  have hG := h
  obtain ⟨a1, a2, a3, a4, ⟨a5, a6, a7, a8⟩, ⟨⟨v1, v2⟩, v3⟩⟩ := h
  have no := G_no hG
  obtain ⟨c1, e1⟩ : ∃ y, y = g_set c 28 6 (nI (b + 1)) := ⟨_, rfl⟩
  obtain ⟨m1, e2⟩ : ∃ y, y = g_set m 464 39 (nI (b + 1)) := ⟨_, rfl⟩
  rw [← e1, ← e2] at no ⊢
  have c1o : ∀ x, x ≠ 28 → c1 x = c x := fun x hx => by rw [e1, g_set_ne hx]
  have c1k : ∀ k, k ≠ 6 → c1 28 k = c 28 k := fun k hk => by rw [e1, g_set_k hk]
  have c16 : c1 28 6 = nI (b + 1) := by rw [e1, g_set_eq]
  have m1o : ∀ x, x ≠ 464 → m1 x = m x := fun x hx => by rw [e2, g_set_ne hx]
  have m1k : ∀ k, k ≠ 39 → m1 464 k = m 464 k := fun k hk => by rw [e2, g_set_k hk]
  have m139 : m1 464 39 = nI (b + 1) := by rw [e2, g_set_eq]
  have r29 : ∀ a, 29 ≤ a → a ≤ 31 → r_at (c1 a) 150 (nI j) = c0 a j := fun a h1 h2 => by rw [r_at_in _ (show j < 150 by omega) (by decide), c1o a (by omega), a1 a (by omega)]
  have mr : ∀ i, m1 (850 + j) i = m0 (850 + j) i := fun i => by rw [m1o _ (by omega), a3 _ (by omega)]
  have s1 : r_st c1 48 (m1 930) := by
    rw [m1o 930 (by decide)]
    exact r_st_m v3 (fun x x1 x2 => c1o x (by omega))
  have vr : v_row (nW m) (nC m) (nH m) (m1 930) := by rw [m1o 930 (by decide)]; exact v1
  have vd : ∃ d, d ≤ 200 ∧ m1 930 43 = nI d := by rw [m1o 930 (by decide)]; exact v2
  have e468 : m 468 = m0 468 := a3 468 (by omega)
  have eC : nC m = nC m0 := nC_e e468
  have eH : nH m = nH m0 := nH_e e468
  obtain ⟨⟨w1, w2, w3⟩, -⟩ := (hE.1).2
  obtain ⟨kd, p1, p2, p3, alt⟩ := hp
  unfold FT_performOne FT_isRefused FM_does
  rw [r29 29 (by decide) (by decide), r29 30 (by decide) (by decide), r29 31 (by decide) (by decide), mr 0, mr 1, mr 2, p1, p2]
  -- what a step done leaves
  have done : ∀ s t, (∀ x, ¬ (x = 15 ∨ x = 18 ∨ x = 28 ∨ (48 ≤ x ∧ x ≤ 53)) → s x = c1 x) → (s 15 3 = c1 15 3 ∧ s 15 4 = c1 15 4) → (∀ k, s 28 k = (g_set c1 28 7 (c1 28 7 + 1)) 28 k) → (∀ x, ¬ (x = 847 ∨ x = 848 ∨ x = 930) → t x = m1 x) → r_st s 48 (t 930) → v_r m (t 930) → GP c0 m0 (b + 1) s (g_set (g_set t 464 40 (t 464 40 + (1 : Int32))) 464 35 (t 464 35 + (0 : Int32))) := by
    intro s t h1 h2 h3 h4 h5 h6
    refine G_done hG (fun x hx => (h1 x hx).trans (c1o x (by omega))) ⟨h2.1.trans (by rw [c1o 15 (by decide)]), h2.2.trans (by rw [c1o 15 (by decide)])⟩ ⟨?_, ?_, ?_⟩ (fun x hx => (h4 x (by omega)).trans (m1o x (by omega))) (fun k hk => by rw [h4 464 (by omega)]; exact m1k k hk) (by rw [h4 464 (by omega)]; exact m139) h5 h6
    · rw [h3, g_set_k (by decide)]; exact c16
    · rw [h3, g_set_eq, c1k 7 (by decide)]
    · rw [h3, g_set_k (by decide), c1k 8 (by decide)]
  have c7 : r_st (g_set c1 28 7 (c1 28 7 + 1)) 48 (m1 930) := r_st_m s1 (fun x x1 x2 => g_set_ne (by omega))
  rcases alt with ⟨rfl, hp, x, q1, q2, q3, q4, q5, q6⟩ | rfl | rfl | ⟨rfl, x, q1, q2, q3⟩ | ⟨rfl, x, t, q1, q2, q3, q4, q5, q6, q7⟩
  · -- give
    have h8 : hp < 8 := by omega
    have x8 : x < 8 := by omega
    rw [if_pos (show nI 0 = (0 : Int32) from rfl), if_pos (show nI 0 = (0 : Int32) from rfl), if_pos (show nI 0 = (0 : Int32) from rfl), q3, q4, q5, q6, Int32.zero_add, r_at_in _ h8 (by decide), ix_in (show hp < 48 by omega) (by decide), (s1.1 hp h8).1]
    by_cases z : m1 930 hp = nI x
    · rw [if_pos z, if_neg i10, if_pos z]
      exact ⟨_, 0, _, rfl, rfl, Or.inl ⟨rfl, no⟩⟩
    · rw [if_neg z, if_pos rfl, if_neg z, ix_in (show hp < 48 by omega) (by decide), r_put_in _ _ _ h8 (by decide)]
      refine ⟨_, 1, _, rfl, rfl, Or.inr ⟨rfl, done _ _ (fun y hy => by rw [g_set_ne (by omega), g_set_ne (by omega)]) ⟨by rw [g_set_ne (by decide), g_set_ne (by decide)], by rw [g_set_ne (by decide), g_set_ne (by decide)]⟩ (fun k => by rw [g_set_ne (by decide)]) (fun y hy => by rw [g_set_ne (by omega)]) ?_ ?_⟩⟩
      · rw [g_upd]
        have := r_st_row c7 (nI x) (p := 4) (q := 0) (k := hp) (by omega) h8
        rw [Nat.zero_add] at this
        exact this
      · rw [g_upd]
        refine ⟨v_hop_u vr (by rw [eH]; exact q1) h8 (by rw [eC]; exact q2), ?_⟩
        rw [upd_ne (by omega)]; exact vd
  · -- roll
    rw [if_neg (show ¬ nI 1 = (0 : Int32) by decide), if_neg (show ¬ nI 1 = (0 : Int32) by decide), if_neg (show ¬ nI 1 = (0 : Int32) by decide), if_pos (show nI 1 = (1 : Int32) from rfl), if_pos (show nI 1 = (1 : Int32) from rfl), if_pos (show nI 1 = (1 : Int32) from rfl), s1.2.2.2.2.1]
    by_cases z : (200 : Int32) ≤ m1 930 43
    · rw [if_pos z, if_neg i10, if_pos z]
      exact ⟨_, 0, _, rfl, rfl, Or.inl ⟨rfl, no⟩⟩
    · have cx : ∀ y, ¬ (y = 15 ∨ y = 18 ∨ y = 28 ∨ (48 ≤ y ∧ y ≤ 53)) → (g_set c1 28 7 (c1 28 7 + 1)) y = c0 y := fun y hy => by rw [g_set_ne (by omega), c1o y (by omega), a1 y hy]
      have cx15 : (g_set c1 28 7 (c1 28 7 + 1)) 15 = c 15 := by rw [g_set_ne (by decide), c1o 15 (by decide)]
      have mx : ∀ y, ¬ (y = 464 ∨ y = 847 ∨ y = 848 ∨ y = 930) → m1 y = m0 y := fun y hy => by rw [m1o y (by omega), a3 y hy]
      have m19 : m1 464 19 = m0 464 19 := by rw [m1k 19 (by decide), a4 19 (by decide) (by decide) (by decide)]
      obtain ⟨g1, g2, g3, g4⟩ := GP_env hE cx (by rw [cx15]; exact a2) mx m19
      obtain ⟨-, g2', -, -⟩ := GP_env hE (c := c1) (m := m1) (fun y hy => by rw [c1o y (by omega), a1 y hy]) (by rw [c1o 15 (by decide)]; exact a2) mx m19
      have e4682 : m1 468 = m 468 := m1o 468 (by decide)
      have vr1 : v_row (nW m1) (nC m1) (nH m1) (m1 930) := by rw [nW_e e4682, nC_e e4682, nH_e e4682]; exact vr
      rw [if_neg z, if_neg z]
      obtain ⟨y, ey, hy⟩ := m_canRoll g1 (b := 930) vr1
      rw [ey, Option.bind_some]
      rcases c_canBowl g1 g2' (a := 48) vr1 s1 with ⟨w4, w5⟩ | ⟨w4, w5⟩
      · have y1 : y = 1 := by
          rcases hy with ⟨z1, -⟩ | ⟨-, z2⟩
          · exact z1
          · exact absurd w5 z2
        subst y1
        rw [if_neg (show ¬ FB_canBowl 48 c1 = 0 by rw [w4]; decide), if_pos rfl, if_neg i10]
        obtain ⟨⟨k1, s⟩, xs, k2, k3, k4⟩ := c_bowl g1 g2 g4 (a := 48) (by decide) (by decide) vr1 c7 w5 0
        obtain ⟨M2, y1, y2, y3⟩ := m_rolls g1 g3 (b := 930) (Or.inl rfl) vr1 w5 0
        dsimp only at k2 k3 k4
        rw [xs, y1, Option.bind_some, Option.bind_some]
        have hd : ∃ d, d ≤ 199 ∧ m1 930 43 = nI d := by
          obtain ⟨d, d1, d2⟩ := vd
          refine ⟨d, ?_, d2⟩
          rw [d2] at z
          have : ¬ 200 ≤ d := fun q => z (nI_le (a := 200) q (by omega))
          omega
        obtain ⟨u1, u2, u3, u4, u5⟩ := v_roll g1 vr1 w5 0 (n := 199) (by decide) hd
        refine ⟨s, 1, M2, rfl, rfl, Or.inr ⟨rfl, done s M2 (fun y hy => by rw [k4.1 y (by omega), g_set_ne (by omega)]) ⟨by rw [k4.2.1, g_set_ne (by decide)], by rw [k4.2.2, g_set_ne (by decide)]⟩ (fun k => by rw [k4.1 28 (by omega)]) (fun y hy => y3 y (by omega)) ?_ ?_⟩⟩
        · rw [y2]; exact k3
        · rw [y2]
          exact v_r_e (m := m1) (e4682.symm) ⟨u1, u2⟩
      · have y1 : y = 0 := by
          rcases hy with ⟨-, z2⟩ | ⟨z1, -⟩
          · exact absurd z2 w5
          · exact z1
        subst y1
        rw [if_pos w4, if_neg i10, if_pos rfl]
        exact ⟨_, 0, _, rfl, rfl, Or.inl ⟨rfl, no⟩⟩
  · -- rain
    rw [if_neg (show ¬ nI 2 = (0 : Int32) by decide), if_neg (show ¬ nI 2 = (0 : Int32) by decide), if_neg (show ¬ nI 2 = (0 : Int32) by decide), if_neg (show ¬ nI 2 = (1 : Int32) by decide), if_neg (show ¬ nI 2 = (1 : Int32) by decide), if_neg (show ¬ nI 2 = (1 : Int32) by decide), if_pos (show nI 2 = (2 : Int32) from rfl), if_pos (show nI 2 = (2 : Int32) from rfl), if_pos (show nI 2 = (2 : Int32) from rfl), if_pos rfl, s1.2.2.2.2.2.2.1]
    refine ⟨_, 1, _, rfl, rfl, Or.inr ⟨rfl, done _ _ (fun y hy => by rw [g_set_ne (by omega), g_set_ne (by omega)]) ⟨by rw [g_set_ne (by decide), g_set_ne (by decide)], by rw [g_set_ne (by decide), g_set_ne (by decide)]⟩ (fun k => by rw [g_set_ne (by decide)]) (fun y hy => by rw [g_set_ne (by omega)]) ?_ ?_⟩⟩
    · rw [g_upd]
      exact r_st_f c7 (1 - m1 930 45) (i := 10) (s := 45) (by omega)
    · rw [g_upd]
      refine ⟨v_row_45 vr _, ?_⟩
      rw [upd_ne (by omega)]; exact vd
  · -- rest
    have x8 : x < 8 := by omega
    rw [if_neg (show ¬ nI 3 = (0 : Int32) by decide), if_neg (show ¬ nI 3 = (0 : Int32) by decide), if_neg (show ¬ nI 3 = (0 : Int32) by decide), if_neg (show ¬ nI 3 = (1 : Int32) by decide), if_neg (show ¬ nI 3 = (1 : Int32) by decide), if_neg (show ¬ nI 3 = (1 : Int32) by decide), if_neg (show ¬ nI 3 = (2 : Int32) by decide), if_neg (show ¬ nI 3 = (2 : Int32) by decide), if_neg (show ¬ nI 3 = (2 : Int32) by decide), if_pos (show nI 3 = (3 : Int32) from rfl), if_pos (show nI 3 = (3 : Int32) from rfl), if_pos (show nI 3 = (3 : Int32) from rfl), q2, q3, r_at_in _ x8 (by decide), (s1.1 x x8).2.1, show (8 : Int32) = nI 8 from rfl, nI_add, ix_in (show 8 + x < 48 by omega) (by decide)]
    by_cases z : m1 930 (8 + x) = 0
    · rw [if_pos z, if_neg i10, if_pos z]
      exact ⟨_, 0, _, rfl, rfl, Or.inl ⟨rfl, no⟩⟩
    · rw [if_neg z, if_pos rfl, if_neg z, ix_in (show 8 + x < 48 by omega) (by decide)]
      refine ⟨g_set (g_set c1 28 7 (c1 28 7 + 1)) 49 x 0, 1, g_set m1 930 (8 + x) 0, ?_, rfl, Or.inr ⟨rfl, done _ _ (fun y hy => by rw [g_set_ne (by omega), g_set_ne (by omega)]) ⟨by rw [g_set_ne (by decide), g_set_ne (by decide)], by rw [g_set_ne (by decide), g_set_ne (by decide)]⟩ (fun k => by rw [g_set_ne (by decide)]) (fun y hy => by rw [g_set_ne (by omega)]) ?_ ?_⟩⟩
      · exact congrArg some (r_put_in _ _ _ x8 (by decide))
      · rw [g_upd]
        exact r_st_row c7 0 (p := 1) (q := 8) (k := x) (by omega) x8
      · rw [g_upd]
        refine ⟨v_tired_u vr (u := 0) x8 (by decide), ?_⟩
        rw [upd_ne (by omega)]; exact vd
  · -- bribe
    have x8 : x < 8 := by omega
    rw [if_neg (show ¬ nI 4 = (0 : Int32) by decide), if_neg (show ¬ nI 4 = (0 : Int32) by decide), if_neg (show ¬ nI 4 = (0 : Int32) by decide), if_neg (show ¬ nI 4 = (1 : Int32) by decide), if_neg (show ¬ nI 4 = (1 : Int32) by decide), if_neg (show ¬ nI 4 = (1 : Int32) by decide), if_neg (show ¬ nI 4 = (2 : Int32) by decide), if_neg (show ¬ nI 4 = (2 : Int32) by decide), if_neg (show ¬ nI 4 = (2 : Int32) by decide), if_neg (show ¬ nI 4 = (3 : Int32) by decide), if_neg (show ¬ nI 4 = (3 : Int32) by decide), if_neg (show ¬ nI 4 = (3 : Int32) by decide), q4, q5, q6, q7, r_at_in _ x8 (by decide), (s1.1 x x8).2.2.1, show (16 : Int32) = nI 16 from rfl, nI_add, ix_in (show 16 + x < 48 by omega) (by decide)]
    obtain ⟨t0, t1, t2⟩ := vr.2.2.1 x x8
    rw [t2]
    by_cases z : nI t0 < (99 : Int32)
    · have z2 : ¬ nI t0 = (99 : Int32) := fun q => (ne99 t0 t1).mp q z
      obtain ⟨u, u1, u2⟩ := m_bribe t0 (by omega) t (by omega)
      rw [if_pos z, if_pos rfl, if_neg z2, ix_in (show 16 + x < 48 by omega) (by decide), ix_in (show 16 + x < 48 by omega) (by decide), t2, u2]
      have c50 : r_at ((g_set c1 28 7 (c1 28 7 + 1)) 50) 8 (nI x) = nI t0 := by rw [g_set_ne (by decide), r_at_in _ x8 (by decide), (s1.1 x x8).2.2.1]; exact t2
      refine ⟨g_set (g_set c1 28 7 (c1 28 7 + 1)) 50 x (nI u), 1, g_set m1 930 (16 + x) (nI u), ?_, rfl, Or.inr ⟨rfl, done _ _ (fun y hy => by rw [g_set_ne (by omega), g_set_ne (by omega)]) ⟨by rw [g_set_ne (by decide), g_set_ne (by decide)], by rw [g_set_ne (by decide), g_set_ne (by decide)]⟩ (fun k => by rw [g_set_ne (by decide)]) (fun y hy => by rw [g_set_ne (by omega)]) ?_ ?_⟩⟩
      · rw [show m_min (99 : Int32) (nI t0 + nI t) = nI u by rw [m_less]; exact u2]
        exact congrArg some (r_put_in _ _ _ x8 (by decide))
      · rw [g_upd]
        exact r_st_row c7 (nI u) (p := 2) (q := 16) (k := x) (by omega) x8
      · rw [g_upd]
        refine ⟨v_bribe_u vr x8 u1, ?_⟩
        rw [upd_ne (by omega)]; exact vd
    · have z2 : nI t0 = (99 : Int32) := (ne99 t0 t1).mpr z
      rw [if_neg z, if_neg i10, if_pos z2]
      exact ⟨_, 0, _, rfl, rfl, Or.inl ⟨rfl, no⟩⟩
