/-! A law's facts: the words. -/
theorem wd_lt {n : Nat} {B : Nat → Nat} {q t : Nat} (t1 : 1 ≤ t) (t2 : t < 19) (h : wd n B q t) : q < wdp n B q := by
  have := (tx_e t t2 t1).2.1
  rw [h.1]
  omega
theorem W_take {n : Nat} {B : Nat → Nat} {q q2 : Nat} {c m : gM} (h1 : tC n B (wdp n B q) 0 (-1) c) (h4 : c 1 4 = nI q) (h2 : tM n B q2 0 (-1) m) (hs : skp n B q2 = q) {t : Nat} (t1 : 1 ≤ t) (t2 : t < 19) {x1 x2 x3 x4 x5 x6 : Int32} (hx : FM_six x1 x2 x3 x4 x5 x6 = nI (vl (fun i => tx t i - 96) (tl t))) : ∃ b m2, F_was t c = some b ∧ FM_takes x1 x2 x3 x4 x5 x6 m = some (b, m2) ∧ mS m m2 ∧ ((b = 1 ∧ q < wdp n B q ∧ tM n B (wdp n B q) 0 (-1) m2) ∨ (b = 0 ∧ ¬ wd n B q t ∧ tM n B q 0 (-1) m2)) := by
  obtain ⟨b, m2, x, y, u, v, w⟩ := W_pair h1 h4 h2 hs t1 t2 hx
  unfold FM_takes
  rw [y, Option.bind_some]
  dsimp only
  rcases w with ⟨rfl, w⟩ | ⟨rfl, w⟩
  · obtain ⟨m3, y3, j1, j2⟩ := M_skip u
    rw [if_neg i10, y3, Option.bind_some]
    exact ⟨1, m3, x, rfl, v.trans j2, Or.inl ⟨rfl, wd_lt t1 t2 w, j1⟩⟩
  · rw [if_pos rfl]
    exact ⟨0, m2, x, rfl, v, Or.inr ⟨rfl, w, u⟩⟩

theorem P_fact {n : Nat} {B : Nat → Nat} {q q2 : Nat} {c m : gM} (h1 : tC n B (wdp n B q) 0 (-1) c) (h4 : c 1 4 = nI q) (h2 : tM n B q2 0 (-1) m) (hs : skp n B q2 = q) : ∃ k m2, FL_factOf c = some k ∧ FM_knownHere m = some (k, m2) ∧ mS m m2 ∧ ((k = -1 ∧ tM n B q 0 (-1) m2) ∨ ∃ j, j < 9 ∧ k = nI j ∧ q < wdp n B q ∧ tM n B (wdp n B q) 0 (-1) m2) := by
  have hqq : skp n B q = q := by rw [← hs]; exact skp_i q2
  unfold FL_factOf FM_knownHere
  obtain ⟨b0, n0, x0, y0, v0, w0⟩ := W_take h1 h4 h2 hs (t := 6) (by decide) (by decide) six_6
  rw [x0, y0, Option.bind_some, Option.bind_some]
  dsimp only
  rcases w0 with ⟨rfl, a0, u0⟩ | ⟨rfl, -, u0⟩
  · rw [if_neg i10, if_neg i10]
    exact ⟨0, n0, rfl, rfl, v0, Or.inr ⟨0, by decide, rfl, a0, u0⟩⟩
  · rw [if_pos rfl, if_pos rfl]
    obtain ⟨b1, n1, x1, y1, v1, w1⟩ := W_take h1 h4 u0 hqq (t := 7) (by decide) (by decide) six_7
    rw [x1, y1, Option.bind_some, Option.bind_some]
    dsimp only
    have z1 := v0.trans v1
    rcases w1 with ⟨rfl, a1, u1⟩ | ⟨rfl, -, u1⟩
    · rw [if_neg i10, if_neg i10]
      exact ⟨1, n1, rfl, rfl, z1, Or.inr ⟨1, by decide, rfl, a1, u1⟩⟩
    · rw [if_pos rfl, if_pos rfl]
      obtain ⟨b2, n2, x2, y2, v2, w2⟩ := W_take h1 h4 u1 hqq (t := 8) (by decide) (by decide) six_8
      rw [x2, y2, Option.bind_some, Option.bind_some]
      dsimp only
      have z2 := z1.trans v2
      rcases w2 with ⟨rfl, a2, u2⟩ | ⟨rfl, -, u2⟩
      · rw [if_neg i10, if_neg i10]
        exact ⟨2, n2, rfl, rfl, z2, Or.inr ⟨2, by decide, rfl, a2, u2⟩⟩
      · rw [if_pos rfl, if_pos rfl]
        obtain ⟨b3, n3, x3, y3, v3, w3⟩ := W_take h1 h4 u2 hqq (t := 9) (by decide) (by decide) six_9
        rw [x3, y3, Option.bind_some, Option.bind_some]
        dsimp only
        have z3 := z2.trans v3
        rcases w3 with ⟨rfl, a3, u3⟩ | ⟨rfl, -, u3⟩
        · rw [if_neg i10, if_neg i10]
          exact ⟨3, n3, rfl, rfl, z3, Or.inr ⟨3, by decide, rfl, a3, u3⟩⟩
        · rw [if_pos rfl, if_pos rfl]
          obtain ⟨b4, n4, x4, y4, v4, w4⟩ := W_take h1 h4 u3 hqq (t := 10) (by decide) (by decide) six_10
          rw [x4, y4, Option.bind_some, Option.bind_some]
          dsimp only
          have z4 := z3.trans v4
          rcases w4 with ⟨rfl, a4, u4⟩ | ⟨rfl, -, u4⟩
          · rw [if_neg i10, if_neg i10]
            exact ⟨4, n4, rfl, rfl, z4, Or.inr ⟨4, by decide, rfl, a4, u4⟩⟩
          · rw [if_pos rfl, if_pos rfl]
            obtain ⟨b5, n5, x5, y5, v5, w5⟩ := W_take h1 h4 u4 hqq (t := 11) (by decide) (by decide) six_11
            rw [x5, y5, Option.bind_some, Option.bind_some]
            dsimp only
            have z5 := z4.trans v5
            rcases w5 with ⟨rfl, a5, u5⟩ | ⟨rfl, -, u5⟩
            · rw [if_neg i10, if_neg i10]
              exact ⟨5, n5, rfl, rfl, z5, Or.inr ⟨5, by decide, rfl, a5, u5⟩⟩
            · rw [if_pos rfl, if_pos rfl]
              obtain ⟨b6, n6, x6, y6, v6, w6⟩ := W_take h1 h4 u5 hqq (t := 1) (by decide) (by decide) six_1
              rw [x6, y6, Option.bind_some, Option.bind_some]
              dsimp only
              have z6 := z5.trans v6
              rcases w6 with ⟨rfl, a6, u6⟩ | ⟨rfl, -, u6⟩
              · rw [if_neg i10, if_neg i10]
                exact ⟨6, n6, rfl, rfl, z6, Or.inr ⟨6, by decide, rfl, a6, u6⟩⟩
              · rw [if_pos rfl, if_pos rfl]
                obtain ⟨b7, n7, x7, y7, v7, w7⟩ := W_take h1 h4 u6 hqq (t := 3) (by decide) (by decide) six_3
                rw [x7, y7, Option.bind_some, Option.bind_some]
                dsimp only
                have z7 := z6.trans v7
                rcases w7 with ⟨rfl, a7, u7⟩ | ⟨rfl, -, u7⟩
                · rw [if_neg i10, if_neg i10]
                  exact ⟨7, n7, rfl, rfl, z7, Or.inr ⟨7, by decide, rfl, a7, u7⟩⟩
                · rw [if_pos rfl, if_pos rfl]
                  obtain ⟨b8, n8, x8, y8, v8, w8⟩ := W_take h1 h4 u7 hqq (t := 12) (by decide) (by decide) six_12
                  rw [x8, y8, Option.bind_some, Option.bind_some]
                  dsimp only
                  have z8 := z7.trans v8
                  rcases w8 with ⟨rfl, a8, u8⟩ | ⟨rfl, -, u8⟩
                  · rw [if_neg i10, if_neg i10]
                    exact ⟨8, n8, rfl, rfl, z8, Or.inr ⟨8, by decide, rfl, a8, u8⟩⟩
                  · rw [if_pos rfl, if_pos rfl]
                    exact ⟨-1, n8, rfl, rfl, z8, Or.inl ⟨rfl, u8⟩⟩
