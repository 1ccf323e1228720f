/-! A park's text: a clause of any kind, and the loop. -/
theorem ne_60 : ∀ t, t < 60 → ¬ nI t = 60 := by decide +kernel
theorem ne_8 : ∀ t, t < 8 → ¬ nI t = 8 := by decide +kernel
theorem nl_8 : ∀ t, t < 8 → ¬ (8 : Int32) ≤ nI t := by decide +kernel
theorem lt_8 : ∀ t, t < 8 → nI t < (8 : Int32) := by decide +kernel
theorem nl_60 : ∀ t, t < 60 → ¬ (60 : Int32) ≤ nI t := by decide +kernel
theorem K_fail {n : Nat} {B : Nat → Nat} {p q : Nat} {c m : gM} {k : Int32} (hk : k ≠ 0) (h1 : tC n B p 0 (-1) c) (h4 : c 1 4 = nI q) (h2 : tM n B q 0 (-1) m) (x1 : Int32) : okk ((F_fail k (c 1 4) c).bind fun s => some s) (fun s => okk ((FM_wrong k (m 464 4) m).bind fun s7 => FM_clause_J56 x1 s7) (fun t => cX pS c s ∧ mX pM m t ∧ PF n B s t)) := by
  rw [h4, h2.2.1]
  obtain ⟨s, x, t, y, a1, a2, a3⟩ := PF_fail h1 h2 hk (nI q)
  rw [x, y, Option.bind_some, Option.bind_some]
  obtain ⟨p3, q3, f, w, f0, f3, f4⟩ := id a3
  unfold FM_clause_J56
  rw [if_neg (by rw [f4.2.2.1]; exact f0)]
  exact okk_some (okk_some ⟨a1.cX, a2.mX, a3⟩)

theorem C_clause {n : Nat} {B : Nat → Nat} {q told W C H : Nat} {c m : gM} (h : PS n B q q c m) (hs : skp n B q = q) (hD : PD told W C H c m) : okk (FP_readClause (nI told) c) (fun s => okk (FM_clause m) (fun t => cX pS c s ∧ mX pM m t ∧ ((∃ e W C H, q < e ∧ PS n B e e s t ∧ PD (told + 1) W C H s t) ∨ PF n B s t))) := by
  have hq : q ≤ n := h.1.2.2.2.2.1
  unfold FP_readClause FM_clause
  obtain ⟨c1, x1, k1, k2, k3⟩ := L_word h.1
  rw [hs] at k1 k2
  obtain ⟨k, m1, x2, y2, l1, l2, l3⟩ := P_kind k1 k2 h.2.1 hs
  rw [x1, y2, Option.bind_some, Option.bind_some, x2, Option.bind_some]
  dsimp only
  have hD1 : PD told W C H c1 m1 := PD_e hD (fun b b1 b2 => k3.1 b (by omega)) (fun b hb => l2.1 b (by unfold pM at hb; omega)) (l2.2 7 (by decide) (by decide) (by decide))
  have hDD := hD1
  obtain ⟨⟨a1, a2, a3⟩, ⟨a4, a5, a6⟩, ⟨a7, a8, a9⟩, a10, ⟨a11, b11⟩, a12, a13, a14⟩ := hDD
  have bad : ∀ k, okk (FP_readClause_J40 (nI told) c1) (fun s => okk (FM_clause_J47 k m1) (fun t => cX pS c s ∧ mX pM m t ∧ ((∃ e W C H, q < e ∧ PS n B e e s t ∧ PD (told + 1) W C H s t) ∨ PF n B s t))) := by
    intro k
    unfold FP_readClause_J40 FM_clause_J47
    refine okk_w (K_fail (k := 3) (by decide) k1 k2 l1 k) ?_
    intro s hs
    refine okk_w hs ?_
    rintro t ⟨t1, t2, t3⟩
    exact ⟨k3.cX.trans t1, l2.mX.trans t2, Or.inr t3⟩
  have fin : ∀ {X : Option gM} {Y : gM → Option gM}, (∀ m2, mS m1 m2 → PS n B (wdp n B q) (wdp n B q) c1 m2 → PD told W C H c1 m2 → m2 467 = m1 467 → okk X (fun s => okk (Y m2) (fun t => cX pS c1 s ∧ mX pM m2 t ∧ ((∃ e W C H, wdp n B q < e ∧ PS n B e e s t ∧ PD (told + 1) W C H s t) ∨ PF n B s t)))) → okk X (fun s => okk ((FM_skipWord m1).bind Y) (fun t => cX pS c s ∧ mX pM m t ∧ ((∃ e W C H, q < e ∧ PS n B e e s t ∧ PD (told + 1) W C H s t) ∨ PF n B s t))) := by
    intro X Y hh
    obtain ⟨m2, y3, j1, j2⟩ := M_skip l1
    rw [y3, Option.bind_some]
    refine okk_w (hh m2 j2 ⟨k1, j1, rfl⟩ (PD_e hD1 (fun _ _ _ => rfl) (fun b hb => j2.1 b (by unfold pM at hb; omega)) (j2.2 7 (by decide) (by decide) (by decide))) (j2.1 467 (by decide))) ?_
    intro s hs
    refine okk_w hs ?_
    rintro t ⟨t1, t2, t3⟩
    refine ⟨k3.cX.trans t1, (l2.mX.trans j2.mX).trans t2, ?_⟩
    rcases t3 with ⟨e, W2, C2, H2, e1, e2, e3⟩ | hF
    · exact Or.inl ⟨e, W2, C2, H2, by have := (wdp_le (B := B) hq).1; omega, e2, e3⟩
    · exact Or.inr hF
  rcases l3 with rfl | l3
  · rw [if_pos rfl, if_pos rfl]
    refine okk_w (K_fail (k := 1) (by decide) k1 k2 l1 (-1)) ?_
    intro s hs
    refine okk_w hs ?_
    rintro t ⟨t1, t2, t3⟩
    exact ⟨k3.cX.trans t1, l2.mX.trans t2, Or.inr t3⟩
  by_cases ht : told = 60
  · subst ht
    have e60 : m1 464 7 = 60 := a11
    have km : ¬ k = -1 := by
      rcases l3 with ⟨rfl, -⟩ | ⟨rfl, -⟩ | ⟨rfl, -⟩ | ⟨rfl, -⟩ | ⟨rfl, -⟩ <;> decide
    rw [if_neg km, if_neg km, if_pos (show (60 : Int32) ≤ nI 60 by decide), if_pos e60]
    exact bad k
  have t60 : told < 60 := by omega
  have e60 : ¬ m1 464 7 = 60 := by rw [a11]; exact ne_60 told t60
  have m5 : m1 464 5 = 0 := l1.2.2.1
  rcases l3 with ⟨rfl, -⟩ | ⟨rfl, -⟩ | ⟨rfl, -⟩ | ⟨rfl, -⟩ | ⟨rfl, -⟩
  · rw [if_neg (show ¬ (0 : Int32) = -1 by decide), if_neg (show ¬ (0 : Int32) = -1 by decide), if_neg (nl_60 told t60), if_neg e60]
    have ixk : ∀ f : Nat → Option gM, g_ix (0 : Int32) 5 f = f 0 := fun f => ix_in (j := 0) (by decide) (by decide)
    rw [if_neg (show ¬ (3 : Int32) ≤ 0 by decide), ixk]
    by_cases ew : W = 8
    · have fu : FP_isFull 0 c1 = 1 := by
        unfold FP_isFull
        rw [if_pos rfl, if_pos (show (8 : Int32) ≤ c1 9 5 by rw [a1, ew]; decide)]
      rw [fu, if_neg i10]
      rw [if_pos (show m1 467 0 = 8 by rw [a2, ew]; rfl)]
      exact bad 0
    · have ew : W < 8 := by omega
      have fu : FP_isFull 0 c1 = 0 := by
        unfold FP_isFull
        rw [if_pos rfl, if_neg (show ¬ (8 : Int32) ≤ c1 9 5 by rw [a1]; exact nl_8 W ew)]
        unfold FP_isFull_J13
        rw [if_neg (show ¬ (0 : Int32) = 1 by decide)]
        unfold FP_isFull_J27
        rw [if_neg (show ¬ (0 : Int32) = 2 by decide)]
      rw [fu, if_pos rfl]
      rw [if_neg (show ¬ m1 467 0 = 8 by rw [a2]; exact ne_8 W ew)]
      unfold FM_clause_J56
      rw [if_pos m5]
      refine fin ?_
      intro m2 g1 g2 g3 g4
      rw [ixk]
      rw [if_pos rfl]
      refine okk_w (N_walk g2 g3 ew t60) ?_
      intro s hs
      refine okk_w hs ?_
      rintro t ⟨t1, t2, t3⟩
      refine ⟨t1, t2, ?_⟩
      rcases t3 with ⟨e, e1, e2, e3⟩ | hF
      · exact Or.inl ⟨e, W + 1, C, H, e1, e2, e3⟩
      · exact Or.inr hF
  · rw [if_neg (show ¬ (1 : Int32) = -1 by decide), if_neg (show ¬ (1 : Int32) = -1 by decide), if_neg (nl_60 told t60), if_neg e60]
    have ixk : ∀ f : Nat → Option gM, g_ix (1 : Int32) 5 f = f 1 := fun f => ix_in (j := 1) (by decide) (by decide)
    rw [if_neg (show ¬ (3 : Int32) ≤ 1 by decide), ixk]
    by_cases ew : C = 8
    · have fu : FP_isFull 1 c1 = 1 := by
        unfold FP_isFull
        rw [if_neg (show ¬ (1 : Int32) = 0 by decide)]
        unfold FP_isFull_J13
        rw [if_pos rfl, if_pos (show (8 : Int32) ≤ c1 9 6 by rw [a4, ew]; decide)]
      rw [fu, if_neg i10]
      rw [if_pos (show m1 467 1 = 8 by rw [a5, ew]; rfl)]
      exact bad 1
    · have ew : C < 8 := by omega
      have fu : FP_isFull 1 c1 = 0 := by
        unfold FP_isFull
        rw [if_neg (show ¬ (1 : Int32) = 0 by decide)]
        unfold FP_isFull_J13
        rw [if_pos rfl, if_neg (show ¬ (8 : Int32) ≤ c1 9 6 by rw [a4]; exact nl_8 C ew)]
        unfold FP_isFull_J27
        rw [if_neg (show ¬ (1 : Int32) = 2 by decide)]
      rw [fu, if_pos rfl]
      rw [if_neg (show ¬ m1 467 1 = 8 by rw [a5]; exact ne_8 C ew)]
      unfold FM_clause_J56
      rw [if_pos m5]
      refine fin ?_
      intro m2 g1 g2 g3 g4
      rw [ixk]
      rw [if_neg (show ¬ (1 : Int32) = 0 by decide), if_pos rfl]
      refine okk_w (N_child g2 g3 ew t60) ?_
      intro s hs
      refine okk_w hs ?_
      rintro t ⟨t1, t2, t3⟩
      refine ⟨t1, t2, ?_⟩
      rcases t3 with ⟨e, e1, e2, e3⟩ | hF
      · exact Or.inl ⟨e, W, C + 1, H, e1, e2, e3⟩
      · exact Or.inr hF
  · rw [if_neg (show ¬ (2 : Int32) = -1 by decide), if_neg (show ¬ (2 : Int32) = -1 by decide), if_neg (nl_60 told t60), if_neg e60]
    have ixk : ∀ f : Nat → Option gM, g_ix (2 : Int32) 5 f = f 2 := fun f => ix_in (j := 2) (by decide) (by decide)
    rw [if_neg (show ¬ (3 : Int32) ≤ 2 by decide), ixk]
    by_cases ew : H = 8
    · have fu : FP_isFull 2 c1 = 1 := by
        unfold FP_isFull
        rw [if_neg (show ¬ (2 : Int32) = 0 by decide)]
        unfold FP_isFull_J13
        rw [if_neg (show ¬ (2 : Int32) = 1 by decide)]
        unfold FP_isFull_J27
        rw [if_pos rfl, if_neg (show ¬ c1 9 7 < (8 : Int32) by rw [a7, ew]; decide)]
      rw [fu, if_neg i10]
      rw [if_pos (show m1 467 2 = 8 by rw [a8, ew]; rfl)]
      exact bad 2
    · have ew : H < 8 := by omega
      have fu : FP_isFull 2 c1 = 0 := by
        unfold FP_isFull
        rw [if_neg (show ¬ (2 : Int32) = 0 by decide)]
        unfold FP_isFull_J13
        rw [if_neg (show ¬ (2 : Int32) = 1 by decide)]
        unfold FP_isFull_J27
        rw [if_pos rfl, if_pos (show c1 9 7 < (8 : Int32) by rw [a7]; exact lt_8 H ew)]
      rw [fu, if_pos rfl]
      rw [if_neg (show ¬ m1 467 2 = 8 by rw [a8]; exact ne_8 H ew)]
      unfold FM_clause_J56
      rw [if_pos m5]
      refine fin ?_
      intro m2 g1 g2 g3 g4
      rw [ixk]
      rw [if_neg (show ¬ (2 : Int32) = 0 by decide), if_neg (show ¬ (2 : Int32) = 1 by decide), if_pos rfl]
      refine okk_w (N_hoop g2 g3 ew t60) ?_
      intro s hs
      refine okk_w hs ?_
      rintro t ⟨t1, t2, t3⟩
      refine ⟨t1, t2, ?_⟩
      rcases t3 with ⟨e, e1, e2, e3⟩ | hF
      · exact Or.inl ⟨e, W, C, H + 1, e1, e2, e3⟩
      · exact Or.inr hF
  · rw [if_neg (show ¬ (3 : Int32) = -1 by decide), if_neg (show ¬ (3 : Int32) = -1 by decide), if_neg (nl_60 told t60), if_neg e60]
    have ixk : ∀ f : Nat → Option gM, g_ix (3 : Int32) 5 f = f 3 := fun f => ix_in (j := 3) (by decide) (by decide)
    rw [if_pos (show (3 : Int32) ≤ 3 by decide)]
    have fu : FP_isFull 3 c1 = 0 := by
      unfold FP_isFull
      rw [if_neg (show ¬ (3 : Int32) = 0 by decide)]
      unfold FP_isFull_J13
      rw [if_neg (show ¬ (3 : Int32) = 1 by decide)]
      unfold FP_isFull_J27
      rw [if_neg (show ¬ (3 : Int32) = 2 by decide)]
    rw [fu, if_pos rfl]
    unfold FM_clause_J56
    rw [if_pos m5]
    refine fin ?_
    intro m2 g1 g2 g3 g4
    rw [ixk]
    rw [if_neg (show ¬ (3 : Int32) = 0 by decide), if_neg (show ¬ (3 : Int32) = 1 by decide), if_neg (show ¬ (3 : Int32) = 2 by decide), if_pos rfl]
    refine okk_w (N_long g2 g3 t60) ?_
    intro s hs
    refine okk_w hs ?_
    rintro t ⟨t1, t2, t3⟩
    refine ⟨t1, t2, ?_⟩
    rcases t3 with ⟨e, e1, e2, e3⟩ | hF
    · exact Or.inl ⟨e, W, C, H, e1, e2, e3⟩
    · exact Or.inr hF
  · rw [if_neg (show ¬ (4 : Int32) = -1 by decide), if_neg (show ¬ (4 : Int32) = -1 by decide), if_neg (nl_60 told t60), if_neg e60]
    have ixk : ∀ f : Nat → Option gM, g_ix (4 : Int32) 5 f = f 4 := fun f => ix_in (j := 4) (by decide) (by decide)
    rw [if_pos (show (3 : Int32) ≤ 4 by decide)]
    have fu : FP_isFull 4 c1 = 0 := by
      unfold FP_isFull
      rw [if_neg (show ¬ (4 : Int32) = 0 by decide)]
      unfold FP_isFull_J13
      rw [if_neg (show ¬ (4 : Int32) = 1 by decide)]
      unfold FP_isFull_J27
      rw [if_neg (show ¬ (4 : Int32) = 2 by decide)]
    rw [fu, if_pos rfl]
    unfold FM_clause_J56
    rw [if_pos m5]
    refine fin ?_
    intro m2 g1 g2 g3 g4
    rw [ixk]
    rw [if_neg (show ¬ (4 : Int32) = 0 by decide), if_neg (show ¬ (4 : Int32) = 1 by decide), if_neg (show ¬ (4 : Int32) = 2 by decide), if_neg (show ¬ (4 : Int32) = 3 by decide)]
    refine okk_w (N_fine g2 g3 t60) ?_
    intro s hs
    refine okk_w hs ?_
    rintro t ⟨t1, t2, t3⟩
    refine ⟨t1, t2, ?_⟩
    rcases t3 with ⟨e, e1, e2, e3⟩ | hF
    · exact Or.inl ⟨e, W, C, H, e1, e2, e3⟩
    · exact Or.inr hF

theorem S_park {n : Nat} {B : Nat → Nat} {nn : Int32} : ∀ (d told p : Nat), n - p = d → told ≤ 60 → ∀ fl fm, d < fl → d < fm → ∀ W C H c m, PS n B p (skp n B p) c m → PD told W C H c m → okk (FP_read_L6 fl (nI told) c) (fun s => ∃ N, FM_park_L42 nn (fm + 1) m = FM_park_J71 nn N ∧ cX pS c s ∧ mX pM m N ∧ ((∃ e f told W C H, PS n B e f s N ∧ PD told W C H s N) ∨ PF n B s N)) := by
  intro d
  induction d using Nat.strongRecOn with
  | _ d ih =>
    intro told p hd ht fl fm hfl hfm W C H c m hP hD
    obtain ⟨fl, rfl⟩ : ∃ g, fl = g + 1 := ⟨fl - 1, by omega⟩
    have hp := hP.1.2.2.2.2.1
    have n6 := hP.1.2.2.2.2.2.1
    have hsk := skp_le (n := n) (B := B) hp
    rw [FP_read_L6, if_neg (show ¬ (60 : Int32) < nI told from fun z => absurd ((nI_ltI (a := 60) (by decide) (by omega)).mp z) (by omega)), if_pos (faulty_0 hP.1), FM_park_L42, if_pos hP.2.1.2.2.1, hP.2.1.1, hP.2.1.2.1]
    refine okk_bind (L_next hP.1) ?_
    rintro ⟨x, c1⟩ ⟨rfl, k1, k2, k3⟩
    dsimp only at k1 k2 k3 ⊢
    have hD1 : PD told W C H c1 m := PD_e hD (fun b b1 b2 => k3.1 b (by omega)) (fun _ _ => rfl) rfl
    by_cases hend : skp n B p < n
    · rw [if_neg (nI_ge hend (by omega)), if_neg (by unfold chr; rw [if_pos hend]; exact nI_nm1 (by have := (hP.1.2.2.2.2.2.2 _ hend).1; omega))]
      obtain ⟨fm, rfl⟩ : ∃ g, fm = g + 1 := ⟨fm - 1, by omega⟩
      have hP1 : PS n B (skp n B p) (skp n B p) c1 m := ⟨k1, hP.2.1, rfl⟩
      obtain ⟨c2, x1, m2, y1, j1, j2, j3⟩ := C_clause hP1 (skp_i p) hD1
      rw [x1, y1, Option.bind_some, Option.bind_some]
      rcases j3 with ⟨e, W2, C2, H2, e1, hP2, hD2⟩ | ⟨p3, q3, f, w, f0, f3, f4⟩
      · obtain ⟨m3, y2, l1, l2⟩ := M_blanks hP2.2.1
        rw [y2, Option.bind_some, nI_1]
        have hD3 : PD (told + 1) W2 C2 H2 c2 m3 := PD_e hD2 (fun _ _ _ => rfl) (fun b hb => l2.1 b (by unfold pM at hb; omega)) (l2.2 7 (by decide) (by decide) (by decide))
        refine okk_w (ih (n - e) (by omega) (told + 1) e rfl hD2.2.2.2.2.1.2 fl fm (by omega) (by omega) W2 C2 H2 c2 m3 ⟨hP2.1, l1, (skp_i e).symm⟩ hD3) ?_
        rintro s ⟨N, n1, n2, n3, n4⟩
        exact ⟨N, n1, (k3.cX.trans j1).trans n2, (j2.trans l2.mX).trans n3, n4⟩
      · obtain ⟨m3, y2, l1, l2⟩ := M_blanks f4
        rw [y2, Option.bind_some, FM_park_L42, if_neg (by rw [l1.2.2.1]; exact f0)]
        obtain ⟨fl, rfl⟩ : ∃ g, fl = g + 1 := ⟨fl - 1, by omega⟩
        have stop : FP_read_L6 (fl + 1) (nI told + 1) c2 = some c2 := by
          rw [FP_read_L6]
          by_cases z : (60 : Int32) < nI told + 1
          · rw [if_pos z]
          · rw [if_neg z, if_neg (faulty_1 f0 f3)]
        rw [stop]
        exact okk_some ⟨m3, rfl, k3.cX.trans j1, j2.trans l2.mX, Or.inr ⟨p3, _, f, w, f0, f3, l1⟩⟩
    · have he : skp n B p = n := by omega
      rw [if_pos (show nI n ≤ nI (skp n B p) by rw [he]; exact Int32.le_refl _), if_pos (by unfold chr; rw [if_neg hend])]
      exact okk_some ⟨m, rfl, k3.cX, mX.rfl' _ _, Or.inl ⟨_, _, told, W, C, H, ⟨k1, hP.2.1, rfl⟩, hD1⟩⟩
