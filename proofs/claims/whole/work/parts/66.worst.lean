/-! The greatest count, in the model. -/
def eM2 (m M : gM) : Prop := ∀ b, ¬ ((847 ≤ b ∧ b ≤ 848) ∨ b = 955) → M b = m b
theorem eM2.eM {m M : gM} (h : eM2 m M) : eM m M := eM.of (fun b hb => h b (by omega))
theorem eM2_0 {m M M2 : gM} (h : eM2 m M) (h2 : eM0 M M2) : eM2 m M2 := fun b hb => (h2 b (by omega)).trans (h b hb)
theorem sg_e {m M : gM} (e : eM m M) (hg : v_g m) (hl : v_law m) {n : Nat} (hn : Ln m n) {a h : Nat} (ha : a < nC m) : sg M a h n = sg m a h n := by
  obtain ⟨b1, b2, b3⟩ := hg.2.1
  have L : ∀ k, k ≤ n → sg M a h k = sg m a h k := by
    intro k
    induction k with
    | zero => intro _; rfl
    | succ k ihk =>
      intro hk
      obtain ⟨g, t, g1, g2, g3, g4, g5⟩ := hn.2.2 k (by omega)
      show (sg M a h k && (ls M a h (M (830 + k) 0).toNatClampNeg == M (830 + k) 1)) = (sg m a h k && (ls m a h (m (830 + k) 0).toNatClampNeg == m (830 + k) 1))
      have h8 := hn.1
      rw [ihk (by omega), e.1 (830 + k) (by omega), g4, nI_clamp (by omega)]
      unfold ls
      rw [eM_lasts e hl (by omega) (by omega), e.1 930 (by omega)]
  exact L n (Nat.le_refl _)
theorem Ln_e {m M : gM} (e : eM m M) {n : Nat} (hn : Ln m n) : Ln M n := by
  obtain ⟨n1, n2, n3⟩ := hn
  refine ⟨n1, by rw [e.2.2.2.2.2.1]; exact n2, fun k hk => ?_⟩
  rw [e.1 (830 + k) (by omega), eM_W e]
  exact n3 k hk
theorem m_worstAt {m : gM} (hg : v_g m) (hl : v_law m) {n : Nat} (hn : Ln m n) {g : Nat} (hgW : g ≤ nW m) : ∀ M, eM2 m M → okk (FM_worstAt (nI g) M) (fun s => eM2 m s.2 ∧ ∃ v, v ≤ 64 ∧ s.1 = nI v ∧ mxs (fg m g) (oul (fun a h => sg m a h n) (nH m) (nC m)) (oul (fun a h => sg m a h n) (nH m) (nC m)).length v) := by
  obtain ⟨b1, b2, b3⟩ := hg.2.1
  obtain ⟨P, eP⟩ : ∃ P : Nat → Nat → Bool, P = fun a h => sg m a h n := ⟨_, rfl⟩
  rw [← eP]
  obtain ⟨L, eL⟩ : ∃ L, L = oul P (nH m) (nC m) := ⟨_, rfl⟩
  have len64 : ∀ a h, a < 8 → h ≤ 8 → (oul P (nH m) a ++ inn P a h).length ≤ 64 := fun a h ha hh => by
    have h1 := oul_len (P := P) (H := nH m) a
    have h2 := inn_len (P := P) (c := a) h
    have h3 : nH m * a ≤ nH m * 7 := Nat.mul_le_mul_left _ (by omega)
    rw [List.length_append]
    omega
  have oul64 : ∀ a, a ≤ 8 → (oul P (nH m) a).length ≤ 64 := fun a ha => by
    have h1 := oul_len (P := P) (H := nH m) a
    have h3 : nH m * a ≤ 8 * 8 := Nat.mul_le_mul b3 ha
    omega
  rw [← eL]
  have hLl : L.length ≤ 64 := by rw [eL]; exact oul64 _ b2
  -- the greatest of the row
  have Mx : ∀ (q v : Nat), v + q = 800 → ∀ f, q < f → ∀ s M, eM2 m M → (∀ v, v < 800 → M 955 v = nI (ctn (fg m g) L L.length v)) → s ≤ 64 → ((∀ u, u < v → ctn (fg m g) L L.length u ≤ s) ∧ (s = 0 ∨ ∃ u, ctn (fg m g) L L.length u = s)) → okk (FM_worstAt_L92 (nI g) f (nI s) (nI v) M) (fun s => eM2 m s.2 ∧ ∃ v, v ≤ 64 ∧ s.1 = nI v ∧ mxs (fg m g) L L.length v) := by
    intro q
    induction q with
    | zero =>
      intro v hv f hf s M e hr hs hm
      obtain ⟨f, rfl⟩ : ∃ g, f = g + 1 := ⟨f - 1, by omega⟩
      have : v = 800 := by omega
      subst this
      rw [FM_worstAt_L92, if_pos (show (800 : Int32) ≤ nI 800 from Int32.le_refl _)]
      refine okk_some ⟨e, s, hs, rfl, fun u => ?_, hm.2⟩
      rcases Nat.lt_or_ge u 800 with w | w
      · exact hm.1 u w
      · rw [ctn_big (fun x => fg_b m (by omega) x) w]; omega
    | succ q ih =>
      intro v hv f hf s M e hr hs hm
      obtain ⟨f, rfl⟩ : ∃ g, f = g + 1 := ⟨f - 1, by omega⟩
      have hc := ctn_le (f := fg m g) (L := L) (v := v) L.length
      rw [FM_worstAt_L92, if_neg (show ¬ (800 : Int32) ≤ nI v from nI_ge (b := 800) (by omega) (by decide)), ix_in (show v < 800 by omega) (by decide), hr v (by omega), more_max (by omega) (by omega), nI_1]
      refine ih (v + 1) (by omega) f (by omega) _ M e hr (by omega) ⟨fun u hu => ?_, ?_⟩
      · by_cases eu : u = v
        · rw [eu]; omega
        · have := hm.1 u (by omega); omega
      · by_cases w : s ≤ ctn (fg m g) L L.length v
        · exact Or.inr ⟨v, by omega⟩
        · rcases hm.2 with h | ⟨u, h⟩
          · omega
          · exact Or.inr ⟨u, by omega⟩
  -- the counting
  have Cn : ∀ (q a : Nat), a + q = nC m → ∀ f, q < f → ∀ M, eM2 m M → (∀ v, v < 800 → M 955 v = nI (ctn (fg m g) (oul P (nH m) a) (oul P (nH m) a).length v)) → okk (FM_worstAt_L26 (nI g) f (0 : Int32) (nI a) M) (fun s => eM2 m s.2 ∧ ∃ v, v ≤ 64 ∧ s.1 = nI v ∧ mxs (fg m g) L L.length v) := by
    intro q
    induction q with
    | zero =>
      intro a ha f hf M e hr
      obtain ⟨f, rfl⟩ : ∃ g, f = g + 1 := ⟨f - 1, by omega⟩
      have : a = nC m := by omega
      subst this
      rw [FM_worstAt_L26, e 468 (by omega), hg.1.2.1, if_pos (Int32.le_refl _)]
      rw [← eL] at hr
      exact Mx 800 0 (by omega) 1000 (by omega) 0 M e hr (by omega) ⟨fun u hu => absurd hu (by omega), Or.inl rfl⟩
    | succ q ih =>
      intro a ha f hf M e hr
      obtain ⟨f, rfl⟩ : ∃ g, f = g + 1 := ⟨f - 1, by omega⟩
      rw [FM_worstAt_L26, e 468 (by omega), hg.1.2.1, if_neg (nI_ge (by omega) (by omega))]
      have In : ∀ (r h : Nat), h + r = nH m → ∀ fl, r < fl → ∀ M, eM2 m M → (∀ v, v < 800 → M 955 v = nI (ctn (fg m g) (oul P (nH m) a ++ inn P a h) (oul P (nH m) a ++ inn P a h).length v)) → okk (FM_worstAt_L39 (nI g) (FM_worstAt_L26 (nI g) f) fl (0 : Int32) (nI a) (nI h) M) (fun s => eM2 m s.2 ∧ ∃ v, v ≤ 64 ∧ s.1 = nI v ∧ mxs (fg m g) L L.length v) := by
        intro r
        induction r with
        | zero =>
          intro h hh fl hfl M e hr
          obtain ⟨fl, rfl⟩ : ∃ g, fl = g + 1 := ⟨fl - 1, by omega⟩
          have : h = nH m := by omega
          subst this
          rw [FM_worstAt_L39, e 468 (by omega), hg.1.2.2, if_pos (Int32.le_refl _), nI_1]
          exact ih (a + 1) (by omega) f (by omega) M e hr
        | succ r ihr =>
          intro h hh fl hfl M e hr
          obtain ⟨fl, rfl⟩ : ∃ g, fl = g + 1 := ⟨fl - 1, by omega⟩
          rw [FM_worstAt_L39, e 468 (by omega), hg.1.2.2, if_neg (nI_ge (by omega) (by omega)), nI_1 h]
          obtain ⟨M2, x1, x2⟩ := m_isSung (m := M) (eM_g e.eM hg) (eM_law e.eM hl) (Ln_e e.eM hn) (c := a) (h := h) (by rw [eM_C e.eM]; omega) (by rw [eM_H e.eM]; omega)
          rw [sg_e e.eM hg hl hn (show a < nC m by omega)] at x1
          have eP2 : sg m a h n = P a h := by rw [eP]
          rw [eP2] at x1
          have e2 := eM2_0 e x2
          rw [x1, Option.bind_some]
          dsimp only
          by_cases hp : P a h = true
          · have e3 : inn P a (h + 1) = inn P a h ++ [(a, h)] := by
              show inn P a h ++ (if P a h = true then [(a, h)] else []) = _
              rw [if_pos hp]
            obtain ⟨K, eK⟩ : ∃ K, K = oul P (nH m) a ++ inn P a h := ⟨_, rfl⟩
            rw [← eK] at hr
            have hK : K.length ≤ 64 := by rw [eK]; exact len64 a h (by omega) (by omega)
            rw [if_pos hp, if_neg i10]
            obtain ⟨M3, y1, y2⟩ := m_lastsBy (m := M2) (eM_g e2.eM hg) (eM_law e2.eM hl) (n := g) (c := a) (h := h) (by rw [eM_W e2.eM]; exact hgW) (by rw [eM_C e2.eM]; omega) (by rw [eM_H e2.eM]; omega) 0
            have ev : a_lasts M2 g a h 0 (M2 930 45) (M2 930 (16 + a)) = nI (fg m g (a, h)) := by
              rw [← fg_e m (by omega), eM_lasts e2.eM hl (by omega) (by omega), e2 930 (by omega)]
              rfl
            rw [ev] at y1
            have hb := fg_b m (show g ≤ 8 by omega) (a, h)
            have hc := ctn_le (f := fg m g) (L := K) (v := fg m g (a, h)) K.length
            have v3 : M3 955 = M 955 := by rw [y2 955 (by omega), x2 955 (by omega)]
            rw [y1, Option.bind_some, ix_in hb (by decide), ix_in hb (by decide)]
            dsimp only
            rw [v3, hr _ hb, nI_1]
            refine okk_let (fun M8 e8 => ihr (h + 1) (by omega) fl (by omega) M8 (fun b hb2 => ?_) (fun v hv => ?_))
            · rw [e8, g_set_ne (by omega), y2 b (by omega)]; exact e2 b hb2
            · have l1 : (K ++ [(a, h)]).length = K.length + 1 := by rw [List.length_append]; rfl
              rw [e3, ← List.append_assoc, ← eK, l1, e8]
              show _ = nI (ctn (fg m g) (K ++ [(a, h)]) K.length v + (if fg m g (nth (K ++ [(a, h)]) K.length) = v then 1 else 0))
              rw [ctn_app _ (Nat.le_refl _), nth_last]
              by_cases ev : v = fg m g (a, h)
              · rw [ev, g_set_eq, if_pos rfl]
              · rw [g_set_k ev, if_neg (fun w => ev w.symm), v3, Nat.add_zero]; exact hr v hv
          · have e3 : inn P a (h + 1) = inn P a h := by
              show inn P a h ++ (if P a h = true then [(a, h)] else []) = _
              rw [if_neg hp, List.append_nil]
            rw [if_neg hp, if_pos rfl]
            exact ihr (h + 1) (by omega) fl (by omega) M2 e2 (fun v hv => by rw [e3, x2 955 (by omega)]; exact hr v hv)
      exact In (nH m) 0 (by omega) 1000 (by omega) M e (by rw [show inn P a 0 = [] from rfl, List.append_nil]; exact hr)
  have Ze : ∀ (q v : Nat), v + q = 800 → ∀ f, q < f → ∀ M, eM2 m M → (∀ u, u < v → M 955 u = 0) → okk (FM_worstAt_L4 (nI g) f (0 : Int32) (nI v) M) (fun s => eM2 m s.2 ∧ ∃ v, v ≤ 64 ∧ s.1 = nI v ∧ mxs (fg m g) L L.length v) := by
    intro q
    induction q with
    | zero =>
      intro v hv f hf M e hz
      obtain ⟨f, rfl⟩ : ∃ g, f = g + 1 := ⟨f - 1, by omega⟩
      have : v = 800 := by omega
      subst this
      rw [FM_worstAt_L4, if_pos (show (800 : Int32) ≤ nI 800 from Int32.le_refl _)]
      exact Cn (nC m) 0 (by omega) 1000 (by omega) M e (fun v hv => hz v hv)
    | succ q ih =>
      intro v hv f hf M e hz
      obtain ⟨f, rfl⟩ : ∃ g, f = g + 1 := ⟨f - 1, by omega⟩
      rw [FM_worstAt_L4, if_neg (show ¬ (800 : Int32) ≤ nI v from nI_ge (b := 800) (by omega) (by decide)), ix_in (show v < 800 by omega) (by decide), nI_1]
      refine okk_let (fun M3 e3 => ih (v + 1) (by omega) f (by omega) M3 (fun b hb => ?_) (fun u hu => ?_))
      · rw [e3, g_set_ne (by omega)]; exact e b hb
      · rw [e3]
        by_cases eu : u = v
        · rw [eu, g_set_eq]
        · rw [g_set_k eu]; exact hz u (by omega)
  intro M e
  exact Ze 800 0 (by omega) 1000 (by omega) M e (fun u hu => absurd hu (by omega))
