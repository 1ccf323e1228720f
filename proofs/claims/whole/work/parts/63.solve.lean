/-! The class's way; match and matched. -/
theorem c_list {c m0 : gM} (hg : v_g m0) (rg : r_g c m0) (x : Int32) : okk (FA_list x c) (fun s => s 39 6 = nI (ixh x (nH m0)) ∧ (∀ h, h < nH m0 → tb x h = true → s 41 (ixh x h) = nI h) ∧ ∀ b, b ≠ 39 → b ≠ 41 → s b = c b) := by
  obtain ⟨b1, b2, b3⟩ := hg.2.1
  have L : ∀ (q i : Nat), i + q = nH m0 → ∀ f, q < f → ∀ M : gM, M 39 6 = nI (ixh x i) → (∀ h, h < i → tb x h = true → M 41 (ixh x h) = nI h) → (∀ b, b ≠ 39 → b ≠ 41 → M b = c b) → okk (FA_list_L7 x f (nI i) M) (fun s => s 39 6 = nI (ixh x (nH m0)) ∧ (∀ h, h < nH m0 → tb x h = true → s 41 (ixh x h) = nI h) ∧ ∀ b, b ≠ 39 → b ≠ 41 → s b = c b) := by
    intro q
    induction q with
    | zero =>
      intro i hi f hf M h1 h2 h3
      obtain ⟨f, rfl⟩ : ∃ g, f = g + 1 := ⟨f - 1, by omega⟩
      have : i = nH m0 := by omega
      subst this
      rw [FA_list_L7, h3 3 (by decide) (by decide), rg.1.2.2.1, hg.1.2.2, if_pos (Int32.le_refl _)]
      exact okk_some ⟨h1, h2, h3⟩
    | succ q ih =>
      intro i hi f hf M h1 h2 h3
      obtain ⟨f, rfl⟩ : ∃ g, f = g + 1 := ⟨f - 1, by omega⟩
      have hle := ixh_le (x := x) i
      rw [FA_list_L7, h3 3 (by decide) (by decide), rg.1.2.2.1, hg.1.2.2, if_neg (nI_ge (by omega) (by omega)), nI_1]
      rcases hb01 x (nI i) with e | e
      · have htb : ¬ tb x i = true := by unfold tb; rw [e]; decide
        rw [if_pos e]
        refine ih (i + 1) (by omega) f (by omega) M (by rw [ixh_f htb]; exact h1) (fun h hh ht => ?_) h3
        by_cases eh : h = i
        · rw [eh] at ht; exact absurd ht htb
        · exact h2 h (by omega) ht
      · have htb : tb x i = true := by unfold tb; rw [e]; rfl
        rw [if_neg (by rw [e]; decide), h1, r_put_in _ _ _ (show ixh x i < 8 by omega) (by decide)]
        refine okk_let (fun M5 e5 => ih (i + 1) (by omega) f (by omega) _ ?_ (fun h hh ht => ?_) (fun b hb1 hb2 => ?_))
        · rw [g_set_eq, e5, g_set_ne (by decide), h1, nI_1, ixh_t htb]
        · rw [g_set_ne (by decide), e5]
          by_cases eh : h = i
          · rw [eh, g_set_eq]
          · have : ixh x h ≠ ixh x i := fun w => eh (ixh_inj ht htb w)
            rw [g_set_k this]; exact h2 h (by omega) ht
        · rw [g_set_ne hb1, e5, g_set_ne hb2]; exact h3 b hb1 hb2
  unfold FA_list
  exact L (nH m0) 0 (by omega) 1000 (by omega) _ (by rw [g_set_eq]; rfl) (fun h hh => absurd hh (by omega)) (fun b hb1 hb2 => g_set_ne hb1)
/-- what the class works on for match: as it was but for the law's room and Matching's own -/
def eCm (c M : gM) : Prop := (∀ b, ¬ (b = 15 ∨ b = 18 ∨ (39 ≤ b ∧ b ≤ 43)) → M b = c b) ∧ M 15 3 = c 15 3 ∧ M 15 4 = c 15 4
theorem eCm.eC {c M : gM} (h : eCm c M) : eC c M := ⟨fun b hb => h.1 b (by omega), h.2⟩
/-- the list is laid -/
def mL (m0 : gM) (x : Int32) (c0 M : gM) : Prop := eCm c0 M ∧ M 39 6 = nI (ixh x (nH m0)) ∧ ∀ h, h < nH m0 → tb x h = true → M 41 (ixh x h) = nI h
theorem c_measure {c0 m0 : gM} (h0 : RR c0 m0) (x : Int32) {mm : Nat} (hm : mm ≤ 999) {c : gM} (hc : mL m0 x c0 c) : okk (FA_measure (nI mm) c) (fun s => mL m0 x c0 s ∧ (∀ i k, i < ixh x (nH m0) → k < nC m0 → s 42 (i * 8 + k) = nI (Dm m0 x mm i k)) ∧ ∀ b, ¬ (b = 15 ∨ b = 18 ∨ b = 42) → s b = c b) := by
  have hb := h0
  obtain ⟨t1, t2, ⟨hg, rg⟩, ⟨hl, rl⟩, t7, t8, t9, t10⟩ := hb
  obtain ⟨b1, b2, b3⟩ := hg.2.1
  have nle := ixh_le (x := x) (nH m0)
  have In : ∀ (c2 : Int32 → gM → Option gM) (i : Nat), i < ixh x (nH m0) → (∀ M, mL m0 x c0 M → (∀ j k, j < i + 1 → k < nC m0 → M 42 (j * 8 + k) = nI (Dm m0 x mm j k)) → okk (c2 (nI i + 1) M) (fun s => mL m0 x c0 s ∧ (∀ i k, i < ixh x (nH m0) → k < nC m0 → s 42 (i * 8 + k) = nI (Dm m0 x mm i k)))) → ∀ (q k : Nat), k + q = nC m0 → ∀ f, q < f → ∀ M, mL m0 x c0 M → (∀ j k2, j < i → k2 < nC m0 → M 42 (j * 8 + k2) = nI (Dm m0 x mm j k2)) → (∀ k2, k2 < k → M 42 (i * 8 + k2) = nI (Dm m0 x mm i k2)) → okk (FA_measure_L13 (nI mm) c2 f (nI i) (nI k) M) (fun s => mL m0 x c0 s ∧ (∀ i k, i < ixh x (nH m0) → k < nC m0 → s 42 (i * 8 + k) = nI (Dm m0 x mm i k))) := by
    intro c2 i hi K q
    induction q with
    | zero =>
      intro k hk f hf M h1 h2 h3
      obtain ⟨f, rfl⟩ : ∃ g, f = g + 1 := ⟨f - 1, by omega⟩
      have : k = nC m0 := by omega
      subst this
      rw [FA_measure_L13, h1.1.1 3 (by omega), rg.1.2.1, hg.1.2.1, if_pos (Int32.le_refl _)]
      refine K M h1 (fun j k2 hj hk2 => ?_)
      by_cases e : j = i
      · rw [e]; exact h3 k2 hk2
      · exact h2 j k2 (by omega) hk2
    | succ q ih =>
      intro k hk f hf M h1 h2 h3
      obtain ⟨f, rfl⟩ : ∃ g, f = g + 1 := ⟨f - 1, by omega⟩
      obtain ⟨h, hh, htb, hix⟩ := ixh_inv (nH m0) hi
      have eD : dst m0 mm h k = Dm m0 x mm i k := by
        unfold Dm
        rw [← hix, ho_e htb _ hh]
      have e41 : r_at (M 41) 8 (nI i) = nI h := by
        rw [r_at_in _ (show i < 8 by omega) (by decide), ← hix]
        exact h1.2.2 h hh htb
      rw [FA_measure_L13, h1.1.1 3 (by omega), rg.1.2.1, hg.1.2.1, if_neg (nI_ge (show k < nC m0 by omega) (by omega)), e41]
      obtain ⟨M2, e2, f2⟩ := c_longOf hg (eC_g h1.1.eC rg) (eC_law h1.1.eC rl) (a := 48) (by decide) (by decide) (r_st_m t8.2 (fun b u1 u2 => h1.1.1 b (by omega))) (k := k) (h := h) (by omega) hh
      refine okk_bind (okk_eq (P := fun z => z = (a_long m0 (m0 930) k h, M2)) e2 rfl) ?_
      rintro _ rfl
      dsimp only
      rw [(dst_e hg hm h k).2.1, show (8 : Int32) = nI 8 from rfl, pk_mul, nI_add, r_put_in _ _ _ (show i * 8 + k < 64 by omega) (by decide), nI_1, eD]
      have f42 : M2 42 = M 42 := f2.1 42 (by omega)
      refine okk_let (fun M3 e3 => ih (k + 1) (by omega) f (by omega) M3 ⟨⟨fun b hb => ?_, ?_, ?_⟩, ?_, fun h' hh' ht' => ?_⟩ (fun j k2 hj hk2 => ?_) (fun k2 hk2 => ?_))
      · rw [e3, g_set_ne (by omega), f2.1 b (by omega)]; exact h1.1.1 b hb
      · rw [e3, g_set_ne (by decide), f2.2.1]; exact h1.1.2.1
      · rw [e3, g_set_ne (by decide), f2.2.2]; exact h1.1.2.2
      · rw [e3, g_set_ne (by decide), f2.1 39 (by omega)]; exact h1.2.1
      · rw [e3, g_set_ne (by decide), f2.1 41 (by omega)]; exact h1.2.2 h' hh' ht'
      · rw [e3, g_set_k (show j * 8 + k2 ≠ i * 8 + k by omega), f42]; exact h2 j k2 hj hk2
      · rw [e3]
        by_cases e : k2 = k
        · rw [e, g_set_eq]
        · rw [g_set_k (show i * 8 + k2 ≠ i * 8 + k by omega), f42]; exact h3 k2 (by omega)
  have Out : ∀ (q i : Nat), i + q = ixh x (nH m0) → ∀ f, q < f → ∀ M, mL m0 x c0 M → (∀ j k, j < i → k < nC m0 → M 42 (j * 8 + k) = nI (Dm m0 x mm j k)) → okk (FA_measure_L2 (nI mm) f (nI i) M) (fun s => mL m0 x c0 s ∧ (∀ i k, i < ixh x (nH m0) → k < nC m0 → s 42 (i * 8 + k) = nI (Dm m0 x mm i k))) := by
    intro q
    induction q with
    | zero =>
      intro i hi f hf M h1 h2
      obtain ⟨f, rfl⟩ : ∃ g, f = g + 1 := ⟨f - 1, by omega⟩
      rw [FA_measure_L2, h1.2.1, if_pos (nI_le (show ixh x (nH m0) ≤ i by omega) (by omega))]
      exact okk_some ⟨h1, fun j k hj hk => h2 j k (by omega) hk⟩
    | succ q ih =>
      intro i hi f hf M h1 h2
      obtain ⟨f, rfl⟩ : ∃ g, f = g + 1 := ⟨f - 1, by omega⟩
      rw [FA_measure_L2, h1.2.1, if_neg (nI_ge (show i < ixh x (nH m0) by omega) (by omega))]
      exact In _ i (by omega) (fun M h1 h2 => by rw [nI_1]; exact ih (i + 1) (by omega) f (by omega) M h1 h2) (nC m0) 0 (by omega) 1000 (by omega) M h1 h2 (fun k2 hk2 => absurd hk2 (by omega))
  have key : okk (FA_measure (nI mm) c) (fun s => mL m0 x c0 s ∧ (∀ i k, i < ixh x (nH m0) → k < nC m0 → s 42 (i * 8 + k) = nI (Dm m0 x mm i k))) := Out (ixh x (nH m0)) 0 (by omega) 1000 (by omega) c hc (fun j k hj => absurd hj (by omega))
  refine okk_w (okk_fr key (fun R hR => w_FA_measure _ _ _ hR)) ?_
  rintro s ⟨⟨h1, h2⟩, h3⟩
  exact ⟨h1, h2, h3⟩
def ow (o : Option Nat) : Int32 := match o with
  | none => 1000000000
  | some v => nI v
/-- a sum with one more child, both known -/
theorem c_sumWith {m0 : gM} {x : Int32} {mm t k c : Nat} {M : gM} (hC : nC m0 ≤ 8) (ht : t < 2 ^ nC m0) (hk : k + 1 ≤ ixh x (nH m0)) (hn : ixh x (nH m0) ≤ 8) (hp : pc t = ixh x (nH m0) - (k + 1)) (hc : c < nC m0) (hf : fr t c = true) (hd : ∀ i k, i < ixh x (nH m0) → k < nC m0 → M 42 (i * 8 + k) = nI (Dm m0 x mm i k)) {v : Nat} (hv : M 43 (tk t c) = nI v) : FA_sumWith (nI t) (nI c) M = nI (Dm m0 x mm (ixh x (nH m0) - (k + 1)) c + v) := by
  have h256 := p2_8 (nC m0) (by omega)
  obtain ⟨t1, t2, t3⟩ := tk_8 t (by omega) c (by omega) hf
  have h2 := tk_C (nC m0) (by omega) t ht c hc
  obtain ⟨p1, -, p3⟩ := pc_e t (by omega)
  unfold FA_sumWith
  rw [p1, show (8 : Int32) = nI 8 from rfl, pk_mul, nI_add, r_at_in _ (show pc t * 8 + c < 64 by omega) (by decide), t1, r_at_in _ (show tk t c < 256 by omega) (by decide), hv, hp, hd _ c (by omega) hc, nI_add]
theorem c_findBests {c0 m0 : gM} (h0 : RR c0 m0) (x : Int32) {mm : Nat} (hm : mm ≤ 999) (hn : ixh x (nH m0) ≤ nC m0) {c : gM} (hc : mL m0 x c0 c) (hd : ∀ i k, i < ixh x (nH m0) → k < nC m0 → c 42 (i * 8 + k) = nI (Dm m0 x mm i k)) : okk (FA_findBests c) (fun s => (∀ t, t < 2 ^ nC m0 → pc t ≤ ixh x (nH m0) → ∃ v, v ≤ 8000 ∧ Wv (Dm m0 x mm) (nC m0) (ixh x (nH m0)) (ixh x (nH m0) - pc t) t = some v ∧ s 43 t = nI v) ∧ ∀ b, ¬ b = 43 → s b = c b) := by
  have hb := h0
  obtain ⟨t1, t2, ⟨hg, rg⟩, ⟨hl, rl⟩, t7, t8, t9, t10⟩ := hb
  obtain ⟨b1, b2, b3⟩ := hg.2.1
  have h256 := p2_8 (nC m0) (by omega)
  have hD : ∀ i c, Dm m0 x mm i c ≤ 999 := fun i c => (dst_e hg hm _ c).2.2
  obtain ⟨n, en⟩ : ∃ n, n = ixh x (nH m0) := ⟨_, rfl⟩
  have K35 : ∀ (c11 : Int32 → gM → Option gM) (t : Nat), t < 2 ^ nC m0 → ∀ M : gM, (∀ b, ¬ b = 43 → M b = c b) → (∀ u, t < u → u < 2 ^ nC m0 → pc u ≤ n → ∃ v, v ≤ 8000 ∧ Wv (Dm m0 x mm) (nC m0) n (n - pc u) u = some v ∧ M 43 u = nI v) → (∀ M2 : gM, (∀ b, ¬ b = 43 → M2 b = c b) → (∀ u, t ≤ u → u < 2 ^ nC m0 → pc u ≤ n → ∃ v, v ≤ 8000 ∧ Wv (Dm m0 x mm) (nC m0) n (n - pc u) u = some v ∧ M2 43 u = nI v) → okk (c11 (nI t + (-1)) M2) (fun s => (∀ t, t < 2 ^ nC m0 → pc t ≤ n → ∃ v, v ≤ 8000 ∧ Wv (Dm m0 x mm) (nC m0) n (n - pc t) t = some v ∧ s 43 t = nI v) ∧ ∀ b, ¬ b = 43 → s b = c b)) → ∀ (q k : Nat), k + q = nC m0 → ∀ f, q < f → ∀ best : Int32, ((n ≤ pc t ∧ best = 0) ∨ (∃ j, n - pc t = j + 1 ∧ pc t < n ∧ best = ow (mn (gW (Dm m0 x mm) (nC m0) n j t) k))) → okk (FA_findBests_L35 c11 f (nI t) best (nI k) M) (fun s => (∀ t, t < 2 ^ nC m0 → pc t ≤ n → ∃ v, v ≤ 8000 ∧ Wv (Dm m0 x mm) (nC m0) n (n - pc t) t = some v ∧ s 43 t = nI v) ∧ ∀ b, ¬ b = 43 → s b = c b) := by
    intro c11 t ht M g1 g2 K q
    have e3 : M 3 6 = nI (nC m0) := by rw [g1 3 (by decide), hc.1.1 3 (by omega), rg.1.2.1, hg.1.2.1]
    have e39 : M 39 6 = nI n := by rw [g1 39 (by decide), hc.2.1, en]
    obtain ⟨p1, -, p3⟩ := pc_e t (by omega)
    induction q with
    | zero =>
      intro k hk f hf best hbest
      obtain ⟨f, rfl⟩ : ∃ g, f = g + 1 := ⟨f - 1, by omega⟩
      have : k = nC m0 := by omega
      subst this
      rw [FA_findBests_L35, e3, if_pos (Int32.le_refl _), r_put_in _ _ _ (show t < 256 by omega) (by decide)]
      refine okk_let (fun M2 e2 => K M2 (fun b hb => by rw [e2, g_set_ne hb]; exact g1 b hb) (fun u hu1 hu2 hu3 => ?_))
      by_cases eu : u = t
      · rw [eu, e2, g_set_eq]
        rw [eu] at hu3
        rcases hbest with ⟨w1, w2⟩ | ⟨j, w1, w2, w3⟩
        · exact ⟨0, by omega, by rw [show n - pc t = 0 by omega]; rfl, w2⟩
        · obtain ⟨v, v1, v2⟩ := WA (D := Dm m0 x mm) (C := nC m0) (n := n) (by omega) (by omega) hD (j + 1) (by omega) t ht (by omega)
          rw [w1]
          refine ⟨v, by omega, v1, ?_⟩
          rw [w3, ← Wv_s, v1]
          rfl
      · obtain ⟨v, v1, v2, v3⟩ := g2 u (by omega) hu2 hu3
        exact ⟨v, v1, v2, by rw [e2, g_set_k eu]; exact v3⟩
    | succ q ih =>
      intro k hk f hf best hbest
      obtain ⟨f, rfl⟩ : ∃ g, f = g + 1 := ⟨f - 1, by omega⟩
      rw [FA_findBests_L35, e3, if_neg (nI_ge (show k < nC m0 by omega) (by omega)), e39, p1, nI_1]
      rcases hbest with ⟨w1, w2⟩ | ⟨j, w1, w2, w3⟩
      · rw [if_pos (nI_le w1 (by omega))]
        exact ih (k + 1) (by omega) f (by omega) best (Or.inl ⟨w1, w2⟩)
      · rw [if_neg (nI_ge w2 (by omega))]
        by_cases hf2 : fr t k = true
        · obtain ⟨u1, u2, u3⟩ := tk_8 t (by omega) k (by omega) hf2
          obtain ⟨v, v1, v2, v3⟩ := g2 (tk t k) u2 (tk_C (nC m0) (by omega) t ht k (by omega)) (by omega)
          rw [u3, show n - (pc t + 1) = j by omega] at v2
          have hs := c_sumWith (m0 := m0) (x := x) (mm := mm) (t := t) (k := j) (c := k) (M := M) b2 ht (by omega) (by omega) (by omega) (by omega) hf2 (fun i k hi hk => by rw [g1 42 (by decide)]; exact hd i k hi hk) v3
          rw [← en] at hs
          rw [if_pos (fr_i.mp hf2), hs]
          refine ih (k + 1) (by omega) f (by omega) _ (Or.inr ⟨j, w1, w2, ?_⟩)
          have hd9 := hD (n - (j + 1)) k
          rw [w3, mn_s, gW_t hf2 v2]
          cases ha : mn (gW (Dm m0 x mm) (nC m0) n j t) k with
          | none =>
            show m_min 1000000000 (nI _) = nI _
            unfold m_min
            rw [if_pos (show nI _ < 1000000000 from nI_lt (b := 1000000000) (by omega) (by decide))]
          | some a =>
            have hda : a ≤ 999 * (j + 1) := by
              obtain ⟨d, d1, d2, -⟩ := mn_at k a ha
              by_cases hf3 : fr t d = true
              · cases hw : Wv (Dm m0 x mm) (nC m0) n j (tk t d) with
                | none => rw [gW_n hf3 hw] at d2; cases d2
                | some v2 =>
                  rw [gW_t hf3 hw] at d2
                  have h1 := WC hD j _ _ hw
                  have h2 := hD (n - (j + 1)) d
                  have h3 : Dm m0 x mm (n - (j + 1)) d + v2 = a := Option.some.inj d2
                  omega
              · rw [gW_f hf3] at d2; cases d2
            show m_min (nI a) (nI _) = nI (if _ < a then _ else a)
            unfold m_min
            by_cases e : Dm m0 x mm (n - (j + 1)) k + v < a
            · rw [if_pos (nI_lt e (by omega)), if_pos e]
            · rw [if_neg (nI_nlt (by omega) (by omega)), if_neg e]
        · rw [if_neg (fun w => hf2 (fr_i.mpr w))]
          refine ih (k + 1) (by omega) f (by omega) best (Or.inr ⟨j, w1, w2, ?_⟩)
          rw [mn_s, gW_f hf2, omin_n2]
          exact w3
  have L11 : ∀ (q : Nat), q ≤ 2 ^ nC m0 → ∀ f, q < f → ∀ M : gM, (∀ b, ¬ b = 43 → M b = c b) → (∀ u, q ≤ u → u < 2 ^ nC m0 → pc u ≤ n → ∃ v, v ≤ 8000 ∧ Wv (Dm m0 x mm) (nC m0) n (n - pc u) u = some v ∧ M 43 u = nI v) → okk (FA_findBests_L11 f (nI q + (-1)) M) (fun s => (∀ t, t < 2 ^ nC m0 → pc t ≤ n → ∃ v, v ≤ 8000 ∧ Wv (Dm m0 x mm) (nC m0) n (n - pc t) t = some v ∧ s 43 t = nI v) ∧ ∀ b, ¬ b = 43 → s b = c b) := by
    intro q
    induction q with
    | zero =>
      intro hq f hf M g1 g2
      obtain ⟨f, rfl⟩ : ∃ g, f = g + 1 := ⟨f - 1, by omega⟩
      rw [FA_findBests_L11, if_pos (show nI 0 + (-1) < 0 by decide)]
      exact okk_some ⟨fun t ht hp => g2 t (by omega) ht hp, g1⟩
    | succ q ih =>
      intro hq f hf M g1 g2
      obtain ⟨f, rfl⟩ : ∃ g, f = g + 1 := ⟨f - 1, by omega⟩
      obtain ⟨p1, -, p3⟩ := pc_e q (by omega)
      have e39 : M 39 6 = nI n := by rw [g1 39 (by decide), hc.2.1, en]
      rw [FA_findBests_L11, nI_m1, if_neg (nI_pos (by omega)), p1, e39]
      have K := K35 (FA_findBests_L11 f) q (by omega) M g1 (fun u h1 h2 h3 => g2 u (by omega) h2 h3) (fun M2 h1 h2 => ih (by omega) f (by omega) M2 h1 h2) (nC m0) 0 (by omega) 1000 (by omega)
      by_cases e : pc q < n
      · rw [if_pos (nI_lt e (by omega))]
        exact K 1000000000 (Or.inr ⟨n - pc q - 1, by omega, e, rfl⟩)
      · rw [if_neg (nI_nlt (by omega) (by omega))]
        exact K 0 (Or.inl ⟨by omega, rfl⟩)
  unfold FA_findBests
  have e3 : c 3 6 = nI (nC m0) := by rw [hc.1.1 3 (by omega), rg.1.2.1, hg.1.2.1]
  obtain ⟨a1, a2, a3, a4⟩ := allOf_e (nC m0) b2
  have := L11 (2 ^ nC m0) (Nat.le_refl _) 1000 (by omega) c (fun _ _ => rfl) (fun u h1 h2 => absurd h2 (by omega))
  rw [show nI (2 ^ nC m0) + (-1) = nI (2 ^ nC m0 - 1) by rw [show 2 ^ nC m0 = (2 ^ nC m0 - 1) + 1 by omega, nI_m1, Nat.add_sub_cancel]] at this
  rw [e3, a1, ← en]
  exact this
theorem c_choose {m0 : gM} (hg : v_g m0) (x : Int32) {mm : Nat} (hm : mm ≤ 999) (hn : ixh x (nH m0) ≤ nC m0) {c : gM} (e3 : c 3 6 = nI (nC m0)) (e39 : c 39 6 = nI (ixh x (nH m0))) (e41 : ∀ h, h < nH m0 → tb x h = true → c 41 (ixh x h) = nI h) (hd : ∀ i k, i < ixh x (nH m0) → k < nC m0 → c 42 (i * 8 + k) = nI (Dm m0 x mm i k)) (hw : ∀ t, t < 2 ^ nC m0 → pc t ≤ ixh x (nH m0) → ∃ v, v ≤ 8000 ∧ Wv (Dm m0 x mm) (nC m0) (ixh x (nH m0)) (ixh x (nH m0) - pc t) t = some v ∧ c 43 t = nI v) : ∀ (k i t : Nat), i + k = ixh x (nH m0) → t < 2 ^ nC m0 → pc t = i → ∀ f, k < f → ∀ M : gM, (∀ b, ¬ b = 40 → M b = c b) → okk (FA_choose_L4 f (nI t) (nI i) M) (fun s => (∀ b, ¬ b = 40 → s b = c b) ∧ ∃ p, Pp (Dm m0 x mm) (nC m0) (ixh x (nH m0)) k t p ∧ ∀ h, h < 8 → s 40 h = if h < nH m0 ∧ tb x h = true ∧ i ≤ ixh x h then nI (p (ixh x h)) else M 40 h) := by
  obtain ⟨b1, b2, b3⟩ := hg.2.1
  have h256 := p2_8 (nC m0) (by omega)
  have hD : ∀ i c, Dm m0 x mm i c ≤ 999 := fun i c => (dst_e hg hm _ c).2.2
  have nle := ixh_le (x := x) (nH m0)
  intro k
  induction k with
  | zero =>
    intro i t hi ht hp f hf M hM
    obtain ⟨f, rfl⟩ : ∃ g, f = g + 1 := ⟨f - 1, by omega⟩
    rw [FA_choose_L4, hM 39 (by decide), e39, if_pos (nI_le (show ixh x (nH m0) ≤ i by omega) (by omega))]
    refine okk_some ⟨hM, fun _ => 0, trivial, fun h hh => ?_⟩
    rw [if_neg]
    rintro ⟨q1, q2, q3⟩
    have := ixh_lt q2 q1
    omega
  | succ k ih =>
    intro i t hi ht hp f hf M hM
    obtain ⟨f, rfl⟩ : ∃ g, f = g + 1 := ⟨f - 1, by omega⟩
    rw [FA_choose_L4, hM 39 (by decide), e39, if_neg (nI_ge (show i < ixh x (nH m0) by omega) (by omega))]
    obtain ⟨w, w1, w2, w3⟩ := hw t ht (by omega)
    rw [show ixh x (nH m0) - pc t = k + 1 by omega] at w2
    obtain ⟨d, d1, d2, d3⟩ := mn_at (nC m0) w (by rw [← Wv_s]; exact w2)
    have ein : ixh x (nH m0) - (k + 1) = i := by omega
    obtain ⟨hh, hh1, hh2, hh3⟩ := ixh_inv (x := x) (i := i) (nH m0) (by omega)
    have L : ∀ (q a : Nat), a + q = d → ∀ fl, q < fl → okk (FA_choose_L14 (FA_choose_L4 f) fl (nI t) (nI i) (nI a) M) (fun s => (∀ b, ¬ b = 40 → s b = c b) ∧ ∃ p, Pp (Dm m0 x mm) (nC m0) (ixh x (nH m0)) (k + 1) t p ∧ ∀ h, h < 8 → s 40 h = if h < nH m0 ∧ tb x h = true ∧ i ≤ ixh x h then nI (p (ixh x h)) else M 40 h) := by
      -- is this child's sum the least?
      have sumw : ∀ a, a < nC m0 → fr t a = true → ∃ v, gW (Dm m0 x mm) (nC m0) (ixh x (nH m0)) k t a = some v ∧ v ≤ 9000 ∧ FA_sumWith (nI t) (nI a) M = nI v := by
        intro a ha hf2
        obtain ⟨u1, u2, u3⟩ := tk_8 t (by omega) a (by omega) hf2
        obtain ⟨v, v1, v2, v3⟩ := hw (tk t a) (tk_C (nC m0) (by omega) t ht a ha) (by omega)
        rw [u3, show ixh x (nH m0) - (pc t + 1) = k by omega] at v2
        have h9 := hD (ixh x (nH m0) - (k + 1)) a
        exact ⟨_, gW_t hf2 v2, by omega, c_sumWith (m0 := m0) (x := x) (mm := mm) b2 ht (by omega) (by omega) (by omega) ha hf2 (fun i k hi hk => by rw [hM 42 (by decide)]; exact hd i k hi hk) (by rw [hM 43 (by decide)]; exact v3)⟩
      have e43 : r_at (M 43) 256 (nI t) = nI w := by rw [hM 43 (by decide), r_at_in _ (show t < 256 by omega) (by decide), w3]
      intro q
      induction q with
      | zero =>
        intro a ha fl hfl
        obtain ⟨fl, rfl⟩ : ∃ g, fl = g + 1 := ⟨fl - 1, by omega⟩
        have : a = d := by omega
        subst this
        have hf2 : fr t a = true := by
          by_cases q : fr t a = true
          · exact q
          · rw [gW_f q] at d2; cases d2
        obtain ⟨u1, u2, u3⟩ := tk_8 t (by omega) a (by omega) hf2
        obtain ⟨v, v1, v2, v3⟩ := sumw a d1 hf2
        rw [d2] at v1
        cases v1
        rw [FA_choose_L14, hM 3 (by decide), e3, if_neg (nI_ge d1 (by omega)), if_pos (fr_i.mp hf2), v3, e43, if_pos rfl, hM 41 (by decide), r_at_in _ (show i < 8 by omega) (by decide)]
        have e41' := e41 hh hh1 hh2
        rw [hh3] at e41'
        rw [e41', r_put_in _ _ _ (show hh < 8 by omega) (by decide), u1, nI_1]
        refine okk_let (fun M6 e6 => ?_)
        refine okk_w (ih (i + 1) (tk t a) (by omega) (tk_C (nC m0) (by omega) t ht a d1) (by omega) f (by omega) M6 (fun b hb => by rw [e6, g_set_ne hb]; exact hM b hb)) ?_
        rintro s ⟨s1, p, s2, s3⟩
        refine ⟨s1, pA1 p i a, ?_, fun h h8 => ?_⟩
        · rw [← ein]
          exact Pp_1 (by omega) d1 w2 d2 d3 s2
        · rw [s3 h h8, e6]
          unfold pA1
          by_cases eh : h = hh
          · subst eh
            rw [if_neg (by omega), g_set_eq, if_pos ⟨hh1, hh2, by omega⟩, if_pos hh3]
          · rw [g_set_k eh]
            by_cases c1 : h < nH m0 ∧ tb x h = true ∧ i + 1 ≤ ixh x h
            · rw [if_pos c1, if_pos ⟨c1.1, c1.2.1, by omega⟩, if_neg (by omega)]
            · rw [if_neg c1, if_neg]
              rintro ⟨q1, q2, q3⟩
              have : ixh x h ≠ i := fun w => eh (ixh_inj q2 hh2 (by omega))
              exact c1 ⟨q1, q2, by omega⟩
      | succ q ihq =>
        intro a ha fl hfl
        obtain ⟨fl, rfl⟩ : ∃ g, fl = g + 1 := ⟨fl - 1, by omega⟩
        rw [FA_choose_L14, hM 3 (by decide), e3, if_neg (nI_ge (show a < nC m0 by omega) (by omega)), nI_1 a]
        by_cases hf2 : fr t a = true
        · obtain ⟨v, v1, v2, v3⟩ := sumw a (by omega) hf2
          rw [if_pos (fr_i.mp hf2), v3, e43, if_neg]
          · exact ihq (a + 1) (by omega) fl (by omega)
          · intro q
            have := (nI_eq (by omega) (by omega)).mp q
            exact d3 a (by omega) (by rw [v1, this])
        · rw [if_neg (fun w => hf2 (fr_i.mpr w))]
          exact ihq (a + 1) (by omega) fl (by omega)
    exact L d 0 (by omega) 1000 (by omega)
/-- who bowls which: told in a State of affairs -/
def Ms (m0 : gM) (x : Int32) (mm : Nat) (least : Int32) (row : Nat → Int32) : Prop := (nC m0 < ixh x (nH m0) ∧ least = -1 ∧ ∀ h, h < 8 → row h = -1) ∨ (ixh x (nH m0) ≤ nC m0 ∧ ∃ v p, Wv (Dm m0 x mm) (nC m0) (ixh x (nH m0)) (ixh x (nH m0)) 0 = some v ∧ least = nI v ∧ Pp (Dm m0 x mm) (nC m0) (ixh x (nH m0)) (ixh x (nH m0)) 0 p ∧ ∀ h, h < 8 → row h = if h < nH m0 ∧ tb x h = true then nI (p (ixh x h)) else -1)
theorem Ms_u {m0 : gM} {x : Int32} {mm : Nat} {a b : Int32} {r s : Nat → Int32} (h1 : Ms m0 x mm a r) (h2 : Ms m0 x mm b s) : a = b ∧ ∀ h, h < 8 → r h = s h := by
  rcases h1 with ⟨u1, u2, u3⟩ | ⟨u1, v, p, u2, u3, u4, u5⟩
  · rcases h2 with ⟨w1, w2, w3⟩ | ⟨w1, -⟩
    · exact ⟨u2.trans w2.symm, fun h hh => (u3 h hh).trans (w3 h hh).symm⟩
    · omega
  · rcases h2 with ⟨w1, -⟩ | ⟨w1, v2, p2, w2, w3, w4, w5⟩
    · omega
    · rw [u2] at w2
      cases w2
      refine ⟨u3.trans w3.symm, fun h hh => ?_⟩
      rw [u5 h hh, w5 h hh]
      by_cases e : h < nH m0 ∧ tb x h = true
      · rw [if_pos e, if_pos e, Pp_u _ (Nat.le_refl _) 0 p p2 u4 w4 (ixh x h) (by omega) (ixh_lt e.2 e.1)]
      · rw [if_neg e, if_neg e]
theorem c_solve {c m0 : gM} (h0 : RR c m0) (x : Int32) {mm : Nat} (hm : mm ≤ 999) : okk (FA_solve x (nI mm) c) (fun s => eC c s ∧ Ms m0 x mm (s 39 7) (s 40)) := by
  have hb := h0
  obtain ⟨t1, t2, ⟨hg, rg⟩, ⟨hl, rl⟩, t7, t8, t9, t10⟩ := hb
  obtain ⟨b1, b2, b3⟩ := hg.2.1
  have nle := ixh_le (x := x) (nH m0)
  have hD : ∀ i c, Dm m0 x mm i c ≤ 999 := fun i c => (dst_e hg hm _ c).2.2
  obtain ⟨a1, a2, a3, a4⟩ := allOf_e (nC m0) b2
  unfold FA_solve
  refine okk_let (fun M1 e1 => ?_)
  have f1 : ∀ b, ¬ b = 40 → M1 b = c b := fun b hb => by rw [e1]; exact r_fill_ne hb
  have f40 : ∀ h, h < 8 → M1 40 h = -1 := fun h hh => by rw [e1]; unfold r_fill; rw [if_pos rfl, if_pos hh]
  have g1 : ∀ b, ¬ b = 40 → ¬ b = 39 → g_set M1 39 7 (-1) b = c b := fun b hb hb2 => by rw [g_set_ne hb2]; exact f1 b hb
  have rg1 : r_g (g_set M1 39 7 (-1)) m0 := by
    unfold r_g
    rw [g1 3 (by decide) (by decide), g1 4 (by decide) (by decide), g1 5 (by decide) (by decide), g1 6 (by decide) (by decide), g1 7 (by decide) (by decide), g1 8 (by decide) (by decide)]
    exact rg
  refine okk_bind (okk_fr (c_list hg rg1 x) (fun R hR => okk_some (α := gM) (x := R) (P := fun R => R 39 7 = -1) ?_)) ?_
  · -- the least stays
    have L : ∀ (q i : Nat), i + q = nH m0 → ∀ f, q < f → ∀ M : gM, M 3 7 = nI (nH m0) → M 39 7 = -1 → ∀ R, FA_list_L7 x f (nI i) M = some R → R 39 7 = -1 := by
      intro q
      induction q with
      | zero =>
        intro i hi f hf M h1 h2 R hR
        obtain ⟨f, rfl⟩ : ∃ g, f = g + 1 := ⟨f - 1, by omega⟩
        have : i = nH m0 := by omega
        subst this
        rw [FA_list_L7, h1, if_pos (Int32.le_refl _)] at hR
        cases hR
        exact h2
      | succ q ih =>
        intro i hi f hf M h1 h2 R hR
        obtain ⟨f, rfl⟩ : ∃ g, f = g + 1 := ⟨f - 1, by omega⟩
        rw [FA_list_L7, h1, if_neg (nI_ge (by omega) (by omega)), nI_1] at hR
        rcases hb01 x (nI i) with e | e
        · rw [if_pos e] at hR
          exact ih (i + 1) (by omega) f (by omega) M h1 h2 R hR
        · rw [if_neg (by rw [e]; decide)] at hR
          refine ih (i + 1) (by omega) f (by omega) _ ?_ ?_ R hR
          · rw [g_set_ne (by decide), r_put_ne (by decide)]; exact h1
          · rw [g_set_k (by decide), r_put_ne (by decide)]; exact h2
    unfold FA_list at hR
    refine L (nH m0) 0 (by omega) 1000 (by omega) _ ?_ ?_ R hR
    · rw [g_set_ne (by decide), g1 3 (by decide) (by decide), rg.1.2.2.1, hg.1.2.2]
    · rw [g_set_k (by decide), g_set_eq]
  rintro s2 ⟨⟨l1, l2, l3⟩, lq⟩
  obtain ⟨sR, sR1, l7⟩ := lq
  have l7 : s2 39 7 = -1 := by cases sR1; exact l7
  have s3 : ∀ b, ¬ (b = 39 ∨ b = 40 ∨ b = 41) → s2 b = c b := fun b hb => by rw [l3 b (by omega) (by omega)]; exact g1 b (by omega) (by omega)
  have s40 : ∀ h, h < 8 → s2 40 h = -1 := fun h hh => by rw [l3 40 (by decide) (by decide), g_set_ne (by decide)]; exact f40 h hh
  have hL : mL m0 x c s2 := ⟨⟨fun b hb => s3 b (by omega), by rw [s3 15 (by omega)], by rw [s3 15 (by omega)]⟩, l1, l2⟩
  rw [l1, s3 3 (by omega), rg.1.2.1, hg.1.2.1]
  by_cases hn : ixh x (nH m0) ≤ nC m0
  · rw [if_pos (nI_le hn (by omega))]
    refine okk_bind (c_measure h0 x hm hL) ?_
    rintro s4 ⟨m1, m2, m3⟩
    refine okk_bind (c_findBests h0 x hm hn m1 m2) ?_
    rintro s5 ⟨n1, n2⟩
    obtain ⟨v, v1, v2, v3⟩ := n1 0 (by omega) (by rw [pc_0]; omega)
    rw [pc_0, Nat.sub_zero] at v2
    rw [show r_at (s5 43) 256 (0 : Int32) = nI v from by rw [show (0 : Int32) = nI 0 from rfl, r_at_in _ (by decide) (by decide)]; exact v3]
    have z : ∀ b, ¬ b = 39 → ¬ b = 43 → ¬ b = 42 → ¬ b = 15 → ¬ b = 18 → g_set s5 39 7 (nI v) b = s2 b := fun b h1 h2 h3 h4 h5 => by rw [g_set_ne h1, n2 b h2, m3 b (by omega)]
    have K := c_choose hg x hm hn (c := g_set s5 39 7 (nI v)) (by rw [z 3 (by decide) (by decide) (by decide) (by decide) (by decide), s3 3 (by omega), rg.1.2.1, hg.1.2.1]) (by rw [g_set_k (by decide), n2 39 (by decide)]; exact m1.2.1) (fun h hh ht => by rw [g_set_ne (by decide), n2 41 (by decide)]; exact m1.2.2 h hh ht) (fun i k hi hk => by rw [g_set_ne (by decide), n2 42 (by decide)]; exact m2 i k hi hk) (fun t ht hp => by rw [g_set_ne (by decide)]; exact n1 t ht hp) (ixh x (nH m0)) 0 0 (by omega) (by omega) pc_0 1000 (by omega) (g_set s5 39 7 (nI v)) (fun _ _ => rfl)
    refine okk_bind K ?_
    rintro s6 ⟨k1, p, k2, k3⟩
    refine okk_some ⟨⟨fun b hb => ?_, ?_, ?_⟩, Or.inr ⟨hn, v, p, v2, ?_, k2, fun h hh => ?_⟩⟩
    · rw [k1 b (by omega), g_set_ne (by omega), n2 b (by omega)]; exact m1.1.1 b (by omega)
    · rw [k1 15 (by decide), g_set_ne (by decide), n2 15 (by decide)]; exact m1.1.2.1
    · rw [k1 15 (by decide), g_set_ne (by decide), n2 15 (by decide)]; exact m1.1.2.2
    · rw [k1 39 (by decide), g_set_eq]
    · rw [k3 h hh, z 40 (by decide) (by decide) (by decide) (by decide) (by decide), s40 h hh]
      by_cases e : h < nH m0 ∧ tb x h = true
      · rw [if_pos ⟨e.1, e.2, by omega⟩, if_pos e]
      · rw [if_neg (fun w => e ⟨w.1, w.2.1⟩), if_neg e]
  · rw [if_neg (nI_ge (by omega) (by omega))]
    exact okk_some ⟨⟨fun b hb => s3 b (by omega), by rw [s3 15 (by omega)], by rw [s3 15 (by omega)]⟩, Or.inl ⟨by omega, l7, s40⟩⟩
theorem m_matches {m0 : gM} (hg : v_g m0) (hl : v_law m0) (x : Int32) {mm : Nat} (hm : mm ≤ 999) : okk (FM_matches x (nI mm) m0) (fun s => eM m0 s ∧ Ms m0 x mm (s 464 43) (s 954)) := by
  obtain ⟨b1, b2, b3⟩ := hg.2.1
  have hD : ∀ i c, Dm m0 x mm i c ≤ 999 := fun i c => (dst_e hg hm _ c).2.2
  have p0 : 0 < 2 ^ nC m0 := Nat.pow_pos (by decide)
  have L : ∀ (q i : Nat), i + q = 8 → ∀ f, q < f → ∀ M, GM m0 M → M 464 43 = -1 → (∀ h, h < i → M 954 h = -1) → okk (FM_matches_L7 x (nI mm) f (nI i) M) (fun s => eM m0 s ∧ Ms m0 x mm (s 464 43) (s 954)) := by
    intro q
    induction q with
    | zero =>
      intro i hi f hf M h1 h2 h3
      obtain ⟨f, rfl⟩ : ∃ g, f = g + 1 := ⟨f - 1, by omega⟩
      have : i = 8 := by omega
      subst this
      rw [FM_matches_L7, if_pos (show (8 : Int32) ≤ nI 8 from Int32.le_refl _)]
      refine okk_bind (m_gives hg hl x hm (nH m0) 0 (by omega) 12 (by omega) 0 0 none M p0 pc_0 (by omega) h1 (Or.inl ⟨rfl, h2⟩)) ?_
      rintro s ⟨g1, g2, g3⟩
      refine okk_some ⟨g1.eM, ?_⟩
      have e0 : ixh x (nH m0) - ixh x 0 = ixh x (nH m0) := Nat.sub_zero _
      unfold Gres at g3
      rw [e0] at g3
      rcases g3 with ⟨w1, w2, w3⟩ | ⟨v, p, w1, w2, w3, w4, w5⟩
      · left
        refine ⟨?_, by rw [w2, h2], fun h hh => by rw [w3]; exact h3 h hh⟩
        rcases Nat.lt_or_ge (nC m0) (ixh x (nH m0)) with q | q
        · exact q
        · obtain ⟨v, v1, -⟩ := WA (D := Dm m0 x mm) (C := nC m0) (n := ixh x (nH m0)) (by omega) q hD (ixh x (nH m0)) (Nat.le_refl _) 0 p0 (by rw [pc_0]; omega)
          obtain ⟨l, l1, -⟩ := w1 v v1
          cases l1
      · right
        refine ⟨?_, v, p, w1, by rw [w3, Nat.zero_add], w4, fun h hh => ?_⟩
        · rcases Nat.lt_or_ge (nC m0) (ixh x (nH m0)) with q | q
          · rw [WB (D := Dm m0 x mm) (C := nC m0) (n := ixh x (nH m0)) (by omega) q (ixh x (nH m0)) (Nat.le_refl _) 0 p0 (by rw [pc_0]; omega)] at w1
            cases w1
          · exact q
        · rw [w5 h hh]
          unfold gvn
          rw [if_neg (by omega)]
          by_cases e : h < nH m0
          · rw [if_pos e]
            by_cases e2 : tb x h = true
            · rw [if_pos e2, if_pos ⟨e, e2⟩]
            · rw [if_neg e2, if_neg (fun w => e2 w.2)]
          · rw [if_neg e, if_neg (fun w => e w.1)]
            exact h3 h hh
    | succ q ih =>
      intro i hi f hf M h1 h2 h3
      obtain ⟨f, rfl⟩ : ∃ g, f = g + 1 := ⟨f - 1, by omega⟩
      rw [FM_matches_L7, if_neg (show ¬ (8 : Int32) ≤ nI i from nI_ge (b := 8) (by omega) (by decide)), ix_in (by omega) (by decide), nI_1]
      refine okk_let (fun M4 e4 => ih (i + 1) (by omega) f (by omega) M4 (by rw [e4]; exact GM_set h1 (by omega)) (by rw [e4, g_set_ne (by decide)]; exact h2) (fun h hh => ?_))
      rw [e4]
      by_cases e : h = i
      · rw [e, g_set_eq]
      · rw [g_set_k e]; exact h3 h (by omega)
  unfold FM_matches
  exact L 8 0 (by omega) 1000 (by omega) _ (GM_set ⟨fun _ _ => rfl, fun _ _ => rfl⟩ (by omega)) (g_set_eq _ _ _ _) (fun h hh => absurd hh (by omega))

theorem q_match {c m : gM} (h : RR c m) (x mm : Int32) : qq 1 (FX_match x mm c) (FM_match x mm m) := by
  have h0 := RR_t h 0
  obtain ⟨m0, e0⟩ : ∃ y, y = g_set m 464 0 0 := ⟨_, rfl⟩
  rw [← e0] at h0
  have z0 : m0 464 0 = 0 := by rw [e0, g_set_eq]
  have hb := h0
  obtain ⟨t1, t2, ⟨hg, rg⟩, ⟨hl, rl⟩, t7, t8, t9, t10⟩ := hb
  have rs := t8.2
  have hv := t8.1.1
  unfold FX_match FM_match
  rw [← e0]
  rcases nd_bH rg x with ⟨f1, ax, bx, x1⟩ | ⟨f1, x1⟩
  · refine qq_bX x1 (qq_tX rfl (qq_fM (by rw [f1]; decide) ?_))
    rcases c_needIn c mm 0 999 with ⟨f2, amm, bmm, x2⟩ | ⟨f2, x2⟩
    · refine qq_bX x2 (qq_tX rfl (qq_fM (by rw [f2]; decide) ?_))
      unfold FM_match_J30
      refine qq_bM (m_bad0 z0 _ _) (qq_tM rfl ?_)
      dsimp only
      obtain ⟨M, hM, rfl⟩ := nI_of2 (n := 999) (by decide) amm bmm
      obtain ⟨c1, e1, f1, f2⟩ := c_solve h0 x hM
      obtain ⟨m1, e2, g1, g2⟩ := m_matches hg hl x hM
      refine qq_bX e1 (qq_bM e2 ?_)
      exact qq_v (by rw [g1.2.1]; exact z0) (RR_e h0 f1 g1) (Ms_u f2 g2).1
    · refine qq_bX x2 (qq_fX n20 (qq_tM f2 ?_))
      unfold FM_match_J25
      unfold FM_match_J30
      refine qq_bM (m_bad_il z0 (by decide)) (qq_fM i10 ?_)
      exact qq_il h0
  · refine qq_bX x1 (qq_fX n20 (qq_tM f1 ?_))
    unfold FM_match_J25
    unfold FM_match_J30
    refine qq_bM (m_bad_il z0 (by decide)) (qq_fM i10 ?_)
    exact qq_il h0

theorem q_matched {c m : gM} (h : RR c m) (x mm hh : Int32) : qq 2 (FX_matched x mm hh c) (FM_matched x mm hh m) := by
  have h0 := RR_t h 0
  obtain ⟨m0, e0⟩ : ∃ y, y = g_set m 464 0 0 := ⟨_, rfl⟩
  rw [← e0] at h0
  have z0 : m0 464 0 = 0 := by rw [e0, g_set_eq]
  have hb := h0
  obtain ⟨t1, t2, ⟨hg, rg⟩, ⟨hl, rl⟩, t7, t8, t9, t10⟩ := hb
  have rs := t8.2
  have hv := t8.1.1
  unfold FX_matched FM_matched
  rw [← e0]
  rcases nd_H hg rg hh with ⟨f1, ⟨jhh, hhh, rfl⟩, x1⟩ | ⟨f1, x1⟩
  · refine qq_bX x1 (qq_tX rfl (qq_fM (by rw [f1]; decide) ?_))
    unfold FM_matched_J19
    refine qq_bM (m_bad0 z0 _ _) (qq_tM rfl ?_)
    rcases nd_bH rg x with ⟨f2, ax, bx, x2⟩ | ⟨f2, x2⟩
    · refine qq_bX x2 (qq_tX rfl (qq_fM (by rw [f2]; decide) ?_))
      rcases c_needIn c mm 0 999 with ⟨f3, amm, bmm, x3⟩ | ⟨f3, x3⟩
      · refine qq_bX x3 (qq_tX rfl (qq_fM (by rw [f3]; decide) ?_))
        unfold FM_matched_J52
        refine qq_bM (m_bad0 z0 _ _) (qq_tM rfl ?_)
        dsimp only
        have h8 : jhh < 8 := by have := hg.2.1.2.2; omega
        obtain ⟨M, hM, rfl⟩ := nI_of2 (n := 999) (by decide) amm bmm
        obtain ⟨c1, e1, f1, f2⟩ := c_solve h0 x hM
        obtain ⟨m1, e2, g1, g2⟩ := m_matches hg hl x hM
        refine qq_bX e1 (qq_bM e2 ?_)
        rw [ix_in h8 (by decide), r_at_in _ h8 (by decide)]
        exact qq_v (by rw [g1.2.1]; exact z0) (RR_e h0 f1 g1) ((Ms_u f2 g2).2 jhh h8)
      · refine qq_bX x3 (qq_fX n20 (qq_tM f3 ?_))
        unfold FM_matched_J47
        unfold FM_matched_J52
        refine qq_bM (m_bad_il z0 (by decide)) (qq_fM i10 ?_)
        exact qq_il h0
    · refine qq_bX x2 (qq_fX n20 (qq_tM f2 ?_))
      unfold FM_matched_J47
      unfold FM_matched_J52
      refine qq_bM (m_bad_il z0 (by decide)) (qq_fM i10 ?_)
      exact qq_il h0
  · refine qq_bX x1 (qq_fX n10 (qq_tM f1 ?_))
    unfold FM_matched_J19
    refine qq_bM (m_bad_no z0 (by decide)) (qq_fM i10 ?_)
    exact qq_no h0
