/-! The model's search. -/
theorem WC {D : Nat → Nat → Nat} {C n : Nat} (hD : ∀ i c, D i c ≤ 999) : ∀ k t v, Wv D C n k t = some v → v ≤ 999 * k := by
  intro k
  induction k with
  | zero =>
    intro t v h
    have : (0 : Nat) = v := Option.some.inj h
    omega
  | succ k ih =>
    intro t v h
    rw [Wv_s] at h
    obtain ⟨c, c1, c2, -⟩ := mn_at C v h
    by_cases hf : fr t c = true
    · cases hw : Wv D C n k (tk t c) with
      | none => rw [gW_n hf hw] at c2; cases c2
      | some u =>
        rw [gW_t hf hw] at c2
        have h1 := ih _ _ hw
        have h2 := hD (n - (k + 1)) c
        have h3 : D (n - (k + 1)) c + u = v := Option.some.inj c2
        omega
    · rw [gW_f hf] at c2; cases c2
/-- what the search leaves of the model -/
def GM (m0 M : gM) : Prop := (∀ b, ¬ (b = 464 ∨ (847 ≤ b ∧ b ≤ 848) ∨ (953 ≤ b ∧ b ≤ 954)) → M b = m0 b) ∧ ∀ k, k ≠ 43 → M 464 k = m0 464 k
theorem GM.eM {m0 M : gM} (h : GM m0 M) : eM m0 M := ⟨fun b hb => h.1 b (by omega), h.2 0 (by decide), h.2 1 (by decide), h.2 3 (by decide), h.2 19 (by decide), h.2 33 (by decide), h.2 34 (by decide), h.2 35 (by decide), h.2 36 (by decide)⟩
theorem GM_set {m0 M : gM} (h : GM m0 M) {a k : Nat} {x : Int32} (ha : a = 953 ∨ a = 954 ∨ (a = 464 ∧ k = 43)) : GM m0 (g_set M a k x) := by
  refine ⟨fun b hb => ?_, fun q hq => ?_⟩
  · rw [g_set_ne (by omega)]; exact h.1 b hb
  · by_cases e : a = 464
    · subst e
      rw [g_set_k (by omega)]; exact h.2 q hq
    · rw [g_set_ne (Ne.symm e)]; exact h.2 q hq
theorem GM_0 {m0 M M2 : gM} (h : GM m0 M) (h2 : eM0 M M2) : GM m0 M2 := ⟨fun b hb => by rw [h2 b (by omega)]; exact h.1 b hb, fun k hk => by rw [h2 464 (by omega)]; exact h.2 k hk⟩
def Lm (M : gM) (o : Option Nat) : Prop := (o = none ∧ M 464 43 = -1) ∨ ∃ l, l ≤ 8000 ∧ o = some l ∧ M 464 43 = nI l
/-- D, told by m0 -/
def Dm (m0 : gM) (x : Int32) (mm : Nat) (i c : Nat) : Nat := dst m0 mm (ho x (nH m0) i) c
def gvn (m0 : gM) (x : Int32) (M : gM) (p : Nat → Nat) (h y : Nat) : Int32 := if y < h then M 953 y else if y < nH m0 then (if tb x y = true then nI (p (ixh x y)) else -1) else M 954 y
/-- what a search from hoop h gives, o the least so far -/
def Gres (m0 : gM) (x : Int32) (mm h t s : Nat) (o : Option Nat) (M M2 : gM) : Prop := ((∀ v, Wv (Dm m0 x mm) (nC m0) (ixh x (nH m0)) (ixh x (nH m0) - ixh x h) t = some v → ∃ l, o = some l ∧ l ≤ s + v) ∧ M2 464 43 = M 464 43 ∧ M2 954 = M 954) ∨ ∃ v p, Wv (Dm m0 x mm) (nC m0) (ixh x (nH m0)) (ixh x (nH m0) - ixh x h) t = some v ∧ (∀ l, o = some l → s + v < l) ∧ M2 464 43 = nI (s + v) ∧ Pp (Dm m0 x mm) (nC m0) (ixh x (nH m0)) (ixh x (nH m0) - ixh x h) t p ∧ ∀ y, y < 8 → M2 954 y = gvn m0 x M p h y
theorem m_lay {m0 M : gM} (hM : GM m0 M) (x t s m : Int32) (rg : Int32 → Int32 → Int32 → Int32 → Int32 → gM → Option gM) {h : Nat} (h8 : h ≤ 8) : ∀ (q i : Nat), i + q = h → ∀ f, q < f → ∀ M1, GM m0 M1 → (∀ b, b ≠ 954 → M1 b = M b) → (∀ y, M1 954 y = if y < i then M 953 y else M 954 y) → okk (FM_gives_L37 x (nI h) t s m rg f (nI i) M1) (fun M2 => GM m0 M2 ∧ (∀ b, b ≠ 954 → M2 b = M b) ∧ ∀ y, M2 954 y = if y < h then M 953 y else M 954 y) := by
  intro q
  induction q with
  | zero =>
    intro i hi f hf M1 h1 h2 h3
    obtain ⟨f, rfl⟩ : ∃ g, f = g + 1 := ⟨f - 1, by omega⟩
    have : i = h := by omega
    subst this
    rw [FM_gives_L37, if_pos (Int32.le_refl (nI i))]
    exact okk_some ⟨h1, h2, h3⟩
  | succ q ih =>
    intro i hi f hf M1 h1 h2 h3
    obtain ⟨f, rfl⟩ : ∃ g, f = g + 1 := ⟨f - 1, by omega⟩
    rw [FM_gives_L37, if_neg (nI_ge (show i < h by omega) (by omega)), ix_in (show i < 8 by omega) (by decide), ix_in (show i < 8 by omega) (by decide), nI_1]
    refine okk_let (fun M4 e4 => ih (i + 1) (by omega) f (by omega) M4 ?_ (fun b hb => ?_) (fun y => ?_))
    · rw [e4]; exact GM_set h1 (by omega)
    · rw [e4, g_set_ne hb]; exact h2 b hb
    · rw [e4]
      by_cases e : y = i
      · rw [e, g_set_eq, if_pos (by omega), h2 953 (by decide)]
      · rw [g_set_k e, h3 y]
        by_cases e2 : y < i
        · rw [if_pos e2, if_pos (by omega)]
        · rw [if_neg e2, if_neg (by omega)]
/-- the loop over children for a told hoop, as far as c -/
def Lres (m0 : gM) (x : Int32) (mm h k t s c : Nat) (o : Option Nat) (M Mc : gM) : Prop := ((∀ v, mn (gW (Dm m0 x mm) (nC m0) (ixh x (nH m0)) k t) c = some v → ∃ l, o = some l ∧ l ≤ s + v) ∧ Mc 464 43 = M 464 43 ∧ Mc 954 = M 954) ∨ ∃ v d p, mn (gW (Dm m0 x mm) (nC m0) (ixh x (nH m0)) k t) c = some v ∧ d < c ∧ gW (Dm m0 x mm) (nC m0) (ixh x (nH m0)) k t d = some v ∧ (∀ e, e < d → gW (Dm m0 x mm) (nC m0) (ixh x (nH m0)) k t e ≠ some v) ∧ (∀ l, o = some l → s + v < l) ∧ Mc 464 43 = nI (s + v) ∧ Pp (Dm m0 x mm) (nC m0) (ixh x (nH m0)) k (tk t d) p ∧ ∀ y, y < 8 → Mc 954 y = if y < h then M 953 y else if y = h then nI d else if y < nH m0 then (if tb x y = true then nI (p (ixh x y)) else -1) else M 954 y
theorem mn_s (g : Nat → Option Nat) (c : Nat) : mn g (c + 1) = omin (mn g c) (g c) := rfl
theorem omin_n2 (a : Option Nat) : omin a none = a := by cases a <;> rfl
theorem m_gives {m0 : gM} (hg : v_g m0) (hl : v_law m0) (x : Int32) {mm : Nat} (hm : mm ≤ 999) : ∀ (r h : Nat), h + r = nH m0 → ∀ f, r < f → ∀ t s o M, t < 2 ^ nC m0 → pc t = ixh x h → s ≤ 999 * h → GM m0 M → Lm M o → okk (FM_gives f x (nI h) (nI t) (nI s) (nI mm) M) (fun M2 => GM m0 M2 ∧ (∀ y, y < h → M2 953 y = M 953 y) ∧ Gres m0 x mm h t s o M M2) := by
  obtain ⟨b1, b2, b3⟩ := hg.2.1
  have hD : ∀ i c, Dm m0 x mm i c ≤ 999 := fun i c => (dst_e hg hm _ c).2.2
  have h256 := p2_8 (nC m0) (by omega)
  intro r
  induction r with
  | zero =>
    intro h hh f hf t s o M ht hp hs hM hL
    obtain ⟨f, rfl⟩ : ∃ g, f = g + 1 := ⟨f - 1, by omega⟩
    have eh : h = nH m0 := by omega
    have e0 : ixh x (nH m0) - ixh x h = 0 := by rw [eh]; omega
    have J : (∀ l, o = some l → s < l) → okk (FM_gives_J18 x (nI h) (nI t) (nI s) (nI mm) (FM_gives f) M) (fun M2 => GM m0 M2 ∧ (∀ y, y < h → M2 953 y = M 953 y) ∧ Gres m0 x mm h t s o M M2) := by
      intro ho
      unfold FM_gives_J18
      rw [if_pos (by rw [hM.1 468 (by omega), hg.1.2.2, eh])]
      refine okk_w (m_lay (M := g_set M 464 43 (nI s)) (GM_set hM (by omega)) x (nI t) (nI s) (nI mm) (FM_gives f) (h := h) (by omega) h 0 (by omega) 1000 (by omega) _ (GM_set hM (by omega)) (fun _ _ => rfl) (fun y => by rw [if_neg (by omega)])) ?_
      rintro M2 ⟨k1, k2, k3⟩
      refine ⟨k1, fun y hy => by rw [k2 953 (by decide), g_set_ne (by decide)], Or.inr ⟨0, fun _ => 0, by rw [e0]; rfl, fun l hl => by have := ho l hl; omega, ?_, by rw [e0]; exact trivial, fun y hy => ?_⟩⟩
      · rw [k2 464 (by decide), g_set_eq]; rfl
      · rw [k3 y]
        unfold gvn
        by_cases e : y < h
        · rw [if_pos e, if_pos e, g_set_ne (by decide)]
        · rw [if_neg e, if_neg e, if_neg (by omega), g_set_ne (by decide)]
    show okk (FM_gives_B (FM_gives f) x (nI h) (nI t) (nI s) (nI mm) M) _
    unfold FM_gives_B
    rcases hL with ⟨o1, o2⟩ | ⟨l, l8, o1, o2⟩
    · rw [if_pos o2]
      exact J (fun l hl => by rw [o1] at hl; cases hl)
    · rw [o2, if_neg (nI_nm1 (by omega))]
      by_cases e : s < l
      · rw [if_pos (nI_lt e (by omega))]
        exact J (fun l2 hl2 => by rw [o1] at hl2; cases hl2; exact e)
      · rw [if_neg (nI_nlt (by omega) (by omega))]
        exact okk_some ⟨hM, fun _ _ => rfl, Or.inl ⟨fun v _ => ⟨l, o1, by omega⟩, rfl, rfl⟩⟩
  | succ r ih =>
    intro h hh f hf t s o M ht hp hs hM hL
    obtain ⟨f, rfl⟩ : ∃ g, f = g + 1 := ⟨f - 1, by omega⟩
    have J : (∀ l, o = some l → s < l) → okk (FM_gives_J18 x (nI h) (nI t) (nI s) (nI mm) (FM_gives f) M) (fun M2 => GM m0 M2 ∧ (∀ y, y < h → M2 953 y = M 953 y) ∧ Gres m0 x mm h t s o M M2) := by
      intro hso
      unfold FM_gives_J18
      rw [if_neg (by rw [hM.1 468 (by omega), hg.1.2.2]; exact fun q => by have := (nI_eq (by omega) (by omega)).mp q; omega), ix_in (show h < 8 by omega) (by decide)]
      refine okk_let (fun M3 e3 => ?_)
      have hM3 : GM m0 M3 := by rw [e3]; exact GM_set hM (by omega)
      have a3 : M3 464 43 = M 464 43 := by rw [e3, g_set_ne (by decide)]
      have b3' : M3 954 = M 954 := by rw [e3]; exact g_set_ne (by decide)
      have c3 : ∀ y, y < h → M3 953 y = M 953 y := fun y hy => by rw [e3, g_set_k (by omega)]
      have hL3 : Lm M3 o := by unfold Lm; rw [a3]; exact hL
      rw [show FM_has x (nI h) = F_hasBit x (nI h) from rfl, nI_1]
      rcases hb01 x (nI h) with hbit | hbit
      · -- not told
        have htb : ¬ tb x h = true := by unfold tb; rw [hbit]; decide
        have ei := ixh_f htb
        rw [if_pos hbit]
        refine okk_bind (ih (h + 1) (by omega) f (by omega) t s o M3 ht (by rw [ei]; exact hp) (by omega) hM3 hL3) ?_
        rintro M7 ⟨k1, k2, k3⟩
        have stop : okk (FM_gives_L95 x (nI h) (nI t) (nI s) (nI mm) (FM_gives f) 1000 (0 : Int32) M7) (fun M2 => M2 = M7) := by
          rw [FM_gives_L95]
          by_cases e : M7 468 1 ≤ 0
          · rw [if_pos e]; exact okk_some rfl
          · rw [if_neg e, show FM_has x (nI h) = F_hasBit x (nI h) from rfl, if_pos hbit]; exact okk_some rfl
        refine okk_w stop ?_
        rintro M2 rfl
        refine ⟨k1, fun y hy => by rw [k2 y (by omega), c3 y hy], ?_⟩
        unfold Gres at k3 ⊢
        rw [ei] at k3
        rcases k3 with ⟨w1, w2, w3⟩ | ⟨v, p, w1, w2, w3, w4, w5⟩
        · exact Or.inl ⟨w1, by rw [w2, a3], by rw [w3, b3']⟩
        · refine Or.inr ⟨v, p, w1, w2, w3, w4, fun y hy => ?_⟩
          rw [w5 y hy]
          unfold gvn
          by_cases y1 : y < h
          · rw [if_pos y1, if_pos (by omega), c3 y y1]
          · rw [if_neg y1]
            by_cases y2 : y = h
            · subst y2
              rw [if_pos (by omega), if_pos (by omega), if_neg htb, e3, g_set_eq]
            · rw [if_neg (by omega), b3']
      · -- told
        have htb : tb x h = true := by unfold tb; rw [hbit]; rfl
        have ei := ixh_t htb
        have hlt := ixh_lt htb (show h < nH m0 by omega)
        have hmo := ixh_mono (x := x) (a := h + 1) (nH m0) (by omega)
        obtain ⟨k, ek⟩ : ∃ k, ixh x (nH m0) - ixh x h = k + 1 := ⟨ixh x (nH m0) - ixh x h - 1, by omega⟩
        have ek2 : ixh x (nH m0) - ixh x (h + 1) = k := by omega
        have ein : ixh x (nH m0) - (k + 1) = ixh x h := by omega
        have kH : k ≤ nH m0 - (h + 1) := by
          have q : ∀ d, ixh x (h + 1 + d) ≤ ixh x (h + 1) + d := by
            intro d
            induction d with
            | zero => exact Nat.le_refl _
            | succ d ihd =>
              show ixh x (h + 1 + d) + (if tb x (h + 1 + d) = true then 1 else 0) ≤ _
              by_cases w : tb x (h + 1 + d) = true
              · rw [if_pos w]; omega
              · rw [if_neg w]; omega
          have := q (nH m0 - (h + 1))
          rw [show h + 1 + (nH m0 - (h + 1)) = nH m0 by omega] at this
          omega
        have eDh : ∀ c, Dm m0 x mm (ixh x h) c = dst m0 mm h c := fun c => by unfold Dm; rw [ho_e htb _ (by omega)]
        rw [if_neg (by rw [hbit]; decide)]
        have L : ∀ (q c : Nat), c + q = nC m0 → ∀ fl, q < fl → ∀ Mc, GM m0 Mc → (∀ y, y < h → Mc 953 y = M 953 y) → Lres m0 x mm h k t s c o M Mc → okk (FM_gives_L95 x (nI h) (nI t) (nI s) (nI mm) (FM_gives f) fl (nI c) Mc) (fun M2 => GM m0 M2 ∧ (∀ y, y < h → M2 953 y = M 953 y) ∧ Gres m0 x mm h t s o M M2) := by
          intro q
          induction q with
          | zero =>
            intro c hc fl hfl Mc g1 g2 g3
            obtain ⟨fl, rfl⟩ : ∃ g, fl = g + 1 := ⟨fl - 1, by omega⟩
            have : c = nC m0 := by omega
            subst this
            rw [FM_gives_L95, g1.1 468 (by omega), hg.1.2.1, if_pos (Int32.le_refl _)]
            refine okk_some ⟨g1, g2, ?_⟩
            unfold Gres
            rw [ek, Wv_s]
            rcases g3 with ⟨w1, w2, w3⟩ | ⟨v, d, p, w1, w2, w3, w4, w5, w6, w7, w8⟩
            · exact Or.inl ⟨w1, w2, w3⟩
            · refine Or.inr ⟨v, pA1 p (ixh x (nH m0) - (k + 1)) d, w1, w5, w6, Pp_1 (by omega) w2 (by rw [Wv_s]; exact w1) w3 w4 w7, fun y hy => ?_⟩
              rw [w8 y hy]
              unfold gvn
              by_cases y1 : y < h
              · rw [if_pos y1, if_pos y1]
              · rw [if_neg y1, if_neg y1]
                by_cases y2 : y = h
                · subst y2
                  rw [if_pos rfl, if_pos (by omega), if_pos htb, ein]
                  unfold pA1
                  rw [if_pos rfl]
                · rw [if_neg y2]
                  by_cases y3 : y < nH m0
                  · rw [if_pos y3, if_pos y3]
                    by_cases y4 : tb x y = true
                    · rw [if_pos y4, if_pos y4, ein]
                      unfold pA1
                      have := ixh_mono (x := x) (a := h + 1) y (by omega)
                      rw [if_neg (by omega)]
                    · rw [if_neg y4, if_neg y4]
                  · rw [if_neg y3, if_neg y3]
          | succ q ihq =>
            intro c hc fl hfl Mc g1 g2 g3
            obtain ⟨fl, rfl⟩ : ∃ g, fl = g + 1 := ⟨fl - 1, by omega⟩
            have hcC : c < nC m0 := by omega
            rw [FM_gives_L95, g1.1 468 (by omega), hg.1.2.1, if_neg (nI_ge hcC (by omega)), show FM_has x (nI h) = F_hasBit x (nI h) from rfl, if_neg (by rw [hbit]; decide), show FM_has (nI t) (nI c) = F_hasBit (nI t) (nI c) from rfl, nI_1]
            by_cases hf : fr t c = true
            · rw [if_pos (fr_i.mp hf), ix_in (show h < 8 by omega) (by decide)]
              obtain ⟨t1, t2, t3⟩ := tk_8 t (by omega) c (by omega) hf
              refine okk_let (fun M9 e9 => ?_)
              have hM9 : GM m0 M9 := by rw [e9]; exact GM_set g1 (by omega)
              have c9 : ∀ y, y < h → M9 953 y = M 953 y := fun y hy => by rw [e9, g_set_k (by omega)]; exact g2 y hy
              have d9 : M9 953 h = nI c := by rw [e9, g_set_eq]
              have o9 : ∀ b, b ≠ 953 → M9 b = Mc b := fun b hb => by rw [e9]; exact g_set_ne hb
              obtain ⟨M10, e10, f10⟩ := m_longOf (m := M9) (eM_g hM9.eM hg) (eM_law hM9.eM hl) (c := c) (h := h) (by rw [eM_C hM9.eM]; omega) (by rw [eM_H hM9.eM]; omega)
              rw [eM_long hM9.eM hg hl hcC] at e10
              refine okk_bind (okk_eq (P := fun z => z = (a_long m0 (m0 930) c h, M10)) e10 rfl) ?_
              rintro _ rfl
              dsimp only
              rw [(dst_e hg hm h c).1, t1, nI_1, nI_add, ← eDh c]
              have hM10 := GM_0 hM9 f10
              have hd := hD (ixh x h) c
              have n43 : M10 464 43 = Mc 464 43 := by rw [f10 464 (by omega), o9 464 (by decide)]
              have n954 : M10 954 = Mc 954 := by rw [f10 954 (by omega), o9 954 (by decide)]
              have n953 : M10 953 = M9 953 := f10 953 (by omega)
              have gd : ∀ v, Wv (Dm m0 x mm) (nC m0) (ixh x (nH m0)) k (tk t c) = some v → gW (Dm m0 x mm) (nC m0) (ixh x (nH m0)) k t c = some (Dm m0 x mm (ixh x h) c + v) := fun v hv => by
                have := gW_t (D := Dm m0 x mm) (C := nC m0) (n := ixh x (nH m0)) hf hv
                rw [ein] at this
                exact this
              -- the search below, with what is least now
              have sub : ∀ o2, Lm M10 o2 → okk (FM_gives f x (nI (h + 1)) (nI (tk t c)) (nI (s + Dm m0 x mm (ixh x h) c)) (nI mm) M10) (fun M2 => GM m0 M2 ∧ (∀ y, y < h + 1 → M2 953 y = M10 953 y) ∧ Gres m0 x mm (h + 1) (tk t c) (s + Dm m0 x mm (ixh x h) c) o2 M10 M2) := fun o2 ho2 =>
                ih (h + 1) (by omega) f (by omega) (tk t c) (s + Dm m0 x mm (ixh x h) c) o2 M10 (tk_C (nC m0) (by omega) t ht c hcC) (by rw [t3, hp, ei]) (by omega) hM10 ho2
              have new : ∀ (M11 : gM) (v : Nat) (p : Nat → Nat), M11 464 43 = nI (s + Dm m0 x mm (ixh x h) c + v) → (∀ y, y < 8 → M11 954 y = gvn m0 x M10 p (h + 1) y) → (∀ y, nH m0 ≤ y → y < 8 → Mc 954 y = M 954 y) → (∀ l, o = some l → s + (Dm m0 x mm (ixh x h) c + v) < l) → Wv (Dm m0 x mm) (nC m0) (ixh x (nH m0)) k (tk t c) = some v → Pp (Dm m0 x mm) (nC m0) (ixh x (nH m0)) k (tk t c) p → mn (gW (Dm m0 x mm) (nC m0) (ixh x (nH m0)) k t) (c + 1) = some (Dm m0 x mm (ixh x h) c + v) → (∀ w, mn (gW (Dm m0 x mm) (nC m0) (ixh x (nH m0)) k t) c = some w → Dm m0 x mm (ixh x h) c + v < w) → Lres m0 x mm h k t s (c + 1) o M M11 := by
                intro M11 v p n1 n2 n3 n4 n5 n6 n7 n8
                refine Or.inr ⟨Dm m0 x mm (ixh x h) c + v, c, p, n7, by omega, gd v n5, fun e he hq => ?_, n4, by rw [n1, Nat.add_assoc], n6, fun y hy => ?_⟩
                · cases hmn : mn (gW (Dm m0 x mm) (nC m0) (ixh x (nH m0)) k t) c with
                  | none => rw [mn_n c hmn e he] at hq; cases hq
                  | some w =>
                    have h1 := n8 w hmn
                    have h2 := mn_le c w hmn e he _ hq
                    omega
                · rw [n2 y hy]
                  unfold gvn
                  by_cases y1 : y < h
                  · rw [if_pos y1, if_pos (by omega), n953, c9 y y1]
                  · rw [if_neg y1]
                    by_cases y2 : y = h
                    · subst y2
                      rw [if_pos (by omega), if_pos rfl, n953, d9]
                    · rw [if_neg (by omega), if_neg y2]
                      by_cases y3 : y < nH m0
                      · rw [if_pos y3, if_pos y3]
                      · rw [if_neg y3, if_neg y3, n954, n3 y (by omega) hy]
              rcases g3 with ⟨w1, w2, w3⟩ | ⟨v0, d, p0, w1, w2, w3, w4, w5, w6, w7, w8⟩
              · have hL10 : Lm M10 o := by unfold Lm; rw [n43, w2]; exact hL
                refine okk_bind (sub o hL10) ?_
                rintro M11 ⟨k1, k2, k3⟩
                refine ihq (c + 1) (by omega) fl (by omega) M11 k1 (fun y hy => by rw [k2 y (by omega), n953, c9 y hy]) ?_
                unfold Gres at k3
                rw [ek2] at k3
                rcases k3 with ⟨u1, u2, u3⟩ | ⟨v, p, u1, u2, u3, u4, u5⟩
                · refine Or.inl ⟨fun v hv => ?_, by rw [u2, n43, w2], by rw [u3, n954, w3]⟩
                  rw [mn_s] at hv
                  cases hw : Wv (Dm m0 x mm) (nC m0) (ixh x (nH m0)) k (tk t c) with
                  | none =>
                    rw [gW_n hf hw, omin_n2] at hv
                    exact w1 v hv
                  | some v2 =>
                    rw [gd v2 hw] at hv
                    obtain ⟨l2, o2, q2⟩ := u1 v2 hw
                    cases ha : mn (gW (Dm m0 x mm) (nC m0) (ixh x (nH m0)) k t) c with
                    | none =>
                      rw [ha] at hv
                      have hv2 : Dm m0 x mm (ixh x h) c + v2 = v := Option.some.inj hv
                      exact ⟨l2, o2, by omega⟩
                    | some a =>
                      rw [ha] at hv
                      have hv2 : (if Dm m0 x mm (ixh x h) c + v2 < a then Dm m0 x mm (ixh x h) c + v2 else a) = v := Option.some.inj hv
                      obtain ⟨l3, o3, q3⟩ := w1 a ha
                      by_cases e : Dm m0 x mm (ixh x h) c + v2 < a
                      · rw [if_pos e] at hv2; exact ⟨l2, o2, by omega⟩
                      · rw [if_neg e] at hv2; exact ⟨l3, o3, by omega⟩
                · have hlt2 : ∀ w, mn (gW (Dm m0 x mm) (nC m0) (ixh x (nH m0)) k t) c = some w → Dm m0 x mm (ixh x h) c + v < w := fun w hw => by
                    obtain ⟨l, ol, ql⟩ := w1 w hw
                    have := u2 l ol
                    omega
                  refine new M11 v p u3 u5 (fun y _ _ => by rw [w3]) (fun l hl => by have := u2 l hl; omega) u1 u4 ?_ hlt2
                  rw [mn_s, gd v u1]
                  cases ha : mn (gW (Dm m0 x mm) (nC m0) (ixh x (nH m0)) k t) c with
                  | none => rfl
                  | some a =>
                    show some (if Dm m0 x mm (ixh x h) c + v < a then Dm m0 x mm (ixh x h) c + v else a) = _
                    rw [if_pos (hlt2 a ha)]
              · have v8 : s + v0 ≤ 8000 := by
                  have hw0 : ∃ v2, Wv (Dm m0 x mm) (nC m0) (ixh x (nH m0)) k (tk t d) = some v2 ∧ v0 = Dm m0 x mm (ixh x (nH m0) - (k + 1)) d + v2 := by
                    by_cases hf2 : fr t d = true
                    · cases hw : Wv (Dm m0 x mm) (nC m0) (ixh x (nH m0)) k (tk t d) with
                      | none => rw [gW_n hf2 hw] at w3; cases w3
                      | some v2 =>
                        rw [gW_t hf2 hw] at w3
                        exact ⟨v2, rfl, (Option.some.inj w3).symm⟩
                    · rw [gW_f hf2] at w3; cases w3
                  obtain ⟨v2, x1, x2⟩ := hw0
                  have h1 := WC hD k _ _ x1
                  have h2 := hD (ixh x (nH m0) - (k + 1)) d
                  omega
                have hL10 : Lm M10 (some (s + v0)) := Or.inr ⟨s + v0, v8, rfl, by rw [n43, w6]⟩
                refine okk_bind (sub (some (s + v0)) hL10) ?_
                rintro M11 ⟨k1, k2, k3⟩
                refine ihq (c + 1) (by omega) fl (by omega) M11 k1 (fun y hy => by rw [k2 y (by omega), n953, c9 y hy]) ?_
                unfold Gres at k3
                rw [ek2] at k3
                rcases k3 with ⟨u1, u2, u3⟩ | ⟨v, p, u1, u2, u3, u4, u5⟩
                · refine Or.inr ⟨v0, d, p0, ?_, by omega, w3, w4, w5, by rw [u2, n43, w6], w7, fun y hy => by rw [u3, n954]; exact w8 y hy⟩
                  rw [mn_s, w1]
                  cases hw : Wv (Dm m0 x mm) (nC m0) (ixh x (nH m0)) k (tk t c) with
                  | none => rw [gW_n hf hw]; rfl
                  | some v2 =>
                    rw [gd v2 hw]
                    obtain ⟨l2, o2, q2⟩ := u1 v2 hw
                    have o3 : s + v0 = l2 := Option.some.inj o2
                    show some (if Dm m0 x mm (ixh x h) c + v2 < v0 then Dm m0 x mm (ixh x h) c + v2 else v0) = _
                    rw [if_neg (by omega)]
                · have hlt2 : Dm m0 x mm (ixh x h) c + v < v0 := by
                    have := u2 (s + v0) rfl
                    omega
                  refine new M11 v p u3 u5 (fun y y1 y2 => by rw [w8 y y2, if_neg (by omega), if_neg (by omega), if_neg (by omega)]) (fun l hl => by have := w5 l hl; omega) u1 u4 ?_ (fun w hw => by rw [w1] at hw; cases hw; exact hlt2)
                  rw [mn_s, gd v u1, w1]
                  show some (if Dm m0 x mm (ixh x h) c + v < v0 then Dm m0 x mm (ixh x h) c + v else v0) = _
                  rw [if_pos hlt2]
            · rw [if_neg (fun q => hf (fr_i.mpr q)), nI_1]
              refine ihq (c + 1) (by omega) fl (by omega) Mc g1 g2 ?_
              unfold Lres at g3 ⊢
              rw [mn_s, gW_f hf, omin_n2]
              rcases g3 with w | ⟨v, d, p, w1, w2, w3⟩
              · exact Or.inl w
              · exact Or.inr ⟨v, d, p, w1, by omega, w3⟩
        refine L (nC m0) 0 (by omega) 1000 (by omega) M3 hM3 c3 (Or.inl ⟨fun v hv => ?_, a3, b3'⟩)
        cases hv
    show okk (FM_gives_B (FM_gives f) x (nI h) (nI t) (nI s) (nI mm) M) _
    unfold FM_gives_B
    have hL2 := hL
    rcases hL2 with ⟨o1, o2⟩ | ⟨l, l8, o1, o2⟩
    · rw [if_pos o2]
      exact J (fun l hl => by rw [o1] at hl; cases hl)
    · rw [o2, if_neg (nI_nm1 (by omega))]
      by_cases e : s < l
      · rw [if_pos (nI_lt e (by omega))]
        exact J (fun l2 hl2 => by rw [o1] at hl2; cases hl2; exact e)
      · rw [if_neg (nI_nlt (by omega) (by omega))]
        exact okk_some ⟨hM, fun _ _ => rfl, Or.inl ⟨fun v _ => ⟨l, o1, by omega⟩, rfl, rfl⟩⟩
