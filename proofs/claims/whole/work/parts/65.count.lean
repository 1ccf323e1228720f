/-! The next gate to listen at. -/
def ctn (f : Nat × Nat → Nat) (L : List (Nat × Nat)) : Nat → Nat → Nat
  | 0, _ => 0
  | i + 1, v => ctn f L i v + (if f (nth L i) = v then 1 else 0)
theorem ctn_app {f : Nat × Nat → Nat} {L l : List (Nat × Nat)} {v : Nat} : ∀ i, i ≤ L.length → ctn f (L ++ l) i v = ctn f L i v := by
  intro i
  induction i with
  | zero => intro _; rfl
  | succ i ih =>
    intro h
    show ctn f (L ++ l) i v + (if f (nth (L ++ l) i) = v then 1 else 0) = ctn f L i v + (if f (nth L i) = v then 1 else 0)
    rw [ih (by omega), nth_app (by omega)]
theorem ctn_le {f : Nat × Nat → Nat} {L : List (Nat × Nat)} {v : Nat} : ∀ i, ctn f L i v ≤ i := by
  intro i
  induction i with
  | zero => exact Nat.le_refl _
  | succ i ih =>
    show ctn f L i v + (if f (nth L i) = v then 1 else 0) ≤ i + 1
    by_cases e : f (nth L i) = v
    · rw [if_pos e]; omega
    · rw [if_neg e]; omega
theorem ctn_big {f : Nat × Nat → Nat} {L : List (Nat × Nat)} {v : Nat} (h : ∀ x, f x < 800) (hv : 800 ≤ v) : ∀ i, ctn f L i v = 0 := by
  intro i
  induction i with
  | zero => rfl
  | succ i ih =>
    show ctn f L i v + (if f (nth L i) = v then 1 else 0) = 0
    have := h (nth L i)
    rw [ih, if_neg (by omega)]
/-- s is the greatest count -/
def mxs (f : Nat × Nat → Nat) (L : List (Nat × Nat)) (i s : Nat) : Prop := (∀ v, ctn f L i v ≤ s) ∧ (s = 0 ∨ ∃ v, ctn f L i v = s)
theorem mxs_u {f : Nat × Nat → Nat} {L : List (Nat × Nat)} {i s t : Nat} (h1 : mxs f L i s) (h2 : mxs f L i t) : s = t := by
  obtain ⟨a1, a2⟩ := h1
  obtain ⟨b1, b2⟩ := h2
  rcases a2 with a2 | ⟨v, a2⟩
  · rcases b2 with b2 | ⟨w, b2⟩
    · omega
    · have := a1 w; omega
  · have h3 := b1 v
    rcases b2 with b2 | ⟨w, b2⟩
    · omega
    · have := a1 w; omega
def fg (m : gM) (g : Nat) (x : Nat × Nat) : Nat := (ls m x.1 x.2 g).toNatClampNeg
theorem fg_e (m : gM) {g : Nat} (hg : g ≤ 8) (a h : Nat) : ls m a h g = nI (fg m g (a, h)) := by
  obtain ⟨v, v1, v2⟩ := lasts_b m g a h 0 (m 930 45) (m 930 (16 + a))
  unfold fg ls
  rw [v2, nI_clamp (by omega)]
theorem fg_b (m : gM) {g : Nat} (hg : g ≤ 8) (x : Nat × Nat) : fg m g x < 800 := by
  obtain ⟨v, v1, v2⟩ := lasts_b m g x.1 x.2 0 (m 930 45) (m 930 (16 + x.1))
  unfold fg ls
  rw [v2, nI_clamp (by omega)]
  omega
theorem c_minuteAt {c m : gM} (hg : v_g m) (rg : r_g c m) (rl : r_law c m) (rs : r_st c 48 (m 930)) {a h g : Nat} (ha : a < nC m) (hh : h < nH m) (hgW : g ≤ nW m) : ∃ M2, FU_minuteAt (nI a) (nI h) (nI g) c = some (ls m a h g, M2) ∧ eC0 c M2 := by
  obtain ⟨b1, b2, b3⟩ := hg.2.1
  have ka := rs.1 a (by omega)
  have L : ∀ (q w : Nat), w + q = g → ∀ f, q < f → ∀ M, eC0 c M → ∃ M2, FU_minuteAt_L6 (nI a) (nI h) (nI g) f (ls m a h w) (nI w) M = some (ls m a h g, M2) ∧ eC0 c M2 := by
    intro q
    induction q with
    | zero =>
      intro w hw f hf M e
      obtain ⟨f, rfl⟩ : ∃ g, f = g + 1 := ⟨f - 1, by omega⟩
      have : w = g := by omega
      subst this
      rw [FU_minuteAt_L6, if_pos (Int32.le_refl _)]
      exact ⟨M, rfl, e⟩
    | succ q ih =>
      intro w hw f hf M e
      obtain ⟨f, rfl⟩ : ∃ g, f = g + 1 := ⟨f - 1, by omega⟩
      rw [FU_minuteAt_L6, if_neg (nI_ge (show w < g by omega) (by omega))]
      obtain ⟨M2, x1, x2⟩ := c_minutesOf hg (eC_g e.eC rg) (eC_law e.eC rl) (a := 48) (by decide) (by decide) (w := w) (by omega) ha hh (nI w)
      rw [x1, Option.bind_some, nI_1]
      dsimp only
      have ev : ls m a h w + a_min m w a h (FM_less 99 (nI w)) (M 48 10) (M (48 + 2) a) = ls m a h (w + 1) := by
        show _ = a_lasts m (w + 1) a h 0 (m 930 45) (m 930 (16 + a))
        rw [e.1 48 (by omega), e.1 (48 + 2) (by omega), rs.2.2.2.2.2.2.1, ka.2.2.1]
        show _ = a_sum _ w + a_min m w a h (FM_less 99 (0 + nI w)) (m 930 45) (m 930 (16 + a))
        rw [nI_00]
        rfl
      rw [ev]
      exact ih (w + 1) (by omega) f (by omega) M2 (e.trans x2)
  exact L g 0 (by omega) 1000 (by omega) c (eC0.rfl' c)
theorem mxs_s {f : Nat × Nat → Nat} {L : List (Nat × Nat)} {i s : Nat} (h : mxs f L i s) : mxs f L (i + 1) (max s (ctn f L i (f (nth L i)) + 1)) := by
  obtain ⟨a1, a2⟩ := h
  have e1 : ctn f L (i + 1) (f (nth L i)) = ctn f L i (f (nth L i)) + 1 := by
    show ctn f L i (f (nth L i)) + (if f (nth L i) = f (nth L i) then 1 else 0) = _
    rw [if_pos rfl]
  refine ⟨fun v => ?_, ?_⟩
  · by_cases e : f (nth L i) = v
    · rw [← e, e1]; omega
    · have : ctn f L (i + 1) v = ctn f L i v := by
        show ctn f L i v + (if f (nth L i) = v then 1 else 0) = _
        rw [if_neg e]; rfl
      have h2 := a1 v
      omega
  · right
    by_cases q : s ≤ ctn f L i (f (nth L i)) + 1
    · exact ⟨f (nth L i), by rw [e1]; omega⟩
    · rcases a2 with a2 | ⟨v, a2⟩
      · omega
      · refine ⟨v, ?_⟩
        have : ¬ f (nth L i) = v := fun w => by rw [← w] at a2; omega
        show ctn f L i v + (if f (nth L i) = v then 1 else 0) = _
        rw [if_neg this]
        omega
theorem more_max {a b : Nat} (ha : a < 2 ^ 31) (hb : b < 2 ^ 31) : FM_more (nI a) (nI b) = nI (max a b) := by
  unfold FM_more
  by_cases h : a ≤ b
  · rw [if_pos (nI_le h hb), Nat.max_eq_right h]
  · rw [if_neg (nI_ge (by omega) (by omega)), Nat.max_eq_left (by omega)]
theorem c_mostAlike {c m : gM} (h0 : RR c m) {L : List (Nat × Nat)} (hL : ∀ x ∈ L, x.1 < nC m ∧ x.2 < nH m) (hL6 : L.length ≤ 64) {g : Nat} (hgW : g ≤ nW m) {M : gM} (e : eCg c M) (hF : FF L M) : okk (FU_mostAlike (nI g) M) (fun s => eCg c s.2 ∧ FF L s.2 ∧ s.2 44 = M 44 ∧ ∃ v, v ≤ 64 ∧ s.1 = nI v ∧ mxs (fg m g) L L.length v) := by
  obtain ⟨t1, t2, ⟨hg, rg⟩, ⟨hl, rl⟩, t7, t8, t9, t10⟩ := h0
  obtain ⟨b1, b2, b3⟩ := hg.2.1
  have Lp : ∀ (q i : Nat), i + q = L.length → ∀ f, q < f → ∀ s M1, eCg c M1 → FF L M1 → M1 44 = M 44 → s ≤ i → mxs (fg m g) L i s → (∀ v, v < 1000 → M1 46 v = nI (ctn (fg m g) L i v)) → okk (FU_mostAlike_L13 (nI g) f (nI s) (nI i) M1) (fun s => eCg c s.2 ∧ FF L s.2 ∧ s.2 44 = M 44 ∧ ∃ v, v ≤ 64 ∧ s.1 = nI v ∧ mxs (fg m g) L L.length v) := by
    intro q
    induction q with
    | zero =>
      intro i hi f hf s M1 h1 h2 h3 h4 h5 h6
      obtain ⟨f, rfl⟩ : ∃ g, f = g + 1 := ⟨f - 1, by omega⟩
      have : i = L.length := by omega
      subst this
      rw [FU_mostAlike_L13, h2.1, if_pos (Int32.le_refl _)]
      exact okk_some ⟨h1, h2, h3, s, by omega, rfl, h5⟩
    | succ q ih =>
      intro i hi f hf s M1 h1 h2 h3 h4 h5 h6
      obtain ⟨f, rfl⟩ : ∃ g, f = g + 1 := ⟨f - 1, by omega⟩
      have hx := hL (nth L i) (nth_mem (by omega))
      rw [FU_mostAlike_L13, h2.1, if_neg (nI_ge (show i < L.length by omega) (by omega)), r_at_in _ (show i < 64 by omega) (by decide), h2.2 i (by omega), show (10 : Int32) = nI 10 from rfl, pk_rem (by omega) (by decide) (by decide), pk_div (by omega) (by decide) (by decide), show (10 * (nth L i).1 + (nth L i).2) / 10 = (nth L i).1 by omega, show (10 * (nth L i).1 + (nth L i).2) % 10 = (nth L i).2 by omega]
      obtain ⟨M2, x1, x2⟩ := c_minuteAt (c := M1) hg (eC_g h1.eC rg) (eC_law h1.eC rl) (r_st_m t8.2 (fun b u1 u2 => h1.1 b (by omega))) (a := (nth L i).1) (h := (nth L i).2) (g := g) hx.1 hx.2 hgW
      rw [fg_e m (by omega)] at x1
      have ef : fg m g ((nth L i).1, (nth L i).2) = fg m g (nth L i) := rfl
      rw [ef] at x1
      have hb := fg_b m (show g ≤ 8 by omega) (nth L i)
      have hc := ctn_le (f := fg m g) (L := L) (v := fg m g (nth L i)) i
      rw [x1, Option.bind_some]
      dsimp only
      have e46 : r_at (M2 46) 1000 (nI (fg m g (nth L i))) = nI (ctn (fg m g) L i (fg m g (nth L i))) := by
        rw [r_at_in _ (show fg m g (nth L i) < 1000 by omega) (by decide), x2.1 46 (by omega)]
        exact h6 _ (by omega)
      rw [e46, nI_1, nI_1, r_put_in _ _ _ (show fg m g (nth L i) < 1000 by omega) (by decide), m_more, more_max (by omega) (by omega)]
      refine okk_let (fun M3 e3 => ih (i + 1) (by omega) f (by omega) _ M3 ?_ ?_ ?_ (by omega) (mxs_s h5) (fun v hv => ?_))
      · rw [e3]; exact eCg_set (eCg_0 h1 x2) (by omega)
      · rw [e3]; exact ⟨by rw [g_set_ne (by decide), x2.1 44 (by omega)]; exact h2.1, fun j hj => by rw [g_set_ne (by decide), x2.1 45 (by omega)]; exact h2.2 j hj⟩
      · rw [e3, g_set_ne (by decide), x2.1 44 (by omega)]; exact h3
      · rw [e3]
        show g_set M2 46 _ _ 46 v = nI (ctn (fg m g) L i v + (if fg m g (nth L i) = v then 1 else 0))
        by_cases ev : v = fg m g (nth L i)
        · rw [ev, g_set_eq, if_pos rfl]
        · rw [g_set_k ev, if_neg (fun w => ev w.symm), x2.1 46 (by omega), Nat.add_zero]; exact h6 v hv
  unfold FU_mostAlike
  refine okk_let (fun M1 e1 => ?_)
  have f1 : ∀ b, ¬ b = 46 → M1 b = M b := fun b hb => by rw [e1]; exact r_fill_ne hb
  refine Lp L.length 0 (by omega) 1000 (by omega) 0 M1 ⟨fun b hb => by rw [f1 b (by omega)]; exact e.1 b hb, by rw [f1 15 (by decide)]; exact e.2.1, by rw [f1 15 (by decide)]; exact e.2.2⟩ ⟨by rw [f1 44 (by decide)]; exact hF.1, fun i hi => by rw [f1 45 (by decide)]; exact hF.2 i hi⟩ (f1 44 (by decide)) (by omega) ⟨fun v => Nat.le_refl _, Or.inl rfl⟩ (fun v hv => ?_)
  rw [e1]
  unfold r_fill
  rw [if_pos rfl, if_pos hv]
  rfl
