/-! Hoops given to children so that hours are as long as told: the class builds on sets, the model searches. -/
def tb (x : Int32) (h : Nat) : Bool := F_hasBit x (nI h) == 1
/-- how many hoops are told below h -/
def ixh (x : Int32) : Nat → Nat
  | 0 => 0
  | h + 1 => ixh x h + (if tb x h = true then 1 else 0)
theorem ixh_t {x : Int32} {h : Nat} (e : tb x h = true) : ixh x (h + 1) = ixh x h + 1 := by
  show ixh x h + (if tb x h = true then 1 else 0) = _
  rw [if_pos e]
theorem ixh_f {x : Int32} {h : Nat} (e : ¬ tb x h = true) : ixh x (h + 1) = ixh x h := by
  show ixh x h + (if tb x h = true then 1 else 0) = _
  rw [if_neg e, Nat.add_zero]
theorem ixh_mono {x : Int32} {a : Nat} : ∀ b, a ≤ b → ixh x a ≤ ixh x b := by
  intro b
  induction b with
  | zero => intro h; rw [show a = 0 by omega]; exact Nat.le_refl _
  | succ b ih =>
    intro h
    by_cases e : a = b + 1
    · rw [e]; exact Nat.le_refl _
    · refine Nat.le_trans (ih (by omega)) ?_
      show ixh x b ≤ ixh x b + (if tb x b = true then 1 else 0)
      omega
theorem ixh_le {x : Int32} : ∀ h, ixh x h ≤ h := by
  intro h
  induction h with
  | zero => exact Nat.le_refl _
  | succ h ih =>
    show ixh x h + (if tb x h = true then 1 else 0) ≤ h + 1
    by_cases e : tb x h = true
    · rw [if_pos e]; omega
    · rw [if_neg e]; omega
theorem ixh_inj {x : Int32} {a b : Nat} (ha : tb x a = true) (hb : tb x b = true) (h : ixh x a = ixh x b) : a = b := by
  rcases Nat.lt_trichotomy a b with q | q | q
  · have h1 := ixh_mono (x := x) (a := a + 1) b (by omega)
    rw [ixh_t ha] at h1
    omega
  · exact q
  · have h1 := ixh_mono (x := x) (a := b + 1) a (by omega)
    rw [ixh_t hb] at h1
    omega
theorem ixh_lt {x : Int32} {a H : Nat} (ha : tb x a = true) (h : a < H) : ixh x a < ixh x H := by
  have h1 := ixh_mono (x := x) (a := a + 1) H (by omega)
  rw [ixh_t ha] at h1
  omega
theorem ixh_inv {x : Int32} {i : Nat} : ∀ H, i < ixh x H → ∃ h, h < H ∧ tb x h = true ∧ ixh x h = i := by
  intro H
  induction H with
  | zero => intro h; exact absurd h (by show ¬ i < 0; omega)
  | succ H ih =>
    intro h
    by_cases e : tb x H = true
    · rw [ixh_t e] at h
      by_cases q : i = ixh x H
      · exact ⟨H, by omega, e, q.symm⟩
      · obtain ⟨k, k1, k2, k3⟩ := ih (by omega)
        exact ⟨k, by omega, k2, k3⟩
    · rw [ixh_f e] at h
      obtain ⟨k, k1, k2, k3⟩ := ih h
      exact ⟨k, by omega, k2, k3⟩
/-- the told hoop of a number -/
def ho (x : Int32) : Nat → Nat → Nat
  | 0, _ => 0
  | h + 1, i => if tb x h = true ∧ ixh x h = i then h else ho x h i
theorem ho_e {x : Int32} {h : Nat} (e : tb x h = true) : ∀ H, h < H → ho x H (ixh x h) = h := by
  intro H
  induction H with
  | zero => intro q; omega
  | succ H ih =>
    intro q
    show (if tb x H = true ∧ ixh x H = ixh x h then H else ho x H (ixh x h)) = h
    by_cases w : tb x H = true ∧ ixh x H = ixh x h
    · rw [if_pos w]; exact ixh_inj w.1 e w.2
    · rw [if_neg w]
      refine ih ?_
      by_cases eh : h = H
      · subst eh; exact absurd ⟨e, rfl⟩ w
      · omega
def ad (a b : Nat) : Nat := if a ≤ b then b - a else a - b
theorem away_e {a b : Nat} (ha : a < 2 ^ 30) (hb : b < 2 ^ 30) : FM_away (nI a) (nI b) = nI (ad a b) ∧ m_abs (nI a - nI b) = nI (ad a b) := by
  unfold FM_away m_abs ad
  by_cases h : a ≤ b
  · rw [if_pos (nI_le h (by omega)), if_pos h, pk_sub h]
    refine ⟨rfl, ?_⟩
    by_cases e : a = b
    · subst e
      rw [Int32.sub_self, if_pos (by decide), Nat.sub_self]
      rfl
    · rw [if_neg (Int32.not_le.mpr (pk_sneg hb (by omega))), ← pk_sub h]
      grind
  · rw [if_neg (nI_ge (by omega) (by omega)), if_neg h, pk_sub (by omega)]
    refine ⟨rfl, ?_⟩
    rw [if_pos (nI_pos' (by omega))]
theorem sum_b {f : Nat → Int32} (h : ∀ k, ∃ t, t ≤ 99 ∧ f k = nI t) : ∀ n, ∃ s, s ≤ 99 * n ∧ a_sum f n = nI s := by
  intro n
  induction n with
  | zero => exact ⟨0, by omega, rfl⟩
  | succ n ih =>
    obtain ⟨s, s1, s2⟩ := ih
    obtain ⟨t, t1, t2⟩ := h n
    refine ⟨s + t, by omega, ?_⟩
    show a_sum f n + f n = _
    rw [s2, t2, nI_add]
theorem lasts_b (m : gM) (n c h : Nat) (t r s : Int32) : ∃ v, v ≤ 99 * n ∧ a_lasts m n c h t r s = nI v := by
  unfold a_lasts
  refine sum_b (fun k => ?_) n
  obtain ⟨v, v1, v2, e⟩ := out_b (if m 464 19 = 0 then a_kn m k c h (FM_less 99 (t + nI k)) r s 0 * 6 / a_kn m k c h (FM_less 99 (t + nI k)) r s 1 + a_kn m k c h (FM_less 99 (t + nI k)) r s 3 + a_kn m k c h (FM_less 99 (t + nI k)) r s 4 else a_ev m (a_kn m k c h (FM_less 99 (t + nI k)) r s) (m 464 19).toNatClampNeg 0)
  exact ⟨v, v2, e⟩
/-- how far a child's hour of a hoop is from mm -/
def dst (m : gM) (mm h c : Nat) : Nat := ad (a_long m (m 930) c h).toNatClampNeg mm
theorem dst_e {m : gM} (hg : v_g m) {mm : Nat} (hm : mm ≤ 999) (h c : Nat) : FM_away (a_long m (m 930) c h) (nI mm) = nI (dst m mm h c) ∧ m_abs (a_long m (m 930) c h - nI mm) = nI (dst m mm h c) ∧ dst m mm h c ≤ 999 := by
  obtain ⟨v, v1, e⟩ := lasts_b m (nW m) c h (m 930 (8 + c)) (m 930 45) (m 930 (16 + c))
  have h8 := hg.2.1.1
  have e2 : a_long m (m 930) c h = nI v := e
  unfold dst
  rw [e2, nI_clamp (by omega)]
  obtain ⟨q1, q2⟩ := away_e (a := v) (b := mm) (by omega) (by omega)
  refine ⟨q1, q2, ?_⟩
  unfold ad
  by_cases q : v ≤ mm
  · rw [if_pos q]; omega
  · rw [if_neg q]; omega
theorem eM_long {m M : gM} (h : eM m M) (hg : v_g m) (hv : v_law m) {c k : Nat} (hc : c < nC m) : a_long M (M 930) c k = a_long m (m 930) c k := by
  have h8 := hg.2.1
  unfold a_long a_lasts
  rw [eM_W h, h.1 930 (by omega)]
  exact a_sum_congr (fun w hw => eM_min h hv (by omega) (by omega) _ _ _)
/-- sets of children -/
def fr (t c : Nat) : Bool := F_hasBit (nI t) (nI c) == 0
def tk (t c : Nat) : Nat := (nI t ||| ((1 : Int32) <<< (nI c &&& 31))).toNatClampNeg
theorem tk_8 : ∀ t, t < 256 → ∀ c, c < 8 → fr t c = true → nI t ||| ((1 : Int32) <<< (nI c &&& 31)) = nI (tk t c) ∧ t < tk t c ∧ pc (tk t c) = pc t + 1 := by decide +kernel
theorem tk_C : ∀ C, C < 9 → ∀ t, t < 2 ^ C → ∀ c, c < C → tk t c < 2 ^ C := by decide +kernel
theorem fr_C : ∀ C, C < 9 → ∀ t, t < 2 ^ C → pc t ≤ C ∧ (pc t < C → ∃ c, c < C ∧ fr t c = true) := by decide +kernel
theorem pc_0 : pc 0 = 0 := by decide +kernel
theorem p2_8 : ∀ C, C < 9 → 2 ^ C ≤ 256 := by decide
theorem fr_i {t c : Nat} : fr t c = true ↔ F_hasBit (nI t) (nI c) = 0 := by
  unfold fr
  rw [beq_iff_eq]
/-- least of numbers that may be wanting -/
def omin : Option Nat → Option Nat → Option Nat
  | none, b => b
  | some a, none => some a
  | some a, some b => some (if b < a then b else a)
def mn (g : Nat → Option Nat) : Nat → Option Nat
  | 0 => none
  | n + 1 => omin (mn g n) (g n)
theorem mn_none {g : Nat → Option Nat} : ∀ n, (∀ c, c < n → g c = none) → mn g n = none := by
  intro n
  induction n with
  | zero => intro _; rfl
  | succ n ih =>
    intro h
    show omin (mn g n) (g n) = none
    rw [ih (fun c hc => h c (by omega)), h n (by omega)]
    rfl
theorem mn_some {g : Nat → Option Nat} {b : Nat} : ∀ n, (∀ c, c < n → ∀ v, g c = some v → v ≤ b) → (∃ c, c < n ∧ g c ≠ none) → ∃ w, mn g n = some w ∧ w ≤ b := by
  intro n
  induction n with
  | zero => rintro _ ⟨c, hc, -⟩; omega
  | succ n ih =>
    intro h hx
    show ∃ w, omin (mn g n) (g n) = some w ∧ w ≤ b
    by_cases e : ∃ c, c < n ∧ g c ≠ none
    · obtain ⟨w, w1, w2⟩ := ih (fun c hc => h c (by omega)) e
      rw [w1]
      cases hn : g n with
      | none => exact ⟨w, rfl, w2⟩
      | some v =>
        have hv := h n (by omega) v hn
        refine ⟨if v < w then v else w, rfl, ?_⟩
        by_cases q : v < w
        · rw [if_pos q]; exact hv
        · rw [if_neg q]; exact w2
    · obtain ⟨c, hc, hc2⟩ := hx
      have : c = n := by
        rcases Nat.lt_or_ge c n with q | q
        · exact absurd ⟨c, q, hc2⟩ e
        · omega
      subst this
      rw [mn_none c (fun d hd => by
        cases hd2 : g d with
        | none => rfl
        | some v => exact absurd ⟨d, hd, by rw [hd2]; exact Option.some_ne_none v⟩ e)]
      cases hn : g c with
      | none => exact absurd hn hc2
      | some v => exact ⟨v, rfl, h c (by omega) v hn⟩
theorem omin_n {a b : Option Nat} (h : omin a b = none) : a = none ∧ b = none := by
  cases a <;> cases b <;> simp [omin] at h ⊢
theorem mn_n {g : Nat → Option Nat} : ∀ n, mn g n = none → ∀ c, c < n → g c = none := by
  intro n
  induction n with
  | zero => intro _ c hc; omega
  | succ n ih =>
    intro h c hc
    have h2 : omin (mn g n) (g n) = none := h
    obtain ⟨h3, h4⟩ := omin_n h2
    by_cases e : c = n
    · rw [e]; exact h4
    · exact ih h3 c (by omega)
theorem mn_le {g : Nat → Option Nat} : ∀ n w, mn g n = some w → ∀ c, c < n → ∀ v, g c = some v → w ≤ v := by
  intro n
  induction n with
  | zero => intro w _ c hc; omega
  | succ n ih =>
    intro w hw c hc v hv
    have hw2 : omin (mn g n) (g n) = some w := hw
    cases e1 : mn g n with
    | none =>
      rw [e1] at hw2
      by_cases ec : c = n
      · subst ec
        rw [hv] at hw2
        cases hw2
        exact Nat.le_refl _
      · rw [mn_n n e1 c (by omega)] at hv
        cases hv
    | some a =>
      rw [e1] at hw2
      cases e2 : g n with
      | none =>
        rw [e2] at hw2
        cases hw2
        by_cases ec : c = n
        · subst ec; rw [e2] at hv; cases hv
        · exact ih _ e1 c (by omega) v hv
      | some b =>
        rw [e2] at hw2
        have hw3 : (if b < a then b else a) = w := Option.some.inj hw2
        have w1 : w ≤ a ∧ w ≤ b := by
          by_cases q : b < a
          · rw [if_pos q] at hw3; omega
          · rw [if_neg q] at hw3; omega
        by_cases ec : c = n
        · subst ec; rw [e2] at hv; cases hv; exact w1.2
        · exact Nat.le_trans w1.1 (ih a e1 c (by omega) v hv)
theorem mn_at {g : Nat → Option Nat} : ∀ n w, mn g n = some w → ∃ c, c < n ∧ g c = some w ∧ ∀ d, d < c → g d ≠ some w := by
  intro n
  induction n with
  | zero => intro w h; cases h
  | succ n ih =>
    intro w hw
    have hw2 : omin (mn g n) (g n) = some w := hw
    cases e1 : mn g n with
    | none =>
      rw [e1] at hw2
      refine ⟨n, by omega, hw2, fun d hd => ?_⟩
      rw [mn_n n e1 d hd]
      exact fun q => by cases q
    | some a =>
      rw [e1] at hw2
      cases e2 : g n with
      | none =>
        rw [e2] at hw2
        cases hw2
        obtain ⟨c, c1, c2, c3⟩ := ih _ e1
        exact ⟨c, by omega, c2, c3⟩
      | some b =>
        rw [e2] at hw2
        have hw3 : (if b < a then b else a) = w := Option.some.inj hw2
        by_cases q : b < a
        · rw [if_pos q] at hw3
          refine ⟨n, by omega, by rw [e2, hw3], fun d hd hq => ?_⟩
          have := mn_le n a e1 d hd w hq
          omega
        · rw [if_neg q] at hw3
          subst hw3
          obtain ⟨c, c1, c2, c3⟩ := ih _ e1
          exact ⟨c, by omega, c2, c3⟩
/-- the least sum of the last k of n told hoops, when t are taken; with a child for the next -/
def Wv (D : Nat → Nat → Nat) (C n : Nat) : Nat → Nat → Option Nat
  | 0, _ => some 0
  | k + 1, t => mn (fun c => if fr t c = true then (Wv D C n k (tk t c)).map (fun v => D (n - (k + 1)) c + v) else none) C
def gW (D : Nat → Nat → Nat) (C n k t c : Nat) : Option Nat := if fr t c = true then (Wv D C n k (tk t c)).map (fun v => D (n - (k + 1)) c + v) else none
theorem Wv_s (D : Nat → Nat → Nat) (C n k t : Nat) : Wv D C n (k + 1) t = mn (gW D C n k t) C := rfl
theorem gW_t {D : Nat → Nat → Nat} {C n k t c v : Nat} (h : fr t c = true) (hv : Wv D C n k (tk t c) = some v) : gW D C n k t c = some (D (n - (k + 1)) c + v) := by
  unfold gW
  rw [if_pos h, hv]
  rfl
theorem gW_n {D : Nat → Nat → Nat} {C n k t c : Nat} (h : fr t c = true) (hv : Wv D C n k (tk t c) = none) : gW D C n k t c = none := by
  unfold gW
  rw [if_pos h, hv]
  rfl
theorem gW_f {D : Nat → Nat → Nat} {C n k t c : Nat} (h : ¬ fr t c = true) : gW D C n k t c = none := if_neg h
/-- enough children: there is a sum -/
theorem WA {D : Nat → Nat → Nat} {C n : Nat} (hC : C < 9) (hn : n ≤ C) (hD : ∀ i c, D i c ≤ 999) : ∀ k, k ≤ n → ∀ t, t < 2 ^ C → pc t = n - k → ∃ v, Wv D C n k t = some v ∧ v ≤ 999 * k := by
  intro k
  induction k with
  | zero => intro _ t _ _; exact ⟨0, rfl, by omega⟩
  | succ k ih =>
    intro hk t ht hp
    have h256 := p2_8 C hC
    have br : ∀ c, c < C → fr t c = true → ∃ v, Wv D C n k (tk t c) = some v ∧ v ≤ 999 * k := fun c hc hf => by
      obtain ⟨-, -, q⟩ := tk_8 t (by omega) c (by omega) hf
      exact ih (by omega) (tk t c) (tk_C C hC t ht c hc) (by omega)
    rw [Wv_s]
    refine mn_some C (fun c hc v hv => ?_) ?_
    · by_cases hf : fr t c = true
      · obtain ⟨u, u1, u2⟩ := br c hc hf
        rw [gW_t hf u1] at hv
        cases hv
        have := hD (n - (k + 1)) c
        omega
      · rw [gW_f hf] at hv; cases hv
    · obtain ⟨c, hc, hf⟩ := (fr_C C hC t ht).2 (by omega)
      obtain ⟨u, u1, u2⟩ := br c hc hf
      exact ⟨c, hc, by rw [gW_t hf u1]; exact Option.some_ne_none _⟩
theorem WB {D : Nat → Nat → Nat} {C n : Nat} (hC : C < 9) (hn : C < n) : ∀ k, k ≤ n → ∀ t, t < 2 ^ C → pc t = n - k → Wv D C n k t = none := by
  intro k
  induction k with
  | zero =>
    intro _ t ht hp
    have := (fr_C C hC t ht).1
    omega
  | succ k ih =>
    intro hk t ht hp
    have h256 := p2_8 C hC
    rw [Wv_s]
    refine mn_none C (fun c hc => ?_)
    by_cases hf : fr t c = true
    · obtain ⟨-, -, q⟩ := tk_8 t (by omega) c (by omega) hf
      exact gW_n hf (ih (by omega) (tk t c) (tk_C C hC t ht c hc) (by omega))
    · exact gW_f hf
/-- p gives the last k told hoops, each the first child by which the sum is least -/
def Pp (D : Nat → Nat → Nat) (C n : Nat) : Nat → Nat → (Nat → Nat) → Prop
  | 0, _, _ => True
  | k + 1, t, p => p (n - (k + 1)) < C ∧ gW D C n k t (p (n - (k + 1))) = Wv D C n (k + 1) t ∧ Wv D C n (k + 1) t ≠ none ∧ (∀ d, d < p (n - (k + 1)) → gW D C n k t d ≠ Wv D C n (k + 1) t) ∧ Pp D C n k (tk t (p (n - (k + 1)))) p
theorem Pp_u {D : Nat → Nat → Nat} {C n : Nat} : ∀ k, k ≤ n → ∀ t p p2, Pp D C n k t p → Pp D C n k t p2 → ∀ i, n - k ≤ i → i < n → p i = p2 i := by
  intro k
  induction k with
  | zero => intro _ t p p2 _ _ i h1 h2; omega
  | succ k ih =>
    intro hk t p p2 h1 h2 i hi hi2
    obtain ⟨a1, a2, a3, a4, a5⟩ := h1
    obtain ⟨b1, b2, b3, b4, b5⟩ := h2
    have e : p (n - (k + 1)) = p2 (n - (k + 1)) := by
      rcases Nat.lt_trichotomy (p (n - (k + 1))) (p2 (n - (k + 1))) with q | q | q
      · exact absurd a2 (b4 _ q)
      · exact q
      · exact absurd b2 (a4 _ q)
    by_cases ei : i = n - (k + 1)
    · rw [ei]; exact e
    · rw [← e] at b5
      exact ih (by omega) _ p p2 a5 b5 i (by omega) hi2
theorem Pp_c {D : Nat → Nat → Nat} {C n : Nat} : ∀ k, k ≤ n → ∀ t p p2, (∀ i, n - k ≤ i → i < n → p i = p2 i) → Pp D C n k t p → Pp D C n k t p2 := by
  intro k
  induction k with
  | zero => intro _ t p p2 _ _; exact trivial
  | succ k ih =>
    intro hk t p p2 h h1
    obtain ⟨a1, a2, a3, a4, a5⟩ := h1
    have e := h (n - (k + 1)) (by omega) (by omega)
    rw [e] at a1 a2 a4 a5
    exact ⟨a1, a2, a3, a4, ih (by omega) _ p p2 (fun i h1 h2 => h i (by omega) h2) a5⟩
/-- one child ahead of the rest -/
def pA1 (p : Nat → Nat) (i c : Nat) : Nat → Nat := fun j => if j = i then c else p j
theorem Pp_1 {D : Nat → Nat → Nat} {C n k t c w : Nat} (hk : k + 1 ≤ n) {p : Nat → Nat} (hc : c < C) (hw : Wv D C n (k + 1) t = some w) (h1 : gW D C n k t c = some w) (h2 : ∀ d, d < c → gW D C n k t d ≠ some w) (hp : Pp D C n k (tk t c) p) : Pp D C n (k + 1) t (pA1 p (n - (k + 1)) c) := by
  have e : pA1 p (n - (k + 1)) c (n - (k + 1)) = c := if_pos rfl
  refine ⟨by rw [e]; exact hc, by rw [e, h1, hw], by rw [hw]; exact Option.some_ne_none _, fun d hd => ?_, ?_⟩
  · rw [e] at hd; rw [hw]; exact h2 d hd
  · rw [e]
    refine Pp_c k (by omega) _ p _ (fun i h1 h2 => ?_) hp
    unfold pA1
    rw [if_neg (by omega)]
