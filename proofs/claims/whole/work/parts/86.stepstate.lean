/-! Steps told: what holds between two readings of both. -/
def wS (b : Nat) : Prop := 28 ≤ b ∧ b ≤ 31
def wM (b : Nat) : Prop := 850 ≤ b ∧ b ≤ 929
/-- a step that is no loop, as both have it -/
def PL (C H : Nat) (c m : gM) (j : Nat) : Prop := ∃ kd, c 29 j = nI kd ∧ m (850 + j) 0 = nI kd ∧ m (850 + j) 3 = nI (j + 1) ∧ ((kd = 0 ∧ ∃ h x, h < H ∧ x < C ∧ c 30 j = nI h ∧ c 31 j = nI x ∧ m (850 + j) 1 = nI h ∧ m (850 + j) 2 = nI x) ∨ kd = 1 ∨ kd = 2 ∨ (kd = 3 ∧ ∃ x, x < C ∧ c 30 j = nI x ∧ m (850 + j) 2 = nI x) ∨ (kd = 4 ∧ ∃ x b, x < C ∧ 1 ≤ b ∧ b ≤ 9 ∧ c 30 j = nI x ∧ c 31 j = nI b ∧ m (850 + j) 2 = nI x ∧ m (850 + j) 1 = nI b))
/-- a loop, as both have it -/
def AG (P : Nat → Nat → Prop) (c m : gM) (q j : Nat) : Prop := ∃ en t, j < en ∧ en ≤ q ∧ t ≤ 60 ∧ c 29 j = nI 5 ∧ m (850 + j) 0 = nI 5 ∧ c 30 j = nI t ∧ c 31 j = nI en ∧ m (850 + j) 1 = nI t ∧ m (850 + j) 3 = nI en ∧ P (j + 1) en
def BL (C H : Nat) (c m : gM) : Nat → Nat → Nat → Prop
  | 0, p, q => ∀ j, p ≤ j → j < q → PL C H c m j
  | d + 1, p, q => ∀ j, p ≤ j → j < q → PL C H c m j ∨ AG (BL C H c m d) c m q j
/-- a row of a block -/
def RW (C H : Nat) (c m : gM) : Nat → Nat → Nat → Prop
  | 0, _, j => PL C H c m j
  | d + 1, q, j => PL C H c m j ∨ AG (BL C H c m d) c m q j
theorem BL_i {C H : Nat} {c m : gM} {d p q : Nat} : BL C H c m d p q ↔ ∀ j, p ≤ j → j < q → RW C H c m d q j := by
  cases d <;> exact Iff.rfl
theorem PL_e {C H : Nat} {c m c2 m2 : gM} {j : Nat} (h1 : c2 29 j = c 29 j) (h2 : c2 30 j = c 30 j) (h3 : c2 31 j = c 31 j) (h4 : ∀ i, i < 4 → m2 (850 + j) i = m (850 + j) i) (h : PL C H c m j) : PL C H c2 m2 j := by
  unfold PL at h ⊢
  rw [h1, h2, h3, h4 0 (by decide), h4 1 (by decide), h4 2 (by decide), h4 3 (by decide)]
  exact h
/-- the rows of [p, q) are the same -/
def sR (p q : Nat) (c m c2 m2 : gM) : Prop := ∀ j, p ≤ j → j < q → c2 29 j = c 29 j ∧ c2 30 j = c 30 j ∧ c2 31 j = c 31 j ∧ ∀ i, i < 4 → m2 (850 + j) i = m (850 + j) i
theorem sR.rfl' (p q : Nat) (c m : gM) : sR p q c m c m := fun _ _ _ => ⟨rfl, rfl, rfl, fun _ _ => rfl⟩
theorem sR.trans {p q : Nat} {a b a2 b2 a3 b3 : gM} (h1 : sR p q a b a2 b2) (h2 : sR p q a2 b2 a3 b3) : sR p q a b a3 b3 := fun j hp hq => by
  obtain ⟨x1, x2, x3, x4⟩ := h1 j hp hq
  obtain ⟨y1, y2, y3, y4⟩ := h2 j hp hq
  exact ⟨y1.trans x1, y2.trans x2, y3.trans x3, fun i hi => (y4 i hi).trans (x4 i hi)⟩
theorem sR.sub {p q p2 q2 : Nat} {a b a2 b2 : gM} (h : sR p q a b a2 b2) (hp : p ≤ p2) (hq : q2 ≤ q) : sR p2 q2 a b a2 b2 := fun j h1 h2 => h j (by omega) (by omega)
theorem BL_e {C H : Nat} {c m c2 m2 : gM} : ∀ d p q, sR p q c m c2 m2 → BL C H c m d p q → BL C H c2 m2 d p q := by
  intro d
  induction d with
  | zero =>
    intro p q hs h j hp hq
    obtain ⟨x1, x2, x3, x4⟩ := hs j hp hq
    exact PL_e x1 x2 x3 x4 (h j hp hq)
  | succ d ih =>
    intro p q hs h j hp hq
    obtain ⟨x1, x2, x3, x4⟩ := hs j hp hq
    rcases h j hp hq with h | ⟨en, t, h1, h2, h3, h4, h5, h6, h7, h8, h9, h10⟩
    · exact Or.inl (PL_e x1 x2 x3 x4 h)
    · refine Or.inr ⟨en, t, h1, h2, h3, by rw [x1]; exact h4, by rw [x4 0 (by decide)]; exact h5, by rw [x2]; exact h6, by rw [x3]; exact h7, by rw [x4 1 (by decide)]; exact h8, by rw [x4 3 (by decide)]; exact h9, ?_⟩
      exact ih (j + 1) en (hs.sub (by omega) h2) h10
theorem BL_up {C H : Nat} {c m : gM} : ∀ d p q, BL C H c m d p q → BL C H c m (d + 1) p q := by
  intro d
  induction d with
  | zero => intro p q h j hp hq; exact Or.inl (h j hp hq)
  | succ d ih =>
    intro p q h j hp hq
    rcases h j hp hq with h | ⟨en, t, h1, h2, h3, h4, h5, h6, h7, h8, h9, h10⟩
    · exact Or.inl h
    · exact Or.inr ⟨en, t, h1, h2, h3, h4, h5, h6, h7, h8, h9, ih _ _ h10⟩
/-- a block goes on -/
theorem BL_add {C H : Nat} {c m : gM} {d p k q : Nat} (hk : k ≤ q) (h : BL C H c m d p k) (h2 : ∀ j, k ≤ j → j < q → RW C H c m d q j) : BL C H c m d p q := by
  rw [BL_i] at h ⊢
  intro j hp hq
  by_cases z : j < k
  · have := h j hp z
    cases d with
    | zero => exact this
    | succ d =>
      rcases this with a | ⟨en, t, h1, h2, h3, h4⟩
      · exact Or.inl a
      · exact Or.inr ⟨en, t, h1, by omega, h3, h4⟩
  · exact h2 j (by omega) hq
/-- what both know of the park -/
def KP (C H : Nat) (c m : gM) : Prop := c 3 6 = nI C ∧ m 468 1 = nI C ∧ C ≤ 8 ∧ c 3 7 = nI H ∧ m 468 2 = nI H ∧ H ≤ 8
theorem KP_x {C H : Nat} {c m c2 m2 : gM} (h : KP C H c m) (hc : cX wS c c2) (hm : mX wM m m2) : KP C H c2 m2 := by
  unfold KP at h ⊢
  rw [hc.1 3 (by decide) (by unfold wS; omega), hm.1 468 (by decide) (by unfold wM; omega)]
  exact h
/-- what both know of the steps -/
def KC (o k : Nat) (c m : gM) : Prop := c 28 5 = nI k ∧ m 464 28 = nI k ∧ m 464 8 = nI o
theorem KC_S {o k : Nat} {c m c2 m2 : gM} (h : KC o k c m) (hc : cS c c2) (hm : mS m m2) : KC o k c2 m2 := by
  unfold KC at h ⊢
  rw [hc.1 28 (by decide), hm.2 28 (by decide) (by decide) (by decide), hm.2 8 (by decide) (by decide) (by decide)]
  exact h
theorem sR_S {p q : Nat} {c m c2 m2 : gM} (hc : cS c c2) (hm : mS m m2) : sR p q c m c2 m2 := fun j _ _ => ⟨by rw [hc.1 29 (by decide)], by rw [hc.1 30 (by decide)], by rw [hc.1 31 (by decide)], fun i _ => by rw [hm.1 (850 + j) (by omega)]⟩
/-- both ahead of a step, or both at the same fault -/
def SZ (n : Nat) (B : Nat → Nat) (C H : Nat) (c0 m0 : gM) (o d lo E : Nat) (c m : gM) : Prop := cX wS c0 c ∧ mX wM m0 m ∧ ((∃ e f k, E ≤ e ∧ lo ≤ k ∧ 4 * k ≤ e ∧ PS n B e f c m ∧ KC o k c m ∧ BL C H c m d lo k ∧ sR 0 lo c0 m0 c m) ∨ PF n B c m)
theorem SZ_w {n : Nat} {B : Nat → Nat} {C H : Nat} {c0 m0 : gM} {o d lo E E2 : Nat} {c m : gM} (h : SZ n B C H c0 m0 o d lo E c m) (hE : E2 ≤ E) : SZ n B C H c0 m0 o d lo E2 c m := by
  obtain ⟨a1, a2, ⟨e, f, k, b1, b2⟩ | a3⟩ := h
  · exact ⟨a1, a2, Or.inl ⟨e, f, k, by omega, b2⟩⟩
  · exact ⟨a1, a2, Or.inr a3⟩
theorem SZ_S {n : Nat} {B : Nat → Nat} {C H : Nat} {c0 m0 : gM} {o d lo E : Nat} {c m c2 m2 : gM} {k e2 f2 : Nat} (a1 : cX wS c0 c) (a2 : mX wM m0 m) (hE : E ≤ e2) (hk : lo ≤ k) (h4 : 4 * k ≤ e2) (hP : PS n B e2 f2 c2 m2) (hW : KC o k c m) (hB : BL C H c m d lo k) (hR : sR 0 lo c0 m0 c m) (hc : cS c c2) (hm : mS m m2) : SZ n B C H c0 m0 o d lo E c2 m2 :=
  ⟨a1.trans hc.cX, a2.trans hm.mX, Or.inl ⟨e2, f2, k, hE, hk, h4, hP, KC_S hW hc hm, BL_e d lo k (sR_S hc hm) hB, hR.trans (sR_S hc hm)⟩⟩
theorem okk_bb {α β γ : Type} {o : Option α} {f : α → Option β} {g : β → Option γ} {Q : α → Prop} {P : γ → Prop} (h : okk o Q) (k : ∀ s, Q s → okk ((f s).bind g) P) : okk ((o.bind f).bind g) P := by
  obtain ⟨x, rfl, hx⟩ := h
  exact k x hx
