/-! Reading: runs of bytes, numbers, words; the class's Tape and the model's place in its text. -/
/-- the end of a run -/
def rn (P : Nat → Bool) : Nat → Nat → Nat
  | 0, p => p
  | k + 1, p => if P p = true then rn P k (p + 1) else p
def rnp (n : Nat) (P : Nat → Bool) (p : Nat) : Nat := rn P (n - p) p
theorem rnp_s {n : Nat} {P : Nat → Bool} {p : Nat} (h : p < n) (hp : P p = true) : rnp n P p = rnp n P (p + 1) := by
  unfold rnp
  obtain ⟨k, hk⟩ : ∃ k, n - p = k + 1 := ⟨n - p - 1, by omega⟩
  rw [hk, show n - (p + 1) = k by omega]
  show (if P p = true then rn P k (p + 1) else p) = _
  rw [if_pos hp]
theorem rnp_f {n : Nat} {P : Nat → Bool} {p : Nat} (hp : ¬ P p = true) : rnp n P p = p := by
  unfold rnp
  cases hk : n - p with
  | zero => rfl
  | succ k =>
    show (if P p = true then rn P k (p + 1) else p) = _
    rw [if_neg hp]
theorem rnp_n {n : Nat} {P : Nat → Bool} {p : Nat} (hp : n ≤ p) : rnp n P p = p := by
  unfold rnp
  rw [show n - p = 0 by omega]
  rfl
theorem rnp_ge {n : Nat} {P : Nat → Bool} : ∀ k p, n - p = k → p ≤ rnp n P p ∧ (p ≤ n → rnp n P p ≤ n) ∧ (rnp n P p < n → ¬ P (rnp n P p) = true) ∧ ∀ j, p ≤ j → j < rnp n P p → P j = true := by
  intro k
  induction k with
  | zero =>
    intro p hp
    rw [rnp_n (by omega)]
    exact ⟨Nat.le_refl _, fun h => h, fun h => by omega, fun j h1 h2 => by omega⟩
  | succ k ih =>
    intro p hp
    by_cases e : P p = true
    · rw [rnp_s (by omega) e]
      obtain ⟨h1, h2, h3, h4⟩ := ih (p + 1) (by omega)
      refine ⟨by omega, fun _ => h2 (by omega), h3, fun j j1 j2 => ?_⟩
      by_cases ej : j = p
      · rw [ej]; exact e
      · exact h4 j (by omega) j2
    · rw [rnp_f e]
      exact ⟨Nat.le_refl _, fun h => h, fun _ => e, fun j h1 h2 => by omega⟩
theorem rnp_i {n : Nat} {P : Nat → Bool} (p : Nat) : rnp n P (rnp n P p) = rnp n P p := by
  obtain ⟨h1, h2, h3, h4⟩ := rnp_ge (n := n) (P := P) _ p rfl
  rcases Nat.lt_or_ge (rnp n P p) n with q | q
  · exact rnp_f (h3 q)
  · exact rnp_n q
def isd (b : Nat) : Bool := decide (48 ≤ b) && decide (b ≤ 57)
def iss (b : Nat) : Bool := decide (97 ≤ b) && decide (b ≤ 122)
theorem isd_e : ∀ b, b < 256 → F_isDigit (nI b) = if isd b = true then 1 else 0 := by decide +kernel
theorem iss_e : ∀ b, b < 256 → F_isSmall (nI b) = if iss b = true then 1 else 0 := by decide +kernel
theorem by_eq : ∀ b, b < 256 → ∀ k, k < 256 → (nI b = nI k ↔ b = k) := fun b hb k hk => nI_eq (by omega) (by omega)
def bl (B : Nat → Nat) (j : Nat) : Bool := B j == 32
/-- past the blanks -/
def skp (n : Nat) (B : Nat → Nat) (p : Nat) : Nat := rnp n (bl B) p
def dgp (n : Nat) (B : Nat → Nat) (p : Nat) : Nat := rnp n (fun j => isd (B j)) p
def wdp (n : Nat) (B : Nat → Nat) (p : Nat) : Nat := rnp n (fun j => iss (B j)) p
def chr (n : Nat) (B : Nat → Nat) (q : Nat) : Int32 := if q < n then nI (B q) else -1
/-- the class's tape: the text, the place, the fault -/
def tC (n : Nat) (B : Nat → Nat) (p : Nat) (f w : Int32) (c : gM) : Prop := c 1 2 = nI n ∧ c 1 3 = nI p ∧ c 1 5 = f ∧ c 1 6 = w ∧ p ≤ n ∧ n ≤ 600 ∧ ∀ j, j < n → B j < 256 ∧ c 2 j = nI (B j)
def tM (n : Nat) (B : Nat → Nat) (p : Nat) (f w : Int32) (m : gM) : Prop := m 464 2 = nI n ∧ m 464 4 = nI p ∧ m 464 5 = f ∧ m 464 6 = w ∧ p ≤ n ∧ n ≤ 600 ∧ ∀ j, j < n → B j < 256 ∧ m 465 j = nI (B j)
def cS (c M : gM) : Prop := (∀ b, b ≠ 1 → M b = c b) ∧ ∀ k, k ≠ 3 → k ≠ 4 → k ≠ 5 → k ≠ 6 → M 1 k = c 1 k
def mS (m M : gM) : Prop := (∀ b, b ≠ 464 → M b = m b) ∧ ∀ k, k ≠ 4 → k ≠ 5 → k ≠ 6 → M 464 k = m 464 k
theorem cS.rfl' (c : gM) : cS c c := ⟨fun _ _ => rfl, fun _ _ _ _ _ => rfl⟩
theorem mS.rfl' (m : gM) : mS m m := ⟨fun _ _ => rfl, fun _ _ _ _ => rfl⟩
theorem cS.trans {a b c : gM} (h1 : cS a b) (h2 : cS b c) : cS a c := ⟨fun x hx => (h2.1 x hx).trans (h1.1 x hx), fun k a1 a2 a3 a4 => (h2.2 k a1 a2 a3 a4).trans (h1.2 k a1 a2 a3 a4)⟩
theorem mS.trans {a b c : gM} (h1 : mS a b) (h2 : mS b c) : mS a c := ⟨fun x hx => (h2.1 x hx).trans (h1.1 x hx), fun k a1 a2 a3 => (h2.2 k a1 a2 a3).trans (h1.2 k a1 a2 a3)⟩
theorem cS_set {c M : gM} (h : cS c M) {k : Nat} {x : Int32} (hk : 3 ≤ k ∧ k ≤ 6) : cS c (g_set M 1 k x) := ⟨fun b hb => by rw [g_set_ne hb]; exact h.1 b hb, fun q a1 a2 a3 a4 => by rw [g_set_k (by omega)]; exact h.2 q a1 a2 a3 a4⟩
theorem mS_set {m M : gM} (h : mS m M) {k : Nat} {x : Int32} (hk : 4 ≤ k ∧ k ≤ 6) : mS m (g_set M 464 k x) := ⟨fun b hb => by rw [g_set_ne hb]; exact h.1 b hb, fun q a1 a2 a3 => by rw [g_set_k (by omega)]; exact h.2 q a1 a2 a3⟩
theorem tC_3 {n : Nat} {B : Nat → Nat} {p q : Nat} {f w : Int32} {c : gM} (h : tC n B p f w c) (hq : q ≤ n) : tC n B q f w (g_set c 1 3 (nI q)) := by
  obtain ⟨h1, h2, h3, h4, h5, h6, h7⟩ := h
  exact ⟨by rw [g_set_k (by decide)]; exact h1, g_set_eq _ _ _ _, by rw [g_set_k (by decide)]; exact h3, by rw [g_set_k (by decide)]; exact h4, hq, h6, fun j hj => by rw [g_set_ne (by decide)]; exact h7 j hj⟩
theorem tC_4 {n : Nat} {B : Nat → Nat} {p : Nat} {f w x : Int32} {c : gM} (h : tC n B p f w c) : tC n B p f w (g_set c 1 4 x) := by
  obtain ⟨h1, h2, h3, h4, h5, h6, h7⟩ := h
  exact ⟨by rw [g_set_k (by decide)]; exact h1, by rw [g_set_k (by decide)]; exact h2, by rw [g_set_k (by decide)]; exact h3, by rw [g_set_k (by decide)]; exact h4, h5, h6, fun j hj => by rw [g_set_ne (by decide)]; exact h7 j hj⟩
theorem tM_4 {n : Nat} {B : Nat → Nat} {p q : Nat} {f w : Int32} {m : gM} (h : tM n B p f w m) (hq : q ≤ n) : tM n B q f w (g_set m 464 4 (nI q)) := by
  obtain ⟨h1, h2, h3, h4, h5, h6, h7⟩ := h
  exact ⟨by rw [g_set_k (by decide)]; exact h1, g_set_eq _ _ _ _, by rw [g_set_k (by decide)]; exact h3, by rw [g_set_k (by decide)]; exact h4, hq, h6, fun j hj => by rw [g_set_ne (by decide)]; exact h7 j hj⟩
/-- the fault that stands after k at q -/
def ff (f k : Int32) : Int32 := if f = 0 then k else f
def fw (f w q : Int32) : Int32 := if f = 0 then q else w
theorem L_fail {n : Nat} {B : Nat → Nat} {p : Nat} {f w : Int32} {c : gM} (h : tC n B p f w c) (k q : Int32) : okk (F_fail k q c) (fun s => tC n B p (ff f k) (fw f w q) s ∧ s 1 4 = c 1 4 ∧ cS c s) := by
  obtain ⟨h1, h2, h3, h4, h5, h6, h7⟩ := h
  unfold F_fail
  rw [h3]
  by_cases e : f = 0
  · rw [if_pos e]
    refine okk_some ⟨⟨by rw [g_set_k (by decide), g_set_k (by decide)]; exact h1, by rw [g_set_k (by decide), g_set_k (by decide)]; exact h2, ?_, ?_, h5, h6, fun j hj => by rw [g_set_ne (by decide), g_set_ne (by decide)]; exact h7 j hj⟩, by rw [g_set_k (by decide), g_set_k (by decide)], cS_set (cS_set (cS.rfl' c) (by omega)) (by omega)⟩
    · rw [g_set_k (by decide), g_set_eq]; exact (if_pos e).symm
    · rw [g_set_eq]; exact (if_pos e).symm
  · rw [if_neg e]
    refine okk_some ⟨⟨h1, h2, ?_, ?_, h5, h6, h7⟩, rfl, cS.rfl' c⟩
    · rw [h3]; exact (if_neg e).symm
    · rw [h4]; exact (if_neg e).symm
theorem M_wrong {n : Nat} {B : Nat → Nat} {p : Nat} {f w : Int32} {m : gM} (h : tM n B p f w m) (k q : Int32) : okk (FM_wrong k q m) (fun s => tM n B p (ff f k) (fw f w q) s ∧ mS m s) := by
  obtain ⟨h1, h2, h3, h4, h5, h6, h7⟩ := h
  unfold FM_wrong
  rw [h3]
  by_cases e : f = 0
  · rw [if_pos e]
    refine okk_some ⟨⟨by rw [g_set_k (by decide), g_set_k (by decide)]; exact h1, by rw [g_set_k (by decide), g_set_k (by decide)]; exact h2, ?_, ?_, h5, h6, fun j hj => by rw [g_set_ne (by decide), g_set_ne (by decide)]; exact h7 j hj⟩, mS_set (mS_set (mS.rfl' m) (by omega)) (by omega)⟩
    · rw [g_set_k (by decide), g_set_eq]; exact (if_pos e).symm
    · rw [g_set_eq]; exact (if_pos e).symm
  · rw [if_neg e]
    refine okk_some ⟨⟨h1, h2, ?_, ?_, h5, h6, h7⟩, mS.rfl' m⟩
    · rw [h3]; exact (if_neg e).symm
    · rw [h4]; exact (if_neg e).symm
theorem next_e (M : gM) : F_next M = F_next_L0 (1000 + 1) M := by
  have h : F_next_L0 (1000 + 1) M = F_next M := by
    rw [F_next_L0]
    rfl
  exact h.symm
theorem L_next {n : Nat} {B : Nat → Nat} {p : Nat} {f w : Int32} {c : gM} (h : tC n B p f w c) : okk (F_next c) (fun s => s.1 = chr n B (skp n B p) ∧ tC n B (skp n B p) f w s.2 ∧ s.2 1 4 = c 1 4 ∧ cS c s.2) := by
  have L : ∀ (k p : Nat), n - p = k → ∀ fl, k < fl → ∀ c, tC n B p f w c → okk (F_next_L0 fl c) (fun s => s.1 = chr n B (skp n B p) ∧ tC n B (skp n B p) f w s.2 ∧ s.2 1 4 = c 1 4 ∧ cS c s.2) := by
    intro k
    induction k with
    | zero =>
      intro p hp fl hfl c h
      obtain ⟨fl, rfl⟩ : ∃ g, fl = g + 1 := ⟨fl - 1, by omega⟩
      have hc := h
      obtain ⟨h1, h2, h3, h4, h5, h6, h7⟩ := h
      have es : skp n B p = p := rnp_n (by omega)
      rw [F_next_L0, h2, h1, if_neg (nI_pos (by omega)), if_pos (nI_le (show n ≤ p by omega) (by omega)), es]
      exact okk_some ⟨by unfold chr; rw [if_neg (by omega)], hc, rfl, cS.rfl' c⟩
    | succ k ih =>
      intro p hp fl hfl c h
      obtain ⟨fl, rfl⟩ : ∃ g, fl = g + 1 := ⟨fl - 1, by omega⟩
      have hc := h
      obtain ⟨h1, h2, h3, h4, h5, h6, h7⟩ := h
      obtain ⟨hb, hcb⟩ := h7 p (by omega)
      rw [F_next_L0, h2, h1, if_neg (nI_pos (by omega)), if_neg (nI_ge (show p < n by omega) (by omega)), if_neg (nI_ge (show p < 600 by omega) (by decide)), ix_in (show p < 600 by omega) (by decide), ix_in (show p < 600 by omega) (by decide), hcb, nI_1]
      by_cases e : B p = 32
      · rw [if_pos (by rw [e]; rfl)]
        have es : skp n B p = skp n B (p + 1) := rnp_s (by omega) (by unfold bl; rw [e]; rfl)
        rw [es]
        refine okk_w (ih (p + 1) (by omega) fl (by omega) _ (tC_3 hc (by omega))) ?_
        rintro s ⟨s1, s2, s3, s4⟩
        exact ⟨s1, s2, by rw [s3, g_set_k (by decide)], (cS_set (cS.rfl' c) (by omega)).trans s4⟩
      · rw [if_neg (show ¬ nI (B p) = 32 from fun q => e ((by_eq _ hb 32 (by decide)).mp q))]
        have es : skp n B p = p := rnp_f (by unfold bl; exact fun q => e (beq_iff_eq.mp q))
        rw [es]
        exact okk_some ⟨by unfold chr; rw [if_pos (by omega)], hc, rfl, cS.rfl' c⟩
  rw [next_e]
  have h6 := h.2.2.2.2.2.1
  exact L (n - p) p rfl (1000 + 1) (by omega) c h
theorem M_byteAt {n : Nat} {B : Nat → Nat} {p : Nat} {f w : Int32} {m : gM} (h : tM n B p f w m) {q : Nat} (hq : q ≤ 1200) : FM_byteAt (nI q) m = some (chr n B q) := by
  obtain ⟨h1, h2, h3, h4, h5, h6, h7⟩ := h
  unfold FM_byteAt chr
  rw [h1]
  by_cases e : q < n
  · rw [if_pos (nI_lt e (by omega)), if_pos e, ix_in (show q < 600 by omega) (by decide), (h7 q e).2]
  · rw [if_neg (nI_nlt (by omega) (by omega)), if_neg e]
theorem blanks_e (M : gM) : FM_blanks M = FM_blanks_L0 (1000 + 1) M := by
  have h : FM_blanks_L0 (1000 + 1) M = FM_blanks M := by
    rw [FM_blanks_L0]
    rfl
  exact h.symm
theorem chr_32 {n : Nat} {B : Nat → Nat} {q : Nat} (hB : ∀ j, j < n → B j < 256) {k : Nat} (hk : k < 256) : chr n B q = nI k ↔ q < n ∧ B q = k := by
  unfold chr
  by_cases e : q < n
  · rw [if_pos e, by_eq _ (hB q e) k hk]
    exact ⟨fun h => ⟨e, h⟩, fun h => h.2⟩
  · rw [if_neg e]
    refine ⟨fun h => absurd h.symm (nI_nm1 (by omega)), fun h => absurd h.1 e⟩
theorem M_blanks {n : Nat} {B : Nat → Nat} {p : Nat} {f w : Int32} {m : gM} (h : tM n B p f w m) : okk (FM_blanks m) (fun s => tM n B (skp n B p) f w s ∧ mS m s) := by
  have L : ∀ (k p : Nat), n - p = k → ∀ fl, k < fl → ∀ m, tM n B p f w m → okk (FM_blanks_L0 fl m) (fun s => tM n B (skp n B p) f w s ∧ mS m s) := by
    intro k
    induction k with
    | zero =>
      intro p hp fl hfl m h
      obtain ⟨fl, rfl⟩ : ∃ g, fl = g + 1 := ⟨fl - 1, by omega⟩
      have hB := fun j hj => (h.2.2.2.2.2.2 j hj).1
      have es : skp n B p = p := rnp_n (by omega)
      rw [FM_blanks_L0, h.2.1, M_byteAt h (by have := h.2.2.2.2; omega), Option.bind_some, if_neg (show ¬ chr n B p = 32 from fun q => by have := (chr_32 (k := 32) hB (by decide)).mp q; omega), es]
      exact okk_some ⟨h, mS.rfl' m⟩
    | succ k ih =>
      intro p hp fl hfl m h
      obtain ⟨fl, rfl⟩ : ∃ g, fl = g + 1 := ⟨fl - 1, by omega⟩
      have hB := fun j hj => (h.2.2.2.2.2.2 j hj).1
      rw [FM_blanks_L0, h.2.1, M_byteAt h (by have := h.2.2.2.2; omega), Option.bind_some, nI_1]
      by_cases e : B p = 32
      · have es : skp n B p = skp n B (p + 1) := rnp_s (by omega) (by unfold bl; rw [e]; rfl)
        rw [if_pos (show chr n B p = 32 from (chr_32 (k := 32) hB (by decide)).mpr ⟨by omega, e⟩), es]
        refine okk_w (ih (p + 1) (by omega) fl (by omega) _ (tM_4 h (by omega))) ?_
        rintro s ⟨s1, s2⟩
        exact ⟨s1, (mS_set (mS.rfl' m) (by omega)).trans s2⟩
      · have es : skp n B p = p := rnp_f (by unfold bl; exact fun q => e (beq_iff_eq.mp q))
        rw [if_neg (show ¬ chr n B p = 32 from fun q => e ((chr_32 (k := 32) hB (by decide)).mp q).2), es]
        exact okk_some ⟨h, mS.rfl' m⟩
  rw [blanks_e]
  have h6 := h.2.2.2.2.2.1
  exact L (n - p) p rfl (1000 + 1) (by omega) m h
theorem skp_le {n : Nat} {B : Nat → Nat} {p : Nat} (h : p ≤ n) : p ≤ skp n B p ∧ skp n B p ≤ n := ⟨(rnp_ge _ p rfl).1, (rnp_ge _ p rfl).2.1 h⟩
theorem skp_i {n : Nat} {B : Nat → Nat} (p : Nat) : skp n B (skp n B p) = skp n B p := rnp_i p
/-- where the place and the fault are behind a sign -/
def nP (n : Nat) (B : Nat → Nat) (k q : Nat) : Nat := if q < n ∧ B q = k then q + 1 else q
theorem L_need {n : Nat} {B : Nat → Nat} {p : Nat} {f w : Int32} {c : gM} (h : tC n B p f w c) {k : Nat} (hk : k < 256) : okk (F_need (nI k) c) (fun s => tC n B (nP n B k (skp n B p)) (if skp n B p < n ∧ B (skp n B p) = k then f else ff f 1) (if skp n B p < n ∧ B (skp n B p) = k then w else fw f w (nI (skp n B p))) s ∧ s 1 4 = c 1 4 ∧ cS c s) := by
  have hB := fun j hj => (h.2.2.2.2.2.2 j hj).1
  have hle := skp_le (B := B) h.2.2.2.2.1
  unfold F_need nP
  refine okk_bind (L_next h) ?_
  rintro ⟨x, M⟩ ⟨rfl, h2, h3, h4⟩
  dsimp only at h2 h3 h4 ⊢
  by_cases e : skp n B p < n ∧ B (skp n B p) = k
  · rw [if_pos ((chr_32 hB hk).mpr e), if_pos e, if_pos e, if_pos e, h2.2.1, nI_1]
    exact okk_some ⟨tC_3 h2 (by omega), by rw [g_set_k (by decide)]; exact h3, cS_set h4 (by omega)⟩
  · rw [if_neg (fun q => e ((chr_32 hB hk).mp q)), if_neg e, if_neg e, if_neg e, h2.2.1]
    refine okk_bind (L_fail h2 1 (nI (skp n B p))) ?_
    rintro s ⟨s1, s2, s3⟩
    exact okk_some ⟨s1, s2.trans h3, h4.trans s3⟩
theorem M_sign {n : Nat} {B : Nat → Nat} {p : Nat} {w : Int32} {m : gM} (h : tM n B p 0 w m) {k : Nat} (hk : k < 256) : okk (FM_sign (nI k) m) (fun s => tM n B (nP n B k (skp n B p)) (if skp n B p < n ∧ B (skp n B p) = k then 0 else 1) (if skp n B p < n ∧ B (skp n B p) = k then w else nI (skp n B p)) s ∧ mS m s) := by
  have hB := fun j hj => (h.2.2.2.2.2.2 j hj).1
  have hle := skp_le (B := B) h.2.2.2.2.1
  unfold FM_sign nP
  rw [h.2.2.1, if_pos rfl]
  refine okk_bind (M_blanks h) ?_
  rintro M ⟨h2, h4⟩
  rw [h2.2.1, M_byteAt h2 (by have := h.2.2.2.2.2.1; omega), Option.bind_some]
  by_cases e : skp n B p < n ∧ B (skp n B p) = k
  · rw [if_pos ((chr_32 hB hk).mpr e), if_pos e, if_pos e, if_pos e, nI_1]
    exact okk_some ⟨tM_4 h2 (by omega), mS_set h4 (by omega)⟩
  · rw [if_neg (fun q => e ((chr_32 hB hk).mp q)), if_neg e, if_neg e, if_neg e]
    refine okk_bind (M_wrong h2 1 (nI (skp n B p))) ?_
    rintro s ⟨s1, s3⟩
    exact okk_some ⟨s1, h4.trans s3⟩
theorem M_takes {n : Nat} {B : Nat → Nat} {p : Nat} {w : Int32} {m : gM} (h : tM n B p 0 w m) {k : Nat} (hk : k < 256) : okk (FM_takesSign (nI k) m) (fun s => s.1 = (if skp n B p < n ∧ B (skp n B p) = k then 1 else 0) ∧ tM n B (nP n B k (skp n B p)) 0 w s.2 ∧ mS m s.2) := by
  have hB := fun j hj => (h.2.2.2.2.2.2 j hj).1
  have hle := skp_le (B := B) h.2.2.2.2.1
  unfold FM_takesSign nP FM_takesSign_J30
  rw [h.2.2.1, if_pos rfl]
  refine okk_bind (M_blanks h) ?_
  rintro M ⟨h2, h4⟩
  rw [h2.2.1, M_byteAt h2 (by have := h.2.2.2.2.2.1; omega), Option.bind_some]
  by_cases e : skp n B p < n ∧ B (skp n B p) = k
  · rw [if_pos ((chr_32 hB hk).mpr e), if_neg i10, if_pos e, if_pos e, nI_1]
    exact okk_some ⟨rfl, tM_4 h2 (by omega), mS_set h4 (by omega)⟩
  · rw [if_neg (fun q => e ((chr_32 hB hk).mp q)), if_pos rfl, if_neg e, if_neg e]
    exact okk_some ⟨rfl, h2, h4⟩
