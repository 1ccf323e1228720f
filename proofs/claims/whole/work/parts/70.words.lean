/-! Words, read by both sides. -/
def vl (d : Nat → Nat) : Nat → Nat
  | 0 => 0
  | k + 1 => 27 * vl d k + d k
theorem vl_inj {d e : Nat → Nat} : ∀ k l, (∀ i, i < k → 1 ≤ d i ∧ d i ≤ 26) → (∀ i, i < l → 1 ≤ e i ∧ e i ≤ 26) → vl d k = vl e l → k = l ∧ ∀ i, i < k → d i = e i := by
  intro k
  induction k with
  | zero =>
    intro l hd he h
    cases l with
    | zero => exact ⟨rfl, fun i hi => absurd hi (by omega)⟩
    | succ l =>
      have := he l (by omega)
      have h2 : (0 : Nat) = 27 * vl e l + e l := h
      omega
  | succ k ih =>
    intro l hd he h
    cases l with
    | zero =>
      have := hd k (by omega)
      have h2 : 27 * vl d k + d k = 0 := h
      omega
    | succ l =>
      have h1 := hd k (by omega)
      have h2 := he l (by omega)
      have h3 : 27 * vl d k + d k = 27 * vl e l + e l := h
      have h4 : vl d k = vl e l := by omega
      have h5 : d k = e l := by omega
      obtain ⟨h6, h7⟩ := ih l (fun i hi => hd i (by omega)) (fun i hi => he i (by omega)) h4
      subst h6
      refine ⟨rfl, fun i hi => ?_⟩
      by_cases ei : i = k
      · rw [ei]; exact h5
      · exact h7 i (by omega)
theorem vl_lt {d : Nat → Nat} : ∀ k, (∀ i, i < k → d i ≤ 26) → vl d k < 27 ^ k := by
  intro k
  induction k with
  | zero => intro _; exact Nat.one_pos
  | succ k ih =>
    intro h
    have h1 := ih (fun i hi => h i (by omega))
    have h2 := h k (by omega)
    show 27 * vl d k + d k < 27 ^ (k + 1)
    rw [Nat.pow_succ]
    omega
theorem vl_cg {d e : Nat → Nat} : ∀ k, (∀ i, i < k → d i = e i) → vl d k = vl e k := by
  intro k
  induction k with
  | zero => intro _; rfl
  | succ k ih => intro h; show 27 * vl d k + d k = 27 * vl e k + e k; rw [ih (fun i hi => h i (by omega)), h k (by omega)]
/-- letters of a text of the class -/
def tl (t : Nat) : Nat := g_len.getD t 0
def tx (t i : Nat) : Nat := (g_ch t i).toNatClampNeg
theorem tx_e : ∀ t, t < 19 → 1 ≤ t → tl t ≤ 6 ∧ 1 ≤ tl t ∧ ∀ i, i < 6 → i < tl t → g_ch t i = nI (tx t i) ∧ 97 ≤ tx t i ∧ tx t i ≤ 122 := by decide +kernel
/-- the word at q is text t -/
def wd (n : Nat) (B : Nat → Nat) (q t : Nat) : Prop := wdp n B q = q + tl t ∧ ∀ i, i < tl t → B (q + i) = tx t i
theorem L_word {n : Nat} {B : Nat → Nat} {p : Nat} {f w : Int32} {c : gM} (h : tC n B p f w c) : okk (F_word c) (fun s => tC n B (wdp n B (skp n B p)) f w s ∧ s 1 4 = nI (skp n B p) ∧ cS c s) := by
  have L : ∀ (k p : Nat), n - p = k → ∀ fl, k < fl → ∀ c, tC n B p f w c → okk (F_word_L13 fl c) (fun s => tC n B (wdp n B p) f w s ∧ s 1 4 = c 1 4 ∧ cS c s) := by
    intro k
    induction k with
    | zero =>
      intro p hp fl hfl c h
      obtain ⟨fl, rfl⟩ : ∃ g, fl = g + 1 := ⟨fl - 1, by omega⟩
      have hn := h.2.2.2.2
      have es : wdp n B p = p := rnp_n (by omega)
      rw [F_word_L13, h.1, h.2.1, if_pos (nI_le (show n ≤ p by omega) (by omega)), es]
      exact okk_some ⟨h, rfl, cS.rfl' c⟩
    | succ k ih =>
      intro p hp fl hfl c h
      obtain ⟨fl, rfl⟩ : ∃ g, fl = g + 1 := ⟨fl - 1, by omega⟩
      have hn := h.2.2.2.2
      obtain ⟨hb, hcb⟩ := hn.2.2 p (by omega)
      rw [F_word_L13, h.1, h.2.1, if_neg (nI_ge (show p < n by omega) (by omega)), r_at_in _ (show p < 600 by omega) (by decide), hcb, iss_e _ hb]
      by_cases e : iss (B p) = true
      · have es : wdp n B p = wdp n B (p + 1) := rnp_s (by omega) e
        rw [if_pos e, if_neg i10, nI_1, es]
        refine okk_w (ih (p + 1) (by omega) fl (by omega) _ (tC_3 h (by omega))) ?_
        rintro s ⟨s1, s2, s3⟩
        exact ⟨s1, by rw [s2, g_set_k (by decide)], (cS_set (cS.rfl' c) (by omega)).trans s3⟩
      · have es : wdp n B p = p := rnp_f e
        rw [if_neg e, if_pos rfl, es]
        exact okk_some ⟨h, rfl, cS.rfl' c⟩
  unfold F_word
  refine okk_bind (L_next h) ?_
  rintro ⟨x, M⟩ ⟨-, h2, h3, h4⟩
  dsimp only at h2 h3 h4 ⊢
  have hn := h2.2.2.2.2
  rw [h2.2.1]
  refine okk_w (L (n - skp n B p) (skp n B p) rfl 1000 (by omega) _ (tC_4 h2)) ?_
  rintro s ⟨s1, s2, s3⟩
  exact ⟨s1, by rw [s2, g_set_eq], (cS_set h4 (by omega)).trans s3⟩
theorem L_was {n : Nat} {B : Nat → Nat} {q : Nat} {f w : Int32} {c : gM} (h : tC n B (wdp n B q) f w c) (h4 : c 1 4 = nI q) {t : Nat} (t1 : 1 ≤ t) (t2 : t < 19) : (F_was t c = some 1 ∧ wd n B q t) ∨ (F_was t c = some 0 ∧ ¬ wd n B q t) := by
  obtain ⟨l6, l1, hx⟩ := tx_e t t2 t1
  have hn := h.2.2.2.2
  have hq := (rnp_ge (n := n) (P := fun j => iss (B j)) _ q rfl).1
  have hq2 : q ≤ wdp n B q := hq
  have L : wdp n B q = q + tl t → ∀ (k i : Nat), i + k = tl t → ∀ fl, k < fl → (∀ j, j < i → B (q + j) = tx t j) → (F_was_L20 t c fl (nI i) = some 1 ∧ wd n B q t) ∨ (F_was_L20 t c fl (nI i) = some 0 ∧ ¬ wd n B q t) := by
    intro hl k
    induction k with
    | zero =>
      intro i hi fl hfl hj
      obtain ⟨fl, rfl⟩ : ∃ g, fl = g + 1 := ⟨fl - 1, by omega⟩
      have : i = tl t := by omega
      subst this
      rw [F_was_L20, show g_len.getD t 0 = tl t from rfl, if_pos (Int32.le_refl _)]
      exact Or.inl ⟨rfl, hl, hj⟩
    | succ k ih =>
      intro i hi fl hfl hj
      obtain ⟨fl, rfl⟩ : ∃ g, fl = g + 1 := ⟨fl - 1, by omega⟩
      obtain ⟨hb, hcb⟩ := hn.2.2 (q + i) (by omega)
      obtain ⟨e1, e2, e3⟩ := hx i (by omega) (by omega)
      rw [F_was_L20, show g_len.getD t 0 = tl t from rfl, if_neg (nI_ge (show i < tl t by omega) (by omega)), ix_in (show i < tl t by omega) (by omega), h4, nI_add, r_at_in _ (show q + i < 600 by omega) (by decide), hcb, e1, nI_1]
      by_cases e : B (q + i) = tx t i
      · rw [if_pos (by rw [e])]
        exact ih (i + 1) (by omega) fl (by omega) (fun j hj2 => by
          by_cases ej : j = i
          · rw [ej]; exact e
          · exact hj j (by omega))
      · rw [if_neg (fun z => e ((by_eq _ hb _ (by omega)).mp z))]
        exact Or.inr ⟨rfl, fun z => e (z.2 i (by omega))⟩
  unfold F_was
  rw [h.2.1, h4, pk_sub hq2, show g_len.getD t 0 = tl t from rfl]
  by_cases e : wdp n B q - q = tl t
  · rw [if_pos (by rw [e])]
    exact L (by omega) (tl t) 0 (by omega) 1000 (by omega) (fun j hj => absurd hj (by omega))
  · rw [if_neg (fun z => e ((nI_eq (by omega) (by omega)).mp z))]
    exact Or.inr ⟨rfl, fun z => e (by have := z.1; omega)⟩
def db (B : Nat → Nat) (q i : Nat) : Nat := B (q + i) - 96
theorem M_word {n : Nat} {B : Nat → Nat} {q : Nat} {f w : Int32} {m : gM} (h : tM n B q f w m) (hs : skp n B q = q) : okk (FM_wordHere m) (fun s => s.1 = (if wdp n B q ≤ q + 6 then nI (vl (db B q) (wdp n B q - q)) else -1) ∧ tM n B q f w s.2 ∧ mS m s.2) := by
  obtain ⟨a1, a2, a3, a4⟩ := rnp_ge (n := n) (P := fun j => iss (B j)) _ q rfl
  have hn := h.2.2.2.2
  have e1 : q ≤ wdp n B q := a1
  have e2 : wdp n B q ≤ n := a2 hn.1
  have e4 : ∀ j, q ≤ j → j < wdp n B q → 97 ≤ B j ∧ B j ≤ 122 := fun j j1 j2 => iss_i.mp (a4 j j1 j2)
  have stop : FM_isSmall (chr n B (wdp n B q)) = 0 := by
    unfold chr
    by_cases e : wdp n B q < n
    · obtain ⟨hb, -⟩ := hn.2.2 _ e
      rw [if_pos e, show FM_isSmall (nI (B (wdp n B q))) = F_isSmall (nI (B (wdp n B q))) from rfl, iss_e _ hb, if_neg (show ¬ iss (B (wdp n B q)) = true from a3 e)]
    · rw [if_neg e]; decide
  have L : ∀ (k i : Nat), q + i + k = wdp n B q → ∀ fl, k < fl → ∀ m, tM n B q f w m → okk (FM_wordHere_L8 fl (nI (vl (db B q) (min i 6))) (nI i) m) (fun s => s.1 = (if wdp n B q ≤ q + 6 then nI (vl (db B q) (wdp n B q - q)) else -1) ∧ tM n B q f w s.2 ∧ mS m s.2) := by
    intro k
    induction k with
    | zero =>
      intro i hi fl hfl m h
      obtain ⟨fl, rfl⟩ : ∃ g, fl = g + 1 := ⟨fl - 1, by omega⟩
      rw [FM_wordHere_L8, h.2.1, nI_add, show q + i = wdp n B q by omega, M_byteAt h (by omega), Option.bind_some, if_pos stop]
      by_cases e : i ≤ 6
      · rw [if_pos (show nI i ≤ 6 from nI_le (b := 6) e (by decide)), if_pos (by omega), show min i 6 = wdp n B q - q by omega]
        exact okk_some ⟨rfl, h, mS.rfl' m⟩
      · rw [if_neg (show ¬ nI i ≤ 6 from nI_ge (a := 6) (by omega) (by omega)), if_neg (by omega)]
        exact okk_some ⟨rfl, h, mS.rfl' m⟩
    | succ k ih =>
      intro i hi fl hfl m h
      obtain ⟨fl, rfl⟩ : ∃ g, fl = g + 1 := ⟨fl - 1, by omega⟩
      obtain ⟨hb, -⟩ := hn.2.2 (q + i) (by omega)
      have hl := e4 (q + i) (by omega) (by omega)
      have ec : chr n B (q + i) = nI (B (q + i)) := by unfold chr; rw [if_pos (by omega)]
      rw [FM_wordHere_L8, h.2.1, nI_add, M_byteAt h (by omega), Option.bind_some, ec, show FM_isSmall (nI (B (q + i))) = F_isSmall (nI (B (q + i))) from rfl, iss_e _ hb, if_pos (iss_i.mpr hl), if_neg i10, Option.bind_some, nI_1]
      by_cases e : i < 6
      · have hv : vl (db B q) i < 27 ^ i := vl_lt i (fun j hj => by have := e4 (q + j) (by omega) (by omega); unfold db; omega)
        have h6 : 27 ^ i ≤ 27 ^ 5 := Nat.pow_le_pow_right (by decide) (by omega)
        have h7 : (27 : Nat) ^ 5 = 14348907 := by decide
        have ev : ((((27 : Int32) * nI (vl (db B q) (min i 6))) + nI (B (q + i))) - (97 : Int32)) + (1 : Int32) = nI (vl (db B q) (min (i + 1) 6)) := by
          rw [show min i 6 = i by omega, show min (i + 1) 6 = i + 1 by omega, show (27 : Int32) = nI 27 from rfl, pk_mul, nI_add, show (97 : Int32) = nI 97 from rfl, pk_sub (by omega), nI_1]
          congr 1
          show _ = 27 * vl (db B q) i + db B q i
          unfold db
          omega
        rw [if_neg (show ¬ (6 : Int32) ≤ nI i from nI_ge (b := 6) e (by decide)), ev]
        exact ih (i + 1) (by omega) fl (by omega) m h
      · rw [if_pos (show (6 : Int32) ≤ nI i from nI_le (a := 6) (by omega) (by omega)), show min i 6 = min (i + 1) 6 by omega]
        exact ih (i + 1) (by omega) fl (by omega) m h
  unfold FM_wordHere
  have hb := M_blanks h
  rw [hs] at hb
  refine okk_bind hb ?_
  rintro M ⟨h2, h4⟩
  refine okk_w (L (wdp n B q - q) 0 (by omega) 1000 (by omega) M h2) ?_
  rintro s ⟨s1, s2, s3⟩
  exact ⟨s1, s2, h4.trans s3⟩
theorem M_isWord {n : Nat} {B : Nat → Nat} {p : Nat} {w : Int32} {m : gM} (h : tM n B p 0 w m) {t : Nat} (t1 : 1 ≤ t) (t2 : t < 19) {x1 x2 x3 x4 x5 x6 : Int32} (hx : FM_six x1 x2 x3 x4 x5 x6 = nI (vl (fun i => tx t i - 96) (tl t))) : okk (FM_isWord x1 x2 x3 x4 x5 x6 m) (fun s => tM n B (skp n B p) 0 w s.2 ∧ mS m s.2 ∧ ((s.1 = 1 ∧ wd n B (skp n B p) t) ∨ (s.1 = 0 ∧ ¬ wd n B (skp n B p) t))) := by
  obtain ⟨l6, l1, hxt⟩ := tx_e t t2 t1
  have hn := h.2.2.2.2
  have key : okk (FM_wordHere m) (fun s => s.1 = (if wdp n B (skp n B p) ≤ skp n B p + 6 then nI (vl (db B (skp n B p)) (wdp n B (skp n B p) - skp n B p)) else -1) ∧ tM n B (skp n B p) 0 w s.2 ∧ mS m s.2) := by
    -- blanks twice are blanks once
    unfold FM_wordHere
    refine okk_bind (M_blanks h) ?_
    rintro M ⟨h2, h4⟩
    have hw := M_word h2 (skp_i p)
    unfold FM_wordHere at hw
    have hb := M_blanks h2
    rw [skp_i] at hb
    -- the second blanks leave the memory as it is
    have same : FM_blanks M = some M := by
      rw [blanks_e, FM_blanks_L0, h2.2.1, M_byteAt h2 (by have := h2.2.2.2.2; omega), Option.bind_some, if_neg]
      intro z
      obtain ⟨z1, z2⟩ := (chr_32 (k := 32) (fun j hj => (h2.2.2.2.2.2.2 j hj).1) (by decide)).mp z
      exact (rnp_ge (n := n) (P := bl B) _ p rfl).2.2.1 z1 (by unfold bl; exact beq_iff_eq.mpr z2)
    rw [same, Option.bind_some] at hw
    refine okk_w hw ?_
    rintro s ⟨s1, s2, s3⟩
    exact ⟨s1, s2, h4.trans s3⟩
  unfold FM_isWord
  rw [h.2.2.1, if_pos rfl]
  refine okk_bind key ?_
  rintro ⟨v, M⟩ ⟨rfl, h2, h4⟩
  dsimp only at h2 h4 ⊢
  obtain ⟨q, eq⟩ : ∃ q, q = skp n B p := ⟨_, rfl⟩
  rw [← eq] at h2 ⊢
  obtain ⟨a1, a2, a3, a4⟩ := rnp_ge (n := n) (P := fun j => iss (B j)) _ q rfl
  have e1 : q ≤ wdp n B q := a1
  have hq : q ≤ n := h2.2.2.2.2.1
  have e2 : wdp n B q ≤ n := a2 hq
  have e4 : ∀ j, q ≤ j → j < wdp n B q → 97 ≤ B j ∧ B j ≤ 122 := fun j j1 j2 => iss_i.mp (a4 j j1 j2)
  have iff : (if wdp n B q ≤ q + 6 then nI (vl (db B q) (wdp n B q - q)) else -1) = FM_six x1 x2 x3 x4 x5 x6 ↔ wd n B q t := by
    rw [hx]
    have d2 : ∀ i, i < tl t → 1 ≤ tx t i - 96 ∧ tx t i - 96 ≤ 26 := fun i hi => by obtain ⟨-, b1, b2⟩ := hxt i (by omega) hi; omega
    have v2 : vl (fun i => tx t i - 96) (tl t) < 27 ^ 6 := Nat.lt_of_lt_of_le (vl_lt _ (fun i hi => (d2 i hi).2)) (Nat.pow_le_pow_right (by decide) l6)
    have h7 : (27 : Nat) ^ 6 = 387420489 := by decide
    constructor
    · intro hh
      by_cases e : wdp n B q ≤ q + 6
      · rw [if_pos e] at hh
        have d1 : ∀ i, i < wdp n B q - q → 1 ≤ db B q i ∧ db B q i ≤ 26 := fun i hi => by have := e4 (q + i) (by omega) (by omega); unfold db; omega
        have v1 : vl (db B q) (wdp n B q - q) < 27 ^ 6 := Nat.lt_of_lt_of_le (vl_lt _ (fun i hi => (d1 i hi).2)) (Nat.pow_le_pow_right (by decide) (by omega))
        have h8 := (nI_eq (by omega) (by omega)).mp hh
        obtain ⟨h9, h10⟩ := vl_inj _ _ d1 d2 h8
        refine ⟨by omega, fun i hi => ?_⟩
        have h11 := h10 i (by omega)
        have h12 := e4 (q + i) (by omega) (by omega)
        obtain ⟨-, b1, b2⟩ := hxt i (by omega) hi
        unfold db at h11
        omega
      · rw [if_neg e] at hh
        exact absurd hh.symm (nI_nm1 (by omega))
    · rintro ⟨w1, w2⟩
      rw [if_pos (by omega), w1, Nat.add_sub_cancel_left]
      congr 1
      exact vl_cg _ (fun i hi => by unfold db; rw [w2 i hi])
  by_cases e : wd n B q t
  · rw [if_pos (iff.mpr e)]
    exact okk_some ⟨h2, h4, Or.inl ⟨rfl, e⟩⟩
  · rw [if_neg (fun z => e (iff.mp z))]
    exact okk_some ⟨h2, h4, Or.inr ⟨rfl, e⟩⟩
theorem skip_e (M : gM) : FM_skipWord M = FM_skipWord_L0 (1000 + 1) M := by
  have h : FM_skipWord_L0 (1000 + 1) M = FM_skipWord M := by
    rw [FM_skipWord_L0]
    rfl
  exact h.symm
theorem M_skip {n : Nat} {B : Nat → Nat} {q : Nat} {f w : Int32} {m : gM} (h : tM n B q f w m) : okk (FM_skipWord m) (fun s => tM n B (wdp n B q) f w s ∧ mS m s) := by
  have L : ∀ (k p : Nat), n - p = k → ∀ fl, k < fl → ∀ m, tM n B p f w m → okk (FM_skipWord_L0 fl m) (fun s => tM n B (wdp n B p) f w s ∧ mS m s) := by
    intro k
    induction k with
    | zero =>
      intro p hp fl hfl m h
      obtain ⟨fl, rfl⟩ : ∃ g, fl = g + 1 := ⟨fl - 1, by omega⟩
      have hn := h.2.2.2.2
      have es : wdp n B p = p := rnp_n (by omega)
      have ec : chr n B p = -1 := by unfold chr; rw [if_neg (by omega)]
      rw [FM_skipWord_L0, h.2.1, M_byteAt h (by omega), Option.bind_some, ec, if_pos (show FM_isSmall (-1) = 0 by decide), es]
      exact okk_some ⟨h, mS.rfl' m⟩
    | succ k ih =>
      intro p hp fl hfl m h
      obtain ⟨fl, rfl⟩ : ∃ g, fl = g + 1 := ⟨fl - 1, by omega⟩
      have hn := h.2.2.2.2
      obtain ⟨hb, -⟩ := hn.2.2 p (by omega)
      have ec : chr n B p = nI (B p) := by unfold chr; rw [if_pos (by omega)]
      rw [FM_skipWord_L0, h.2.1, M_byteAt h (by omega), Option.bind_some, ec, show FM_isSmall (nI (B p)) = F_isSmall (nI (B p)) from rfl, iss_e _ hb, nI_1]
      by_cases e : iss (B p) = true
      · have es : wdp n B p = wdp n B (p + 1) := rnp_s (by omega) e
        rw [if_pos e, if_neg i10, es]
        refine okk_w (ih (p + 1) (by omega) fl (by omega) _ (tM_4 h (by omega))) ?_
        rintro s ⟨s1, s2⟩
        exact ⟨s1, (mS_set (mS.rfl' m) (by omega)).trans s2⟩
      · have es : wdp n B p = p := rnp_f e
        rw [if_neg e, if_pos rfl, es]
        exact okk_some ⟨h, mS.rfl' m⟩
  rw [skip_e]
  have hn := h.2.2.2.2
  exact L (n - q) q rfl (1000 + 1) (by omega) m h
theorem wdp_le {n : Nat} {B : Nat → Nat} {q : Nat} (h : q ≤ n) : q ≤ wdp n B q ∧ wdp n B q ≤ n := ⟨(rnp_ge _ q rfl).1, (rnp_ge _ q rfl).2.1 h⟩
theorem dgp_le {n : Nat} {B : Nat → Nat} {q : Nat} (h : q ≤ n) : q ≤ dgp n B q ∧ dgp n B q ≤ n := ⟨(rnp_ge _ q rfl).1, (rnp_ge _ q rfl).2.1 h⟩
theorem six_1 : FM_six 23 1 12 11 0 0 = nI (vl (fun i => tx 1 i - 96) (tl 1)) := by decide +kernel
theorem six_2 : FM_six 3 8 9 12 4 0 = nI (vl (fun i => tx 2 i - 96) (tl 2)) := by decide +kernel
theorem six_3 : FM_six 8 15 15 16 0 0 = nI (vl (fun i => tx 3 i - 96) (tl 3)) := by decide +kernel
theorem six_4 : FM_six 12 15 14 7 0 0 = nI (vl (fun i => tx 4 i - 96) (tl 4)) := by decide +kernel
theorem six_5 : FM_six 6 9 14 5 0 0 = nI (vl (fun i => tx 5 i - 96) (tl 5)) := by decide +kernel
theorem six_6 : FM_six 12 5 14 7 20 8 = nI (vl (fun i => tx 6 i - 96) (tl 6)) := by decide +kernel
theorem six_7 : FM_six 16 1 3 5 0 0 = nI (vl (fun i => tx 7 i - 96) (tl 7)) := by decide +kernel
theorem six_8 : FM_six 1 7 5 0 0 0 = nI (vl (fun i => tx 8 i - 96) (tl 8)) := by decide +kernel
theorem six_9 : FM_six 23 5 9 7 8 20 = nI (vl (fun i => tx 9 i - 96) (tl 9)) := by decide +kernel
theorem six_10 : FM_six 20 9 18 5 4 0 = nI (vl (fun i => tx 10 i - 96) (tl 10)) := by decide +kernel
theorem six_11 : FM_six 18 1 9 14 0 0 = nI (vl (fun i => tx 11 i - 96) (tl 11)) := by decide +kernel
theorem six_12 : FM_six 2 18 9 2 5 0 = nI (vl (fun i => tx 12 i - 96) (tl 12)) := by decide +kernel
theorem six_13 : FM_six 12 5 1 19 20 0 = nI (vl (fun i => tx 13 i - 96) (tl 13)) := by decide +kernel
theorem six_14 : FM_six 13 15 19 20 0 0 = nI (vl (fun i => tx 14 i - 96) (tl 14)) := by decide +kernel
theorem six_15 : FM_six 7 9 22 5 0 0 = nI (vl (fun i => tx 15 i - 96) (tl 15)) := by decide +kernel
theorem six_16 : FM_six 18 15 12 12 0 0 = nI (vl (fun i => tx 16 i - 96) (tl 16)) := by decide +kernel
theorem six_17 : FM_six 18 5 19 20 0 0 = nI (vl (fun i => tx 17 i - 96) (tl 17)) := by decide +kernel
theorem six_18 : FM_six 1 7 1 9 14 0 = nI (vl (fun i => tx 18 i - 96) (tl 18)) := by decide +kernel
