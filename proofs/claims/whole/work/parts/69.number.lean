/-! Numbers and words, read by both sides. -/
/-- a number's value, capped -/
def nv (cap : Nat) (B : Nat → Nat) : Nat → Nat → Nat → Nat
  | 0, _, x => x
  | k + 1, p, x => if isd (B p) = true then nv cap B k (p + 1) (min (10 * x + B p - 48) cap) else x
theorem isd_i {b : Nat} : isd b = true ↔ 48 ≤ b ∧ b ≤ 57 := by
  unfold isd
  rw [Bool.and_eq_true, decide_eq_true_iff, decide_eq_true_iff]
theorem iss_i {b : Nat} : iss b = true ↔ 97 ≤ b ∧ b ≤ 122 := by
  unfold iss
  rw [Bool.and_eq_true, decide_eq_true_iff, decide_eq_true_iff]
theorem nv_cap (B : Nat → Nat) : ∀ k p x, x ≤ 100000 → nv 10000 B k p (min x 10000) = min (nv 100000 B k p x) 10000 := by
  intro k
  induction k with
  | zero => intro p x _; rfl
  | succ k ih =>
    intro p x hx
    show (if isd (B p) = true then nv 10000 B k (p + 1) (min (10 * min x 10000 + B p - 48) 10000) else min x 10000) = min (if isd (B p) = true then nv 100000 B k (p + 1) (min (10 * x + B p - 48) 100000) else x) 10000
    by_cases e : isd (B p) = true
    · have hb := isd_i.mp e
      rw [if_pos e, if_pos e, ← ih (p + 1) _ (by omega)]
      congr 1
      omega
    · rw [if_neg e, if_neg e]
theorem nv_le (cap : Nat) (B : Nat → Nat) : ∀ k p x, x ≤ cap → nv cap B k p x ≤ cap := by
  intro k
  induction k with
  | zero => intro p x hx; exact hx
  | succ k ih =>
    intro p x hx
    show (if isd (B p) = true then nv cap B k (p + 1) (min (10 * x + B p - 48) cap) else x) ≤ cap
    by_cases e : isd (B p) = true
    · rw [if_pos e]; exact ih _ _ (by omega)
    · rw [if_neg e]; exact hx
theorem nv_0 {cap : Nat} {B : Nat → Nat} {k p x : Nat} (h : ¬ isd (B p) = true) : nv cap B k p x = x := by
  cases k with
  | zero => rfl
  | succ k => exact if_neg h
theorem nv_s {cap : Nat} {B : Nat → Nat} {k p x : Nat} (h : isd (B p) = true) : nv cap B (k + 1) p x = nv cap B k (p + 1) (min (10 * x + B p - 48) cap) := if_pos h
/-- the fault of a number read from q to e: 0 none -/
def nfk (e q : Nat) (v lo hi : Int32) : Int32 := if e = q then 1 else if FM_in v lo hi = 0 then 2 else 0
def fz (f k : Int32) : Int32 := if k = 0 then f else ff f k
def wz (f w k q : Int32) : Int32 := if k = 0 then w else fw f w q
theorem in_2 (v lo hi : Int32) : FM_in v lo hi = 0 ∨ FM_in v lo hi = 1 := by
  unfold FM_in
  by_cases h1 : v < lo
  · rw [if_pos h1]; exact Or.inl rfl
  · rw [if_neg h1]
    by_cases h2 : hi < v
    · rw [if_pos h2]; exact Or.inl rfl
    · rw [if_neg h2]; exact Or.inr rfl
theorem L_number {n : Nat} {B : Nat → Nat} {p : Nat} {f w : Int32} {c : gM} (h : tC n B p f w c) (lo hi : Int32) : okk (F_number lo hi c) (fun s => s.1 = nI (nv 10000 B (n - skp n B p) (skp n B p) 0) ∧ tC n B (dgp n B (skp n B p)) (fz f (nfk (dgp n B (skp n B p)) (skp n B p) s.1 lo hi)) (wz f w (nfk (dgp n B (skp n B p)) (skp n B p) s.1 lo hi) (nI (skp n B p))) s.2 ∧ s.2 1 4 = nI (skp n B p) ∧ cS c s.2) := by
  have J : ∀ (q p : Nat) (x : Int32) (c : gM), tC n B p f w c → c 1 4 = nI q → q ≤ p → okk (F_number_J82 lo hi x c) (fun s => s.1 = x ∧ tC n B p (fz f (nfk p q x lo hi)) (wz f w (nfk p q x lo hi) (nI q)) s.2 ∧ s.2 1 4 = nI q ∧ cS c s.2) := by
    intro q p x c h h4 hq
    have hp := h.2.2.2.2.1
    have hn := h.2.2.2.2.2.1
    have j115 : ∀ k, k = (2 : Int32) → nfk p q x lo hi = 2 → okk (F_number_J115 lo hi x c) (fun s => s.1 = x ∧ tC n B p (fz f (nfk p q x lo hi)) (wz f w (nfk p q x lo hi) (nI q)) s.2 ∧ s.2 1 4 = nI q ∧ cS c s.2) := by
      intro k _ hk
      unfold F_number_J115
      rw [h4]
      refine okk_bind (L_fail h 2 (nI q)) ?_
      rintro s ⟨s1, s2, s3⟩
      rw [hk]
      exact okk_some ⟨rfl, s1, s2.trans h4, s3⟩
    unfold F_number_J82
    rw [h.2.1, h4]
    by_cases e : p = q
    · subst e
      rw [if_pos rfl]
      refine okk_bind (L_fail h 1 (nI p)) ?_
      rintro s ⟨s1, s2, s3⟩
      have hk : nfk p p x lo hi = 1 := if_pos rfl
      rw [hk]
      exact okk_some ⟨rfl, s1, s2.trans h4, s3⟩
    · rw [if_neg (fun w => e ((nI_eq (by omega) (by omega)).mp w))]
      have nk : nfk p q x lo hi = if FM_in x lo hi = 0 then 2 else 0 := if_neg e
      by_cases h1 : x < lo
      · rw [if_pos h1]
        exact j115 2 rfl (by rw [nk]; unfold FM_in; rw [if_pos h1, if_pos rfl])
      · rw [if_neg h1]
        by_cases h2 : x ≤ hi
        · rw [if_pos h2]
          have hk : nfk p q x lo hi = 0 := by
            rw [nk]; unfold FM_in; rw [if_neg h1, if_neg (Int32.not_lt.mpr h2), if_neg i10]
          rw [hk]
          exact okk_some ⟨rfl, h, h4, cS.rfl' c⟩
        · rw [if_neg h2]
          exact j115 2 rfl (by rw [nk]; unfold FM_in; rw [if_neg h1, if_pos (Int32.not_le.mp h2), if_pos rfl])
  have L : ∀ (q k p : Nat), n - p = k → ∀ fl, k < fl → ∀ x c, x ≤ 10000 → tC n B p f w c → c 1 4 = nI q → q ≤ p → okk (F_number_L15 lo hi fl (nI x) c) (fun s => s.1 = nI (nv 10000 B k p x) ∧ tC n B (dgp n B p) (fz f (nfk (dgp n B p) q s.1 lo hi)) (wz f w (nfk (dgp n B p) q s.1 lo hi) (nI q)) s.2 ∧ s.2 1 4 = nI q ∧ cS c s.2) := by
    intro q k
    induction k with
    | zero =>
      intro p hp fl hfl x c hx h h4 hq
      obtain ⟨fl, rfl⟩ : ∃ g, fl = g + 1 := ⟨fl - 1, by omega⟩
      have hn := h.2.2.2.2
      have es : dgp n B p = p := rnp_n (by omega)
      rw [F_number_L15, h.1, h.2.1, if_pos (nI_le (show n ≤ p by omega) (by omega)), es]
      refine okk_w (J q p (nI x) c h h4 hq) ?_
      rintro s ⟨s1, s2, s3, s4⟩
      exact ⟨s1, by rw [s1]; exact s2, s3, s4⟩
    | succ k ih =>
      intro p hp fl hfl x c hx h h4 hq
      obtain ⟨fl, rfl⟩ : ∃ g, fl = g + 1 := ⟨fl - 1, by omega⟩
      have hn := h.2.2.2.2
      obtain ⟨hb, hcb⟩ := hn.2.2 p (by omega)
      rw [F_number_L15, h.1, h.2.1, if_neg (nI_ge (show p < n by omega) (by omega)), r_at_in _ (show p < 600 by omega) (by decide), hcb, isd_e _ hb]
      by_cases e : isd (B p) = true
      · have hd := isd_i.mp e
        have es : dgp n B p = dgp n B (p + 1) := rnp_s (by omega) e
        have ev : m_min ((nI x * 10 + nI (B p)) - 48) 10000 = nI (min (10 * x + B p - 48) 10000) := by
          rw [show (10 : Int32) = nI 10 from rfl, pk_mul, nI_add, show (48 : Int32) = nI 48 from rfl, pk_sub (by omega), m_less, show (10000 : Int32) = nI 10000 from rfl, less_min (by omega) (by omega), Nat.mul_comm x 10]
        rw [if_pos e, if_neg i10, ev, nI_1, es, nv_s e]
        refine okk_w (ih (p + 1) (by omega) fl (by omega) _ _ (by omega) (tC_3 h (by omega)) (by rw [g_set_k (by decide)]; exact h4) (by omega)) ?_
        rintro s ⟨s1, s2, s3, s4⟩
        exact ⟨s1, s2, s3, (cS_set (cS.rfl' c) (by omega)).trans s4⟩
      · have es : dgp n B p = p := rnp_f e
        rw [if_neg e, if_pos rfl, es, nv_0 e]
        refine okk_w (J q p (nI x) c h h4 hq) ?_
        rintro s ⟨s1, s2, s3, s4⟩
        exact ⟨s1, by rw [s1]; exact s2, s3, s4⟩
  unfold F_number
  refine okk_bind (L_next h) ?_
  rintro ⟨x, M⟩ ⟨-, h2, h3, h4⟩
  dsimp only at h2 h3 h4 ⊢
  have hn := h2.2.2.2.2.2.1
  rw [h2.2.1]
  refine okk_w (L (skp n B p) (n - skp n B p) (skp n B p) rfl 1000 (by omega) 0 _ (by omega) (tC_4 h2) (g_set_eq _ _ _ _) (Nat.le_refl _)) ?_
  rintro s ⟨s1, s2, s3, s4⟩
  exact ⟨s1, s2, s3, (cS_set h4 (by omega)).trans s4⟩
theorem i20 : ¬ (2 : Int32) = 0 := by decide
theorem M_number {n : Nat} {B : Nat → Nat} {p : Nat} {w : Int32} {m : gM} (h : tM n B p 0 w m) (lo : Int32) {hi : Int32} (hhi : hi < 10000) (hlo : 0 ≤ lo) : okk (FM_number lo hi m) (fun s => ∃ k, k = nfk (dgp n B (skp n B p)) (skp n B p) (nI (nv 10000 B (n - skp n B p) (skp n B p) 0)) lo hi ∧ s.1 = (if k = 0 then nI (nv 10000 B (n - skp n B p) (skp n B p) 0) else 0) ∧ tM n B (dgp n B (skp n B p)) k (if k = 0 then w else nI (skp n B p)) s.2 ∧ mS m s.2) := by
  obtain ⟨q, eq⟩ : ∃ q, q = skp n B p := ⟨_, rfl⟩
  have L : ∀ (k p : Nat), n - p = k → ∀ fl, k < fl → ∀ x f w m, x ≤ 100000 → tM n B p f w m → okk (FM_number_L44 lo hi fl (nI q) (nI x) m) (fun s => s.1 = (if (if FM_in (nI (nv 100000 B k p x)) lo hi = 0 then ff f 2 else f) = 0 then nI (nv 100000 B k p x) else 0) ∧ tM n B (dgp n B p) (if FM_in (nI (nv 100000 B k p x)) lo hi = 0 then ff f 2 else f) (if FM_in (nI (nv 100000 B k p x)) lo hi = 0 then fw f w (nI q) else w) s.2 ∧ mS m s.2) := by
    have last : ∀ p x f w m, tM n B p f w m → okk (if FM_in (nI x) lo hi = 0 then ((FM_wrong (2 : Int32) (nI q) m).bind fun s8 => FM_number_J122 lo hi (nI x) s8) else FM_number_J122 lo hi (nI x) m) (fun s => s.1 = (if (if FM_in (nI x) lo hi = 0 then ff f 2 else f) = 0 then nI x else 0) ∧ tM n B p (if FM_in (nI x) lo hi = 0 then ff f 2 else f) (if FM_in (nI x) lo hi = 0 then fw f w (nI q) else w) s.2 ∧ mS m s.2) := by
      intro p x f w m h
      have j : ∀ f w M, tM n B p f w M → okk (FM_number_J122 lo hi (nI x) M) (fun s => s.1 = (if f = 0 then nI x else 0) ∧ s.2 = M) := by
        intro f w M hM
        unfold FM_number_J122
        rw [hM.2.2.1]
        by_cases e : f = 0
        · rw [if_pos e, if_pos e]; exact okk_some ⟨rfl, rfl⟩
        · rw [if_neg e, if_neg e]; exact okk_some ⟨rfl, rfl⟩
      by_cases e : FM_in (nI x) lo hi = 0
      · rw [if_pos e, if_pos e, if_pos e]
        refine okk_bind (M_wrong h 2 (nI q)) ?_
        rintro s ⟨s1, s2⟩
        refine okk_w (j _ _ s s1) ?_
        rintro ⟨a, b⟩ ⟨b1, rfl⟩
        exact ⟨b1, s1, s2⟩
      · rw [if_neg e, if_neg e, if_neg e]
        refine okk_w (j _ _ m h) ?_
        rintro ⟨a, b⟩ ⟨b1, rfl⟩
        exact ⟨b1, h, mS.rfl' _⟩
    intro k
    induction k with
    | zero =>
      intro p hp fl hfl x f w m hx h
      obtain ⟨fl, rfl⟩ : ∃ g, fl = g + 1 := ⟨fl - 1, by omega⟩
      have hn := h.2.2.2.2
      have es : dgp n B p = p := rnp_n (by omega)
      have ec : chr n B p = -1 := by unfold chr; rw [if_neg (by omega)]
      rw [FM_number_L44, h.2.1, M_byteAt h (by omega), Option.bind_some, ec, if_pos (show FM_isDigit (-1) = 0 by decide), es]
      exact last p x f w m h
    | succ k ih =>
      intro p hp fl hfl x f w m hx h
      obtain ⟨fl, rfl⟩ : ∃ g, fl = g + 1 := ⟨fl - 1, by omega⟩
      have hn := h.2.2.2.2
      obtain ⟨hb, hcb⟩ := hn.2.2 p (by omega)
      have ec : chr n B p = nI (B p) := by unfold chr; rw [if_pos (by omega)]
      rw [FM_number_L44, h.2.1, M_byteAt h (by omega), Option.bind_some, ec, show FM_isDigit (nI (B p)) = F_isDigit (nI (B p)) from rfl, isd_e _ hb, Option.bind_some]
      by_cases e : isd (B p) = true
      · have hd := isd_i.mp e
        have es : dgp n B p = dgp n B (p + 1) := rnp_s (by omega) e
        have ev : (((10 : Int32) * nI x) + nI (B p)) - 48 = nI (10 * x + B p - 48) := by
          rw [show (10 : Int32) = nI 10 from rfl, pk_mul, nI_add, show (48 : Int32) = nI 48 from rfl, pk_sub (by omega)]
        have I : ∀ y, y ≤ 100000 → y = min (10 * x + B p - 48) 100000 → okk (FM_number_L44 lo hi fl (nI q) (nI y) (g_set m 464 4 (nI (p + 1)))) (fun s => s.1 = (if (if FM_in (nI (nv 100000 B (k + 1) p x)) lo hi = 0 then ff f 2 else f) = 0 then nI (nv 100000 B (k + 1) p x) else 0) ∧ tM n B (dgp n B p) (if FM_in (nI (nv 100000 B (k + 1) p x)) lo hi = 0 then ff f 2 else f) (if FM_in (nI (nv 100000 B (k + 1) p x)) lo hi = 0 then fw f w (nI q) else w) s.2 ∧ mS m s.2) := by
          intro y hy hy2
          rw [nv_s e, ← hy2, es]
          refine okk_w (ih (p + 1) (by omega) fl (by omega) y f w _ hy (tM_4 h (by omega))) ?_
          rintro s ⟨s1, s2, s3⟩
          exact ⟨s1, s2, (mS_set (mS.rfl' m) (by omega)).trans s3⟩
        rw [if_pos e, if_neg i10, ev, nI_1]
        by_cases e2 : 10 * x + B p - 48 ≤ 100000
        · rw [if_pos (show nI _ ≤ (100000 : Int32) from nI_le (b := 100000) e2 (by decide))]
          exact I _ e2 (by omega)
        · rw [if_neg (show ¬ nI _ ≤ (100000 : Int32) from nI_ge (a := 100000) (by omega) (by omega))]
          exact I 100000 (by omega) (by omega)
      · have es : dgp n B p = p := rnp_f e
        rw [if_neg e, if_pos rfl, es, nv_0 e]
        exact last p x f w m h
  have hcap : FM_in (nI (nv 100000 B (n - q) q 0)) lo hi = FM_in (nI (nv 10000 B (n - q) q 0)) lo hi ∧ (FM_in (nI (nv 10000 B (n - q) q 0)) lo hi = 0 ∨ nv 100000 B (n - q) q 0 = nv 10000 B (n - q) q 0) := by
    have h1 := nv_cap B (n - q) q 0 (by omega)
    rw [show min 0 10000 = 0 from rfl] at h1
    have h2 := nv_le 100000 B (n - q) q 0 (by omega)
    by_cases e : nv 100000 B (n - q) q 0 ≤ 10000
    · have : nv 100000 B (n - q) q 0 = nv 10000 B (n - q) q 0 := by omega
      rw [this]
      exact ⟨rfl, Or.inr rfl⟩
    · have e3 : nv 10000 B (n - q) q 0 = 10000 := by omega
      have big : ∀ y, 10000 ≤ y → y ≤ 100000 → FM_in (nI y) lo hi = 0 := by
        intro y y1 y2
        have : hi < nI y := Int32.lt_of_lt_of_le hhi (nI_le (a := 10000) y1 (by omega))
        unfold FM_in
        by_cases q1 : nI y < lo
        · rw [if_pos q1]
        · rw [if_neg q1, if_pos this]
      rw [e3, big _ (by omega) h2, big 10000 (by omega) (by omega)]
      exact ⟨rfl, Or.inl rfl⟩
  have hn := h.2.2.2.2
  unfold FM_number
  rw [h.2.2.1, if_pos rfl]
  refine okk_bind (M_blanks h) ?_
  rintro M ⟨h2, h4⟩
  rw [← eq] at h2 ⊢
  have hq := h2.2.2.2.2.1
  rw [h2.2.1, M_byteAt h2 (by omega), Option.bind_some]
  by_cases e : q < n ∧ isd (B q) = true
  · obtain ⟨hb, hcb⟩ := h2.2.2.2.2.2.2 q e.1
    have ec : chr n B q = nI (B q) := by unfold chr; rw [if_pos e.1]
    have ed : dgp n B q ≠ q := by
      have : dgp n B q = dgp n B (q + 1) := rnp_s e.1 e.2
      have := (rnp_ge (n := n) (P := fun j => isd (B j)) _ (q + 1) rfl).1
      unfold dgp at *
      omega
    rw [ec, show FM_isDigit (nI (B q)) = F_isDigit (nI (B q)) from rfl, isd_e _ hb, if_pos e.2, if_neg i10]
    refine okk_w (L (n - q) q rfl 1000 (by omega) 0 0 w M (by omega) h2) ?_
    rintro s ⟨s1, s2, s3⟩
    have nk : nfk (dgp n B q) q (nI (nv 10000 B (n - q) q 0)) lo hi = if FM_in (nI (nv 10000 B (n - q) q 0)) lo hi = 0 then 2 else 0 := if_neg ed
    refine ⟨_, rfl, ?_, ?_, h4.trans s3⟩
    · rw [s1, hcap.1, nk]
      rcases hcap.2 with z | z
      · rw [if_pos z, if_pos z, if_neg (show ¬ ff 0 2 = 0 by decide), if_neg i20]
      · rw [z]
        rcases in_2 (nI (nv 10000 B (n - q) q 0)) lo hi with y | y
        · rw [if_pos y, if_pos y, if_neg (show ¬ ff 0 2 = 0 by decide), if_neg i20]
        · rw [y, if_neg i10, if_neg i10]
    · rw [nk]
      rw [hcap.1] at s2
      rcases in_2 (nI (nv 10000 B (n - q) q 0)) lo hi with y | y
      · rw [if_pos y, if_neg i20]
        rw [if_pos y, if_pos y] at s2
        exact s2
      · rw [y, if_neg i10, if_pos rfl]
        rw [y, if_neg i10, if_neg i10] at s2
        exact s2
  · have ed : dgp n B q = q := by
      by_cases e1 : q < n
      · exact rnp_f (fun w => e ⟨e1, w⟩)
      · exact rnp_n (by omega)
    have ec : FM_isDigit (chr n B q) = 0 := by
      unfold chr
      by_cases e1 : q < n
      · obtain ⟨hb, hcb⟩ := h2.2.2.2.2.2.2 q e1
        rw [if_pos e1, show FM_isDigit (nI (B q)) = F_isDigit (nI (B q)) from rfl, isd_e _ hb, if_neg (fun w => e ⟨e1, w⟩)]
      · rw [if_neg e1]; decide
    rw [if_pos ec]
    have hv : nv 100000 B (n - q) q 0 = 0 := by
      by_cases e1 : q < n
      · exact nv_0 (fun w => e ⟨e1, w⟩)
      · rw [show n - q = 0 by omega]; rfl
    refine okk_bind (M_wrong h2 1 (nI q)) ?_
    rintro M2 ⟨k1, k2⟩
    refine okk_w (L (n - q) q rfl 1000 (by omega) 0 _ _ M2 (by omega) k1) ?_
    rintro s ⟨s1, s2, s3⟩
    have nk : nfk (dgp n B q) q (nI (nv 10000 B (n - q) q 0)) lo hi = 1 := if_pos ed
    have f1 : (if FM_in (nI (nv 100000 B (n - q) q 0)) lo hi = 0 then ff (ff 0 1) 2 else ff 0 1) = 1 := by
      rcases in_2 (nI (nv 100000 B (n - q) q 0)) lo hi with y | y
      · rw [if_pos y]; decide
      · rw [y, if_neg i10]; decide
    have w1 : (if FM_in (nI (nv 100000 B (n - q) q 0)) lo hi = 0 then fw (ff 0 1) (fw 0 w (nI q)) (nI q) else fw 0 w (nI q)) = nI q := by
      have : fw 0 w (nI q) = nI q := if_pos rfl
      rcases in_2 (nI (nv 100000 B (n - q) q 0)) lo hi with y | y
      · rw [if_pos y, this]
        unfold fw
        rw [if_neg (show ¬ ff 0 1 = 0 by decide)]
      · rw [y, if_neg i10, this]
    rw [f1] at s1 s2
    rw [w1] at s2
    refine ⟨_, rfl, ?_, ?_, h4.trans (k2.trans s3)⟩
    · rw [nk, s1, if_neg i10, if_neg i10]
    · rw [nk, if_neg i10]; exact s2
