/-! The Tape. -/
/-- the tape's reading: place, where the token began, the first fault and where -/
def tp (M : gM) (p tok : Nat) (ft fa : Int32) : gM := fun b => if b = 1 then (fun j => if j = 3 then nI p else if j = 4 then nI tok else if j = 5 then ft else if j = 6 then fa else M 1 j) else M b
theorem tp_self {M : gM} {p tok : Nat} {ft fa : Int32} (h3 : M 1 3 = nI p) (h4 : M 1 4 = nI tok) (h5 : M 1 5 = ft) (h6 : M 1 6 = fa) : tp M p tok ft fa = M := by
  funext b j
  unfold tp
  by_cases hb : b = 1
  · subst hb
    by_cases e3 : j = 3
    · subst e3; simp [h3]
    · by_cases e4 : j = 4
      · subst e4; simp [h4]
      · by_cases e5 : j = 5
        · subst e5; simp [h5]
        · by_cases e6 : j = 6
          · subst e6; simp [h6]
          · simp [e3, e4, e5, e6]
  · simp [hb]
theorem tp_tp (M : gM) (p tok p2 tok2 : Nat) (ft fa ft2 fa2 : Int32) : tp (tp M p tok ft fa) p2 tok2 ft2 fa2 = tp M p2 tok2 ft2 fa2 := by
  funext b j
  unfold tp
  by_cases hb : b = 1
  · subst hb
    by_cases e3 : j = 3
    · simp [e3]
    · by_cases e4 : j = 4
      · simp [e4]
      · by_cases e5 : j = 5
        · simp [e5]
        · by_cases e6 : j = 6
          · simp [e6]
          · simp [e3, e4, e5, e6]
  · simp [hb]
theorem tp_3 (M : gM) (p tok q : Nat) (ft fa : Int32) : g_set (tp M p tok ft fa) 1 3 (nI q) = tp M q tok ft fa := by
  funext b j
  unfold g_set tp
  by_cases hb : b = 1
  · subst hb; by_cases e3 : j = 3 <;> simp [e3]
  · simp [hb]
theorem tp_4 (M : gM) (p tok q : Nat) (ft fa : Int32) : g_set (tp M p tok ft fa) 1 4 (nI q) = tp M p q ft fa := by
  funext b j
  unfold g_set tp
  by_cases hb : b = 1
  · subst hb; by_cases e3 : j = 4
    · simp [e3]
    · simp [e3]
  · simp [hb]
theorem tp_5 (M : gM) (p tok : Nat) (ft fa v : Int32) : g_set (tp M p tok ft fa) 1 5 v = tp M p tok v fa := by
  funext b j
  unfold g_set tp
  by_cases hb : b = 1
  · subst hb; by_cases e3 : j = 5
    · simp [e3]
    · simp [e3]
  · simp [hb]
theorem tp_6 (M : gM) (p tok : Nat) (ft fa v : Int32) : g_set (tp M p tok ft fa) 1 6 v = tp M p tok ft v := by
  funext b j
  unfold g_set tp
  by_cases hb : b = 1
  · subst hb; by_cases e3 : j = 6
    · simp [e3]
    · simp [e3]
  · simp [hb]
theorem g_set_tp (M : gM) (p tok : Nat) (ft fa : Int32) {a k : Nat} {v : Int32} (h : a ≠ 1) : g_set (tp M p tok ft fa) a k v = tp (g_set M a k v) p tok ft fa := by
  funext b j
  unfold g_set tp
  by_cases hb : b = 1
  · subst hb; simp [h.symm]
  · by_cases ha : b = a <;> simp [hb, ha, h]
theorem r_put_tp (M : gM) (p tok : Nat) (ft fa : Int32) {a n : Nat} {i v : Int32} (h : a ≠ 1) : r_put (tp M p tok ft fa) a n i v = tp (r_put M a n i v) p tok ft fa := by
  unfold r_put
  split
  · rfl
  · exact g_set_tp M p tok ft fa h
/-- the next place, at p or behind, that holds no blank; k places are left -/
def r_skip (f : Nat → Int32) : Nat → Nat → Nat
  | 0, p => p
  | k + 1, p => if f p = 32 then r_skip f k (p + 1) else p
def k_np (f : Nat → Int32) (e p : Nat) : Nat := r_skip f (e - p) p
def t_ch (f : Nat → Int32) (e p : Nat) : Int32 := if p < e then f p else -1
theorem r_skip_le (f : Nat → Int32) : ∀ k p, p ≤ r_skip f k p ∧ r_skip f k p ≤ p + k := by
  intro k
  induction k with
  | zero => intro p; exact ⟨Nat.le_refl _, Nat.le_refl _⟩
  | succ k ih =>
    intro p
    unfold r_skip
    split
    · have := ih (p + 1); omega
    · omega
def m_dig (x : Int32) : Int32 := if x < 48 then 0 else if 57 < x then 0 else 1
def m_sma (x : Int32) : Int32 := if x < 97 then 0 else if 122 < x then 0 else 1
set_option maxRecDepth 20000 in
theorem c_isDigit {l : Launch} {C : gC} (hC : g_ctx l C) (x : Int32) (M : gM) (sz d : Nat) (hd : 1 ≤ d)  : gP l C qX10_isDigit d [.int (x)] (M) sz (fun r M2 => r = some (.int (m_dig x)) ∧ M2 = M) := by
  refine gP.of (ls := [(0, .int (x))]) (by decide +kernel) (Nat.le_of_ble_eq_true rfl) rfl ?_
  refine gb_run 2 (pc2 := 3) (ls2 := [(0, .int (x))]) (st2 := [.int (48), .int (x)]) (M2 := M) hC hqX10_isDigit rfl ?_
  refine gb_icmp_lt hqX10_isDigit rfl (fun h1 => ?_) (fun h1 => ?_)
  ·
    refine gb_run 1 (pc2 := 17) (ls2 := [(0, .int (x))]) (st2 := [.int (0)]) (M2 := M) hC hqX10_isDigit rfl ?_
    refine gb_zret hqX10_isDigit rfl rfl (Nat.le_of_ble_eq_true rfl) (Nat.le_of_ble_eq_true rfl) (by first | exact Or.inl rfl | exact Or.inr rfl | simp) ?_
    exact ⟨_, rfl, by unfold m_dig; rw [if_pos h1], rfl⟩
  ·
    refine gb_run 2 (pc2 := 9) (ls2 := [(0, .int (x))]) (st2 := [.int (57), .int (x)]) (M2 := M) hC hqX10_isDigit rfl ?_
    refine gb_icmp_gt hqX10_isDigit rfl (fun h2 => ?_) (fun h2 => ?_)
    ·
      refine gb_run 1 (pc2 := 17) (ls2 := [(0, .int (x))]) (st2 := [.int (0)]) (M2 := M) hC hqX10_isDigit rfl ?_
      refine gb_zret hqX10_isDigit rfl rfl (Nat.le_of_ble_eq_true rfl) (Nat.le_of_ble_eq_true rfl) (by first | exact Or.inl rfl | exact Or.inr rfl | simp) ?_
      exact ⟨_, rfl, by unfold m_dig; rw [if_neg h1, if_pos h2], rfl⟩
    ·
      refine gb_run 2 (pc2 := 17) (ls2 := [(0, .int (x))]) (st2 := [.int (1)]) (M2 := M) hC hqX10_isDigit rfl ?_
      refine gb_zret hqX10_isDigit rfl rfl (Nat.le_of_ble_eq_true rfl) (Nat.le_of_ble_eq_true rfl) (by first | exact Or.inl rfl | exact Or.inr rfl | simp) ?_
      exact ⟨_, rfl, by unfold m_dig; rw [if_neg h1, if_neg h2], rfl⟩
set_option maxRecDepth 20000 in
theorem c_isSmall {l : Launch} {C : gC} (hC : g_ctx l C) (x : Int32) (M : gM) (sz d : Nat) (hd : 1 ≤ d)  : gP l C qX10_isSmall d [.int (x)] (M) sz (fun r M2 => r = some (.int (m_sma x)) ∧ M2 = M) := by
  refine gP.of (ls := [(0, .int (x))]) (by decide +kernel) (Nat.le_of_ble_eq_true rfl) rfl ?_
  refine gb_run 2 (pc2 := 3) (ls2 := [(0, .int (x))]) (st2 := [.int (97), .int (x)]) (M2 := M) hC hqX10_isSmall rfl ?_
  refine gb_icmp_lt hqX10_isSmall rfl (fun h1 => ?_) (fun h1 => ?_)
  ·
    refine gb_run 1 (pc2 := 17) (ls2 := [(0, .int (x))]) (st2 := [.int (0)]) (M2 := M) hC hqX10_isSmall rfl ?_
    refine gb_zret hqX10_isSmall rfl rfl (Nat.le_of_ble_eq_true rfl) (Nat.le_of_ble_eq_true rfl) (by first | exact Or.inl rfl | exact Or.inr rfl | simp) ?_
    exact ⟨_, rfl, by unfold m_sma; rw [if_pos h1], rfl⟩
  ·
    refine gb_run 2 (pc2 := 9) (ls2 := [(0, .int (x))]) (st2 := [.int (122), .int (x)]) (M2 := M) hC hqX10_isSmall rfl ?_
    refine gb_icmp_gt hqX10_isSmall rfl (fun h2 => ?_) (fun h2 => ?_)
    ·
      refine gb_run 1 (pc2 := 17) (ls2 := [(0, .int (x))]) (st2 := [.int (0)]) (M2 := M) hC hqX10_isSmall rfl ?_
      refine gb_zret hqX10_isSmall rfl rfl (Nat.le_of_ble_eq_true rfl) (Nat.le_of_ble_eq_true rfl) (by first | exact Or.inl rfl | exact Or.inr rfl | simp) ?_
      exact ⟨_, rfl, by unfold m_sma; rw [if_neg h1, if_pos h2], rfl⟩
    ·
      refine gb_run 2 (pc2 := 17) (ls2 := [(0, .int (x))]) (st2 := [.int (1)]) (M2 := M) hC hqX10_isSmall rfl ?_
      refine gb_zret hqX10_isSmall rfl rfl (Nat.le_of_ble_eq_true rfl) (Nat.le_of_ble_eq_true rfl) (by first | exact Or.inl rfl | exact Or.inr rfl | simp) ?_
      exact ⟨_, rfl, by unfold m_sma; rw [if_neg h1, if_neg h2], rfl⟩
def t_ft (ft k : Int32) : Int32 := if ft = 0 then k else ft
def t_fa (ft fa w : Int32) : Int32 := if ft = 0 then w else fa
set_option maxRecDepth 20000 in
theorem c_fail {l : Launch} {C : gC} (hC : g_ctx l C) (k w : Int32) (p tok : Nat) (ft fa : Int32) (M : gM) (sz d : Nat) (hd : 1 ≤ d)  : gP l C qX10_fail d [.ref (1), .int (k), .int (w)] (tp M p tok ft fa) sz (fun r M2 => r = none ∧ M2 = tp M p tok (t_ft ft k) (t_fa ft fa w)) := by
  refine gP.of (ls := [(0, .ref (1)), (1, .int (k)), (2, .int (w))]) (by decide +kernel) (Nat.le_of_ble_eq_true rfl) rfl ?_
  refine gb_run 2 (pc2 := 4) (ls2 := [(0, .ref (1)), (1, .int (k)), (2, .int (w))]) (st2 := [.int (ft)]) (M2 := tp M p tok ft fa) hC hqX10_fail rfl ?_
  refine gb_if_ne hqX10_fail rfl (fun h1 => ?_) (fun h1 => ?_)
  ·
    refine gb_vret hqX10_fail rfl rfl (Nat.le_of_ble_eq_true rfl) (Nat.le_of_ble_eq_true rfl) ?_
    exact ⟨_, rfl, rfl, by unfold t_ft t_fa; rw [if_neg h1, if_neg h1]⟩
  ·
    refine gb_run 6 (pc2 := 17) (ls2 := [(0, .ref (1)), (1, .int (k)), (2, .int (w))]) (st2 := []) (M2 := g_set (g_set (tp M p tok ft fa) 1 5 k) 1 6 w) hC hqX10_fail rfl ?_
    rw [tp_5]
    rw [tp_6]
    refine gb_vret hqX10_fail rfl rfl (Nat.le_of_ble_eq_true rfl) (Nat.le_of_ble_eq_true rfl) ?_
    exact ⟨_, rfl, rfl, by unfold t_ft t_fa; rw [if_pos h1, if_pos h1]⟩
set_option maxRecDepth 20000 in
theorem c_next {l : Launch} {C : gC} (hC : g_ctx l C) (f : Nat → Int32) (p tok e : Nat) (ft fa : Int32) (M : gM) (sz d : Nat) (hd : 2 ≤ d) (hf : M 2 = f) (he : M 1 2 = nI e) (hp : p ≤ e) (hE : e ≤ 600) : gP l C qX10_next d [.ref (1)] (tp M p tok ft fa) sz (fun r M2 => r = some (.int (t_ch f e (r_skip f (e - p) p))) ∧ M2 = tp M (r_skip f (e - p) p) tok ft fa) := by
  refine gP.of (ls := [(0, .ref (1))]) (by decide +kernel) (Nat.le_of_ble_eq_true rfl) rfl ?_
  have L0 : ∀ (k : Nat) (q : Nat), (q + k = e) → (r_skip f k q = r_skip f (e - p) p) → GW l C qX10_next d (gQ (fun r M2 => r = some (.int (t_ch f e (r_skip f (e - p) p))) ∧ M2 = tp M (r_skip f (e - p) p) tok ft fa) sz) (gN) 0 0 0 [(0, .ref (1))] [] (956, g_S0, tp M q tok ft fa, sz) := by
    intro k
    induction k with
    | zero =>
      intro q hq hr
      have hq2 : q = e := by omega
      rw [← hr]
      refine gb_run 2 (pc2 := 4) (ls2 := [(0, .ref (1))]) (st2 := [.int (nI q)]) (M2 := tp M q tok ft fa) hC hqX10_next rfl ?_
      refine gb_if_lt hqX10_next rfl (fun h1 => ?_) (fun h1 => ?_)
      · exact absurd h1 (nI_pos (by omega))
      ·
        refine gb_run 4 (pc2 := 15) (ls2 := [(0, .ref (1))]) (st2 := [.int (M 1 2), .int (nI q)]) (M2 := tp M q tok ft fa) hC hqX10_next rfl ?_
        rw [he]
        refine gb_icmp_ge hqX10_next rfl (fun h2 => ?_) (fun h2 => ?_)
        ·
          refine gb_run 1 (pc2 := 68) (ls2 := [(0, .ref (1))]) (st2 := [.int (-1)]) (M2 := tp M q tok ft fa) hC hqX10_next rfl ?_
          refine gb_iret hqX10_next rfl rfl (Nat.le_of_ble_eq_true rfl) (Nat.le_of_ble_eq_true rfl) ?_
          refine ⟨_, rfl, ?_, rfl⟩
          unfold t_ch r_skip; rw [if_neg (by omega)]
        · exact absurd (nI_le (by omega) (by omega)) h2
    | succ k ih =>
      intro q hq hr
      refine gb_run 2 (pc2 := 4) (ls2 := [(0, .ref (1))]) (st2 := [.int (nI q)]) (M2 := tp M q tok ft fa) hC hqX10_next rfl ?_
      refine gb_if_lt hqX10_next rfl (fun h3 => ?_) (fun h3 => ?_)
      · exact absurd h3 (nI_pos (by omega))
      ·
        refine gb_run 4 (pc2 := 15) (ls2 := [(0, .ref (1))]) (st2 := [.int (M 1 2), .int (nI q)]) (M2 := tp M q tok ft fa) hC hqX10_next rfl ?_
        rw [he]
        refine gb_icmp_ge hqX10_next rfl (fun h4 => ?_) (fun h4 => ?_)
        · exact absurd h4 (nI_ge (by omega) (by omega))
        ·
          refine gb_run 4 (pc2 := 26) (ls2 := [(0, .ref (1))]) (st2 := [.ref (2), .int (nI q)]) (M2 := tp M q tok ft fa) hC hqX10_next rfl ?_
          refine gb_alen hC hqX10_next rfl (Nat.le_of_ble_eq_true rfl) rfl ?_
          refine gb_icmp_ge hqX10_next rfl (fun h5 => ?_) (fun h5 => ?_)
          · exact absurd h5 (nI_ge (by omega) (by omega))
          ·
            refine gb_run 4 (pc2 := 38) (ls2 := [(0, .ref (1))]) (st2 := [.int (nI q), .ref (2)]) (M2 := tp M q tok ft fa) hC hqX10_next rfl ?_
            refine gb_iaload hC hqX10_next rfl (Nat.le_of_ble_eq_true rfl) rfl (vp_in_nI (by omega) (by omega)) ?_
            rw [show (nI q).toNatClampNeg = q from nI_clamp (by omega)]
            show GW _ _ _ _ _ _ _ _ 39 [(0, .ref (1))] [.int (M 2 q)] (956, g_S0, tp M q tok ft fa, sz)
            rw [hf]
            refine gb_run 1 (pc2 := 41) (ls2 := [(0, .ref (1))]) (st2 := [.int (32), .int (f q)]) (M2 := tp M q tok ft fa) hC hqX10_next rfl ?_
            refine gb_icmp_eq hqX10_next rfl (fun h6 => ?_) (fun h6 => ?_)
            ·
              refine gb_run 7 (pc2 := 0) (ls2 := [(0, .ref (1))]) (st2 := []) (M2 := g_set (tp M q tok ft fa) 1 3 (nI q + 1)) hC hqX10_next rfl ?_
              rw [nI_1 q]
              rw [tp_3]
              exact ih (q + 1) (by omega) (by rw [← hr]; show _ = (if f q = 32 then _ else _); rw [if_pos (by assumption)])
            ·
              refine gb_run 4 (pc2 := 52) (ls2 := [(0, .ref (1))]) (st2 := [.int (nI q), .ref (2)]) (M2 := tp M q tok ft fa) hC hqX10_next rfl ?_
              refine gb_iaload hC hqX10_next rfl (Nat.le_of_ble_eq_true rfl) rfl (vp_in_nI (by omega) (by omega)) ?_
              rw [show (nI q).toNatClampNeg = q from nI_clamp (by omega)]
              show GW _ _ _ _ _ _ _ _ 53 [(0, .ref (1))] [.int (M 2 q)] (956, g_S0, tp M q tok ft fa, sz)
              rw [hf]
              refine gb_iret hqX10_next rfl rfl (Nat.le_of_ble_eq_true rfl) (Nat.le_of_ble_eq_true rfl) ?_
              refine ⟨_, rfl, ?_, ?_⟩
              · rw [← hr]; unfold r_skip; rw [if_neg (by assumption)]; unfold t_ch; rw [if_pos (by omega)]
              · rw [← hr]; unfold r_skip; rw [if_neg (by assumption)]
  exact L0 (e - p) p (by omega) rfl
/-- what need(c) makes of place, fault and where -/
def k_need (f : Nat → Int32) (e p : Nat) (ft fa c : Int32) : Nat × Int32 × Int32 := if t_ch f e (r_skip f (e - p) p) = c then (r_skip f (e - p) p + 1, ft, fa) else (r_skip f (e - p) p, t_ft ft 1, t_fa ft fa (nI (r_skip f (e - p) p)))
theorem k_need_le (f : Nat → Int32) (e p : Nat) (ft fa c : Int32) (hp : p ≤ e) (hc : c ≠ -1) : p ≤ (k_need f e p ft fa c).1 ∧ (k_need f e p ft fa c).1 ≤ e := by
  have b := r_skip_le f (e - p) p
  unfold k_need
  split
  · rename_i h
    have : r_skip f (e - p) p < e := by
      by_cases q : r_skip f (e - p) p < e
      · exact q
      · unfold t_ch at h; rw [if_neg q] at h; exact absurd h.symm hc
    show p ≤ r_skip f (e - p) p + 1 ∧ r_skip f (e - p) p + 1 ≤ e
    omega
  · show p ≤ r_skip f (e - p) p ∧ r_skip f (e - p) p ≤ e
    omega
set_option maxRecDepth 20000 in
theorem c_need {l : Launch} {C : gC} (hC : g_ctx l C) (f : Nat → Int32) (p tok e : Nat) (ft fa c : Int32) (M : gM) (sz d : Nat) (hd : 3 ≤ d) (hf : M 2 = f) (he : M 1 2 = nI e) (hp : p ≤ e) (hE : e ≤ 600) : gP l C qX10_need d [.ref (1), .int (c)] (tp M p tok ft fa) sz (fun r M2 => r = none ∧ M2 = tp M (k_need f e p ft fa c).1 tok (k_need f e p ft fa c).2.1 (k_need f e p ft fa c).2.2) := by
  refine gP.of (ls := [(0, .ref (1)), (1, .int (c))]) (by decide +kernel) (Nat.le_of_ble_eq_true rfl) rfl ?_
  refine gb_run 1 (pc2 := 1) (ls2 := [(0, .ref (1)), (1, .int (c))]) (st2 := [.ref (1)]) (M2 := tp M p tok ft fa) hC hqX10_need rfl ?_
  refine gb_cV (z := qX10_next) (a := 1) (av := []) (rest := []) (pl := 757) hC hqX10_need rfl kX10_next sX10_next (by decide +kernel) (c_next hC f p tok e ft fa M sz (d - 1) (by omega) (by first | assumption | ((repeat (first | rw [r_put_ne (by decide)] | rw [g_set_ne (by decide)])); assumption)) (by first | assumption | ((repeat (first | rw [r_put_ne (by decide)] | rw [g_set_ne (by decide)])); assumption)) (by omega) hE) (by omega) rfl (Nat.le_of_ble_eq_true rfl) (Nat.le_of_ble_eq_true rfl) rfl rfl rfl (Nat.le_of_ble_eq_true rfl) ⟨Nat.le_of_ble_eq_true rfl, Nat.le_of_ble_eq_true rfl⟩ (fun _ _ hq => hq.elim) ?_
  intro r X hq; obtain ⟨M2, rfl, rfl, rfl⟩ := hq
  have bp1 := r_skip_le f (e - p) p
  obtain ⟨p1, ep1⟩ : ∃ q : Nat, q = r_skip f (e - p) p := ⟨_, rfl⟩
  rw [← ep1] at bp1 ⊢
  have kp1 : p1 = k_np f e p := ep1
  show GW _ _ _ _ _ _ _ _ 4 [(0, .ref (1)), (1, .int (c))] [.int (t_ch f e p1)] (956, g_S0, tp M p1 tok ft fa, sz)
  refine gb_run 1 (pc2 := 5) (ls2 := [(0, .ref (1)), (1, .int (c))]) (st2 := [.int (c), .int (t_ch f e p1)]) (M2 := tp M p1 tok ft fa) hC hqX10_need rfl ?_
  refine gb_icmp_ne hqX10_need rfl (fun h3 => ?_) (fun h3 => ?_)
  ·
    refine gb_run 4 (pc2 := 27) (ls2 := [(0, .ref (1)), (1, .int (c))]) (st2 := [.int (nI p1), .int (1), .ref (1)]) (M2 := tp M p1 tok ft fa) hC hqX10_need rfl ?_
    refine gb_cV (z := qX10_fail) (a := 1) (av := [.int (1), .int (nI p1)]) (rest := []) (pl := 842) hC hqX10_need rfl kX10_fail sX10_fail (by decide +kernel) (c_fail hC (1 : Int32) (nI p1) p1 tok ft fa M sz (d - 1) (by omega)) (by omega) rfl (Nat.le_of_ble_eq_true rfl) (Nat.le_of_ble_eq_true rfl) rfl rfl rfl (Nat.le_of_ble_eq_true rfl) ⟨Nat.le_of_ble_eq_true rfl, Nat.le_of_ble_eq_true rfl⟩ (fun _ _ hq => hq.elim) ?_
    intro r X hq; obtain ⟨M2, rfl, rfl, rfl⟩ := hq
    show GW _ _ _ _ _ _ _ _ 30 [(0, .ref (1)), (1, .int (c))] [] (956, g_S0, tp M p1 tok (t_ft ft (1 : Int32)) (t_fa ft fa (nI p1)), sz)
    refine gb_vret hqX10_need rfl rfl (Nat.le_of_ble_eq_true rfl) (Nat.le_of_ble_eq_true rfl) ?_
    refine ⟨_, rfl, rfl, ?_⟩
    have q := h3
    rw [ep1] at q ⊢
    unfold k_need; rw [if_neg q]
  ·
    refine gb_run 7 (pc2 := 30) (ls2 := [(0, .ref (1)), (1, .int (c))]) (st2 := []) (M2 := g_set (tp M p1 tok ft fa) 1 3 (nI p1 + 1)) hC hqX10_need rfl ?_
    rw [nI_1 p1]
    rw [tp_3]
    refine gb_vret hqX10_need rfl rfl (Nat.le_of_ble_eq_true rfl) (Nat.le_of_ble_eq_true rfl) ?_
    refine ⟨_, rfl, rfl, ?_⟩
    have q := h3
    rw [ep1] at q ⊢
    unfold k_need; rw [if_pos q]
/-- digits from p on: behind them, and the number -/
def r_num (f : Nat → Int32) : Nat → Nat → Int32 → Nat × Int32
  | 0, p, v => (p, v)
  | k + 1, p, v => if m_dig (f p) = 0 then (p, v) else r_num f k (p + 1) (m_min (v * 10 + f p - 48) 10000)
theorem r_num_le (f : Nat → Int32) : ∀ k p v, p ≤ (r_num f k p v).1 ∧ (r_num f k p v).1 ≤ p + k := by
  intro k
  induction k with
  | zero => intro p v; exact ⟨Nat.le_refl _, Nat.le_refl _⟩
  | succ k ih =>
    intro p v
    unfold r_num
    split
    · show p ≤ p ∧ p ≤ p + (k + 1); omega
    · have := ih (p + 1) (m_min (v * 10 + f p - 48) 10000); omega
def k_nft (ft : Int32) (q p1 : Nat) (v lo hi : Int32) : Int32 := if q = p1 then t_ft ft 1 else if v < lo then t_ft ft 2 else if v ≤ hi then ft else t_ft ft 2
def k_nfa (ft fa : Int32) (q p1 : Nat) (v lo hi : Int32) : Int32 := if q = p1 then t_fa ft fa (nI p1) else if v < lo then t_fa ft fa (nI p1) else if v ≤ hi then fa else t_fa ft fa (nI p1)
def k_ns (f : Nat → Int32) (e p : Nat) : Nat × Int32 := r_num f (e - k_np f e p) (k_np f e p) 0
theorem k_ns_le (f : Nat → Int32) (e p : Nat) (hp : p ≤ e) : p ≤ k_np f e p ∧ k_np f e p ≤ (k_ns f e p).1 ∧ (k_ns f e p).1 ≤ e := by
  have b := r_skip_le f (e - p) p
  have c := r_num_le f (e - r_skip f (e - p) p) (r_skip f (e - p) p) 0
  show p ≤ r_skip f (e - p) p ∧ r_skip f (e - p) p ≤ (r_num f (e - r_skip f (e - p) p) (r_skip f (e - p) p) 0).1 ∧ (r_num f (e - r_skip f (e - p) p) (r_skip f (e - p) p) 0).1 ≤ e
  omega
/-- letters from p on: behind them -/
def r_wrd (f : Nat → Int32) : Nat → Nat → Nat
  | 0, p => p
  | k + 1, p => if m_sma (f p) = 0 then p else r_wrd f k (p + 1)
theorem r_wrd_le (f : Nat → Int32) : ∀ k p, p ≤ r_wrd f k p ∧ r_wrd f k p ≤ p + k := by
  intro k
  induction k with
  | zero => intro p; exact ⟨Nat.le_refl _, Nat.le_refl _⟩
  | succ k ih =>
    intro p
    unfold r_wrd
    split
    · omega
    · have := ih (p + 1); omega
def k_we (f : Nat → Int32) (e p : Nat) : Nat := r_wrd f (e - k_np f e p) (k_np f e p)
theorem k_we_le (f : Nat → Int32) (e p : Nat) (hp : p ≤ e) : p ≤ k_np f e p ∧ k_np f e p ≤ k_we f e p ∧ k_we f e p ≤ e := by
  have b := r_skip_le f (e - p) p
  have c := r_wrd_le f (e - r_skip f (e - p) p) (r_skip f (e - p) p)
  show p ≤ r_skip f (e - p) p ∧ r_skip f (e - p) p ≤ r_wrd f (e - r_skip f (e - p) p) (r_skip f (e - p) p) ∧ r_wrd f (e - r_skip f (e - p) p) (r_skip f (e - p) p) ≤ e
  omega
/-- whether the letters from tok to p are text k -/
def t_was (f : Nat → Int32) (p tok k : Nat) : Bool := decide (p - tok = g_len.getD k 0) && (List.range (g_len.getD k 0)).all (fun i => decide (f (tok + i) = g_ch k i))
def b2i (b : Bool) : Int32 := if b = true then 1 else 0
/-- number(lo, hi): behind it, the number, fault, where -/
def k_n (f : Nat → Int32) (e p : Nat) (ft fa lo hi : Int32) : Nat × Int32 × Int32 × Int32 := ((k_ns f e p).1, (k_ns f e p).2, k_nft ft (k_ns f e p).1 (k_np f e p) (k_ns f e p).2 lo hi, k_nfa ft fa (k_ns f e p).1 (k_np f e p) (k_ns f e p).2 lo hi)
set_option maxRecDepth 20000 in
theorem c_number {l : Launch} {C : gC} (hC : g_ctx l C) (f : Nat → Int32) (p tok e : Nat) (ft fa lo hi : Int32) (M : gM) (sz d : Nat) (hd : 3 ≤ d) (hf : M 2 = f) (he : M 1 2 = nI e) (hp : p ≤ e) (hE : e ≤ 600) : gP l C qX10_number d [.ref (1), .int (lo), .int (hi)] (tp M p tok ft fa) sz (fun r M2 => r = some (.int (k_n f e p ft fa lo hi).2.1) ∧ M2 = tp M (k_n f e p ft fa lo hi).1 (k_np f e p) (k_n f e p ft fa lo hi).2.2.1 (k_n f e p ft fa lo hi).2.2.2) := by
  refine gP.of (ls := [(0, .ref (1)), (1, .int (lo)), (2, .int (hi))]) (by decide +kernel) (Nat.le_of_ble_eq_true rfl) rfl ?_
  refine gb_run 1 (pc2 := 1) (ls2 := [(0, .ref (1)), (1, .int (lo)), (2, .int (hi))]) (st2 := [.ref (1)]) (M2 := tp M p tok ft fa) hC hqX10_number rfl ?_
  refine gb_cV (z := qX10_next) (a := 1) (av := []) (rest := []) (pl := 757) hC hqX10_number rfl kX10_next sX10_next (by decide +kernel) (c_next hC f p tok e ft fa M sz (d - 1) (by omega) (by first | assumption | ((repeat (first | rw [r_put_ne (by decide)] | rw [g_set_ne (by decide)])); assumption)) (by first | assumption | ((repeat (first | rw [r_put_ne (by decide)] | rw [g_set_ne (by decide)])); assumption)) (by omega) hE) (by omega) rfl (Nat.le_of_ble_eq_true rfl) (Nat.le_of_ble_eq_true rfl) rfl rfl rfl (Nat.le_of_ble_eq_true rfl) ⟨Nat.le_of_ble_eq_true rfl, Nat.le_of_ble_eq_true rfl⟩ (fun _ _ hq => hq.elim) ?_
  intro r X hq; obtain ⟨M2, rfl, rfl, rfl⟩ := hq
  have bp1 := r_skip_le f (e - p) p
  obtain ⟨p1, ep1⟩ : ∃ q : Nat, q = r_skip f (e - p) p := ⟨_, rfl⟩
  rw [← ep1] at bp1 ⊢
  have kp1 : p1 = k_np f e p := ep1
  show GW _ _ _ _ _ _ _ _ 4 [(0, .ref (1)), (1, .int (lo)), (2, .int (hi))] [.int (t_ch f e p1)] (956, g_S0, tp M p1 tok ft fa, sz)
  refine gb_run 7 (pc2 := 15) (ls2 := [(3, .int (0)), (0, .ref (1)), (1, .int (lo)), (2, .int (hi))]) (st2 := []) (M2 := g_set (tp M p1 tok ft fa) 1 4 (nI p1)) hC hqX10_number rfl ?_
  rw [tp_4]
  have L15 : ∀ (k : Nat) (q : Nat) (v : Int32), (q + k = e) → (p1 ≤ q) → (r_num f k q v = r_num f (e - p1) p1 0) → GW l C qX10_number d (gQ (fun r M2 => r = some (.int (k_n f e p ft fa lo hi).2.1) ∧ M2 = tp M (k_n f e p ft fa lo hi).1 (k_np f e p) (k_n f e p ft fa lo hi).2.2.1 (k_n f e p ft fa lo hi).2.2.2) sz) (gN) 0 0 15 [(3, .int (v)), (0, .ref (1)), (1, .int (lo)), (2, .int (hi))] [] (956, g_S0, tp M q p1 ft fa, sz) := by
    intro k
    induction k with
    | zero =>
      intro q v hq hb hr
      have hS : k_ns f e p = (q, v) := by unfold k_ns; rw [← kp1]; exact hr.symm
      have hq2 : q = e := by omega
      refine gb_run 4 (pc2 := 23) (ls2 := [(3, .int (v)), (0, .ref (1)), (1, .int (lo)), (2, .int (hi))]) (st2 := [.int (M 1 2), .int (nI q)]) (M2 := tp M q p1 ft fa) hC hqX10_number rfl ?_
      rw [he]
      refine gb_icmp_ge hqX10_number rfl (fun h3 => ?_) (fun h3 => ?_)
      ·
        refine gb_run 4 (pc2 := 90) (ls2 := [(3, .int (v)), (0, .ref (1)), (1, .int (lo)), (2, .int (hi))]) (st2 := [.int (nI p1), .int (nI q)]) (M2 := tp M q p1 ft fa) hC hqX10_number rfl ?_
        refine gb_icmp_ne hqX10_number rfl (fun h4 => ?_) (fun h4 => ?_)
        ·
          have hsm : ¬ q = p1 := fun e1 => h4 (by rw [e1])
          refine gb_run 2 (pc2 := 107) (ls2 := [(3, .int (v)), (0, .ref (1)), (1, .int (lo)), (2, .int (hi))]) (st2 := [.int (lo), .int (v)]) (M2 := tp M q p1 ft fa) hC hqX10_number rfl ?_
          refine gb_icmp_lt hqX10_number rfl (fun h5 => ?_) (fun h5 => ?_)
          ·
            have hlo := h5
            refine gb_run 4 (pc2 := 121) (ls2 := [(3, .int (v)), (0, .ref (1)), (1, .int (lo)), (2, .int (hi))]) (st2 := [.int (nI p1), .int (2), .ref (1)]) (M2 := tp M q p1 ft fa) hC hqX10_number rfl ?_
            refine gb_cV (z := qX10_fail) (a := 1) (av := [.int (2), .int (nI p1)]) (rest := []) (pl := 842) hC hqX10_number rfl kX10_fail sX10_fail (by decide +kernel) (c_fail hC (2 : Int32) (nI p1) q p1 ft fa M sz (d - 1) (by omega)) (by omega) rfl (Nat.le_of_ble_eq_true rfl) (Nat.le_of_ble_eq_true rfl) rfl rfl rfl (Nat.le_of_ble_eq_true rfl) ⟨Nat.le_of_ble_eq_true rfl, Nat.le_of_ble_eq_true rfl⟩ (fun _ _ hq => hq.elim) ?_
            intro r X hq; obtain ⟨M2, rfl, rfl, rfl⟩ := hq
            show GW _ _ _ _ _ _ _ _ 124 [(3, .int (v)), (0, .ref (1)), (1, .int (lo)), (2, .int (hi))] [] (956, g_S0, tp M q p1 (t_ft ft (2 : Int32)) (t_fa ft fa (nI p1)), sz)
            refine gb_run 1 (pc2 := 125) (ls2 := [(3, .int (v)), (0, .ref (1)), (1, .int (lo)), (2, .int (hi))]) (st2 := [.int (v)]) (M2 := tp M q p1 (t_ft ft (2 : Int32)) (t_fa ft fa (nI p1))) hC hqX10_number rfl ?_
            refine gb_iret hqX10_number rfl rfl (Nat.le_of_ble_eq_true rfl) (Nat.le_of_ble_eq_true rfl) ?_
            refine ⟨_, rfl, ?_, ?_⟩
            · show _ = some (Value.int (k_ns f e p).2)
              rw [hS]
            · show _ = tp M (k_ns f e p).1 (k_np f e p) (k_nft ft (k_ns f e p).1 (k_np f e p) (k_ns f e p).2 lo hi) (k_nfa ft fa (k_ns f e p).1 (k_np f e p) (k_ns f e p).2 lo hi)
              rw [hS, ← kp1]
              show _ = tp M q p1 (k_nft ft q p1 v lo hi) (k_nfa ft fa q p1 v lo hi)
              unfold k_nft k_nfa
              rw [if_neg hsm, if_neg hsm, if_pos hlo, if_pos hlo]
          ·
            have hlo := h5
            refine gb_run 2 (pc2 := 112) (ls2 := [(3, .int (v)), (0, .ref (1)), (1, .int (lo)), (2, .int (hi))]) (st2 := [.int (hi), .int (v)]) (M2 := tp M q p1 ft fa) hC hqX10_number rfl ?_
            refine gb_icmp_le hqX10_number rfl (fun h7 => ?_) (fun h7 => ?_)
            ·
              have hhi := h7
              refine gb_run 1 (pc2 := 125) (ls2 := [(3, .int (v)), (0, .ref (1)), (1, .int (lo)), (2, .int (hi))]) (st2 := [.int (v)]) (M2 := tp M q p1 ft fa) hC hqX10_number rfl ?_
              refine gb_iret hqX10_number rfl rfl (Nat.le_of_ble_eq_true rfl) (Nat.le_of_ble_eq_true rfl) ?_
              refine ⟨_, rfl, ?_, ?_⟩
              · show _ = some (Value.int (k_ns f e p).2)
                rw [hS]
              · show _ = tp M (k_ns f e p).1 (k_np f e p) (k_nft ft (k_ns f e p).1 (k_np f e p) (k_ns f e p).2 lo hi) (k_nfa ft fa (k_ns f e p).1 (k_np f e p) (k_ns f e p).2 lo hi)
                rw [hS, ← kp1]
                show _ = tp M q p1 (k_nft ft q p1 v lo hi) (k_nfa ft fa q p1 v lo hi)
                unfold k_nft k_nfa
                rw [if_neg hsm, if_neg hsm, if_neg hlo, if_neg hlo, if_pos hhi, if_pos hhi]
            ·
              have hhi := h7
              refine gb_run 4 (pc2 := 121) (ls2 := [(3, .int (v)), (0, .ref (1)), (1, .int (lo)), (2, .int (hi))]) (st2 := [.int (nI p1), .int (2), .ref (1)]) (M2 := tp M q p1 ft fa) hC hqX10_number rfl ?_
              refine gb_cV (z := qX10_fail) (a := 1) (av := [.int (2), .int (nI p1)]) (rest := []) (pl := 842) hC hqX10_number rfl kX10_fail sX10_fail (by decide +kernel) (c_fail hC (2 : Int32) (nI p1) q p1 ft fa M sz (d - 1) (by omega)) (by omega) rfl (Nat.le_of_ble_eq_true rfl) (Nat.le_of_ble_eq_true rfl) rfl rfl rfl (Nat.le_of_ble_eq_true rfl) ⟨Nat.le_of_ble_eq_true rfl, Nat.le_of_ble_eq_true rfl⟩ (fun _ _ hq => hq.elim) ?_
              intro r X hq; obtain ⟨M2, rfl, rfl, rfl⟩ := hq
              show GW _ _ _ _ _ _ _ _ 124 [(3, .int (v)), (0, .ref (1)), (1, .int (lo)), (2, .int (hi))] [] (956, g_S0, tp M q p1 (t_ft ft (2 : Int32)) (t_fa ft fa (nI p1)), sz)
              refine gb_run 1 (pc2 := 125) (ls2 := [(3, .int (v)), (0, .ref (1)), (1, .int (lo)), (2, .int (hi))]) (st2 := [.int (v)]) (M2 := tp M q p1 (t_ft ft (2 : Int32)) (t_fa ft fa (nI p1))) hC hqX10_number rfl ?_
              refine gb_iret hqX10_number rfl rfl (Nat.le_of_ble_eq_true rfl) (Nat.le_of_ble_eq_true rfl) ?_
              refine ⟨_, rfl, ?_, ?_⟩
              · show _ = some (Value.int (k_ns f e p).2)
                rw [hS]
              · show _ = tp M (k_ns f e p).1 (k_np f e p) (k_nft ft (k_ns f e p).1 (k_np f e p) (k_ns f e p).2 lo hi) (k_nfa ft fa (k_ns f e p).1 (k_np f e p) (k_ns f e p).2 lo hi)
                rw [hS, ← kp1]
                show _ = tp M q p1 (k_nft ft q p1 v lo hi) (k_nfa ft fa q p1 v lo hi)
                unfold k_nft k_nfa
                rw [if_neg hsm, if_neg hsm, if_neg hlo, if_neg hlo, if_neg hhi, if_neg hhi]
        ·
          have hsm : q = p1 := (nI_eq (by omega) (by omega)).mp h4
          refine gb_run 4 (pc2 := 99) (ls2 := [(3, .int (v)), (0, .ref (1)), (1, .int (lo)), (2, .int (hi))]) (st2 := [.int (nI p1), .int (1), .ref (1)]) (M2 := tp M q p1 ft fa) hC hqX10_number rfl ?_
          refine gb_cV (z := qX10_fail) (a := 1) (av := [.int (1), .int (nI p1)]) (rest := []) (pl := 842) hC hqX10_number rfl kX10_fail sX10_fail (by decide +kernel) (c_fail hC (1 : Int32) (nI p1) q p1 ft fa M sz (d - 1) (by omega)) (by omega) rfl (Nat.le_of_ble_eq_true rfl) (Nat.le_of_ble_eq_true rfl) rfl rfl rfl (Nat.le_of_ble_eq_true rfl) ⟨Nat.le_of_ble_eq_true rfl, Nat.le_of_ble_eq_true rfl⟩ (fun _ _ hq => hq.elim) ?_
          intro r X hq; obtain ⟨M2, rfl, rfl, rfl⟩ := hq
          show GW _ _ _ _ _ _ _ _ 102 [(3, .int (v)), (0, .ref (1)), (1, .int (lo)), (2, .int (hi))] [] (956, g_S0, tp M q p1 (t_ft ft (1 : Int32)) (t_fa ft fa (nI p1)), sz)
          refine gb_run 2 (pc2 := 125) (ls2 := [(3, .int (v)), (0, .ref (1)), (1, .int (lo)), (2, .int (hi))]) (st2 := [.int (v)]) (M2 := tp M q p1 (t_ft ft (1 : Int32)) (t_fa ft fa (nI p1))) hC hqX10_number rfl ?_
          refine gb_iret hqX10_number rfl rfl (Nat.le_of_ble_eq_true rfl) (Nat.le_of_ble_eq_true rfl) ?_
          refine ⟨_, rfl, ?_, ?_⟩
          · show _ = some (Value.int (k_ns f e p).2)
            rw [hS]
          · show _ = tp M (k_ns f e p).1 (k_np f e p) (k_nft ft (k_ns f e p).1 (k_np f e p) (k_ns f e p).2 lo hi) (k_nfa ft fa (k_ns f e p).1 (k_np f e p) (k_ns f e p).2 lo hi)
            rw [hS, ← kp1]
            show _ = tp M q p1 (k_nft ft q p1 v lo hi) (k_nfa ft fa q p1 v lo hi)
            unfold k_nft k_nfa
            rw [if_pos hsm, if_pos hsm]
      · exact absurd (nI_le (by omega) (by omega)) h3
    | succ k ih =>
      intro q v hq hb hr
      refine gb_run 4 (pc2 := 23) (ls2 := [(3, .int (v)), (0, .ref (1)), (1, .int (lo)), (2, .int (hi))]) (st2 := [.int (M 1 2), .int (nI q)]) (M2 := tp M q p1 ft fa) hC hqX10_number rfl ?_
      rw [he]
      refine gb_icmp_ge hqX10_number rfl (fun h10 => ?_) (fun h10 => ?_)
      · exact absurd h10 (nI_ge (by omega) (by omega))
      ·
        refine gb_run 4 (pc2 := 34) (ls2 := [(3, .int (v)), (0, .ref (1)), (1, .int (lo)), (2, .int (hi))]) (st2 := [.int (nI q), .ref (2)]) (M2 := tp M q p1 ft fa) hC hqX10_number rfl ?_
        refine gb_cSN (host := "HoopHours") (z := qX11_at) (av := [.ref (2), .int (nI q)]) (rest := []) (pl := 758) hC hqX10_number rfl kX11_at (by decide +kernel) (c_at hC 2 600 _ (nI q) (tp M q p1 ft fa) sz (d - 1) (by omega) (Nat.le_of_ble_eq_true rfl) rfl (Nat.le_of_ble_eq_true rfl)) (by omega) rfl rfl (Nat.le_of_ble_eq_true rfl) ⟨Nat.le_of_ble_eq_true rfl, Nat.le_of_ble_eq_true rfl⟩ ?_
        intro r X hq; obtain ⟨M2, rfl, rfl, rfl⟩ := hq
        show GW _ _ _ _ _ _ _ _ 37 [(3, .int (v)), (0, .ref (1)), (1, .int (lo)), (2, .int (hi))] [.int (r_at ((tp M q p1 ft fa) 2) 600 (nI q))] (956, g_S0, tp M q p1 ft fa, sz)
        rw [show r_at ((tp M q p1 ft fa) 2) 600 (nI q) = f q from (r_at_in _ (by omega) (Nat.le_of_ble_eq_true rfl)).trans (congrFun hf q)]
        refine gb_cS (z := qX10_isDigit) (av := [.int (f q)]) (rest := []) (pl := 838) hC hqX10_number rfl kX10_isDigit (by decide +kernel) (c_isDigit hC (f q) (tp M q p1 ft fa) sz (d - 1) (by omega)) (by omega) rfl rfl (Nat.le_of_ble_eq_true rfl) ⟨Nat.le_of_ble_eq_true rfl, Nat.le_of_ble_eq_true rfl⟩ (fun _ _ hq => hq.elim) ?_
        intro r X hq; obtain ⟨M2, rfl, rfl, rfl⟩ := hq
        show GW _ _ _ _ _ _ _ _ 40 [(3, .int (v)), (0, .ref (1)), (1, .int (lo)), (2, .int (hi))] [.int (m_dig (f q))] (956, g_S0, tp M q p1 ft fa, sz)
        refine gb_if_eq hqX10_number rfl (fun h13 => ?_) (fun h13 => ?_)
        ·
          have hS : k_ns f e p = (q, v) := by unfold k_ns; rw [← kp1, ← hr]; show (if m_dig (f q) = 0 then _ else _) = _; rw [if_pos h13]
          refine gb_run 4 (pc2 := 90) (ls2 := [(3, .int (v)), (0, .ref (1)), (1, .int (lo)), (2, .int (hi))]) (st2 := [.int (nI p1), .int (nI q)]) (M2 := tp M q p1 ft fa) hC hqX10_number rfl ?_
          refine gb_icmp_ne hqX10_number rfl (fun h14 => ?_) (fun h14 => ?_)
          ·
            have hsm : ¬ q = p1 := fun e1 => h14 (by rw [e1])
            refine gb_run 2 (pc2 := 107) (ls2 := [(3, .int (v)), (0, .ref (1)), (1, .int (lo)), (2, .int (hi))]) (st2 := [.int (lo), .int (v)]) (M2 := tp M q p1 ft fa) hC hqX10_number rfl ?_
            refine gb_icmp_lt hqX10_number rfl (fun h15 => ?_) (fun h15 => ?_)
            ·
              have hlo := h15
              refine gb_run 4 (pc2 := 121) (ls2 := [(3, .int (v)), (0, .ref (1)), (1, .int (lo)), (2, .int (hi))]) (st2 := [.int (nI p1), .int (2), .ref (1)]) (M2 := tp M q p1 ft fa) hC hqX10_number rfl ?_
              refine gb_cV (z := qX10_fail) (a := 1) (av := [.int (2), .int (nI p1)]) (rest := []) (pl := 842) hC hqX10_number rfl kX10_fail sX10_fail (by decide +kernel) (c_fail hC (2 : Int32) (nI p1) q p1 ft fa M sz (d - 1) (by omega)) (by omega) rfl (Nat.le_of_ble_eq_true rfl) (Nat.le_of_ble_eq_true rfl) rfl rfl rfl (Nat.le_of_ble_eq_true rfl) ⟨Nat.le_of_ble_eq_true rfl, Nat.le_of_ble_eq_true rfl⟩ (fun _ _ hq => hq.elim) ?_
              intro r X hq; obtain ⟨M2, rfl, rfl, rfl⟩ := hq
              show GW _ _ _ _ _ _ _ _ 124 [(3, .int (v)), (0, .ref (1)), (1, .int (lo)), (2, .int (hi))] [] (956, g_S0, tp M q p1 (t_ft ft (2 : Int32)) (t_fa ft fa (nI p1)), sz)
              refine gb_run 1 (pc2 := 125) (ls2 := [(3, .int (v)), (0, .ref (1)), (1, .int (lo)), (2, .int (hi))]) (st2 := [.int (v)]) (M2 := tp M q p1 (t_ft ft (2 : Int32)) (t_fa ft fa (nI p1))) hC hqX10_number rfl ?_
              refine gb_iret hqX10_number rfl rfl (Nat.le_of_ble_eq_true rfl) (Nat.le_of_ble_eq_true rfl) ?_
              refine ⟨_, rfl, ?_, ?_⟩
              · show _ = some (Value.int (k_ns f e p).2)
                rw [hS]
              · show _ = tp M (k_ns f e p).1 (k_np f e p) (k_nft ft (k_ns f e p).1 (k_np f e p) (k_ns f e p).2 lo hi) (k_nfa ft fa (k_ns f e p).1 (k_np f e p) (k_ns f e p).2 lo hi)
                rw [hS, ← kp1]
                show _ = tp M q p1 (k_nft ft q p1 v lo hi) (k_nfa ft fa q p1 v lo hi)
                unfold k_nft k_nfa
                rw [if_neg hsm, if_neg hsm, if_pos hlo, if_pos hlo]
            ·
              have hlo := h15
              refine gb_run 2 (pc2 := 112) (ls2 := [(3, .int (v)), (0, .ref (1)), (1, .int (lo)), (2, .int (hi))]) (st2 := [.int (hi), .int (v)]) (M2 := tp M q p1 ft fa) hC hqX10_number rfl ?_
              refine gb_icmp_le hqX10_number rfl (fun h17 => ?_) (fun h17 => ?_)
              ·
                have hhi := h17
                refine gb_run 1 (pc2 := 125) (ls2 := [(3, .int (v)), (0, .ref (1)), (1, .int (lo)), (2, .int (hi))]) (st2 := [.int (v)]) (M2 := tp M q p1 ft fa) hC hqX10_number rfl ?_
                refine gb_iret hqX10_number rfl rfl (Nat.le_of_ble_eq_true rfl) (Nat.le_of_ble_eq_true rfl) ?_
                refine ⟨_, rfl, ?_, ?_⟩
                · show _ = some (Value.int (k_ns f e p).2)
                  rw [hS]
                · show _ = tp M (k_ns f e p).1 (k_np f e p) (k_nft ft (k_ns f e p).1 (k_np f e p) (k_ns f e p).2 lo hi) (k_nfa ft fa (k_ns f e p).1 (k_np f e p) (k_ns f e p).2 lo hi)
                  rw [hS, ← kp1]
                  show _ = tp M q p1 (k_nft ft q p1 v lo hi) (k_nfa ft fa q p1 v lo hi)
                  unfold k_nft k_nfa
                  rw [if_neg hsm, if_neg hsm, if_neg hlo, if_neg hlo, if_pos hhi, if_pos hhi]
              ·
                have hhi := h17
                refine gb_run 4 (pc2 := 121) (ls2 := [(3, .int (v)), (0, .ref (1)), (1, .int (lo)), (2, .int (hi))]) (st2 := [.int (nI p1), .int (2), .ref (1)]) (M2 := tp M q p1 ft fa) hC hqX10_number rfl ?_
                refine gb_cV (z := qX10_fail) (a := 1) (av := [.int (2), .int (nI p1)]) (rest := []) (pl := 842) hC hqX10_number rfl kX10_fail sX10_fail (by decide +kernel) (c_fail hC (2 : Int32) (nI p1) q p1 ft fa M sz (d - 1) (by omega)) (by omega) rfl (Nat.le_of_ble_eq_true rfl) (Nat.le_of_ble_eq_true rfl) rfl rfl rfl (Nat.le_of_ble_eq_true rfl) ⟨Nat.le_of_ble_eq_true rfl, Nat.le_of_ble_eq_true rfl⟩ (fun _ _ hq => hq.elim) ?_
                intro r X hq; obtain ⟨M2, rfl, rfl, rfl⟩ := hq
                show GW _ _ _ _ _ _ _ _ 124 [(3, .int (v)), (0, .ref (1)), (1, .int (lo)), (2, .int (hi))] [] (956, g_S0, tp M q p1 (t_ft ft (2 : Int32)) (t_fa ft fa (nI p1)), sz)
                refine gb_run 1 (pc2 := 125) (ls2 := [(3, .int (v)), (0, .ref (1)), (1, .int (lo)), (2, .int (hi))]) (st2 := [.int (v)]) (M2 := tp M q p1 (t_ft ft (2 : Int32)) (t_fa ft fa (nI p1))) hC hqX10_number rfl ?_
                refine gb_iret hqX10_number rfl rfl (Nat.le_of_ble_eq_true rfl) (Nat.le_of_ble_eq_true rfl) ?_
                refine ⟨_, rfl, ?_, ?_⟩
                · show _ = some (Value.int (k_ns f e p).2)
                  rw [hS]
                · show _ = tp M (k_ns f e p).1 (k_np f e p) (k_nft ft (k_ns f e p).1 (k_np f e p) (k_ns f e p).2 lo hi) (k_nfa ft fa (k_ns f e p).1 (k_np f e p) (k_ns f e p).2 lo hi)
                  rw [hS, ← kp1]
                  show _ = tp M q p1 (k_nft ft q p1 v lo hi) (k_nfa ft fa q p1 v lo hi)
                  unfold k_nft k_nfa
                  rw [if_neg hsm, if_neg hsm, if_neg hlo, if_neg hlo, if_neg hhi, if_neg hhi]
          ·
            have hsm : q = p1 := (nI_eq (by omega) (by omega)).mp h14
            refine gb_run 4 (pc2 := 99) (ls2 := [(3, .int (v)), (0, .ref (1)), (1, .int (lo)), (2, .int (hi))]) (st2 := [.int (nI p1), .int (1), .ref (1)]) (M2 := tp M q p1 ft fa) hC hqX10_number rfl ?_
            refine gb_cV (z := qX10_fail) (a := 1) (av := [.int (1), .int (nI p1)]) (rest := []) (pl := 842) hC hqX10_number rfl kX10_fail sX10_fail (by decide +kernel) (c_fail hC (1 : Int32) (nI p1) q p1 ft fa M sz (d - 1) (by omega)) (by omega) rfl (Nat.le_of_ble_eq_true rfl) (Nat.le_of_ble_eq_true rfl) rfl rfl rfl (Nat.le_of_ble_eq_true rfl) ⟨Nat.le_of_ble_eq_true rfl, Nat.le_of_ble_eq_true rfl⟩ (fun _ _ hq => hq.elim) ?_
            intro r X hq; obtain ⟨M2, rfl, rfl, rfl⟩ := hq
            show GW _ _ _ _ _ _ _ _ 102 [(3, .int (v)), (0, .ref (1)), (1, .int (lo)), (2, .int (hi))] [] (956, g_S0, tp M q p1 (t_ft ft (1 : Int32)) (t_fa ft fa (nI p1)), sz)
            refine gb_run 2 (pc2 := 125) (ls2 := [(3, .int (v)), (0, .ref (1)), (1, .int (lo)), (2, .int (hi))]) (st2 := [.int (v)]) (M2 := tp M q p1 (t_ft ft (1 : Int32)) (t_fa ft fa (nI p1))) hC hqX10_number rfl ?_
            refine gb_iret hqX10_number rfl rfl (Nat.le_of_ble_eq_true rfl) (Nat.le_of_ble_eq_true rfl) ?_
            refine ⟨_, rfl, ?_, ?_⟩
            · show _ = some (Value.int (k_ns f e p).2)
              rw [hS]
            · show _ = tp M (k_ns f e p).1 (k_np f e p) (k_nft ft (k_ns f e p).1 (k_np f e p) (k_ns f e p).2 lo hi) (k_nfa ft fa (k_ns f e p).1 (k_np f e p) (k_ns f e p).2 lo hi)
              rw [hS, ← kp1]
              show _ = tp M q p1 (k_nft ft q p1 v lo hi) (k_nfa ft fa q p1 v lo hi)
              unfold k_nft k_nfa
              rw [if_pos hsm, if_pos hsm]
        ·
          refine gb_run 7 (pc2 := 55) (ls2 := [(3, .int (v)), (0, .ref (1)), (1, .int (lo)), (2, .int (hi))]) (st2 := [.int (nI q), .ref (2), .int (v * 10)]) (M2 := tp M q p1 ft fa) hC hqX10_number rfl ?_
          refine gb_cSN (host := "HoopHours") (z := qX11_at) (av := [.ref (2), .int (nI q)]) (rest := [.int (v * 10)]) (pl := 758) hC hqX10_number rfl kX11_at (by decide +kernel) (c_at hC 2 600 _ (nI q) (tp M q p1 ft fa) sz (d - 1) (by omega) (Nat.le_of_ble_eq_true rfl) rfl (Nat.le_of_ble_eq_true rfl)) (by omega) rfl rfl (Nat.le_of_ble_eq_true rfl) ⟨Nat.le_of_ble_eq_true rfl, Nat.le_of_ble_eq_true rfl⟩ ?_
          intro r X hq; obtain ⟨M2, rfl, rfl, rfl⟩ := hq
          show GW _ _ _ _ _ _ _ _ 58 [(3, .int (v)), (0, .ref (1)), (1, .int (lo)), (2, .int (hi))] [.int (r_at ((tp M q p1 ft fa) 2) 600 (nI q)), .int (v * 10)] (956, g_S0, tp M q p1 ft fa, sz)
          rw [show r_at ((tp M q p1 ft fa) 2) 600 (nI q) = f q from (r_at_in _ (by omega) (Nat.le_of_ble_eq_true rfl)).trans (congrFun hf q)]
          refine gb_run 4 (pc2 := 65) (ls2 := [(3, .int (v)), (0, .ref (1)), (1, .int (lo)), (2, .int (hi))]) (st2 := [.int (10000), .int (((v * 10) + (f q)) - 48)]) (M2 := tp M q p1 ft fa) hC hqX10_number rfl ?_
          refine gb_min (pl := 841) hC hqX10_number rfl (by decide +kernel) (Nat.le_of_ble_eq_true rfl) (by omega) (Nat.le_of_ble_eq_true rfl) (Nat.le_of_ble_eq_true rfl) ?_
          refine gb_run 8 (pc2 := 15) (ls2 := [(3, .int (m_min (((v * 10) + (f q)) - 48) (10000 : Int32))), (0, .ref (1)), (1, .int (lo)), (2, .int (hi))]) (st2 := []) (M2 := g_set (tp M q p1 ft fa) 1 3 (nI q + 1)) hC hqX10_number rfl ?_
          rw [nI_1 q]
          rw [tp_3]
          exact ih (q + 1) _ (by omega) (by omega) (by rw [← hr]; show _ = (if m_dig (f q) = 0 then _ else _); rw [if_neg (by assumption)])
  exact L15 (e - p1) p1 0 (by omega) (Nat.le_refl _) rfl
set_option maxRecDepth 20000 in
theorem c_word {l : Launch} {C : gC} (hC : g_ctx l C) (f : Nat → Int32) (p tok e : Nat) (ft fa : Int32) (M : gM) (sz d : Nat) (hd : 3 ≤ d) (hf : M 2 = f) (he : M 1 2 = nI e) (hp : p ≤ e) (hE : e ≤ 600) : gP l C qX10_word d [.ref (1)] (tp M p tok ft fa) sz (fun r M2 => r = none ∧ M2 = tp M (k_we f e p) (k_np f e p) ft fa) := by
  refine gP.of (ls := [(0, .ref (1))]) (by decide +kernel) (Nat.le_of_ble_eq_true rfl) rfl ?_
  refine gb_run 1 (pc2 := 1) (ls2 := [(0, .ref (1))]) (st2 := [.ref (1)]) (M2 := tp M p tok ft fa) hC hqX10_word rfl ?_
  refine gb_cV (z := qX10_next) (a := 1) (av := []) (rest := []) (pl := 757) hC hqX10_word rfl kX10_next sX10_next (by decide +kernel) (c_next hC f p tok e ft fa M sz (d - 1) (by omega) (by first | assumption | ((repeat (first | rw [r_put_ne (by decide)] | rw [g_set_ne (by decide)])); assumption)) (by first | assumption | ((repeat (first | rw [r_put_ne (by decide)] | rw [g_set_ne (by decide)])); assumption)) (by omega) hE) (by omega) rfl (Nat.le_of_ble_eq_true rfl) (Nat.le_of_ble_eq_true rfl) rfl rfl rfl (Nat.le_of_ble_eq_true rfl) ⟨Nat.le_of_ble_eq_true rfl, Nat.le_of_ble_eq_true rfl⟩ (fun _ _ hq => hq.elim) ?_
  intro r X hq; obtain ⟨M2, rfl, rfl, rfl⟩ := hq
  have bp1 := r_skip_le f (e - p) p
  obtain ⟨p1, ep1⟩ : ∃ q : Nat, q = r_skip f (e - p) p := ⟨_, rfl⟩
  rw [← ep1] at bp1 ⊢
  have kp1 : p1 = k_np f e p := ep1
  show GW _ _ _ _ _ _ _ _ 4 [(0, .ref (1))] [.int (t_ch f e p1)] (956, g_S0, tp M p1 tok ft fa, sz)
  refine gb_run 5 (pc2 := 13) (ls2 := [(0, .ref (1))]) (st2 := []) (M2 := g_set (tp M p1 tok ft fa) 1 4 (nI p1)) hC hqX10_word rfl ?_
  rw [tp_4]
  have L13 : ∀ (k : Nat) (q : Nat), (q + k = e) → (p1 ≤ q) → (r_wrd f k q = r_wrd f (e - p1) p1) → GW l C qX10_word d (gQ (fun r M2 => r = none ∧ M2 = tp M (k_we f e p) (k_np f e p) ft fa) sz) (gN) 0 0 13 [(0, .ref (1))] [] (956, g_S0, tp M q p1 ft fa, sz) := by
    intro k
    induction k with
    | zero =>
      intro q hq hb hr
      refine gb_run 4 (pc2 := 21) (ls2 := [(0, .ref (1))]) (st2 := [.int (M 1 2), .int (nI q)]) (M2 := tp M q p1 ft fa) hC hqX10_word rfl ?_
      rw [he]
      refine gb_icmp_ge hqX10_word rfl (fun h3 => ?_) (fun h3 => ?_)
      ·
        refine gb_vret hqX10_word rfl rfl (Nat.le_of_ble_eq_true rfl) (Nat.le_of_ble_eq_true rfl) ?_
        refine ⟨_, rfl, rfl, ?_⟩
        rw [← kp1]
        show _ = tp M (r_wrd f (e - k_np f e p) (k_np f e p)) p1 ft fa
        rw [← kp1, ← hr]
        rfl
      · exact absurd (nI_le (by omega) (by omega)) h3
    | succ k ih =>
      intro q hq hb hr
      refine gb_run 4 (pc2 := 21) (ls2 := [(0, .ref (1))]) (st2 := [.int (M 1 2), .int (nI q)]) (M2 := tp M q p1 ft fa) hC hqX10_word rfl ?_
      rw [he]
      refine gb_icmp_ge hqX10_word rfl (fun h4 => ?_) (fun h4 => ?_)
      · exact absurd h4 (nI_ge (by omega) (by omega))
      ·
        refine gb_run 4 (pc2 := 32) (ls2 := [(0, .ref (1))]) (st2 := [.int (nI q), .ref (2)]) (M2 := tp M q p1 ft fa) hC hqX10_word rfl ?_
        refine gb_cSN (host := "HoopHours") (z := qX11_at) (av := [.ref (2), .int (nI q)]) (rest := []) (pl := 758) hC hqX10_word rfl kX11_at (by decide +kernel) (c_at hC 2 600 _ (nI q) (tp M q p1 ft fa) sz (d - 1) (by omega) (Nat.le_of_ble_eq_true rfl) rfl (Nat.le_of_ble_eq_true rfl)) (by omega) rfl rfl (Nat.le_of_ble_eq_true rfl) ⟨Nat.le_of_ble_eq_true rfl, Nat.le_of_ble_eq_true rfl⟩ ?_
        intro r X hq; obtain ⟨M2, rfl, rfl, rfl⟩ := hq
        show GW _ _ _ _ _ _ _ _ 35 [(0, .ref (1))] [.int (r_at ((tp M q p1 ft fa) 2) 600 (nI q))] (956, g_S0, tp M q p1 ft fa, sz)
        rw [show r_at ((tp M q p1 ft fa) 2) 600 (nI q) = f q from (r_at_in _ (by omega) (Nat.le_of_ble_eq_true rfl)).trans (congrFun hf q)]
        refine gb_cS (z := qX10_isSmall) (av := [.int (f q)]) (rest := []) (pl := 759) hC hqX10_word rfl kX10_isSmall (by decide +kernel) (c_isSmall hC (f q) (tp M q p1 ft fa) sz (d - 1) (by omega)) (by omega) rfl rfl (Nat.le_of_ble_eq_true rfl) ⟨Nat.le_of_ble_eq_true rfl, Nat.le_of_ble_eq_true rfl⟩ (fun _ _ hq => hq.elim) ?_
        intro r X hq; obtain ⟨M2, rfl, rfl, rfl⟩ := hq
        show GW _ _ _ _ _ _ _ _ 38 [(0, .ref (1))] [.int (m_sma (f q))] (956, g_S0, tp M q p1 ft fa, sz)
        refine gb_if_eq hqX10_word rfl (fun h7 => ?_) (fun h7 => ?_)
        ·
          refine gb_vret hqX10_word rfl rfl (Nat.le_of_ble_eq_true rfl) (Nat.le_of_ble_eq_true rfl) ?_
          refine ⟨_, rfl, rfl, ?_⟩
          rw [← kp1]
          show _ = tp M (r_wrd f (e - k_np f e p) (k_np f e p)) p1 ft fa
          rw [← kp1, ← hr]
          show _ = tp M (if m_sma (f q) = 0 then q else _) p1 ft fa
          rw [if_pos (by assumption)]
        ·
          refine gb_run 7 (pc2 := 13) (ls2 := [(0, .ref (1))]) (st2 := []) (M2 := g_set (tp M q p1 ft fa) 1 3 (nI q + 1)) hC hqX10_word rfl ?_
          rw [nI_1 q]
          rw [tp_3]
          exact ih (q + 1) (by omega) (by omega) (by rw [← hr]; show _ = (if m_sma (f q) = 0 then _ else _); rw [if_neg (by assumption)])
  exact L13 (e - p1) p1 (by omega) (Nat.le_refl _) rfl
theorem t_was_no {f : Nat → Int32} {p tok k : Nat} (h : ¬ p - tok = g_len.getD k 0) : t_was f p tok k = false := by unfold t_was; rw [decide_eq_false h, Bool.false_and]
theorem t_was_ne {f : Nat → Int32} {p tok k i : Nat} (hi : i < g_len.getD k 0) (h : ¬ f (tok + i) = g_ch k i) : t_was f p tok k = false := by
  unfold t_was
  have : (List.range (g_len.getD k 0)).all (fun i => decide (f (tok + i) = g_ch k i)) = false := by
    rw [List.all_eq_false]
    exact ⟨i, List.mem_range.mpr hi, by simpa using h⟩
  rw [this, Bool.and_false]
theorem t_was_yes {f : Nat → Int32} {p tok k : Nat} (h : p - tok = g_len.getD k 0) (ha : ∀ i, i < g_len.getD k 0 → f (tok + i) = g_ch k i) : t_was f p tok k = true := by
  unfold t_was
  simp only [Bool.and_eq_true, decide_eq_true_eq, List.all_eq_true, List.mem_range]
  exact ⟨h, ha⟩
set_option maxRecDepth 20000 in
theorem c_was {l : Launch} {C : gC} (hC : g_ctx l C) (f : Nat → Int32) (p tok e t : Nat) (ft fa : Int32) (M : gM) (sz d : Nat) (hd : 6 ≤ d) (hf : M 2 = f) (he : M 1 2 = nI e) (hp : p ≤ e) (hE : e ≤ 600) (ht : tok ≤ p) (hk : t < 20) : gP l C qX10_was d [.ref (1), .retAddr t] (tp M p tok ft fa) sz (fun r M2 => r = some (.int (b2i (t_was f p tok t))) ∧ M2 = tp M p tok ft fa) := by
  refine gP.of (ls := [(0, .ref (1)), (1, .retAddr t)]) (by decide +kernel) (Nat.le_of_ble_eq_true rfl) rfl ?_
  refine gb_run 6 (pc2 := 10) (ls2 := [(0, .ref (1)), (1, .retAddr t)]) (st2 := [.retAddr t, .int (nI p - nI tok)]) (M2 := tp M p tok ft fa) hC hqX10_was rfl ?_
  rw [pk_sub ht]
  refine gb_len (pl := 770) hC t hk hqX10_was rfl (by decide +kernel) (Nat.le_of_ble_eq_true rfl) (by omega) (Nat.le_of_ble_eq_true rfl) (Nat.le_of_ble_eq_true rfl) ?_
  refine gb_icmp_eq hqX10_was rfl (fun h1 => ?_) (fun h1 => ?_)
  ·
    have hl := g_len_lt t hk; have hL := (nI_eq (by omega) (by omega)).mp h1
    refine gb_run 2 (pc2 := 20) (ls2 := [(2, .int (0)), (0, .ref (1)), (1, .retAddr t)]) (st2 := []) (M2 := tp M p tok ft fa) hC hqX10_was rfl ?_
    have L20 : ∀ (k : Nat) (i : Nat), (i + k = g_len.getD t 0) → (∀ j, j < i → f (tok + j) = g_ch t j) → GW l C qX10_was d (gQ (fun r M2 => r = some (.int (b2i (t_was f p tok t))) ∧ M2 = tp M p tok ft fa) sz) (gN) 0 0 20 [(2, .int (nI i)), (0, .ref (1)), (1, .retAddr t)] [] (956, g_S0, tp M p tok ft fa, sz) := by
      intro k
      induction k with
      | zero =>
        intro i hi ha
        refine gb_run 2 (pc2 := 22) (ls2 := [(2, .int (nI i)), (0, .ref (1)), (1, .retAddr t)]) (st2 := [.retAddr t, .int (nI i)]) (M2 := tp M p tok ft fa) hC hqX10_was rfl ?_
        refine gb_len (pl := 770) hC t hk hqX10_was rfl (by decide +kernel) (Nat.le_of_ble_eq_true rfl) (by omega) (Nat.le_of_ble_eq_true rfl) (Nat.le_of_ble_eq_true rfl) ?_
        refine gb_icmp_ge hqX10_was rfl (fun h2 => ?_) (fun h2 => ?_)
        ·
          refine gb_run 1 (pc2 := 58) (ls2 := [(2, .int (nI i)), (0, .ref (1)), (1, .retAddr t)]) (st2 := [.int (1)]) (M2 := tp M p tok ft fa) hC hqX10_was rfl ?_
          refine gb_zret hqX10_was rfl rfl (Nat.le_of_ble_eq_true rfl) (Nat.le_of_ble_eq_true rfl) (by first | exact Or.inl rfl | exact Or.inr rfl | simp) ?_
          refine ⟨_, rfl, ?_, rfl⟩
          rw [t_was_yes hL (fun j hj => ha j (by omega))]; rfl
        · exact absurd (nI_le (by omega) (by omega)) h2
      | succ k ih =>
        intro i hi ha
        refine gb_run 2 (pc2 := 22) (ls2 := [(2, .int (nI i)), (0, .ref (1)), (1, .retAddr t)]) (st2 := [.retAddr t, .int (nI i)]) (M2 := tp M p tok ft fa) hC hqX10_was rfl ?_
        refine gb_len (pl := 770) hC t hk hqX10_was rfl (by decide +kernel) (Nat.le_of_ble_eq_true rfl) (by omega) (Nat.le_of_ble_eq_true rfl) (Nat.le_of_ble_eq_true rfl) ?_
        refine gb_icmp_ge hqX10_was rfl (fun h3 => ?_) (fun h3 => ?_)
        · exact absurd h3 (nI_ge (by omega) (by omega))
        ·
          refine gb_run 6 (pc2 := 38) (ls2 := [(2, .int (nI i)), (0, .ref (1)), (1, .retAddr t)]) (st2 := [.int (nI tok + nI i), .ref (2)]) (M2 := tp M p tok ft fa) hC hqX10_was rfl ?_
          rw [nI_add]
          refine gb_cSN (host := "HoopHours") (z := qX11_at) (av := [.ref (2), .int (nI (tok + i))]) (rest := []) (pl := 758) hC hqX10_was rfl kX11_at (by decide +kernel) (c_at hC 2 600 _ (nI (tok + i)) (tp M p tok ft fa) sz (d - 1) (by omega) (Nat.le_of_ble_eq_true rfl) rfl (Nat.le_of_ble_eq_true rfl)) (by omega) rfl rfl (Nat.le_of_ble_eq_true rfl) ⟨Nat.le_of_ble_eq_true rfl, Nat.le_of_ble_eq_true rfl⟩ ?_
          intro r X hq; obtain ⟨M2, rfl, rfl, rfl⟩ := hq
          show GW _ _ _ _ _ _ _ _ 41 [(2, .int (nI i)), (0, .ref (1)), (1, .retAddr t)] [.int (r_at ((tp M p tok ft fa) 2) 600 (nI (tok + i)))] (956, g_S0, tp M p tok ft fa, sz)
          rw [show r_at ((tp M p tok ft fa) 2) 600 (nI (tok + i)) = f (tok + i) from (r_at_in _ (by omega) (Nat.le_of_ble_eq_true rfl)).trans (congrFun hf (tok + i))]
          refine gb_run 2 (pc2 := 43) (ls2 := [(2, .int (nI i)), (0, .ref (1)), (1, .retAddr t)]) (st2 := [.int (nI i), .retAddr t, .int (f (tok + i))]) (M2 := tp M p tok ft fa) hC hqX10_was rfl ?_
          refine gb_char (pl := 780) hC t i hk (by omega) hqX10_was rfl (by decide +kernel) (Nat.le_of_ble_eq_true rfl) (by omega) (Nat.le_of_ble_eq_true rfl) (Nat.le_of_ble_eq_true rfl) ?_
          refine gb_icmp_eq hqX10_was rfl (fun h5 => ?_) (fun h5 => ?_)
          ·
            refine gb_run 2 (pc2 := 20) (ls2 := [(2, .int (nI i + 1)), (0, .ref (1)), (1, .retAddr t)]) (st2 := []) (M2 := tp M p tok ft fa) hC hqX10_was rfl ?_
            rw [nI_1 i]
            exact ih (i + 1) (by omega) (fun j hj => by
              by_cases e1 : j = i
              · subst e1; assumption
              · exact ha j (by omega))
          ·
            refine gb_run 1 (pc2 := 50) (ls2 := [(2, .int (nI i)), (0, .ref (1)), (1, .retAddr t)]) (st2 := [.int (0)]) (M2 := tp M p tok ft fa) hC hqX10_was rfl ?_
            refine gb_zret hqX10_was rfl rfl (Nat.le_of_ble_eq_true rfl) (Nat.le_of_ble_eq_true rfl) (by first | exact Or.inl rfl | exact Or.inr rfl | simp) ?_
            refine ⟨_, rfl, ?_, rfl⟩
            rw [t_was_ne (i := i) (by omega) (by assumption)]; rfl
    exact L20 (g_len.getD t 0) 0 (by omega) (fun j hj => absurd hj (by omega))
  ·
    refine gb_run 1 (pc2 := 17) (ls2 := [(0, .ref (1)), (1, .retAddr t)]) (st2 := [.int (0)]) (M2 := tp M p tok ft fa) hC hqX10_was rfl ?_
    refine gb_zret hqX10_was rfl rfl (Nat.le_of_ble_eq_true rfl) (Nat.le_of_ble_eq_true rfl) (by first | exact Or.inl rfl | exact Or.inr rfl | simp) ?_
    refine ⟨_, rfl, ?_, rfl⟩
    rw [t_was_no (fun q => h1 (by rw [q]))]; rfl
def t_bad (ft : Int32) : Int32 := if ft = 0 then 0 else 1
set_option maxRecDepth 20000 in
theorem c_faulty {l : Launch} {C : gC} (hC : g_ctx l C) (p tok : Nat) (ft fa : Int32) (M : gM) (sz d : Nat) (hd : 1 ≤ d)  : gP l C qX10_faulty d [.ref (1)] (tp M p tok ft fa) sz (fun r M2 => r = some (.int (t_bad ft)) ∧ M2 = tp M p tok ft fa) := by
  refine gP.of (ls := [(0, .ref (1))]) (by decide +kernel) (Nat.le_of_ble_eq_true rfl) rfl ?_
  refine gb_run 2 (pc2 := 4) (ls2 := [(0, .ref (1))]) (st2 := [.int (ft)]) (M2 := tp M p tok ft fa) hC hqX10_faulty rfl ?_
  refine gb_if_eq hqX10_faulty rfl (fun h1 => ?_) (fun h1 => ?_)
  ·
    refine gb_run 1 (pc2 := 12) (ls2 := [(0, .ref (1))]) (st2 := [.int (0)]) (M2 := tp M p tok ft fa) hC hqX10_faulty rfl ?_
    refine gb_zret hqX10_faulty rfl rfl (Nat.le_of_ble_eq_true rfl) (Nat.le_of_ble_eq_true rfl) (by first | exact Or.inl rfl | exact Or.inr rfl | simp) ?_
    exact ⟨_, rfl, by unfold t_bad; rw [if_pos h1], rfl⟩
  ·
    refine gb_run 2 (pc2 := 12) (ls2 := [(0, .ref (1))]) (st2 := [.int (1)]) (M2 := tp M p tok ft fa) hC hqX10_faulty rfl ?_
    refine gb_zret hqX10_faulty rfl rfl (Nat.le_of_ble_eq_true rfl) (Nat.le_of_ble_eq_true rfl) (by first | exact Or.inl rfl | exact Or.inr rfl | simp) ?_
    exact ⟨_, rfl, by unfold t_bad; rw [if_neg h1], rfl⟩
