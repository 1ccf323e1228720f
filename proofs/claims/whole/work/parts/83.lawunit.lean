/-! A law's readers: a unit, a product, a sum. -/
/-- both readers of a level o, which put at most hm on the height -/
def Rd (n : Nat) (B : Nat → Nat) (o hm : Nat) (rc : Int32 → gM → Option gM) (rm : gM → Option gM) : Prop := ∀ (c0 m0 : gM) (E D H : Nat) (c m : gM), LZ n B c0 m0 o E D H c m → H + hm ≤ 24 → oo (rc (nI o) c) (rm m) (LZ n B c0 m0 o (E + 1) D (H + 1))
theorem opens_1 {m : gM} {o : Nat} (ho : o < 6) (h5 : m 464 5 = 0) (h8 : m 464 8 = nI o) : FM_opensOne m = some (1, g_set m 464 8 (nI (o + 1))) := by
  unfold FM_opensOne
  rw [if_pos h5, h8, if_neg (show ¬ nI o = (6 : Int32) from fun z => absurd ((nI_eq (by omega) (by decide)).mp (show nI o = nI 6 from z)) (by omega))]
  unfold FM_opensOne_J28
  rw [if_pos h5, h8, nI_1]
  unfold FM_opensOne_J45
  rw [g_set_k (by decide), if_pos h5]
theorem opens_6 {n : Nat} {B : Nat → Nat} {q : Nat} {m : gM} (h : tM n B q 0 (-1) m) (h8 : m 464 8 = 6) : okk (FM_opensOne m) (fun s => s.1 = 0 ∧ tM n B q 3 (nI q) s.2 ∧ mS m s.2) := by
  unfold FM_opensOne
  rw [if_pos h.2.2.1, if_pos h8, h.2.1]
  refine okk_bind (M_wrong h 3 (nI q)) ?_
  rintro s ⟨s1, s2⟩
  unfold FM_opensOne_J45
  rw [if_neg (show ¬ s 464 5 = 0 by rw [s1.2.2.1]; decide)]
  exact okk_some ⟨rfl, s1, s2⟩
theorem chr_in {n : Nat} {B : Nat → Nat} {q : Nat} (h : q < n) : chr n B q = nI (B q) := if_pos h
theorem chr_out {n : Nat} {B : Nat → Nat} {q : Nat} (h : ¬ q < n) : chr n B q = -1 := if_neg h
theorem wd_not {n : Nat} {B : Nat → Nat} {q : Nat} (hb : ¬ (q < n ∧ iss (B q) = true)) : wdp n B q = q := by
  by_cases h : q < n
  · exact rnp_f (P := fun j => iss (B j)) (fun z => hb ⟨h, z⟩)
  · exact rnp_n (by omega)
theorem dg_not {n : Nat} {B : Nat → Nat} {q : Nat} (hb : ¬ (q < n ∧ isd (B q) = true)) : dgp n B q = q := by
  by_cases h : q < n
  · exact rnp_f (P := fun j => isd (B j)) (fun z => hb ⟨h, z⟩)
  · exact rnp_n (by omega)
def tsame (t u : Nat) : Bool := tl t == tl u && (List.range 6).all fun i => decide (tl t ≤ i) || tx t i == tx u i
theorem ts_one : ∀ t, t < 19 → ∀ u, u < 19 → 1 ≤ t → 1 ≤ u → tsame t u = true → t = u := by decide +kernel
theorem wd_one (t : Nat) (ht : t < 19) (u : Nat) (hu : u < 19) (t1 : 1 ≤ t) (u1 : 1 ≤ u) (e : tl t = tl u) (h : ∀ i, i < 6 → i < tl t → tx t i = tx u i) : t = u := by
  refine ts_one t ht u hu t1 u1 ?_
  unfold tsame
  rw [Bool.and_eq_true, beq_iff_eq, List.all_eq_true]
  refine ⟨e, fun i hi => ?_⟩
  have hi6 := List.mem_range.mp hi
  rw [Bool.or_eq_true, decide_eq_true_eq, beq_iff_eq]
  by_cases z : i < tl t
  · exact Or.inr (h i hi6 z)
  · exact Or.inl (by omega)
theorem wd_ne {n : Nat} {B : Nat → Nat} {q t u : Nat} (ht : t < 19) (hu : u < 19) (t1 : 1 ≤ t) (u1 : 1 ≤ u) (h1 : wd n B q t) (h2 : wd n B q u) : t = u := by
  have e : tl t = tl u := by have := h1.1; have := h2.1; omega
  exact wd_one t ht u hu t1 u1 e fun i _ hi => (h1.2 i hi).symm.trans (h2.2 i (by omega))
theorem fact_none {n : Nat} {B : Nat → Nat} {q : Nat} {c : gM} (h1 : tC n B (wdp n B q) 0 (-1) c) (h4 : c 1 4 = nI q) {u : Nat} (hu : 13 ≤ u) (hu2 : u < 19) (hw : wd n B q u) : FL_factOf c = some (-1) := by
  have z : ∀ t, t < 13 → 1 ≤ t → F_was t c = some 0 := fun t ht t1 => by
    rcases L_was h1 h4 t1 (show t < 19 by omega) with ⟨-, a⟩ | ⟨a, -⟩
    · exact absurd (wd_ne (by omega) hu2 t1 (by omega) a hw) (by omega)
    · exact a
  unfold FL_factOf
  rw [z 6 (by decide) (by decide), Option.bind_some, if_pos rfl, z 7 (by decide) (by decide), Option.bind_some, if_pos rfl, z 8 (by decide) (by decide), Option.bind_some, if_pos rfl, z 9 (by decide) (by decide), Option.bind_some, if_pos rfl, z 10 (by decide) (by decide), Option.bind_some, if_pos rfl, z 11 (by decide) (by decide), Option.bind_some, if_pos rfl, z 1 (by decide) (by decide), Option.bind_some, if_pos rfl, z 3 (by decide) (by decide), Option.bind_some, if_pos rfl, z 12 (by decide) (by decide), Option.bind_some, if_pos rfl]
/-- a pair: least[a, b] or most[a, b] -/
theorem Z_pair {n : Nat} {B : Nat → Nat} (hn : n ≤ 150) {o : Nat} (ho : o ≤ 6) {rs : Int32 → gM → Option gM} {rm : gM → Option gM} (hs : o < 6 → Rd n B (o + 1) (18 - 3 * o) rs rm) {c0 m0 : gM} {E D H q k : Nat} {c m : gM} (hH : H + (19 - 3 * o) ≤ 24) (a1 : cX lS c0 c) (a2 : mX lM m0 m) (h1 : tC n B (wdp n B q) 0 (-1) c) (h4 : c 1 4 = nI q) (h2 : tM n B q 0 (-1) m) (hq : q < wdp n B q) (hE : E ≤ q) (hL : LQ k c m) (hD : k + D ≤ q) (hh : l_ht m k = H) (h8 : m 464 8 = nI o) {x : Nat} (hx : 7 ≤ x ∧ x ≤ 8) : oo (FL_readPair_B rs (nI o) (a_mk (nI x)) c) (FM_one_J56 rm (nI x) m) (LZ n B c0 m0 o (E + 1) D (H + 1)) := by
  unfold FL_readPair_B FM_one_J56
  rw [if_neg (show ¬ nI x = (-1 : Int32) by rcases (show x = 7 ∨ x = 8 by omega) with rfl | rfl <;> decide)]
  by_cases o6 : o < 6
  · have hR := hs o6
    rw [if_pos (show nI o < (6 : Int32) from nI_lt (b := 6) o6 (by decide)), opens_1 o6 h2.2.2.1 h8, Option.bind_some, nI_1]
    dsimp only
    rw [if_neg i10]
    obtain ⟨m3, y3, u1, u2⟩ := M_skip (tM_7 h2 (k := 8) (x := nI (o + 1)) (by decide))
    rw [y3, Option.bind_some]
    obtain ⟨l1, l2⟩ := LQ_8 hL (nI (o + 1))
    obtain ⟨l3, l4⟩ := LQ_S l1 (cS.rfl' c) u2
    have z0 : LZ n B c0 m0 (o + 1) (E + 1) (D + 1) H c m3 := ⟨a1, (mX_7 a2 (by decide)).trans u2.mX, Or.inl ⟨wdp n B q, wdp n B q, k, by omega, ⟨h1, u1, rfl⟩, l3, by omega, by rw [l4, l2]; exact hh, by rw [u2.2 8 (by decide) (by decide) (by decide), g_set_eq]⟩⟩
    refine oo_bind (Z_need z0 (x := 91) (by decide)) ?_
    intro s t z1
    refine oo_bind (hR _ _ _ _ _ _ _ z1 (by omega)) ?_
    intro s t z2
    refine oo_bind (Z_need z2 (x := 44) (by decide)) ?_
    intro s t z3
    refine oo_bind (hR _ _ _ _ _ _ _ z3 (by omega)) ?_
    intro s t z4
    refine oo_bind (Z_need z4 (x := 93) (by decide)) ?_
    intro s t z5
    refine oo_bind (Z_note hn (D := D + 3) z5 (nI x) 0 (H2 := H + 1) (Or.inr ⟨by omega, by omega, x, by omega, by omega, rfl⟩)) ?_
    intro s t z6
    exact oo_some (LZ_w (LZ_8 z6) (by omega) (by omega))
  · have e6 : o = 6 := by omega
    subst e6
    obtain ⟨⟨v, m3⟩, y3, y1, y2, y4⟩ := opens_6 h2 h8
    dsimp only at y1 y2 y4
    subst y1
    rw [if_neg (show ¬ nI 6 < (6 : Int32) by decide), y3, Option.bind_some, b_id, h4]
    dsimp only
    rw [if_pos rfl]
    refine okk_w (L_fail h1 3 (nI q)) ?_
    rintro s ⟨s1, s2, s3⟩
    exact okk_some ⟨a1.trans s3.cX, a2.trans y4.mX, Or.inr ⟨_, _, 3, nI q, by decide, s1, y2⟩⟩
/-- a bracket: (a) -/
theorem Z_bracket {n : Nat} {B : Nat → Nat} {o : Nat} (ho : o ≤ 6) {rs : Int32 → gM → Option gM} {rm : gM → Option gM} (hs : o < 6 → Rd n B (o + 1) (18 - 3 * o) rs rm) {c0 m0 : gM} {E D H q k : Nat} {c m : gM} (hH : H + (19 - 3 * o) ≤ 24) (a1 : cX lS c0 c) (a2 : mX lM m0 m) (hP : PS n B q q c m) (hsq : skp n B q = q) (hE : E ≤ q) (hL : LQ k c m) (hD : k + D ≤ q) (hh : l_ht m k = H) (h8 : m 464 8 = nI o) (hb : q < n ∧ B q = 40) : oo (FL_readBracket_B rs (nI o) c) ((FM_opensOne m).bind fun s9 => if s9.1 = (0 : Int32) then (some (s9.2)) else ((rm (g_set (s9.2) 464 4 (((s9.2) 464 4) + (1 : Int32)))).bind fun s12 => (FM_sign (41 : Int32) s12).bind fun s13 => some (g_set s13 464 8 ((s13 464 8) - (1 : Int32))))) (LZ n B c0 m0 o (E + 1) D (H + 1)) := by
  unfold FL_readBracket_B
  by_cases o6 : o < 6
  · have hR := hs o6
    rw [if_pos (show nI o < (6 : Int32) from nI_lt (b := 6) o6 (by decide)), opens_1 o6 hP.2.1.2.2.1 h8, Option.bind_some, nI_1]
    dsimp only
    rw [if_neg i10, g_set_k (show 4 ≠ 8 by decide), hP.2.1.2.1, nI_1]
    obtain ⟨s, x1, s1, s2, s3⟩ := L_need hP.1 (k := 40) (by decide)
    rw [hsq, if_pos hb, if_pos hb, show nP n B 40 q = q + 1 from if_pos hb] at s1
    rw [show F_need (40 : Int32) c = some s from x1, Option.bind_some]
    have t1 : tM n B (q + 1) 0 (-1) (g_set (g_set m 464 8 (nI (o + 1))) 464 4 (nI (q + 1))) := tM_4 (tM_7 hP.2.1 (by decide)) (by omega)
    have u2 : mS (g_set m 464 8 (nI (o + 1))) (g_set (g_set m 464 8 (nI (o + 1))) 464 4 (nI (q + 1))) := mS_set (mS.rfl' _) (by omega)
    obtain ⟨l1, l2⟩ := LQ_8 hL (nI (o + 1))
    obtain ⟨l3, l4⟩ := LQ_S l1 s3 u2
    have z0 : LZ n B c0 m0 (o + 1) (E + 1) (D + 1) H s (g_set (g_set m 464 8 (nI (o + 1))) 464 4 (nI (q + 1))) := ⟨a1.trans s3.cX, (mX_7 a2 (by decide)).trans u2.mX, Or.inl ⟨q + 1, q + 1, k, by omega, ⟨s1, t1, rfl⟩, l3, by omega, by rw [l4, l2]; exact hh, by rw [g_set_k (by decide), g_set_eq]⟩⟩
    refine oo_bind (hR _ _ _ _ _ _ _ z0 (by omega)) ?_
    intro s t z2
    refine oo_bind (Z_need z2 (x := 41) (by decide)) ?_
    intro s t z3
    exact oo_some (LZ_w (LZ_8 z3) (by omega) (by omega))
  · have e6 : o = 6 := by omega
    subst e6
    obtain ⟨⟨v, m3⟩, y3, y1, y2, y4⟩ := opens_6 hP.2.1 h8
    dsimp only at y1 y2 y4
    subst y1
    rw [if_neg (show ¬ nI 6 < (6 : Int32) by decide), y3, Option.bind_some, b_id, hP.1.2.1]
    dsimp only
    rw [if_pos rfl]
    refine okk_w (L_fail hP.1 3 (nI q)) ?_
    rintro s ⟨s1, s2, s3⟩
    exact okk_some ⟨a1.trans s3.cX, a2.trans y4.mX, Or.inr ⟨_, _, 3, nI q, by decide, s1, y2⟩⟩
theorem Z_unit {n : Nat} {B : Nat → Nat} (hn : n ≤ 150) {o : Nat} (ho : o ≤ 6) {rs : Int32 → gM → Option gM} {rm : gM → Option gM} (hs : o < 6 → Rd n B (o + 1) (18 - 3 * o) rs rm) : Rd n B o (19 - 3 * o) (FL_readUnit_B (FL_readBracket_B rs) (FL_readPair_B rs)) (FM_one_B rm) := by
  intro c0 m0 E D H c m hZ hH
  obtain ⟨a1, a2, ⟨e, f, k, b1, b2, b3, b4, b5, b6⟩ | a3⟩ := hZ
  · unfold FL_readUnit_B FM_one_B
    obtain ⟨p1, p2, p3⟩ := b2
    obtain ⟨en, n6⟩ : e ≤ n ∧ n ≤ 600 := ⟨p1.2.2.2.2.1, p1.2.2.2.2.2.1⟩
    have hsk := skp_le (B := B) en
    refine okk_bind (L_next p1) ?_
    rintro ⟨x, c1⟩ ⟨rfl, k1, k2, k3⟩
    dsimp only at k1 k2 k3 ⊢
    rw [if_pos (faulty_0 k1), if_pos p2.2.2.1]
    obtain ⟨m1, y1, t1, t2⟩ := M_blanks p2
    rw [← p3] at t1
    obtain ⟨q, eq⟩ : ∃ q, q = skp n B e := ⟨_, rfl⟩
    rw [← eq] at k1 t1 hsk ⊢
    have hsq : skp n B q = q := by rw [eq]; exact skp_i e
    have hB : ∀ j, j < n → B j < 256 := fun j hj => (p1.2.2.2.2.2.2 j hj).1
    -- a place that is no letter
    have noword : ¬ (q < n ∧ iss (B q) = true) → ∃ m2, (FM_isWord (12 : Int32) (5 : Int32) (1 : Int32) (19 : Int32) (20 : Int32) (0 : Int32) m1).bind (fun s3 => if s3.1 = (0 : Int32) then ((FM_isWord (13 : Int32) (15 : Int32) (19 : Int32) (20 : Int32) (0 : Int32) (0 : Int32) (s3.2)).bind fun s6 => if s6.1 = (0 : Int32) then (FM_one_J56 rm (-1 : Int32) (s6.2)) else (FM_one_J56 rm (8 : Int32) (s6.2))) else (FM_one_J56 rm (7 : Int32) (s3.2))) = FM_one_J56 rm (-1 : Int32) m2 ∧ tM n B q 0 (-1) m2 ∧ mS m1 m2 := by
      intro hl
      have hw : ∀ t, 1 ≤ t → t < 19 → ¬ wd n B q t := fun t t1 t2 z => by
        have := wd_lt t1 t2 z
        rw [wd_not hl] at this
        omega
      obtain ⟨⟨v2, m2⟩, y2, u1, u2, u3⟩ := M_isWord t1 (t := 13) (by decide) (by decide) six_13
      obtain ⟨⟨v3, m3⟩, y3, u4, u5, u6⟩ := M_isWord u1 (t := 14) (by decide) (by decide) six_14
      dsimp only at u1 u2 u3 u4 u5 u6 y2 y3
      rw [hsq] at u1 u3
      rw [hsq, hsq] at u4
      rw [hsq, hsq] at u6
      have e2 : v2 = 0 := by
        rcases u3 with ⟨-, z⟩ | ⟨z, -⟩
        · exact absurd z (hw 13 (by decide) (by decide))
        · exact z
      have e3 : v3 = 0 := by
        rcases u6 with ⟨-, z⟩ | ⟨z, -⟩
        · exact absurd z (hw 14 (by decide) (by decide))
        · exact z
      subst e2
      subst e3
      refine ⟨m3, ?_, u4, u2.trans u5⟩
      rw [y2, Option.bind_some]
      dsimp only
      rw [if_pos rfl, y3, Option.bind_some]
      dsimp only
      rw [if_pos rfl]
    rw [y1, Option.bind_some]
    by_cases hd : q < n ∧ isd (B q) = true
    · -- a number
      have ed : ¬ F_isDigit (chr n B q) = 0 := by
        rw [chr_in hd.1, isd_e _ (hB q hd.1), if_pos hd.2]; exact i10
      have hl : ¬ (q < n ∧ iss (B q) = true) := fun z => by
        have := iss_i.mp z.2
        have := isd_i.mp hd.2
        omega
      obtain ⟨m2, y2, u1, u2⟩ := noword hl
      rw [if_neg ed, y2]
      unfold FM_one_J56
      rw [if_pos rfl, u1.2.1, M_byteAt u1 (by omega), Option.bind_some, if_neg (show ¬ chr n B q = (40 : Int32) from fun z => by
        have := ((chr_32 hB (show 40 < 256 by decide)).mp z).2
        have := isd_i.mp hd.2
        omega)]
      have w1 : wdp n B q = q := wd_not hl
      obtain ⟨kk, m3, -, y3, u3, u4⟩ := P_fact (c := g_set c1 1 4 (nI q)) (by rw [w1]; exact tC_4 k1) (g_set_eq _ _ _ _) u1 hsq
      rcases u4 with ⟨rfl, u4⟩ | ⟨j, -, -, z, -⟩
      · rw [y3, Option.bind_some]
        dsimp only
        rw [if_pos rfl]
        refine okk_bind (P_number ⟨k1, u4, rfl⟩ 0 (hi := 999) (by decide) (by decide)) ?_
        rintro ⟨v, c2⟩ hc2
        obtain ⟨⟨x, m4⟩, y4, j1, j2, -, j4⟩ := hc2
        dsimp only at j1 j2 j4 y4 ⊢
        rw [y4, Option.bind_some]
        dsimp only
        rw [b_id, b_id]
        obtain ⟨l1, l2⟩ := LQ_S b3 (k3.trans j1) ((t2.trans u2).trans (u3.trans j2))
        have z0 : LZ n B c0 m0 o (E + 1) (D + 1) H c2 m4 := by
          refine ⟨a1.trans (k3.trans j1).cX, a2.trans ((t2.trans u2).trans (u3.trans j2)).mX, ?_⟩
          rcases j4 with ⟨e2, w, g1, g2, g3, -⟩ | j4
          · exact Or.inl ⟨e2, e2, k, by omega, g3, l1, by omega, by rw [l2]; exact b5, by rw [((t2.trans u2).trans (u3.trans j2)).2 8 (by decide) (by decide) (by decide)]; exact b6⟩
          · exact Or.inr j4
        rcases j4 with ⟨e2, w, -, -, -, r1, r2, -⟩ | j4
        · rw [r1, r2]
          exact Z_note hn z0 0 (nI w) (H2 := H + 1) (Or.inl ⟨rfl, by omega, Or.inl rfl⟩)
        · obtain ⟨p, q, f, w, f0, f1, f2⟩ := j4
          refine okk_w (XF_mark c2 (110 : Int32) v) ?_
          intro s hs
          rw [MF_notes (by rw [f2.2.2.1]; exact f0)]
          exact okk_some ⟨cX_lS z0.1 hs, z0.2.1, Or.inr ⟨p, q, f, w, f0, tC_m f1 (hs 1 (by decide) (by decide) (by decide)) (hs 2 (by decide) (by decide) (by decide)), f2⟩⟩
      · rw [w1] at z; omega
    · have ed : F_isDigit (chr n B q) = 0 := by
        by_cases hq : q < n
        · rw [chr_in hq, isd_e _ (hB q hq), if_neg (fun z => hd ⟨hq, z⟩)]
        · rw [chr_out hq]; decide
      rw [if_pos ed]
      by_cases h40 : q < n ∧ B q = 40
      · -- a bracket
        have e40 : chr n B q = (40 : Int32) := (chr_32 hB (show 40 < 256 by decide)).mpr h40
        have hl : ¬ (q < n ∧ iss (B q) = true) := fun z => by
          have := iss_i.mp z.2
          omega
        obtain ⟨m2, y2, u1, u2⟩ := noword hl
        rw [if_pos e40, y2, b_id]
        unfold FM_one_J56
        rw [if_pos rfl, u1.2.1, M_byteAt u1 (by omega), Option.bind_some, if_pos e40]
        obtain ⟨l1, l2⟩ := LQ_S b3 k3 (t2.trans u2)
        exact Z_bracket ho hs hH (a1.trans k3.cX) (a2.trans (t2.trans u2).mX) ⟨k1, u1, rfl⟩ hsq (by omega) l1 (by omega) (by rw [l2]; exact b5) (by rw [(t2.trans u2).2 8 (by decide) (by decide) (by decide)]; exact b6) h40
      · have e40 : ¬ chr n B q = (40 : Int32) := fun z => h40 ((chr_32 hB (show 40 < 256 by decide)).mp z)
        rw [if_neg e40]
        obtain ⟨c2, x2, w1, w2, w3⟩ := L_word k1
        rw [hsq] at w1 w2
        rw [x2, Option.bind_some]
        obtain ⟨b13, m2, xa, ya, ua, va, wa⟩ := W_pair w1 w2 t1 hsq (t := 13) (by decide) (by decide) six_13
        rw [ya, Option.bind_some]
        dsimp only
        have cc := k3.trans w3
        rcases wa with ⟨rfl, wa⟩ | ⟨rfl, wa⟩
        · -- least
          obtain ⟨l1, l2⟩ := LQ_S b3 cc (t2.trans va)
          rw [fact_none w1 w2 (by decide) (by decide) wa, Option.bind_some, if_pos rfl, xa, Option.bind_some, if_neg i10, if_neg i10, b_id]
          exact Z_pair hn ho hs hH (a1.trans cc.cX) (a2.trans (t2.trans va).mX) w1 w2 ua (wd_lt (by decide) (by decide) wa) (by omega) l1 (by omega) (by rw [l2]; exact b5) (by rw [(t2.trans va).2 8 (by decide) (by decide) (by decide)]; exact b6) (x := 7) (by omega)
        · rw [if_pos rfl]
          obtain ⟨b14, m3, xb, yb, ub, vb, wb⟩ := W_pair w1 w2 ua hsq (t := 14) (by decide) (by decide) six_14
          rw [yb, Option.bind_some]
          dsimp only
          have mm := (t2.trans va).trans vb
          obtain ⟨l1, l2⟩ := LQ_S b3 cc mm
          rcases wb with ⟨rfl, wb⟩ | ⟨rfl, wb⟩
          · -- most
            rw [fact_none w1 w2 (by decide) (by decide) wb, Option.bind_some, if_pos rfl, xa, Option.bind_some, if_pos rfl, xb, Option.bind_some, if_neg i10, if_neg i10, b_id]
            exact Z_pair hn ho hs hH (a1.trans cc.cX) (a2.trans mm.mX) w1 w2 ub (wd_lt (by decide) (by decide) wb) (by omega) l1 (by omega) (by rw [l2]; exact b5) (by rw [mm.2 8 (by decide) (by decide) (by decide)]; exact b6) (x := 8) (by omega)
          · rw [if_pos rfl]
            unfold FM_one_J56
            rw [if_pos rfl, ub.2.1, M_byteAt ub (by omega), Option.bind_some, if_neg e40]
            obtain ⟨kk, m4, x4, y4, u3, u4⟩ := P_fact w1 w2 ub hsq
            rw [x4, y4, Option.bind_some, Option.bind_some]
            dsimp only
            rcases u4 with ⟨rfl, u4⟩ | ⟨j, j9, rfl, jq, u4⟩
            · -- nothing
              rw [if_pos rfl, if_pos rfl, xa, Option.bind_some, if_pos rfl, xb, Option.bind_some, if_pos rfl, b_id, w2]
              obtain ⟨⟨v, m5⟩, y5, kf, g1, g2, g3, g4⟩ := M_number u4 0 (hi := 999) (by decide) (by decide)
              rw [hsq] at g1 g3
              dsimp only at g1 g2 g3 g4 y5
              have ek : kf = 1 := by rw [g1]; exact if_pos (dg_not hd)
              subst ek
              rw [if_neg i10] at g3
              rw [y5, Option.bind_some]
              dsimp only
              rw [MF_notes (by rw [g3.2.2.1]; exact i10), Option.bind_some]
              refine okk_w (L_fail w1 1 (nI q)) ?_
              rintro s ⟨s1, s2, s3⟩
              exact okk_some ⟨a1.trans (cc.trans s3).cX, a2.trans (mm.trans (u3.trans g4)).mX, Or.inr ⟨_, _, 1, nI q, i10, s1, g3⟩⟩
            · -- a fact
              have jn : ¬ nI j = (-1 : Int32) := by
                rcases (show j = 0 ∨ j = 1 ∨ j = 2 ∨ j = 3 ∨ j = 4 ∨ j = 5 ∨ j = 6 ∨ j = 7 ∨ j = 8 by omega) with rfl | rfl | rfl | rfl | rfl | rfl | rfl | rfl | rfl <;> decide
              rw [if_neg jn, if_neg jn, b_id, b_id]
              obtain ⟨l3, l4⟩ := LQ_S l1 (cS.rfl' c2) u3
              have z0 : LZ n B c0 m0 o (E + 1) (D + 1) H c2 m4 := ⟨a1.trans cc.cX, a2.trans (mm.trans u3).mX, Or.inl ⟨wdp n B q, wdp n B q, k, by omega, ⟨w1, u4, rfl⟩, l3, by omega, by rw [l4, l2]; exact b5, by rw [(mm.trans u3).2 8 (by decide) (by decide) (by decide)]; exact b6⟩⟩
              exact Z_note hn z0 1 (nI j) (H2 := H + 1) (Or.inl ⟨rfl, by omega, Or.inr ⟨rfl, j, j9, rfl⟩⟩)
  · obtain ⟨p, q, f, w, f0, f1, f2⟩ := a3
    unfold FL_readUnit_B FM_one_B
    refine okk_bind (L_next f1) ?_
    rintro ⟨x, c1⟩ ⟨-, k1, k2, k3⟩
    dsimp only at k1 k2 k3 ⊢
    rw [if_neg (faulty_1 f0 k1), if_neg (show ¬ m 464 5 = 0 by rw [f2.2.2.1]; exact f0)]
    exact okk_some (okk_some ⟨a1.trans k3.cX, a2, Or.inr ⟨_, q, f, w, f0, k1, f2⟩⟩)
