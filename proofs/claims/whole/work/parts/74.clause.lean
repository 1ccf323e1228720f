/-! A park's text, clause by clause. -/
theorem W_pair {n : Nat} {B : Nat → Nat} {q q2 : Nat} {c m : gM} (h1 : tC n B (wdp n B q) 0 (-1) c) (h4 : c 1 4 = nI q) (h2 : tM n B q2 0 (-1) m) (hs : skp n B q2 = q) {t : Nat} (t1 : 1 ≤ t) (t2 : t < 19) {x1 x2 x3 x4 x5 x6 : Int32} (hx : FM_six x1 x2 x3 x4 x5 x6 = nI (vl (fun i => tx t i - 96) (tl t))) : ∃ b m2, F_was t c = some b ∧ FM_isWord x1 x2 x3 x4 x5 x6 m = some (b, m2) ∧ tM n B q 0 (-1) m2 ∧ mS m m2 ∧ ((b = 1 ∧ wd n B q t) ∨ (b = 0 ∧ ¬ wd n B q t)) := by
  obtain ⟨⟨b, m2⟩, e, k1, k2, k3⟩ := M_isWord h2 t1 t2 hx
  dsimp only at k1 k2 k3
  rw [hs] at k1 k3
  rcases L_was h1 h4 t1 t2 with ⟨a1, a2⟩ | ⟨a1, a2⟩
  · rcases k3 with ⟨rfl, b2⟩ | ⟨rfl, b2⟩
    · exact ⟨1, m2, a1, e, k1, k2, Or.inl ⟨rfl, a2⟩⟩
    · exact absurd a2 b2
  · rcases k3 with ⟨rfl, b2⟩ | ⟨rfl, b2⟩
    · exact absurd b2 a2
    · exact ⟨0, m2, a1, e, k1, k2, Or.inr ⟨rfl, a2⟩⟩

theorem P_kind {n : Nat} {B : Nat → Nat} {q q2 : Nat} {c m : gM} (h1 : tC n B (wdp n B q) 0 (-1) c) (h4 : c 1 4 = nI q) (h2 : tM n B q2 0 (-1) m) (hs : skp n B q2 = q) : ∃ k m2, FP_kindOf c = some k ∧ FM_kindHere m = some (k, m2) ∧ tM n B q 0 (-1) m2 ∧ mS m m2 ∧ (k = -1 ∨ (k = 0 ∧ wd n B q 1) ∨ (k = 1 ∧ wd n B q 2) ∨ (k = 2 ∧ wd n B q 3) ∨ (k = 3 ∧ wd n B q 4) ∨ (k = 4 ∧ wd n B q 5)) := by
  have hq : q ≤ n := by rw [← hs]; exact (skp_le h2.2.2.2.2.1).2
  have hqq : skp n B q = q := by rw [← hs]; exact skp_i q2
  unfold FP_kindOf FM_kindHere
  obtain ⟨b0, n0, x0, y0, u0, v0, w0⟩ := W_pair h1 h4 h2 hs (t := 1) (by decide) (by decide) six_1
  rw [x0, y0, Option.bind_some, Option.bind_some]
  dsimp only
  rcases w0 with ⟨rfl, wd0⟩ | ⟨rfl, wd0⟩
  · rw [if_neg i10, if_neg i10]
    exact ⟨0, n0, rfl, rfl, u0, v0, Or.inr (Or.inl ⟨rfl, wd0⟩)⟩
  · rw [if_pos rfl, if_pos rfl]
    obtain ⟨b1, n1, x1, y1, u1, v1, w1⟩ := W_pair h1 h4 u0 hqq (t := 2) (by decide) (by decide) six_2
    rw [x1, y1, Option.bind_some, Option.bind_some]
    dsimp only
    have z1 := v0.trans v1
    rcases w1 with ⟨rfl, wd1⟩ | ⟨rfl, wd1⟩
    · rw [if_neg i10, if_neg i10]
      exact ⟨1, n1, rfl, rfl, u1, z1, Or.inr (Or.inr (Or.inl ⟨rfl, wd1⟩))⟩
    · rw [if_pos rfl, if_pos rfl]
      obtain ⟨b2, n2, x2, y2, u2, v2, w2⟩ := W_pair h1 h4 u1 hqq (t := 3) (by decide) (by decide) six_3
      rw [x2, y2, Option.bind_some, Option.bind_some]
      dsimp only
      have z2 := z1.trans v2
      rcases w2 with ⟨rfl, wd2⟩ | ⟨rfl, wd2⟩
      · rw [if_neg i10, if_neg i10]
        exact ⟨2, n2, rfl, rfl, u2, z2, Or.inr (Or.inr (Or.inr (Or.inl ⟨rfl, wd2⟩)))⟩
      · rw [if_pos rfl, if_pos rfl]
        obtain ⟨b3, n3, x3, y3, u3, v3, w3⟩ := W_pair h1 h4 u2 hqq (t := 4) (by decide) (by decide) six_4
        rw [x3, y3, Option.bind_some, Option.bind_some]
        dsimp only
        have z3 := z2.trans v3
        rcases w3 with ⟨rfl, wd3⟩ | ⟨rfl, wd3⟩
        · rw [if_neg i10, if_neg i10]
          exact ⟨3, n3, rfl, rfl, u3, z3, Or.inr (Or.inr (Or.inr (Or.inr (Or.inl ⟨rfl, wd3⟩))))⟩
        · rw [if_pos rfl, if_pos rfl]
          obtain ⟨b4, n4, x4, y4, u4, v4, w4⟩ := W_pair h1 h4 u3 hqq (t := 5) (by decide) (by decide) six_5
          rw [x4, y4, Option.bind_some, Option.bind_some]
          dsimp only
          have z4 := z3.trans v4
          rcases w4 with ⟨rfl, wd4⟩ | ⟨rfl, wd4⟩
          · rw [if_neg i10, if_neg i10]
            exact ⟨4, n4, rfl, rfl, u4, z4, Or.inr (Or.inr (Or.inr (Or.inr (Or.inr (⟨rfl, wd4⟩)))))⟩
          · rw [if_pos rfl, if_pos rfl]
            exact ⟨-1, n4, rfl, rfl, u4, z4, Or.inl rfl⟩

def pS (b : Nat) : Prop := 9 ≤ b ∧ b ≤ 14
def pM (b : Nat) : Prop := b = 467 ∨ b = 469 ∨ (472 ≤ b ∧ b ≤ 479) ∨ (490 ≤ b ∧ b ≤ 497)
/-- a park as far as told -/
def PD (told W C H : Nat) (c m : gM) : Prop := (c 9 5 = nI W ∧ m 467 0 = nI W ∧ W ≤ 8) ∧ (c 9 6 = nI C ∧ m 467 1 = nI C ∧ C ≤ 8) ∧ (c 9 7 = nI H ∧ m 467 2 = nI H ∧ H ≤ 8) ∧ (c 9 8 = m 467 3 ∧ c 9 9 = m 467 4) ∧ (m 464 7 = nI told ∧ told ≤ 60) ∧ (∀ w, w < W → c 10 w = m (472 + w) 0 ∧ c 11 w = m (472 + w) 1 ∧ ∃ p, p ≤ 16 ∧ m (472 + w) 1 = nI p) ∧ (∀ k, k < C → c 12 k = m (490 + k) 0 ∧ c 13 k = m (490 + k) 1 ∧ (∃ p, 1 ≤ p ∧ p ≤ 9 ∧ m (490 + k) 0 = nI p) ∧ ∃ p, 3 ≤ p ∧ p ≤ 14 ∧ m (490 + k) 1 = nI p) ∧ ∀ h, h < H → c 14 h = m 469 h
theorem PD_e {told W C H : Nat} {c m c2 m2 : gM} (h : PD told W C H c m) (hc : ∀ b, 9 ≤ b → b ≤ 14 → c2 b = c b) (hm : ∀ b, pM b → m2 b = m b) (h7 : m2 464 7 = m 464 7) : PD told W C H c2 m2 := by
  unfold PD at h ⊢
  obtain ⟨⟨a1, a2, a3⟩, ⟨a4, a5, a6⟩, ⟨a7, a8, a9⟩, a10, a11, a12, a13, a14⟩ := h
  rw [hc 9 (by omega) (by omega), hc 10 (by omega) (by omega), hc 11 (by omega) (by omega), hc 12 (by omega) (by omega), hc 13 (by omega) (by omega), hc 14 (by omega) (by omega), hm 467 (Or.inl rfl), hm 469 (Or.inr (Or.inl rfl)), h7]
  exact ⟨⟨a1, a2, a3⟩, ⟨a4, a5, a6⟩, ⟨a7, a8, a9⟩, a10, a11, fun w hw => by rw [hm (472 + w) (by unfold pM; omega)]; exact a12 w hw, fun w hw => by rw [hm (490 + w) (by unfold pM; omega)]; exact a13 w hw, a14⟩
theorem tM_7 {n : Nat} {B : Nat → Nat} {p : Nat} {f w : Int32} {m : gM} (h : tM n B p f w m) {k : Nat} {x : Int32} (hk : k ≠ 2 ∧ k ≠ 4 ∧ k ≠ 5 ∧ k ≠ 6) : tM n B p f w (g_set m 464 k x) := by
  obtain ⟨h1, h2, h3, h4, h5, h6, h7⟩ := h
  exact ⟨by rw [g_set_k (by omega)]; exact h1, by rw [g_set_k (by omega)]; exact h2, by rw [g_set_k (by omega)]; exact h3, by rw [g_set_k (by omega)]; exact h4, h5, h6, fun j hj => by rw [g_set_ne (by decide)]; exact h7 j hj⟩
theorem mX_7 {S : Nat → Prop} {m M : gM} (h : mX S m M) {k : Nat} {x : Int32} (hk : ¬ (k ≤ 3 ∨ 30 ≤ k ∨ k = 19)) : mX S m (g_set M 464 k x) := ⟨fun b b1 b2 => by rw [g_set_ne b1]; exact h.1 b b1 b2, fun q hq => by rw [g_set_k (by omega)]; exact h.2 q hq⟩
theorem cX_put {S : Nat → Prop} {c M : gM} (h : cX S c M) {a k : Nat} {i x : Int32} (ha : a ≠ 1) (hs : S a) : cX S c (r_put M a k i x) := by
  refine h.trans ⟨fun b b1 b2 => r_put_ne (fun z => b2 (by rw [z]; exact hs)), fun k a1 a2 a3 a4 => by rw [r_put_ne (Ne.symm ha)]⟩
theorem tC_put {n : Nat} {B : Nat → Nat} {p : Nat} {f w : Int32} {c : gM} (h : tC n B p f w c) {a k : Nat} {i x : Int32} (h1 : a ≠ 1) (h2 : a ≠ 2) : tC n B p f w (r_put c a k i x) := by
  unfold tC
  rw [r_put_ne (Ne.symm h1), r_put_ne (Ne.symm h2)]
  exact h
/-- what follows a clause's numbers in the class, after a fault -/
theorem CF_end {n : Nat} {B : Nat → Nat} {p : Nat} {f w : Int32} {c : gM} (hf : f ≠ 0) (h : tC n B p f w c) : okk ((F_need (59 : Int32) c).bind fun s9 => some s9) (fun s => cX pS c s ∧ ∃ e, tC n B e f w s) := by
  refine okk_bind (CF_need hf h (k := 59) (by decide)) ?_
  rintro t ⟨t1, t2⟩
  exact okk_some ⟨t1.cX, t2⟩
theorem MF_265 {m : gM} (hf : m 464 5 ≠ 0) : FM_clause_J265 m = some m := by
  unfold FM_clause_J265
  rw [MF_sign hf]
  rfl
/-- the end of a clause, both right so far -/
theorem P_end {n : Nat} {B : Nat → Nat} {p q : Nat} {c m : gM} (h : PS n B p q c m) : okk ((F_need (59 : Int32) c).bind fun s9 => some s9) (fun s => okk (FM_clause_J265 m) (fun t => cS c s ∧ mS m t ∧ ((∃ e, p < e ∧ PS n B e e s t) ∨ PF n B s t))) := by
  obtain ⟨c2, x2, m2, y2, j1, j2, j3, j4⟩ := P_need h (k := 59) (by decide)
  rw [show (59 : Int32) = nI 59 from rfl, x2]
  unfold FM_clause_J265
  rw [show (59 : Int32) = nI 59 from rfl, y2]
  refine okk_some (okk_some ⟨j1, j2, ?_⟩)
  rcases j4 with ⟨e, e1, e2, e3, e4⟩ | hF
  · exact Or.inl ⟨e, e1, e4⟩
  · exact Or.inr hF

theorem N_walk {n : Nat} {B : Nat → Nat} {p : Nat} {told W C H : Nat} {c m : gM} (h : PS n B p p c m) (hD : PD told W C H c m) (hW : W < 8) (ht : told < 60) : okk ((FP_readNumbers (0 : Int32) c).bind fun s8 => (F_need (59 : Int32) s8).bind fun s9 => some s9) (fun s => okk (g_ix (m 467 0) 8 fun j5 => (FM_number (1 : Int32) (20 : Int32) (g_set m 464 7 ((m 464 7) + (1 : Int32)))).bind fun s6 => g_let (g_set (s6.2) (472 + j5) 0 s6.1) fun M7 => g_ix (m 467 0) 8 fun j8 => (FM_number (0 : Int32) (16 : Int32) M7).bind fun s9 => g_let (g_set (s9.2) (472 + j8) 1 s9.1) fun M10 => FM_clause_J239 (0 : Int32) M10) (fun t => cX pS c s ∧ mX pM m t ∧ ((∃ e, p < e ∧ PS n B e e s t ∧ PD (told + 1) (W + 1) C H s t) ∨ PF n B s t))) := by
  have hDD := hD
  obtain ⟨⟨a1, a2, a3⟩, ⟨a4, a5, a6⟩, ⟨a7, a8, a9⟩, a10, a11, a12, a13, a14⟩ := hD
  have cN : c 9 5 = nI W := a1
  have mN : m 467 0 = nI W := a2
  have h7 : PS n B p p c (g_set m 464 7 (m 464 7 + 1)) := ⟨h.1, tM_7 h.2.1 (by decide), h.2.2⟩
  have x7 : mX pM m (g_set m 464 7 (m 464 7 + 1)) := mX_7 (mX.rfl' _ _) (by omega)
  unfold FP_readNumbers
  rw [mN, ix_in hW (by decide)]
  have ixk : ∀ f : Nat → Option gM, g_ix (0 : Int32) 5 f = f 0 := fun f => ix_in (j := 0) (by decide) (by decide)
  rw [if_pos rfl]
  obtain ⟨⟨v1, c2⟩, x1, ⟨v2, m2⟩, y1, j1, j2, -, j4⟩ := P_number h7 1 (hi := 20) (by decide) (by decide)
  rw [x1, y1, Option.bind_some, Option.bind_some]
  dsimp only at j1 j2 j4 ⊢
  have c92 : c2 9 = c 9 := j1.1 9 (by decide)
  rw [cN, r_put_in _ _ _ hW (by decide)]
  unfold g_let
  dsimp only
  rw [ix_in hW (by decide)]
  have xc2 : cX pS c (g_set c2 10 W v1) := cX_set j1.cX (by decide) (by unfold pS; omega)
  have xm2 : mX pM m (g_set m2 (472 + W) 0 v2) := mX_set (x7.trans j2.mX) (by omega) (by unfold pM; omega)
  rcases j4 with ⟨e, v, e1, e2, hP2, ev1, ev2, v10, vin⟩ | ⟨p3, q3, f, w, f0, f3, f4⟩
  · subst ev1
    subst ev2
    have hP3 : PS n B e e (g_set c2 10 W (nI v)) (g_set m2 (472 + W) 0 (nI v)) := ⟨tC_o hP2.1 (by decide) (by decide), tM_o hP2.2.1 (by omega) (by omega), rfl⟩
    obtain ⟨⟨u1, c3⟩, x3, ⟨u2, m3⟩, y3, j5, j6, -, j8⟩ := P_number hP3 0 (hi := 16) (by decide) (by decide)
    rw [x3, y3, Option.bind_some, Option.bind_some]
    dsimp only at j5 j6 j8 ⊢
    have c93 : (g_set c2 10 W (nI v)) 9 5 = nI W := by rw [g_set_ne (by decide), c92]; exact cN
    rw [c93, r_put_in _ _ _ hW (by decide), Option.bind_some]
    have c94 : (g_set c3 11 W u1) 9 5 = nI W := by rw [g_set_ne (by decide), j5.1 9 (by decide)]; exact c93
    rw [c94, nI_1]
    unfold FM_clause_J239
    have m94 : (g_set m3 (472 + W) 1 u2) 467 0 = nI W := by rw [g_set_ne (by omega), j6.1 467 (by decide), g_set_ne (by omega), j2.1 467 (by decide), g_set_ne (by decide)]; exact mN
    rw [if_neg (show ¬ (3 : Int32) ≤ 0 by decide), ixk]
    dsimp only
    rw [m94]
    have xc3 : cX pS c (g_set (g_set c3 11 W u1) 9 5 (nI (W + 1))) := cX_set (cX_set (xc2.trans j5.cX) (by decide) (by unfold pS; omega)) (by decide) (by unfold pS; omega)
    have xm3 : mX pM m (g_set m3 (472 + W) 1 u2) := mX_set (xm2.trans j6.mX) (by omega) (by unfold pM; omega)
    rcases j8 with ⟨e3, u, e4, e5, hP4, eu1, eu2, u10, uin⟩ | ⟨p3, q3, f, w, f0, f3, f4⟩
    · subst eu1
      subst eu2
      have r5 : (g_set m3 (472 + W) 1 (nI u)) 464 5 = 0 := by rw [g_set_ne (by omega)]; exact hP4.2.1.2.2.1
      rw [if_pos r5]
      unfold FM_clause_J263
      rw [ixk, nI_1]
      unfold g_let
      dsimp only
      have hP5 : PS n B e3 e3 (g_set (g_set c3 11 W (nI u)) 9 5 (nI (W + 1))) (g_set (g_set m3 (472 + W) 1 (nI u)) 467 0 (nI (W + 1))) := ⟨tC_o (tC_o hP4.1 (by decide) (by decide)) (by decide) (by decide), tM_o (tM_o hP4.2.1 (by omega) (by omega)) (by decide) (by decide), rfl⟩
      refine okk_w (P_end hP5) ?_
      intro s hs
      refine okk_w hs ?_
      rintro t ⟨s1, t1, st⟩
      refine ⟨xc3.trans s1.cX, (mX_set xm3 (by decide) (by unfold pM; omega)).trans t1.mX, ?_⟩
      rcases st with ⟨e6, e7, e8⟩ | hF
      · left
        refine ⟨e6, by omega, e8, ?_⟩
        -- the park with one more
        have bv := in_nI (lo := 1) (by omega) (by decide) vin
        have bu := in_nI (lo := 0) (by omega) (by decide) uin
        have bv2 := (nI_leI (b := 20) (by omega) (by decide)).mp bv.2
        have bu2 := (nI_leI (b := 16) (by omega) (by decide)).mp bu.2
        have ce : ∀ b, 9 ≤ b → b ≤ 14 → b ≠ 9 → b ≠ 10 → b ≠ 11 → s b = c b := fun b b1 b2 b3 b4 b5 => by
          rw [s1.1 b (by omega), g_set_ne b3, g_set_ne b5, j5.1 b (by omega), g_set_ne b4, j1.1 b (by omega)]
        have c9e : ∀ k, k ≠ 5 → s 9 k = c 9 k := fun k hk => by
          rw [s1.1 9 (by decide), g_set_k hk, g_set_ne (by decide), j5.1 9 (by decide), g_set_ne (by decide), c92]
        have c9n : s 9 5 = nI (W + 1) := by rw [s1.1 9 (by decide), g_set_eq]
        have cr1 : ∀ x, s 10 x = if x = W then nI v else c 10 x := fun x => by
          rw [s1.1 10 (by decide), g_set_ne (by decide), g_set_ne (by decide), j5.1 10 (by decide)]
          by_cases ex : x = W
          · rw [ex, g_set_eq, if_pos rfl]
          · rw [g_set_k ex, if_neg ex, j1.1 10 (by decide)]
        have cr2 : ∀ x, s 11 x = if x = W then nI u else c 11 x := fun x => by
          rw [s1.1 11 (by decide), g_set_ne (by decide)]
          by_cases ex : x = W
          · rw [ex, g_set_eq, if_pos rfl]
          · rw [g_set_k ex, if_neg ex, j5.1 11 (by decide), g_set_ne (by decide), j1.1 11 (by decide)]
        have me : ∀ b, b ≠ 464 → b ≠ 467 → b ≠ 472 + W → t b = m b := fun b b1 b2 b3 => by
          rw [t1.1 b b1, g_set_ne b2, g_set_ne b3, j6.1 b b1, g_set_ne b3, j2.1 b b1, g_set_ne b1]
        have m7e : ∀ k, k ≠ 0 → t 467 k = m 467 k := fun k hk => by
          rw [t1.1 467 (by decide), g_set_k hk, g_set_ne (by omega), j6.1 467 (by decide), g_set_ne (by omega), j2.1 467 (by decide), g_set_ne (by decide)]
        have m7n : t 467 0 = nI (W + 1) := by rw [t1.1 467 (by decide), g_set_eq]
        have mr0 : t (472 + W) 0 = nI v := by rw [t1.1 _ (by omega), g_set_ne (by omega), g_set_k (by decide), j6.1 _ (by omega), g_set_eq]
        have mr1 : t (472 + W) 1 = nI u := by rw [t1.1 _ (by omega), g_set_ne (by omega), g_set_eq]
        have m47 : t 464 7 = nI (told + 1) := by
          rw [t1.2 7 (by decide) (by decide) (by decide), g_set_ne (by decide), g_set_ne (by omega), j6.2 7 (by decide) (by decide) (by decide), g_set_ne (by omega), j2.2 7 (by decide) (by decide) (by decide), g_set_eq, a11.1, nI_1]
        refine ⟨⟨c9n, m7n, by omega⟩, ⟨by rw [c9e 6 (by decide)]; exact a4, by rw [m7e 1 (by decide)]; exact a5, a6⟩, ⟨by rw [c9e 7 (by decide)]; exact a7, by rw [m7e 2 (by decide)]; exact a8, a9⟩, ⟨by rw [c9e 8 (by decide), m7e 3 (by decide)]; exact a10.1, by rw [c9e 9 (by decide), m7e 4 (by decide)]; exact a10.2⟩, ⟨m47, by omega⟩, fun x hx => ?_, fun k hk => ?_, fun h hh => ?_⟩
        · rw [cr1, cr2]
          by_cases ex : x = W
          · rw [ex, if_pos rfl, if_pos rfl, mr0, mr1]; exact ⟨rfl, rfl, u, bu2, rfl⟩
          · rw [if_neg ex, if_neg ex, me (472 + x) (by omega) (by omega) (by omega)]; exact a12 x (by omega)
        · rw [ce 12 (by omega) (by omega) (by decide) (by decide) (by decide), ce 13 (by omega) (by omega) (by decide) (by decide) (by decide), me (490 + k) (by omega) (by omega) (by omega)]; exact a13 k hk
        · rw [ce 14 (by omega) (by omega) (by decide) (by decide) (by decide), me 469 (by decide) (by decide) (by omega)]; exact a14 h hh
      · exact Or.inr hF
    · have r5 : (g_set m3 (472 + W) 1 u2) 464 5 ≠ 0 := by rw [g_set_ne (by omega), f4.2.2.1]; exact f0
      rw [if_neg r5]
      unfold FM_clause_J263
      rw [ixk, Int32.add_zero]
      unfold g_let
      dsimp only
      rw [MF_265 (by rw [g_set_ne (by decide)]; exact r5)]
      refine okk_w (CF_end f0 (tC_o (tC_o f3 (by decide) (by decide)) (by decide) (by decide))) ?_
      rintro s ⟨s1, e6, s2⟩
      exact okk_some ⟨xc3.trans s1, mX_set xm3 (by decide) (by unfold pM; omega), Or.inr ⟨e6, q3, f, w, f0, s2, tM_o (tM_o f4 (by omega) (by omega)) (by decide) (by decide)⟩⟩
  · -- the first number is wrong
    have r2 : (g_set m2 (472 + W) 0 v2) 464 5 ≠ 0 := by rw [g_set_ne (by omega), f4.2.2.1]; exact f0
    rw [MF_number r2, Option.bind_some]
    dsimp only
    unfold FM_clause_J239
    have r5 : (g_set (g_set m2 (472 + W) 0 v2) (472 + W) 1 0) 464 5 ≠ 0 := by rw [g_set_ne (by omega)]; exact r2
    have m94 : (g_set (g_set m2 (472 + W) 0 v2) (472 + W) 1 0) 467 0 = nI W := by rw [g_set_ne (by omega), g_set_ne (by omega), j2.1 467 (by decide), g_set_ne (by decide)]; exact mN
    rw [if_neg (show ¬ (3 : Int32) ≤ 0 by decide), ixk, m94, if_neg r5]

    unfold FM_clause_J263
    rw [ixk, Int32.add_zero]
    unfold g_let
    dsimp only
    rw [MF_265 (by rw [g_set_ne (by decide)]; exact r5)]
    refine okk_bind (Q := fun s => cX pS c s ∧ ∃ e, tC n B e f w s) ?_ ?_
    · refine okk_bind (CF_number f0 (tC_o f3 (by decide) (by decide)) 0 16) ?_
      rintro ⟨u1, c3⟩ ⟨s1, e, s2⟩
      dsimp only
      exact okk_some ⟨cX_set (cX_put (xc2.trans s1.cX) (by decide) (by unfold pS; omega)) (by decide) (by unfold pS; omega), e, tC_o (tC_put s2 (by decide) (by decide)) (by decide) (by decide)⟩
    · rintro c4 ⟨g1, e4, g2⟩
      refine okk_w (CF_end f0 g2) ?_
      rintro s ⟨s1, e6, s2⟩
      exact okk_some ⟨g1.trans s1, mX_set (mX_set xm2 (by omega) (by unfold pM; omega)) (by decide) (by unfold pM; omega), Or.inr ⟨e6, q3, f, w, f0, s2, tM_o (tM_o (tM_o f4 (by omega) (by omega)) (by omega) (by omega)) (by decide) (by decide)⟩⟩

theorem N_child {n : Nat} {B : Nat → Nat} {p : Nat} {told W C H : Nat} {c m : gM} (h : PS n B p p c m) (hD : PD told W C H c m) (hW : C < 8) (ht : told < 60) : okk ((FP_readNumbers (1 : Int32) c).bind fun s8 => (F_need (59 : Int32) s8).bind fun s9 => some s9) (fun s => okk (g_ix (m 467 1) 8 fun j5 => (FM_number (1 : Int32) (9 : Int32) (g_set m 464 7 ((m 464 7) + (1 : Int32)))).bind fun s6 => g_let (g_set (s6.2) (490 + j5) 0 s6.1) fun M7 => g_ix (m 467 1) 8 fun j8 => (FM_number (3 : Int32) (14 : Int32) M7).bind fun s9 => g_let (g_set (s9.2) (490 + j8) 1 s9.1) fun M10 => FM_clause_J239 (1 : Int32) M10) (fun t => cX pS c s ∧ mX pM m t ∧ ((∃ e, p < e ∧ PS n B e e s t ∧ PD (told + 1) W (C + 1) H s t) ∨ PF n B s t))) := by
  have hDD := hD
  obtain ⟨⟨a1, a2, a3⟩, ⟨a4, a5, a6⟩, ⟨a7, a8, a9⟩, a10, a11, a12, a13, a14⟩ := hD
  have cN : c 9 6 = nI C := a4
  have mN : m 467 1 = nI C := a5
  have h7 : PS n B p p c (g_set m 464 7 (m 464 7 + 1)) := ⟨h.1, tM_7 h.2.1 (by decide), h.2.2⟩
  have x7 : mX pM m (g_set m 464 7 (m 464 7 + 1)) := mX_7 (mX.rfl' _ _) (by omega)
  unfold FP_readNumbers
  rw [mN, ix_in hW (by decide)]
  have ixk : ∀ f : Nat → Option gM, g_ix (1 : Int32) 5 f = f 1 := fun f => ix_in (j := 1) (by decide) (by decide)
  rw [if_neg i10, if_pos rfl]
  obtain ⟨⟨v1, c2⟩, x1, ⟨v2, m2⟩, y1, j1, j2, -, j4⟩ := P_number h7 1 (hi := 9) (by decide) (by decide)
  rw [x1, y1, Option.bind_some, Option.bind_some]
  dsimp only at j1 j2 j4 ⊢
  have c92 : c2 9 = c 9 := j1.1 9 (by decide)
  rw [cN, r_put_in _ _ _ hW (by decide)]
  unfold g_let
  dsimp only
  rw [ix_in hW (by decide)]
  have xc2 : cX pS c (g_set c2 12 C v1) := cX_set j1.cX (by decide) (by unfold pS; omega)
  have xm2 : mX pM m (g_set m2 (490 + C) 0 v2) := mX_set (x7.trans j2.mX) (by omega) (by unfold pM; omega)
  rcases j4 with ⟨e, v, e1, e2, hP2, ev1, ev2, v10, vin⟩ | ⟨p3, q3, f, w, f0, f3, f4⟩
  · subst ev1
    subst ev2
    have hP3 : PS n B e e (g_set c2 12 C (nI v)) (g_set m2 (490 + C) 0 (nI v)) := ⟨tC_o hP2.1 (by decide) (by decide), tM_o hP2.2.1 (by omega) (by omega), rfl⟩
    obtain ⟨⟨u1, c3⟩, x3, ⟨u2, m3⟩, y3, j5, j6, -, j8⟩ := P_number hP3 3 (hi := 14) (by decide) (by decide)
    rw [x3, y3, Option.bind_some, Option.bind_some]
    dsimp only at j5 j6 j8 ⊢
    have c93 : (g_set c2 12 C (nI v)) 9 6 = nI C := by rw [g_set_ne (by decide), c92]; exact cN
    rw [c93, r_put_in _ _ _ hW (by decide), Option.bind_some]
    have c94 : (g_set c3 13 C u1) 9 6 = nI C := by rw [g_set_ne (by decide), j5.1 9 (by decide)]; exact c93
    rw [c94, nI_1]
    unfold FM_clause_J239
    have m94 : (g_set m3 (490 + C) 1 u2) 467 1 = nI C := by rw [g_set_ne (by omega), j6.1 467 (by decide), g_set_ne (by omega), j2.1 467 (by decide), g_set_ne (by decide)]; exact mN
    rw [if_neg (show ¬ (3 : Int32) ≤ 1 by decide), ixk]
    dsimp only
    rw [m94]
    have xc3 : cX pS c (g_set (g_set c3 13 C u1) 9 6 (nI (C + 1))) := cX_set (cX_set (xc2.trans j5.cX) (by decide) (by unfold pS; omega)) (by decide) (by unfold pS; omega)
    have xm3 : mX pM m (g_set m3 (490 + C) 1 u2) := mX_set (xm2.trans j6.mX) (by omega) (by unfold pM; omega)
    rcases j8 with ⟨e3, u, e4, e5, hP4, eu1, eu2, u10, uin⟩ | ⟨p3, q3, f, w, f0, f3, f4⟩
    · subst eu1
      subst eu2
      have r5 : (g_set m3 (490 + C) 1 (nI u)) 464 5 = 0 := by rw [g_set_ne (by omega)]; exact hP4.2.1.2.2.1
      rw [if_pos r5]
      unfold FM_clause_J263
      rw [ixk, nI_1]
      unfold g_let
      dsimp only
      have hP5 : PS n B e3 e3 (g_set (g_set c3 13 C (nI u)) 9 6 (nI (C + 1))) (g_set (g_set m3 (490 + C) 1 (nI u)) 467 1 (nI (C + 1))) := ⟨tC_o (tC_o hP4.1 (by decide) (by decide)) (by decide) (by decide), tM_o (tM_o hP4.2.1 (by omega) (by omega)) (by decide) (by decide), rfl⟩
      refine okk_w (P_end hP5) ?_
      intro s hs
      refine okk_w hs ?_
      rintro t ⟨s1, t1, st⟩
      refine ⟨xc3.trans s1.cX, (mX_set xm3 (by decide) (by unfold pM; omega)).trans t1.mX, ?_⟩
      rcases st with ⟨e6, e7, e8⟩ | hF
      · left
        refine ⟨e6, by omega, e8, ?_⟩
        -- the park with one more
        have bv := in_nI (lo := 1) (by omega) (by decide) vin
        have bu := in_nI (lo := 3) (by omega) (by decide) uin
        have bv2 := (nI_leI (b := 9) (by omega) (by decide)).mp bv.2
        have bu2 := (nI_leI (b := 14) (by omega) (by decide)).mp bu.2
        have ce : ∀ b, 9 ≤ b → b ≤ 14 → b ≠ 9 → b ≠ 12 → b ≠ 13 → s b = c b := fun b b1 b2 b3 b4 b5 => by
          rw [s1.1 b (by omega), g_set_ne b3, g_set_ne b5, j5.1 b (by omega), g_set_ne b4, j1.1 b (by omega)]
        have c9e : ∀ k, k ≠ 6 → s 9 k = c 9 k := fun k hk => by
          rw [s1.1 9 (by decide), g_set_k hk, g_set_ne (by decide), j5.1 9 (by decide), g_set_ne (by decide), c92]
        have c9n : s 9 6 = nI (C + 1) := by rw [s1.1 9 (by decide), g_set_eq]
        have cr1 : ∀ x, s 12 x = if x = C then nI v else c 12 x := fun x => by
          rw [s1.1 12 (by decide), g_set_ne (by decide), g_set_ne (by decide), j5.1 12 (by decide)]
          by_cases ex : x = C
          · rw [ex, g_set_eq, if_pos rfl]
          · rw [g_set_k ex, if_neg ex, j1.1 12 (by decide)]
        have cr2 : ∀ x, s 13 x = if x = C then nI u else c 13 x := fun x => by
          rw [s1.1 13 (by decide), g_set_ne (by decide)]
          by_cases ex : x = C
          · rw [ex, g_set_eq, if_pos rfl]
          · rw [g_set_k ex, if_neg ex, j5.1 13 (by decide), g_set_ne (by decide), j1.1 13 (by decide)]
        have me : ∀ b, b ≠ 464 → b ≠ 467 → b ≠ 490 + C → t b = m b := fun b b1 b2 b3 => by
          rw [t1.1 b b1, g_set_ne b2, g_set_ne b3, j6.1 b b1, g_set_ne b3, j2.1 b b1, g_set_ne b1]
        have m7e : ∀ k, k ≠ 1 → t 467 k = m 467 k := fun k hk => by
          rw [t1.1 467 (by decide), g_set_k hk, g_set_ne (by omega), j6.1 467 (by decide), g_set_ne (by omega), j2.1 467 (by decide), g_set_ne (by decide)]
        have m7n : t 467 1 = nI (C + 1) := by rw [t1.1 467 (by decide), g_set_eq]
        have mr0 : t (490 + C) 0 = nI v := by rw [t1.1 _ (by omega), g_set_ne (by omega), g_set_k (by decide), j6.1 _ (by omega), g_set_eq]
        have mr1 : t (490 + C) 1 = nI u := by rw [t1.1 _ (by omega), g_set_ne (by omega), g_set_eq]
        have m47 : t 464 7 = nI (told + 1) := by
          rw [t1.2 7 (by decide) (by decide) (by decide), g_set_ne (by decide), g_set_ne (by omega), j6.2 7 (by decide) (by decide) (by decide), g_set_ne (by omega), j2.2 7 (by decide) (by decide) (by decide), g_set_eq, a11.1, nI_1]
        refine ⟨⟨by rw [c9e 5 (by decide)]; exact a1, by rw [m7e 0 (by decide)]; exact a2, a3⟩, ⟨c9n, m7n, by omega⟩, ⟨by rw [c9e 7 (by decide)]; exact a7, by rw [m7e 2 (by decide)]; exact a8, a9⟩, ⟨by rw [c9e 8 (by decide), m7e 3 (by decide)]; exact a10.1, by rw [c9e 9 (by decide), m7e 4 (by decide)]; exact a10.2⟩, ⟨m47, by omega⟩, fun x hx => ?_, fun k hk => ?_, fun h hh => ?_⟩
        · rw [ce 10 (by omega) (by omega) (by decide) (by decide) (by decide), ce 11 (by omega) (by omega) (by decide) (by decide) (by decide), me (472 + x) (by omega) (by omega) (by omega)]; exact a12 x hx
        · rw [cr1, cr2]
          by_cases ex : k = C
          · rw [ex, if_pos rfl, if_pos rfl, mr0, mr1]; exact ⟨rfl, rfl, ⟨v, bv.1, bv2, rfl⟩, u, bu.1, bu2, rfl⟩
          · rw [if_neg ex, if_neg ex, me (490 + k) (by omega) (by omega) (by omega)]; exact a13 k (by omega)
        · rw [ce 14 (by omega) (by omega) (by decide) (by decide) (by decide), me 469 (by decide) (by decide) (by omega)]; exact a14 h hh
      · exact Or.inr hF
    · have r5 : (g_set m3 (490 + C) 1 u2) 464 5 ≠ 0 := by rw [g_set_ne (by omega), f4.2.2.1]; exact f0
      rw [if_neg r5]
      unfold FM_clause_J263
      rw [ixk, Int32.add_zero]
      unfold g_let
      dsimp only
      rw [MF_265 (by rw [g_set_ne (by decide)]; exact r5)]
      refine okk_w (CF_end f0 (tC_o (tC_o f3 (by decide) (by decide)) (by decide) (by decide))) ?_
      rintro s ⟨s1, e6, s2⟩
      exact okk_some ⟨xc3.trans s1, mX_set xm3 (by decide) (by unfold pM; omega), Or.inr ⟨e6, q3, f, w, f0, s2, tM_o (tM_o f4 (by omega) (by omega)) (by decide) (by decide)⟩⟩
  · -- the first number is wrong
    have r2 : (g_set m2 (490 + C) 0 v2) 464 5 ≠ 0 := by rw [g_set_ne (by omega), f4.2.2.1]; exact f0
    rw [MF_number r2, Option.bind_some]
    dsimp only
    unfold FM_clause_J239
    have r5 : (g_set (g_set m2 (490 + C) 0 v2) (490 + C) 1 0) 464 5 ≠ 0 := by rw [g_set_ne (by omega)]; exact r2
    have m94 : (g_set (g_set m2 (490 + C) 0 v2) (490 + C) 1 0) 467 1 = nI C := by rw [g_set_ne (by omega), g_set_ne (by omega), j2.1 467 (by decide), g_set_ne (by decide)]; exact mN
    rw [if_neg (show ¬ (3 : Int32) ≤ 1 by decide), ixk, m94, if_neg r5]

    unfold FM_clause_J263
    rw [ixk, Int32.add_zero]
    unfold g_let
    dsimp only
    rw [MF_265 (by rw [g_set_ne (by decide)]; exact r5)]
    refine okk_bind (Q := fun s => cX pS c s ∧ ∃ e, tC n B e f w s) ?_ ?_
    · refine okk_bind (CF_number f0 (tC_o f3 (by decide) (by decide)) 3 14) ?_
      rintro ⟨u1, c3⟩ ⟨s1, e, s2⟩
      dsimp only
      exact okk_some ⟨cX_set (cX_put (xc2.trans s1.cX) (by decide) (by unfold pS; omega)) (by decide) (by unfold pS; omega), e, tC_o (tC_put s2 (by decide) (by decide)) (by decide) (by decide)⟩
    · rintro c4 ⟨g1, e4, g2⟩
      refine okk_w (CF_end f0 g2) ?_
      rintro s ⟨s1, e6, s2⟩
      exact okk_some ⟨g1.trans s1, mX_set (mX_set xm2 (by omega) (by unfold pM; omega)) (by decide) (by unfold pM; omega), Or.inr ⟨e6, q3, f, w, f0, s2, tM_o (tM_o (tM_o f4 (by omega) (by omega)) (by omega) (by omega)) (by decide) (by decide)⟩⟩

theorem N_hoop {n : Nat} {B : Nat → Nat} {p : Nat} {told W C H : Nat} {c m : gM} (h : PS n B p p c m) (hD : PD told W C H c m) (hH : H < 8) (ht : told < 60) : okk ((FP_readNumbers (2 : Int32) c).bind fun s8 => (F_need (59 : Int32) s8).bind fun s9 => some s9) (fun s => okk ((FM_number (1 : Int32) (9 : Int32) (g_set m 464 7 ((m 464 7) + (1 : Int32)))).bind fun s19 => g_ix (m 467 2) 8 fun j20 => g_let (g_set (s19.2) 469 j20 s19.1) fun M21 => FM_clause_J239 (2 : Int32) M21) (fun t => cX pS c s ∧ mX pM m t ∧ ((∃ e, p < e ∧ PS n B e e s t ∧ PD (told + 1) W C (H + 1) s t) ∨ PF n B s t))) := by
  have hDD := hD
  obtain ⟨⟨a1, a2, a3⟩, ⟨a4, a5, a6⟩, ⟨a7, a8, a9⟩, a10, a11, a12, a13, a14⟩ := hD
  have h7 : PS n B p p c (g_set m 464 7 (m 464 7 + 1)) := ⟨h.1, tM_7 h.2.1 (by decide), h.2.2⟩
  have x7 : mX pM m (g_set m 464 7 (m 464 7 + 1)) := mX_7 (mX.rfl' _ _) (by omega)
  unfold FP_readNumbers
  have ixk : ∀ f : Nat → Option gM, g_ix (2 : Int32) 5 f = f 2 := fun f => ix_in (j := 2) (by decide) (by decide)
  rw [a8, if_neg (show ¬ (2 : Int32) = 0 by decide), if_neg (show ¬ (2 : Int32) = 1 by decide), if_pos rfl]
  obtain ⟨⟨v1, c2⟩, x1, ⟨v2, m2⟩, y1, j1, j2, -, j4⟩ := P_number h7 1 (hi := 9) (by decide) (by decide)
  rw [x1, y1, Option.bind_some, Option.bind_some]
  dsimp only at j1 j2 j4 ⊢
  have c92 : c2 9 = c 9 := j1.1 9 (by decide)
  rw [ix_in hH (by decide), a7, r_put_in _ _ _ hH (by decide)]
  unfold g_let
  dsimp only
  rw [Option.bind_some]
  have c94 : (g_set c2 14 H v1) 9 7 = nI H := by rw [g_set_ne (by decide), c92]; exact a7
  rw [c94, nI_1]
  have m94 : (g_set m2 469 H v2) 467 2 = nI H := by rw [g_set_ne (by decide), j2.1 467 (by decide), g_set_ne (by decide)]; exact a8
  unfold FM_clause_J239
  rw [if_neg (show ¬ (3 : Int32) ≤ 2 by decide), ixk]
  rw [m94]
  have xc3 : cX pS c (g_set (g_set c2 14 H v1) 9 7 (nI (H + 1))) := cX_set (cX_set j1.cX (by decide) (by unfold pS; omega)) (by decide) (by unfold pS; omega)
  have xm3 : mX pM m (g_set m2 469 H v2) := mX_set (x7.trans j2.mX) (by omega) (by unfold pM; omega)
  rcases j4 with ⟨e3, v, e4, e5, hP2, ev1, ev2, v10, vin⟩ | ⟨p3, q3, f, w, f0, f3, f4⟩
  · subst ev1
    subst ev2
    have r5 : (g_set m2 469 H (nI v)) 464 5 = 0 := by rw [g_set_ne (by omega)]; exact hP2.2.1.2.2.1
    rw [if_pos r5]
    unfold FM_clause_J263
    rw [ixk, nI_1]
    unfold g_let
    dsimp only
    have hP5 : PS n B e3 e3 (g_set (g_set c2 14 H (nI v)) 9 7 (nI (H + 1))) (g_set (g_set m2 469 H (nI v)) 467 2 (nI (H + 1))) := ⟨tC_o (tC_o hP2.1 (by decide) (by decide)) (by decide) (by decide), tM_o (tM_o hP2.2.1 (by omega) (by omega)) (by decide) (by decide), rfl⟩
    refine okk_w (P_end hP5) ?_
    intro s hs
    refine okk_w hs ?_
    rintro t ⟨s1, t1, st⟩
    refine ⟨xc3.trans s1.cX, (mX_set xm3 (by decide) (by unfold pM; omega)).trans t1.mX, ?_⟩
    rcases st with ⟨e6, e7, e8⟩ | hF
    · left
      refine ⟨e6, by omega, e8, ?_⟩
      have ce : ∀ b, 9 ≤ b → b ≤ 14 → b ≠ 9 → b ≠ 14 → s b = c b := fun b b1 b2 b3 b4 => by
        rw [s1.1 b (by omega), g_set_ne b3, g_set_ne b4, j1.1 b (by omega)]
      have c9e : ∀ k, k ≠ 7 → s 9 k = c 9 k := fun k hk => by
        rw [s1.1 9 (by decide), g_set_k hk, g_set_ne (by decide), c92]
      have c9n : s 9 7 = nI (H + 1) := by rw [s1.1 9 (by decide), g_set_eq]
      have cr1 : ∀ x, s 14 x = if x = H then nI v else c 14 x := fun x => by
        rw [s1.1 14 (by decide), g_set_ne (by decide)]
        by_cases ex : x = H
        · rw [ex, g_set_eq, if_pos rfl]
        · rw [g_set_k ex, if_neg ex, j1.1 14 (by decide)]
      have me : ∀ b, b ≠ 464 → b ≠ 467 → b ≠ 469 → t b = m b := fun b b1 b2 b3 => by
        rw [t1.1 b b1, g_set_ne b2, g_set_ne b3, j2.1 b b1, g_set_ne b1]
      have m7e : ∀ k, k ≠ 2 → t 467 k = m 467 k := fun k hk => by
        rw [t1.1 467 (by decide), g_set_k hk, g_set_ne (by omega), j2.1 467 (by decide), g_set_ne (by decide)]
      have m7n : t 467 2 = nI (H + 1) := by rw [t1.1 467 (by decide), g_set_eq]
      have mr : ∀ x, t 469 x = if x = H then nI v else m 469 x := fun x => by
        rw [t1.1 469 (by decide), g_set_ne (by decide)]
        by_cases ex : x = H
        · rw [ex, g_set_eq, if_pos rfl]
        · rw [g_set_k ex, if_neg ex, j2.1 469 (by decide), g_set_ne (by decide)]
      have m47 : t 464 7 = nI (told + 1) := by
        rw [t1.2 7 (by decide) (by decide) (by decide), g_set_ne (by decide), g_set_ne (by omega), j2.2 7 (by decide) (by decide) (by decide), g_set_eq, a11.1, nI_1]
      refine ⟨⟨by rw [c9e 5 (by decide)]; exact a1, by rw [m7e 0 (by decide)]; exact a2, a3⟩, ⟨by rw [c9e 6 (by decide)]; exact a4, by rw [m7e 1 (by decide)]; exact a5, a6⟩, ⟨c9n, m7n, by omega⟩, ⟨by rw [c9e 8 (by decide), m7e 3 (by decide)]; exact a10.1, by rw [c9e 9 (by decide), m7e 4 (by decide)]; exact a10.2⟩, ⟨m47, by omega⟩, fun x hx => ?_, fun k hk => ?_, fun x hx => ?_⟩
      · rw [ce 10 (by omega) (by omega) (by decide) (by decide), ce 11 (by omega) (by omega) (by decide) (by decide), me (472 + x) (by omega) (by omega) (by omega)]; exact a12 x hx
      · rw [ce 12 (by omega) (by omega) (by decide) (by decide), ce 13 (by omega) (by omega) (by decide) (by decide), me (490 + k) (by omega) (by omega) (by omega)]; exact a13 k hk
      · rw [cr1, mr]
        by_cases ex : x = H
        · rw [ex, if_pos rfl, if_pos rfl]
        · rw [if_neg ex, if_neg ex]; exact a14 x (by omega)
    · exact Or.inr hF
  · have r5 : (g_set m2 469 H v2) 464 5 ≠ 0 := by rw [g_set_ne (by omega), f4.2.2.1]; exact f0
    rw [if_neg r5]
    unfold FM_clause_J263
    rw [ixk, Int32.add_zero]
    unfold g_let
    dsimp only
    rw [MF_265 (by rw [g_set_ne (by decide)]; exact r5)]
    refine okk_w (CF_end f0 (tC_o (tC_o f3 (by decide) (by decide)) (by decide) (by decide))) ?_
    rintro s ⟨s1, e6, s2⟩
    exact okk_some ⟨xc3.trans s1, mX_set xm3 (by decide) (by unfold pM; omega), Or.inr ⟨e6, q3, f, w, f0, s2, tM_o (tM_o f4 (by omega) (by omega)) (by decide) (by decide)⟩⟩

theorem N_long {n : Nat} {B : Nat → Nat} {p : Nat} {told W C H : Nat} {c m : gM} (h : PS n B p p c m) (hD : PD told W C H c m) (ht : told < 60) : okk ((FP_readNumbers (3 : Int32) c).bind fun s8 => (F_need (59 : Int32) s8).bind fun s9 => some s9) (fun s => okk (FM_clause_J205 (3 : Int32) (1 : Int32) (g_set m 464 7 ((m 464 7) + (1 : Int32)))) (fun t => cX pS c s ∧ mX pM m t ∧ ((∃ e, p < e ∧ PS n B e e s t ∧ PD (told + 1) W C H s t) ∨ PF n B s t))) := by
  have hDD := hD
  obtain ⟨⟨a1, a2, a3⟩, ⟨a4, a5, a6⟩, ⟨a7, a8, a9⟩, a10, a11, a12, a13, a14⟩ := hD
  have h7 : PS n B p p c (g_set m 464 7 (m 464 7 + 1)) := ⟨h.1, tM_7 h.2.1 (by decide), h.2.2⟩
  have x7 : mX pM m (g_set m 464 7 (m 464 7 + 1)) := mX_7 (mX.rfl' _ _) (by omega)
  unfold FP_readNumbers FM_clause_J205
  rw [if_pos rfl]
  unfold FM_clause_J218
  have ixk : ∀ f : Nat → Option gM, g_ix (3 : Int32) 5 f = f 3 := fun f => ix_in (j := 3) (by decide) (by decide)
  rw [if_neg (show ¬ (3 : Int32) = 0 by decide), if_neg (show ¬ (3 : Int32) = 1 by decide), if_neg (show ¬ (3 : Int32) = 2 by decide), if_pos rfl]
  obtain ⟨⟨v1, c2⟩, x1, ⟨v2, m2⟩, y1, j1, j2, -, j4⟩ := P_number h7 1 (hi := 500) (by decide) (by decide)
  rw [x1, y1, Option.bind_some, Option.bind_some]
  dsimp only at j1 j2 j4 ⊢
  have c92 : c2 9 = c 9 := j1.1 9 (by decide)
  rw [Option.bind_some]
  have xc3 : cX pS c (g_set c2 9 8 v1) := cX_set j1.cX (by decide) (by unfold pS; omega)
  have xm2 : mX pM m m2 := x7.trans j2.mX
  rcases j4 with ⟨e3, v, e4, e5, hP2, ev1, ev2, v10, vin⟩ | ⟨p3, q3, f, w, f0, f3, f4⟩
  · subst ev1
    subst ev2
    rw [if_pos hP2.2.1.2.2.1, ixk]
    unfold g_let FM_clause_J239
    dsimp only
    rw [if_pos (show (3 : Int32) ≤ 3 by decide)]
    have hP5 : PS n B e3 e3 (g_set c2 9 8 (nI v)) (g_set m2 467 3 (nI v)) := ⟨tC_o hP2.1 (by decide) (by decide), tM_o hP2.2.1 (by decide) (by decide), rfl⟩
    refine okk_w (P_end hP5) ?_
    intro s hs
    refine okk_w hs ?_
    rintro t ⟨s1, t1, st⟩
    refine ⟨xc3.trans s1.cX, (mX_set xm2 (by decide) (by unfold pM; omega)).trans t1.mX, ?_⟩
    rcases st with ⟨e6, e7, e8⟩ | hF
    · left
      refine ⟨e6, by omega, e8, ?_⟩
      have ce : ∀ b, 9 ≤ b → b ≤ 14 → b ≠ 9 → s b = c b := fun b b1 b2 b3 => by
        rw [s1.1 b (by omega), g_set_ne b3, j1.1 b (by omega)]
      have c9e : ∀ k, k ≠ 8 → s 9 k = c 9 k := fun k hk => by
        rw [s1.1 9 (by decide), g_set_k hk, c92]
      have c9n : s 9 8 = nI v := by rw [s1.1 9 (by decide), g_set_eq]
      have me : ∀ b, b ≠ 464 → b ≠ 467 → t b = m b := fun b b1 b2 => by
        rw [t1.1 b b1, g_set_ne b2, j2.1 b b1, g_set_ne b1]
      have m7e : ∀ k, k ≠ 3 → t 467 k = m 467 k := fun k hk => by
        rw [t1.1 467 (by decide), g_set_k hk, j2.1 467 (by decide), g_set_ne (by decide)]
      have m7n : t 467 3 = nI v := by rw [t1.1 467 (by decide), g_set_eq]
      have m47 : t 464 7 = nI (told + 1) := by
        rw [t1.2 7 (by decide) (by decide) (by decide), g_set_ne (by decide), j2.2 7 (by decide) (by decide) (by decide), g_set_eq, a11.1, nI_1]
      refine ⟨⟨by rw [c9e 5 (by decide)]; exact a1, by rw [m7e 0 (by decide)]; exact a2, a3⟩, ⟨by rw [c9e 6 (by decide)]; exact a4, by rw [m7e 1 (by decide)]; exact a5, a6⟩, ⟨by rw [c9e 7 (by decide)]; exact a7, by rw [m7e 2 (by decide)]; exact a8, a9⟩, ⟨by rw [c9n, m7n], by rw [c9e 9 (by decide), m7e 4 (by decide)]; exact a10.2⟩, ⟨m47, by omega⟩, fun x hx => ?_, fun k hk => ?_, fun x hx => ?_⟩
      · rw [ce 10 (by omega) (by omega) (by decide), ce 11 (by omega) (by omega) (by decide), me (472 + x) (by omega) (by omega)]; exact a12 x hx
      · rw [ce 12 (by omega) (by omega) (by decide), ce 13 (by omega) (by omega) (by decide), me (490 + k) (by omega) (by omega)]; exact a13 k hk
      · rw [ce 14 (by omega) (by omega) (by decide), me 469 (by decide) (by decide)]; exact a14 x hx
    · exact Or.inr hF
  · have r5 : m2 464 5 ≠ 0 := by rw [f4.2.2.1]; exact f0
    rw [if_neg r5]
    unfold FM_clause_J239
    rw [if_pos (show (3 : Int32) ≤ 3 by decide), MF_265 r5]
    refine okk_w (CF_end f0 (tC_o f3 (by decide) (by decide))) ?_
    rintro s ⟨s1, e6, s2⟩
    exact okk_some ⟨xc3.trans s1, xm2, Or.inr ⟨e6, q3, f, w, f0, s2, f4⟩⟩

theorem N_fine {n : Nat} {B : Nat → Nat} {p : Nat} {told W C H : Nat} {c m : gM} (h : PS n B p p c m) (hD : PD told W C H c m) (ht : told < 60) : okk ((FP_readNumbers (4 : Int32) c).bind fun s8 => (F_need (59 : Int32) s8).bind fun s9 => some s9) (fun s => okk (FM_clause_J205 (4 : Int32) (0 : Int32) (g_set m 464 7 ((m 464 7) + (1 : Int32)))) (fun t => cX pS c s ∧ mX pM m t ∧ ((∃ e, p < e ∧ PS n B e e s t ∧ PD (told + 1) W C H s t) ∨ PF n B s t))) := by
  have hDD := hD
  obtain ⟨⟨a1, a2, a3⟩, ⟨a4, a5, a6⟩, ⟨a7, a8, a9⟩, a10, a11, a12, a13, a14⟩ := hD
  have h7 : PS n B p p c (g_set m 464 7 (m 464 7 + 1)) := ⟨h.1, tM_7 h.2.1 (by decide), h.2.2⟩
  have x7 : mX pM m (g_set m 464 7 (m 464 7 + 1)) := mX_7 (mX.rfl' _ _) (by omega)
  unfold FP_readNumbers FM_clause_J205
  rw [if_neg (show ¬ (4 : Int32) = 3 by decide)]
  unfold FM_clause_J218
  have ixk : ∀ f : Nat → Option gM, g_ix (4 : Int32) 5 f = f 4 := fun f => ix_in (j := 4) (by decide) (by decide)
  rw [if_neg (show ¬ (4 : Int32) = 0 by decide), if_neg (show ¬ (4 : Int32) = 1 by decide), if_neg (show ¬ (4 : Int32) = 2 by decide), if_neg (show ¬ (4 : Int32) = 3 by decide)]
  obtain ⟨⟨v1, c2⟩, x1, ⟨v2, m2⟩, y1, j1, j2, -, j4⟩ := P_number h7 0 (hi := 20) (by decide) (by decide)
  rw [x1, y1, Option.bind_some, Option.bind_some]
  dsimp only at j1 j2 j4 ⊢
  have c92 : c2 9 = c 9 := j1.1 9 (by decide)
  rw [Option.bind_some]
  have xc3 : cX pS c (g_set c2 9 9 v1) := cX_set j1.cX (by decide) (by unfold pS; omega)
  have xm2 : mX pM m m2 := x7.trans j2.mX
  rcases j4 with ⟨e3, v, e4, e5, hP2, ev1, ev2, v10, vin⟩ | ⟨p3, q3, f, w, f0, f3, f4⟩
  · subst ev1
    subst ev2
    rw [if_pos hP2.2.1.2.2.1, ixk]
    unfold g_let FM_clause_J239
    dsimp only
    rw [if_pos (show (3 : Int32) ≤ 4 by decide)]
    have hP5 : PS n B e3 e3 (g_set c2 9 9 (nI v)) (g_set m2 467 4 (nI v)) := ⟨tC_o hP2.1 (by decide) (by decide), tM_o hP2.2.1 (by decide) (by decide), rfl⟩
    refine okk_w (P_end hP5) ?_
    intro s hs
    refine okk_w hs ?_
    rintro t ⟨s1, t1, st⟩
    refine ⟨xc3.trans s1.cX, (mX_set xm2 (by decide) (by unfold pM; omega)).trans t1.mX, ?_⟩
    rcases st with ⟨e6, e7, e8⟩ | hF
    · left
      refine ⟨e6, by omega, e8, ?_⟩
      have ce : ∀ b, 9 ≤ b → b ≤ 14 → b ≠ 9 → s b = c b := fun b b1 b2 b3 => by
        rw [s1.1 b (by omega), g_set_ne b3, j1.1 b (by omega)]
      have c9e : ∀ k, k ≠ 9 → s 9 k = c 9 k := fun k hk => by
        rw [s1.1 9 (by decide), g_set_k hk, c92]
      have c9n : s 9 9 = nI v := by rw [s1.1 9 (by decide), g_set_eq]
      have me : ∀ b, b ≠ 464 → b ≠ 467 → t b = m b := fun b b1 b2 => by
        rw [t1.1 b b1, g_set_ne b2, j2.1 b b1, g_set_ne b1]
      have m7e : ∀ k, k ≠ 4 → t 467 k = m 467 k := fun k hk => by
        rw [t1.1 467 (by decide), g_set_k hk, j2.1 467 (by decide), g_set_ne (by decide)]
      have m7n : t 467 4 = nI v := by rw [t1.1 467 (by decide), g_set_eq]
      have m47 : t 464 7 = nI (told + 1) := by
        rw [t1.2 7 (by decide) (by decide) (by decide), g_set_ne (by decide), j2.2 7 (by decide) (by decide) (by decide), g_set_eq, a11.1, nI_1]
      refine ⟨⟨by rw [c9e 5 (by decide)]; exact a1, by rw [m7e 0 (by decide)]; exact a2, a3⟩, ⟨by rw [c9e 6 (by decide)]; exact a4, by rw [m7e 1 (by decide)]; exact a5, a6⟩, ⟨by rw [c9e 7 (by decide)]; exact a7, by rw [m7e 2 (by decide)]; exact a8, a9⟩, ⟨by rw [c9e 8 (by decide), m7e 3 (by decide)]; exact a10.1, by rw [c9n, m7n]⟩, ⟨m47, by omega⟩, fun x hx => ?_, fun k hk => ?_, fun x hx => ?_⟩
      · rw [ce 10 (by omega) (by omega) (by decide), ce 11 (by omega) (by omega) (by decide), me (472 + x) (by omega) (by omega)]; exact a12 x hx
      · rw [ce 12 (by omega) (by omega) (by decide), ce 13 (by omega) (by omega) (by decide), me (490 + k) (by omega) (by omega)]; exact a13 k hk
      · rw [ce 14 (by omega) (by omega) (by decide), me 469 (by decide) (by decide)]; exact a14 x hx
    · exact Or.inr hF
  · have r5 : m2 464 5 ≠ 0 := by rw [f4.2.2.1]; exact f0
    rw [if_neg r5]
    unfold FM_clause_J239
    rw [if_pos (show (3 : Int32) ≤ 4 by decide), MF_265 r5]
    refine okk_w (CF_end f0 (tC_o f3 (by decide) (by decide))) ?_
    rintro s ⟨s1, e6, s2⟩
    exact okk_some ⟨xc3.trans s1, xm2, Or.inr ⟨e6, q3, f, w, f0, s2, f4⟩⟩
