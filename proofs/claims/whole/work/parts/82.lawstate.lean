/-! A law's readers: what holds between two steps of both. -/
theorem b_id {α : Type} (o : Option α) : (o.bind fun s => some s) = o := by cases o <;> rfl
def oo (fc fm : Option gM) (P : gM → gM → Prop) : Prop := okk fc fun s => okk fm fun t => P s t
theorem oo_bind {fc fm : Option gM} {P Q : gM → gM → Prop} {kc km : gM → Option gM} (h : oo fc fm P) (k : ∀ s t, P s t → oo (kc s) (km t) Q) : oo (fc.bind kc) (fm.bind km) Q := by
  obtain ⟨s, e1, t, e2, hp⟩ := h
  subst e1
  subst e2
  exact k s t hp
theorem oo_e {fc fm fc2 fm2 : Option gM} {P : gM → gM → Prop} (e1 : fc = fc2) (e2 : fm = fm2) (h : oo fc2 fm2 P) : oo fc fm P := by rw [e1, e2]; exact h
theorem oo_some {s t : gM} {P : gM → gM → Prop} (h : P s t) : oo (some s) (some t) P := okk_some (okk_some h)
theorem oo_w {fc fm : Option gM} {P Q : gM → gM → Prop} (h : oo fc fm P) (k : ∀ s t, P s t → Q s t) : oo fc fm Q := okk_w h fun s hs => okk_w hs fun t ht => k s t ht
def lS (b : Nat) : Prop := b = 19 ∨ b = 20 ∨ b = 21
def lM (b : Nat) : Prop := 669 ≤ b ∧ b ≤ 828
/-- the height over a law's first codes -/
def l_ht (m : gM) : Nat → Nat
  | 0 => 0
  | k + 1 => if m (669 + k) 0 = 0 ∨ m (669 + k) 0 = 1 then l_ht m k + 1 else l_ht m k - 1
theorem l_ht_s (m : gM) (k : Nat) : l_ht m (k + 1) = if m (669 + k) 0 = 0 ∨ m (669 + k) 0 = 1 then l_ht m k + 1 else l_ht m k - 1 := rfl
theorem l_ht_e {m m2 : gM} : ∀ k, (∀ j, j < k → m2 (669 + j) = m (669 + j)) → l_ht m2 k = l_ht m k := by
  intro k
  induction k with
  | zero => intro _; rfl
  | succ k ih =>
    intro h
    rw [l_ht_s, l_ht_s, ih (fun j hj => h j (by omega)), h k (by omega)]
def LQ (k : Nat) (c m : gM) : Prop := LD k c m ∧ c 19 4 = 1 ∧ (∀ j, j ≤ k → l_ht m j ≤ 24) ∧ ∀ j, j < k → m (669 + j) 0 = 0 ∨ (m (669 + j) 0 = 1 ∧ ∃ v, v < 9 ∧ m (669 + j) 1 = nI v) ∨ (2 ≤ l_ht m j ∧ ∃ h, 2 ≤ h ∧ h ≤ 8 ∧ m (669 + j) 0 = nI h)
theorem LQ_e {k : Nat} {c m c2 m2 : gM} (h : LQ k c m) (h1 : c2 19 = c 19) (h2 : c2 20 = c 20) (h3 : c2 21 = c 21) (h4 : m2 464 20 = m 464 20) (h5 : ∀ j, j < 150 → m2 (669 + j) = m (669 + j)) : LQ k c2 m2 ∧ l_ht m2 k = l_ht m k := by
  obtain ⟨a1, a0, a2, a3⟩ := h
  have hk := a1.2.2.1
  have e : ∀ j, j ≤ k → l_ht m2 j = l_ht m j := fun j hj => l_ht_e j (fun i hi => h5 i (by omega))
  exact ⟨⟨LD_e a1 (by rw [h1]) h2 h3 h4 h5, by rw [h1]; exact a0, fun j hj => by rw [e j hj]; exact a2 j hj, fun j hj => by rw [h5 j (by omega), e j (by omega)]; exact a3 j hj⟩, e k (Nat.le_refl k)⟩
theorem LQ_S {k : Nat} {c m c2 m2 : gM} (h : LQ k c m) (hc : cS c c2) (hm : mS m m2) : LQ k c2 m2 ∧ l_ht m2 k = l_ht m k :=
  LQ_e h (hc.1 19 (by decide)) (hc.1 20 (by decide)) (hc.1 21 (by decide)) (hm.2 20 (by decide) (by decide) (by decide)) (fun j _ => hm.1 (669 + j) (by omega))
/-- both right at one place e or behind, or both at the same fault; D: the place runs ahead of the marks -/
def LZ (n : Nat) (B : Nat → Nat) (c0 m0 : gM) (o E D H : Nat) (c m : gM) : Prop := cX lS c0 c ∧ mX lM m0 m ∧ ((∃ e f k, E ≤ e ∧ PS n B e f c m ∧ LQ k c m ∧ k + D ≤ e ∧ l_ht m k = H ∧ m 464 8 = nI o) ∨ PF n B c m)
theorem LZ_w {n : Nat} {B : Nat → Nat} {c0 m0 : gM} {o E D H E2 D2 : Nat} {c m : gM} (h : LZ n B c0 m0 o E D H c m) (h1 : E2 ≤ E) (h2 : D2 ≤ D) : LZ n B c0 m0 o E2 D2 H c m := by
  obtain ⟨a1, a2, ⟨e, f, k, b1, b2, b3, b4, b5, b6⟩ | a3⟩ := h
  · exact ⟨a1, a2, Or.inl ⟨e, f, k, by omega, b2, b3, by omega, b5, b6⟩⟩
  · exact ⟨a1, a2, Or.inr a3⟩
theorem tC_m {n : Nat} {B : Nat → Nat} {p : Nat} {f w : Int32} {c s : gM} (h : tC n B p f w c) (h1 : s 1 = c 1) (h2 : s 2 = c 2) : tC n B p f w s := by
  unfold tC
  rw [h1, h2]
  exact h
theorem tM_m {n : Nat} {B : Nat → Nat} {p : Nat} {f w : Int32} {m t : gM} (h : tM n B p f w m) (h1 : ∀ k, k = 2 ∨ k = 4 ∨ k = 5 ∨ k = 6 → t 464 k = m 464 k) (h2 : t 465 = m 465) : tM n B p f w t := by
  unfold tM
  rw [h1 2 (by omega), h1 4 (by omega), h1 5 (by omega), h1 6 (by omega), h2]
  exact h
theorem XF_mark (c : gM) (a b : Int32) : okk (FL_mark a b c) (fun s => ∀ x, x ≠ 19 → x ≠ 20 → x ≠ 21 → s x = c x) := by
  unfold FL_mark g_let
  exact okk_some fun x h1 h2 h3 => by rw [g_set_ne h1, r_put_ne h3, r_put_ne h2]
theorem cX_lS {c0 c s : gM} (h : cX lS c0 c) (hs : ∀ x, x ≠ 19 → x ≠ 20 → x ≠ 21 → s x = c x) : cX lS c0 s :=
  h.trans ⟨fun b _ h2 => hs b (fun z => h2 (Or.inl z)) (fun z => h2 (Or.inr (Or.inl z))) (fun z => h2 (Or.inr (Or.inr z))), fun k _ _ _ _ => by rw [hs 1 (by decide) (by decide) (by decide)]⟩
theorem Z_need {n : Nat} {B : Nat → Nat} {c0 m0 : gM} {o E D H : Nat} {c m : gM} (h : LZ n B c0 m0 o E D H c m) {x : Nat} (hx : x < 256) : oo (F_need (nI x) c) (FM_sign (nI x) m) (LZ n B c0 m0 o (E + 1) (D + 1) H) := by
  obtain ⟨a1, a2, ⟨e, f, k, b1, b2, b3, b4, b5, b6⟩ | a3⟩ := h
  · refine okk_w (P_need b2 hx) ?_
    intro s hs
    refine okk_w hs ?_
    rintro t ⟨d1, d2, -, d4⟩
    refine ⟨a1.trans d1.cX, a2.trans d2.mX, ?_⟩
    rcases d4 with ⟨e2, g1, g2, g3, g4⟩ | d4
    · obtain ⟨l1, l2⟩ := LQ_S b3 d1 d2
      exact Or.inl ⟨e2, e2, k, by omega, g4, l1, by omega, by rw [l2]; exact b5, by rw [d2.2 8 (by decide) (by decide) (by decide)]; exact b6⟩
    · exact Or.inr d4
  · obtain ⟨p, q, f, w, f0, f1, f2⟩ := a3
    refine okk_w (CF_need f0 f1 hx) ?_
    rintro s ⟨d1, e, d2⟩
    rw [MF_sign (by rw [f2.2.2.1]; exact f0)]
    exact okk_some ⟨a1.trans d1.cX, a2, Or.inr ⟨e, q, f, w, f0, d2, f2⟩⟩
theorem Z_note {n : Nat} {B : Nat → Nat} {c0 m0 : gM} (hn : n ≤ 150) {o E D H : Nat} {c m : gM} (h : LZ n B c0 m0 o E (D + 1) H c m) (what v : Int32) {H2 : Nat} (hw : (H2 = H + 1 ∧ H2 ≤ 24 ∧ (what = 0 ∨ (what = 1 ∧ ∃ x, x < 9 ∧ v = nI x))) ∨ (H2 + 1 = H ∧ 2 ≤ H ∧ ∃ h, 2 ≤ h ∧ h ≤ 8 ∧ what = nI h)) : oo (FL_mark (a_mk what) v c) (FM_notes what v m) (LZ n B c0 m0 o E D H2) := by
  obtain ⟨a1, a2, ⟨e, f, k, b1, b2, b3, b4, b5, b6⟩ | a3⟩ := h
  · have en := b2.1.2.2.2.2.1
    have hk : k < 150 := by omega
    refine okk_w (L_note hk b3.1 b2.2.1.2.2.1 what v) ?_
    intro s hs
    refine okk_w hs ?_
    rintro t ⟨d1, d2, d3, d4, d5, d6, d7⟩
    have j1 : cX lS c0 s := cX_lS a1 d2
    have j2 : mX lM m0 t := a2.trans ⟨fun b b1 b2 => d4 b b1 (fun z => b2 (by rw [z]; unfold lM; omega)), fun q hq => d5 q (by omega)⟩
    have j3 : tC n B e 0 (-1) s := tC_m b2.1 (d2 1 (by decide) (by decide) (by decide)) (d2 2 (by decide) (by decide) (by decide))
    have j4 : tM n B f 0 (-1) t := tM_m b2.2.1 (fun q hq => d5 q (by omega)) (d4 465 (by decide) (by omega))
    have jh : ∀ j, j ≤ k → l_ht t j = l_ht m j := fun j hj => l_ht_e j (fun i hi => d4 (669 + i) (by omega) (by omega))
    obtain ⟨q1, q0, q2, q3⟩ := b3
    have q2k := q2 k (Nat.le_refl k)
    have jk : l_ht t (k + 1) = H2 := by
      rw [l_ht_s, d6, jh k (Nat.le_refl k), b5]
      rcases hw with ⟨w1, w2, w3⟩ | ⟨w1, w2, x, w3, w4, w5⟩
      · rw [if_pos (show what = 0 ∨ what = 1 by rcases w3 with w3 | ⟨w3, -⟩; exact Or.inl w3; exact Or.inr w3)]
        exact w1.symm
      · have := nI_n01 w3 w4
        rw [if_neg (show ¬ (what = 0 ∨ what = 1) by rw [w5]; rintro (z | z); exact this.1 z; exact this.2.1 z)]
        omega
    have H24 : H2 ≤ 24 := by
      rcases hw with ⟨w1, w2, w3⟩ | ⟨w1, w2, -⟩
      · exact w2
      · omega
    refine ⟨j1, j2, Or.inl ⟨e, f, k + 1, b1, ⟨j3, j4, b2.2.2⟩, ⟨d1, by rw [d3 4 (by decide)]; exact q0, fun j hj => ?_, fun j hj => ?_⟩, by omega, jk, by rw [d5 8 (by decide)]; exact b6⟩⟩
    · by_cases z : j = k + 1
      · rw [z, jk]; exact H24
      · rw [jh j (by omega)]; exact q2 j (by omega)
    · by_cases z : j = k
      · rw [z, d6, d7, jh k (Nat.le_refl k), b5]
        rcases hw with ⟨w1, w2, w3⟩ | ⟨w1, w2, x, w3, w4, w5⟩
        · rcases w3 with w3 | w3
          · exact Or.inl w3
          · exact Or.inr (Or.inl w3)
        · exact Or.inr (Or.inr ⟨w2, x, w3, w4, w5⟩)
      · rw [d4 (669 + j) (by omega) (by omega), jh j (by omega)]; exact q3 j (by omega)
  · obtain ⟨p, q, f, w, f0, f1, f2⟩ := a3
    refine okk_w (XF_mark c (a_mk what) v) ?_
    intro s hs
    rw [MF_notes (by rw [f2.2.2.1]; exact f0)]
    exact okk_some ⟨cX_lS a1 hs, a2, Or.inr ⟨p, q, f, w, f0, tC_m f1 (hs 1 (by decide) (by decide) (by decide)) (hs 2 (by decide) (by decide) (by decide)), f2⟩⟩
theorem LQ_8 {k : Nat} {c m : gM} (h : LQ k c m) (x : Int32) : LQ k c (g_set m 464 8 x) ∧ l_ht (g_set m 464 8 x) k = l_ht m k :=
  LQ_e h rfl rfl rfl (by rw [g_set_k (by decide)]) (fun j _ => by rw [g_set_ne (by omega)])
theorem LZ_8 {n : Nat} {B : Nat → Nat} {c0 m0 : gM} {o E D H : Nat} {c m : gM} (h : LZ n B c0 m0 (o + 1) E D H c m) : LZ n B c0 m0 o E D H c (g_set m 464 8 (m 464 8 - (1 : Int32))) := by
  obtain ⟨a1, a2, ⟨e, f, k, b1, b2, b3, b4, b5, b6⟩ | a3⟩ := h
  · obtain ⟨l1, l2⟩ := LQ_8 b3 (m 464 8 - (1 : Int32))
    refine ⟨a1, mX_7 a2 (by decide), Or.inl ⟨e, f, k, b1, ⟨b2.1, tM_7 b2.2.1 (by decide), b2.2.2⟩, l1, b4, by rw [l2]; exact b5, ?_⟩⟩
    rw [g_set_eq, b6, ← nI_1, Int32.add_sub_cancel]
  · obtain ⟨p, q, f, w, f0, f1, f2⟩ := a3
    exact ⟨a1, mX_7 a2 (by decide), Or.inr ⟨p, q, f, w, f0, f1, tM_7 f2 (by decide)⟩⟩
