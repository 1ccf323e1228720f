/-! Steps told: what stands within one step. -/
def NZ (n : Nat) (B : Nat → Nat) (C H : Nat) (c0 m0 : gM) (o d lo E k kd : Nat) (Q : Prop) (r : Nat → Int32) (c m : gM) : Prop := cX wS c0 c ∧ mX wM m0 m ∧ ((∃ e, E ≤ e ∧ PS n B e e c m ∧ (c 28 5 = nI k ∧ m 464 28 = nI (k + 1) ∧ m 464 8 = nI o) ∧ BL C H c m d lo k ∧ sR 0 lo c0 m0 c m ∧ m (850 + k) 0 = nI kd ∧ (∀ i, i = 1 ∨ i = 2 → m (850 + k) i = r i) ∧ Q) ∨ PF n B c m)
theorem N_num {n : Nat} {B : Nat → Nat} {C H : Nat} {c0 m0 : gM} {o d lo E k kd : Nat} {Q : Prop} {r : Nat → Int32} {c m : gM} (h : NZ n B C H c0 m0 o d lo E k kd Q r c m) (l : Int32) {hi : Int32} (hhi : hi < 10000) (hl : 0 ≤ l) : okk (F_number l hi c) (fun s => okk (FM_number l hi m) (fun t => NZ n B C H c0 m0 o d lo E k kd (Q ∧ ∃ v, v ≤ 10000 ∧ s.1 = nI v ∧ t.1 = nI v ∧ FM_in (nI v) l hi = 1) r s.2 t.2)) := by
  obtain ⟨a1, a2, ⟨e, b1, b2, ⟨b3, b4, b5⟩, b6, b7, b8, b9, b10⟩ | a3⟩ := h
  · refine okk_w (P_number b2 l hhi hl) ?_
    rintro ⟨x, s⟩ hs
    refine okk_w hs ?_
    rintro ⟨y, t⟩ ⟨d1, d2, -, d4⟩
    dsimp only at d1 d2 d4 ⊢
    refine ⟨a1.trans d1.cX, a2.trans d2.mX, ?_⟩
    rcases d4 with ⟨e2, v, g1, g2, g3, g4, g5, g6, g7⟩ | d4
    · refine Or.inl ⟨e2, by omega, g3, ⟨by rw [d1.1 28 (by decide)]; exact b3, by rw [d2.2 28 (by decide) (by decide) (by decide)]; exact b4, by rw [d2.2 8 (by decide) (by decide) (by decide)]; exact b5⟩, BL_e d lo k (sR_S d1 d2) b6, b7.trans (sR_S d1 d2), by rw [d2.1 (850 + k) (by omega)]; exact b8, fun i hi => by rw [d2.1 (850 + k) (by omega)]; exact b9 i hi, b10, v, g6, g4, g5, g7⟩
    · exact Or.inr d4
  · obtain ⟨p, q, f, w, f0, f1, f2⟩ := a3
    refine okk_w (CF_number f0 f1 l hi) ?_
    rintro ⟨x, s⟩ ⟨d1, e, d2⟩
    rw [MF_number (by rw [f2.2.2.1]; exact f0)]
    exact okk_some ⟨a1.trans d1.cX, a2, Or.inr ⟨e, q, f, w, f0, d2, f2⟩⟩
theorem PF_o {n : Nat} {B : Nat → Nat} {c m : gM} (h : PF n B c m) {a i : Nat} {x : Int32} (h1 : a ≠ 464) (h2 : a ≠ 465) : PF n B c (g_set m a i x) := by
  obtain ⟨p, q, f, w, f0, f1, f2⟩ := h
  exact ⟨p, q, f, w, f0, f1, tM_o f2 h1 h2⟩
theorem sR_m {p q : Nat} {c m : gM} {k i : Nat} {x : Int32} (h : q ≤ k) : sR p q c m c (g_set m (850 + k) i x) := fun j _ hj => ⟨rfl, rfl, rfl, fun y _ => by rw [g_set_ne (by omega)]⟩
theorem N_set {n : Nat} {B : Nat → Nat} {C H : Nat} {c0 m0 : gM} {o d lo E k kd : Nat} {Q : Prop} {r : Nat → Int32} {c m : gM} (h : NZ n B C H c0 m0 o d lo E k kd Q r c m) (hk : k < 80) (hl : lo ≤ k) {i : Nat} (hi : i = 1 ∨ i = 2) (x : Int32) : NZ n B C H c0 m0 o d lo E k kd Q (upd r i x) c (g_set m (850 + k) i x) := by
  obtain ⟨a1, a2, ⟨e, b1, b2, ⟨b3, b4, b5⟩, b6, b7, b8, b9, b10⟩ | a3⟩ := h
  · have a4 : mX wM m0 (g_set m (850 + k) i x) := mX_set a2 (by omega) (by unfold wM; omega)
    refine ⟨a1, a4, Or.inl ⟨e, b1, ⟨b2.1, tM_o b2.2.1 (by omega) (by omega), b2.2.2⟩, ⟨b3, by rw [g_set_ne (by omega)]; exact b4, by rw [g_set_ne (by omega)]; exact b5⟩, BL_e d lo k (sR_m (Nat.le_refl k)) b6, b7.trans (sR_m hl), by rw [g_set_k (by omega)]; exact b8, fun y hy => ?_, b10⟩⟩
    by_cases z : y = i
    · rw [z, g_set_eq, upd_eq]
    · rw [g_set_k z, upd_ne z]; exact b9 y hy
  · exact ⟨a1, mX_set a2 (by omega) (by unfold wM; omega), Or.inr (PF_o a3 (by omega) (by omega))⟩
theorem N_q {n : Nat} {B : Nat → Nat} {C H : Nat} {c0 m0 : gM} {o d lo E k kd : Nat} {Q Q2 : Prop} {r : Nat → Int32} {c m : gM} (h : NZ n B C H c0 m0 o d lo E k kd Q r c m) (hq : Q → Q2) : NZ n B C H c0 m0 o d lo E k kd Q2 r c m := by
  obtain ⟨a1, a2, ⟨e, b1, b2, b3, b6, b7, b8, b9, b10⟩ | a3⟩ := h
  · exact ⟨a1, a2, Or.inl ⟨e, b1, b2, b3, b6, b7, b8, b9, hq b10⟩⟩
  · exact ⟨a1, a2, Or.inr a3⟩
/-- a step written by the class -/
theorem XF_write (c : gM) (a u v : Int32) : okk (FT_write a u v c) (fun s => ∀ x, ¬ (28 ≤ x ∧ x ≤ 31) → s x = c x) := by
  unfold FT_write g_let
  exact okk_some fun x h => by rw [g_set_ne (by omega), r_put_ne (by omega), r_put_ne (by omega), r_put_ne (by omega)]
theorem X_write {c : gM} {k : Nat} (hk : k < 150) (h : c 28 5 = nI k) (a u v : Int32) : okk (FT_write a u v c) (fun s => (∀ x, ¬ (28 ≤ x ∧ x ≤ 31) → s x = c x) ∧ (s 29 k = a ∧ s 30 k = u ∧ s 31 k = v) ∧ s 28 5 = nI (k + 1) ∧ (∀ j, j ≠ k → s 29 j = c 29 j ∧ s 30 j = c 30 j ∧ s 31 j = c 31 j)) := by
  unfold FT_write g_let
  dsimp only
  rw [h, r_put_in _ _ _ hk (by decide), g_set_ne (show 28 ≠ 29 by decide), h, r_put_in _ _ _ hk (by decide), g_set_ne (show 28 ≠ 30 by decide), g_set_ne (show 28 ≠ 29 by decide), h, r_put_in _ _ _ hk (by decide), g_set_ne (show 28 ≠ 31 by decide), g_set_ne (show 28 ≠ 30 by decide), g_set_ne (show 28 ≠ 29 by decide), h, nI_1]
  refine okk_some ⟨fun x hx => by rw [g_set_ne (by omega), g_set_ne (by omega), g_set_ne (by omega), g_set_ne (by omega)], ⟨?_, ?_, ?_⟩, g_set_eq _ _ _ _, fun j hj => ⟨?_, ?_, ?_⟩⟩
  · rw [g_set_ne (by decide), g_set_ne (by decide), g_set_ne (by decide), g_set_eq]
  · rw [g_set_ne (by decide), g_set_ne (by decide), g_set_eq]
  · rw [g_set_ne (by decide), g_set_eq]
  · rw [g_set_ne (by decide), g_set_ne (by decide), g_set_ne (by decide), g_set_k hj]
  · rw [g_set_ne (by decide), g_set_ne (by decide), g_set_k hj, g_set_ne (by decide)]
  · rw [g_set_ne (by decide), g_set_k hj, g_set_ne (by decide), g_set_ne (by decide)]
theorem cX_wS {c0 c s : gM} (h : cX wS c0 c) (hs : ∀ x, ¬ (28 ≤ x ∧ x ≤ 31) → s x = c x) : cX wS c0 s :=
  h.trans ⟨fun b _ h2 => hs b h2, fun k _ _ _ _ => by rw [hs 1 (by decide)]⟩
/-- a step's end: written, and its sign -/
theorem N_fin {n : Nat} {B : Nat → Nat} {C H : Nat} {c0 m0 : gM} {o d lo E k kd : Nat} {Q : Prop} {r : Nat → Int32} {c m : gM} (hn : n ≤ 150) (h : NZ n B C H c0 m0 o d lo E k kd Q r c m) (hl : lo ≤ k) (hE : 4 * (k + 1) ≤ E) (hk : k < 80) {u v : Int32} (hrow : Q → (kd = 0 ∧ ∃ h x, h < H ∧ x < C ∧ u = nI h ∧ v = nI x ∧ r 1 = nI h ∧ r 2 = nI x) ∨ kd = 1 ∨ kd = 2 ∨ (kd = 3 ∧ ∃ x, x < C ∧ u = nI x ∧ r 2 = nI x) ∨ (kd = 4 ∧ ∃ x b, x < C ∧ 1 ≤ b ∧ b ≤ 9 ∧ u = nI x ∧ v = nI b ∧ r 2 = nI x ∧ r 1 = nI b)) (rm : gM → Option gM) : okk (((FT_write (nI kd) u v c).bind fun s => some s).bind fun s => F_need (59 : Int32) s) (fun s => okk (FM_readsStep_J205 rm (850 + k) m) (SZ n B C H c0 m0 o d lo E s)) := by
  unfold FM_readsStep_J205 g_let
  dsimp only
  rw [b_id, b_id]
  obtain ⟨a1, a2, ⟨e, b1, b2, ⟨b3, b4, b5⟩, b6, b7, b8, b9, b10⟩ | a3⟩ := h
  · refine okk_bind (X_write (show k < 150 by omega) b3 (nI kd) u v) ?_
    rintro s ⟨d1, ⟨d2, d3, d4⟩, d5, d6⟩
    rw [b4]
    have p1 : PS n B e e s (g_set m (850 + k) 3 (nI (k + 1))) := ⟨tC_m b2.1 (d1 1 (by decide)) (d1 2 (by decide)), tM_o b2.2.1 (by omega) (by omega), b2.2.2⟩
    have row : ∀ q, q ≤ k → sR 0 q c m s (g_set m (850 + k) 3 (nI (k + 1))) := fun q hq j _ hj => ⟨(d6 j (by omega)).1, (d6 j (by omega)).2.1, (d6 j (by omega)).2.2, fun y _ => by rw [g_set_ne (by omega)]⟩
    have K : KC o (k + 1) s (g_set m (850 + k) 3 (nI (k + 1))) := ⟨d5, by rw [g_set_ne (by omega)]; exact b4, by rw [g_set_ne (by omega)]; exact b5⟩
    have hp : PL C H s (g_set m (850 + k) 3 (nI (k + 1))) k := by
      unfold PL
      rw [d2, d3, d4, g_set_k (show 0 ≠ 3 by decide), g_set_k (show 1 ≠ 3 by decide), g_set_k (show 2 ≠ 3 by decide), g_set_eq, b9 1 (Or.inl rfl), b9 2 (Or.inr rfl)]
      exact ⟨kd, rfl, b8, rfl, hrow b10⟩
    have hB : BL C H s (g_set m (850 + k) 3 (nI (k + 1))) d lo (k + 1) := by
      refine BL_add (Nat.le_succ k) (BL_e d lo k ((row k (Nat.le_refl k)).sub (Nat.zero_le lo) (Nat.le_refl k)) b6) ?_
      intro j j1 j2
      rw [show j = k by omega]
      cases d with
      | zero => exact hp
      | succ d => exact Or.inl hp
    refine okk_w (P_need p1 (k := 59) (by decide)) ?_
    intro s2 hs2
    refine okk_w hs2 ?_
    rintro t2 ⟨g1, g2, -, g4⟩
    rcases g4 with ⟨e2, u1, u2, u3, u4⟩ | g4
    · exact SZ_S (cX_wS a1 d1) (mX_set a2 (by omega) (by unfold wM; omega)) (by omega) (show lo ≤ k + 1 by omega) (by omega) u4 K hB (b7.trans (row lo hl)) g1 g2
    · exact ⟨(cX_wS a1 d1).trans g1.cX, (mX_set a2 (by omega) (by unfold wM; omega)).trans g2.mX, Or.inr g4⟩
  · obtain ⟨p, q, f, w, f0, f1, f2⟩ := PF_o a3 (a := 850 + k) (i := 3) (x := m 464 28) (by omega) (by omega)
    refine okk_bind (XF_write c (nI kd) u v) ?_
    intro s hs
    refine okk_w (CF_need f0 (tC_m f1 (hs 1 (by decide)) (hs 2 (by decide))) (k := 59) (by decide)) ?_
    rintro s2 ⟨d1, e, d2⟩
    rw [MF_sign (by rw [f2.2.2.1]; exact f0)]
    exact okk_some ⟨(cX_wS a1 hs).trans d1.cX, mX_set a2 (by omega) (by unfold wM; omega), Or.inr ⟨e, q, f, w, f0, d2, f2⟩⟩
/-- which step it is, said alike -/
theorem P_step {n : Nat} {B : Nat → Nat} {q q2 : Nat} {c m : gM} (h1 : tC n B (wdp n B q) 0 (-1) c) (h4 : c 1 4 = nI q) (h2 : tM n B q2 0 (-1) m) (hs : skp n B q2 = q) : ∃ k m2, FM_stepHere m = some (k, m2) ∧ tM n B q 0 (-1) m2 ∧ mS m m2 ∧ ((k = -1 ∧ F_was 15 c = some 0 ∧ F_was 16 c = some 0 ∧ F_was 11 c = some 0 ∧ F_was 17 c = some 0 ∧ F_was 12 c = some 0 ∧ F_was 18 c = some 0) ∨ (k = 0 ∧ F_was 15 c = some 1 ∧ wd n B q 15) ∨ (k = 1 ∧ F_was 15 c = some 0 ∧ F_was 16 c = some 1 ∧ wd n B q 16) ∨ (k = 2 ∧ F_was 15 c = some 0 ∧ F_was 16 c = some 0 ∧ F_was 11 c = some 1 ∧ wd n B q 11) ∨ (k = 3 ∧ F_was 15 c = some 0 ∧ F_was 16 c = some 0 ∧ F_was 11 c = some 0 ∧ F_was 17 c = some 1 ∧ wd n B q 17) ∨ (k = 4 ∧ F_was 15 c = some 0 ∧ F_was 16 c = some 0 ∧ F_was 11 c = some 0 ∧ F_was 17 c = some 0 ∧ F_was 12 c = some 1 ∧ wd n B q 12) ∨ (k = 5 ∧ F_was 15 c = some 0 ∧ F_was 16 c = some 0 ∧ F_was 11 c = some 0 ∧ F_was 17 c = some 0 ∧ F_was 12 c = some 0 ∧ F_was 18 c = some 1 ∧ wd n B q 18)) := by
  have hqq : skp n B q = q := by rw [← hs]; exact skp_i q2
  unfold FM_stepHere
  obtain ⟨b0, n0, x0, y0, u0, v0, w0⟩ := W_pair h1 h4 h2 hs (t := 15) (by decide) (by decide) six_15
  rw [y0, Option.bind_some]
  dsimp only
  rcases w0 with ⟨rfl, w0⟩ | ⟨rfl, -⟩
  · rw [if_neg i10]
    exact ⟨0, n0, rfl, u0, v0, Or.inr (Or.inl ⟨rfl, x0, w0⟩)⟩
  · rw [if_pos rfl]
    obtain ⟨b1, n1, x1, y1, u1, v1, w1⟩ := W_pair h1 h4 u0 hqq (t := 16) (by decide) (by decide) six_16
    rw [y1, Option.bind_some]
    dsimp only
    have z1 := v0.trans v1
    rcases w1 with ⟨rfl, w1⟩ | ⟨rfl, -⟩
    · rw [if_neg i10]
      exact ⟨1, n1, rfl, u1, z1, Or.inr (Or.inr (Or.inl ⟨rfl, x0, x1, w1⟩))⟩
    · rw [if_pos rfl]
      obtain ⟨b2, n2, x2, y2, u2, v2, w2⟩ := W_pair h1 h4 u1 hqq (t := 11) (by decide) (by decide) six_11
      rw [y2, Option.bind_some]
      dsimp only
      have z2 := z1.trans v2
      rcases w2 with ⟨rfl, w2⟩ | ⟨rfl, -⟩
      · rw [if_neg i10]
        exact ⟨2, n2, rfl, u2, z2, Or.inr (Or.inr (Or.inr (Or.inl ⟨rfl, x0, x1, x2, w2⟩)))⟩
      · rw [if_pos rfl]
        obtain ⟨b3, n3, x3, y3, u3, v3, w3⟩ := W_pair h1 h4 u2 hqq (t := 17) (by decide) (by decide) six_17
        rw [y3, Option.bind_some]
        dsimp only
        have z3 := z2.trans v3
        rcases w3 with ⟨rfl, w3⟩ | ⟨rfl, -⟩
        · rw [if_neg i10]
          exact ⟨3, n3, rfl, u3, z3, Or.inr (Or.inr (Or.inr (Or.inr (Or.inl ⟨rfl, x0, x1, x2, x3, w3⟩))))⟩
        · rw [if_pos rfl]
          obtain ⟨b4, n4, x4, y4, u4, v4, w4⟩ := W_pair h1 h4 u3 hqq (t := 12) (by decide) (by decide) six_12
          rw [y4, Option.bind_some]
          dsimp only
          have z4 := z3.trans v4
          rcases w4 with ⟨rfl, w4⟩ | ⟨rfl, -⟩
          · rw [if_neg i10]
            exact ⟨4, n4, rfl, u4, z4, Or.inr (Or.inr (Or.inr (Or.inr (Or.inr (Or.inl ⟨rfl, x0, x1, x2, x3, x4, w4⟩)))))⟩
          · rw [if_pos rfl]
            obtain ⟨b5, n5, x5, y5, u5, v5, w5⟩ := W_pair h1 h4 u4 hqq (t := 18) (by decide) (by decide) six_18
            rw [y5, Option.bind_some]
            dsimp only
            have z5 := z4.trans v5
            rcases w5 with ⟨rfl, w5⟩ | ⟨rfl, -⟩
            · rw [if_neg i10]
              exact ⟨5, n5, rfl, u5, z5, Or.inr (Or.inr (Or.inr (Or.inr (Or.inr (Or.inr (⟨rfl, x0, x1, x2, x3, x4, x5, w5⟩))))))⟩
            · rw [if_pos rfl]
              exact ⟨-1, n5, rfl, u5, z5, Or.inl ⟨rfl, x0, x1, x2, x3, x4, x5⟩⟩
