/-! Steps told: loops, and all levels. -/
theorem okk_b2 {α β γ : Type} {o : Option α} {f : α → Option β} {g : β → Option γ} {Q : β → Prop} {P : γ → Prop} (h : okk (o.bind f) Q) (k : ∀ s, Q s → okk (g s) P) : okk (o.bind fun a => (f a).bind g) P := by
  obtain ⟨x, e, hx⟩ := h
  cases o with
  | none => exact nomatch (show (none : Option β) = some x from e)
  | some a =>
    have e2 : f a = some x := e
    show okk ((f a).bind g) P
    rw [e2]
    exact k x hx
/-- as SZ, the model's place behind the blanks -/
def SB (n : Nat) (B : Nat → Nat) (C H : Nat) (c0 m0 : gM) (o d lo E : Nat) (c m : gM) : Prop := cX wS c0 c ∧ mX wM m0 m ∧ ((∃ e k, E ≤ e ∧ lo ≤ k ∧ 4 * k ≤ e ∧ PS n B e (skp n B e) c m ∧ KC o k c m ∧ BL C H c m d lo k ∧ sR 0 lo c0 m0 c m) ∨ PF n B c m)
theorem SZ_b {n : Nat} {B : Nat → Nat} {C H : Nat} {c0 m0 : gM} {o d lo E : Nat} {c m : gM} (h : SZ n B C H c0 m0 o d lo E c m) : okk (FM_blanks m) (SB n B C H c0 m0 o d lo E c) := by
  obtain ⟨a1, a2, ⟨e, f, k, b1, b2, b3, b4, b5, b6, b7⟩ | a3⟩ := h
  · refine okk_w (M_blanks b4.2.1) ?_
    rintro t ⟨t1, t2⟩
    rw [← b4.2.2] at t1
    exact ⟨a1, a2.trans t2.mX, Or.inl ⟨e, k, b1, b2, b3, ⟨b4.1, t1, (skp_i e).symm⟩, KC_S b5 (cS.rfl' c) t2, BL_e d lo k (sR_S (cS.rfl' c) t2) b6, b7.trans (sR_S (cS.rfl' c) t2)⟩⟩
  · obtain ⟨p, q, f, w, f0, f1, f2⟩ := a3
    refine okk_w (M_blanks f2) ?_
    rintro t ⟨t1, t2⟩
    exact ⟨a1, a2.trans t2.mX, Or.inr ⟨p, _, f, w, f0, f1, t1⟩⟩
theorem Z_loopN {n : Nat} {B : Nat → Nat} (hn : n ≤ 150) {C H o d : Nat} {rc : Int32 → gM → Option gM} {rm : gM → Option gM} (hR : StR n B C H o d rc rm) {c0 m0 : gM} (hKP : KP C H c0 m0) (x2 lo : Nat) : ∀ (fl fm E x4 : Nat) (c m : gM), n + 1 < E + fl → n + 1 < E + fm → 0 < fl → 0 < fm → 4 * x4 ≤ E → SB n B C H c0 m0 o d lo E c m → okk (FT_readAll_L14 (nI o) rc fl (93 : Int32) (nI x4) c) (fun s => ∃ N, FM_readsStep_L158 rm fm x2 m = FM_readsStep_J189 rm x2 N ∧ SZ n B C H c0 m0 o d lo E s N) := by
  intro fl
  induction fl with
  | zero => intro fm E x4 c m _ _ h; exact absurd h (by omega)
  | succ fl ih =>
    intro fm E x4 c m f1 f2 _ f4 hx4 hZ
    obtain ⟨fm, rfl⟩ : ∃ g, fm = g + 1 := ⟨fm - 1, by omega⟩
    rw [FT_readAll_L14, FM_readsStep_L158]
    obtain ⟨a1, a2, ⟨e, k, b1, b2, b3, b4, b5, b6, b7⟩ | a3⟩ := hZ
    · obtain ⟨p1, p2, p3⟩ := b4
      have en : e ≤ n := p1.2.2.2.2.1
      have hsk := skp_le (B := B) en
      rw [if_neg (show ¬ (150 : Int32) ≤ nI x4 from nI_ge (b := 150) (by omega) (by decide)), if_pos (faulty_0 p1), if_pos p2.2.2.1, p2.2.1]
      refine okk_bind (L_next p1) ?_
      rintro ⟨x, c1⟩ ⟨rfl, k1, k2, k3⟩
      dsimp only at k1 k2 k3 ⊢
      obtain ⟨q, eq⟩ : ∃ q, q = skp n B e := ⟨_, rfl⟩
      have hsq : skp n B q = q := by rw [eq]; exact skp_i e
      rw [← eq] at k1 hsk p2 ⊢
      rw [M_byteAt p2 (by omega), Option.bind_some]
      have k3m := mS.rfl' m
      by_cases hc : chr n B q = (93 : Int32)
      · rw [if_pos hc, if_pos hc]
        exact okk_some ⟨m, rfl, SZ_S a1 a2 (show E ≤ q by omega) b2 (by omega) ⟨k1, p2, rfl⟩ b5 b6 b7 k3 k3m⟩
      · rw [if_neg hc, if_neg hc]
        have st := hR c0 m0 lo E q k c1 m hKP (a1.trans k3.cX) a2 (by omega) b2 (by omega) ⟨k1, p2, rfl⟩ hsq (KC_S b5 k3 k3m) (BL_e d lo k (sR_S k3 k3m) b6) (b7.trans (sR_S k3 k3m))
        refine okk_b2 st ?_
        rintro s ⟨t, yt, z⟩
        obtain ⟨t2, yt2, z2⟩ := SZ_b z
        rw [yt, Option.bind_some, yt2, Option.bind_some, nI_1]
        refine okk_w (ih fm (E + 4) (x4 + 1) s t2 (by omega) (by omega) (by omega) (by omega) (by omega) z2) ?_
        rintro s2 ⟨N, y, z3⟩
        exact ⟨N, y, SZ_w z3 (by omega)⟩
    · obtain ⟨p, q, f, w, f0, f1, f2⟩ := a3
      rw [if_neg (show ¬ m 464 5 = 0 by rw [f2.2.2.1]; exact f0), if_neg (faulty_1 f0 f1)]
      by_cases z : (150 : Int32) ≤ nI x4
      · rw [if_pos z]; exact okk_some ⟨m, rfl, a1, a2, Or.inr ⟨p, q, f, w, f0, f1, f2⟩⟩
      · rw [if_neg z]; exact okk_some ⟨m, rfl, a1, a2, Or.inr ⟨p, q, f, w, f0, f1, f2⟩⟩
theorem Z_loopT {n : Nat} {B : Nat → Nat} (hn : n ≤ 150) {C H d : Nat} {rc : Int32 → gM → Option gM} (nn : Int32) (hR : StR n B C H 0 d rc (FM_readsStep 10)) {c0 m0 : gM} (hKP : KP C H c0 m0) : ∀ (fl fm E x4 : Nat) (c m : gM), n < E + fl → n < E + fm → 0 < fl → 0 < fm → 4 * x4 ≤ E → SB n B C H c0 m0 0 d 0 E c m → okk (FT_readAll_L14 (nI 0) rc fl (-1 : Int32) (nI x4) c) (fun s => ∃ N, FM_work_L72 nn fm m = FM_work_J101 nn N ∧ SZ n B C H c0 m0 0 d 0 E s N) := by
  intro fl
  induction fl with
  | zero => intro fm E x4 c m _ _ h; exact absurd h (by omega)
  | succ fl ih =>
    intro fm E x4 c m f1 f2 _ f4 hx4 hZ
    obtain ⟨fm, rfl⟩ : ∃ g, fm = g + 1 := ⟨fm - 1, by omega⟩
    rw [FT_readAll_L14, FM_work_L72]
    obtain ⟨a1, a2, ⟨e, k, b1, b2, b3, b4, b5, b6, b7⟩ | a3⟩ := hZ
    · obtain ⟨p1, p2, p3⟩ := b4
      have en : e ≤ n := p1.2.2.2.2.1
      have hsk := skp_le (B := B) en
      rw [if_neg (show ¬ (150 : Int32) ≤ nI x4 from nI_ge (b := 150) (by omega) (by decide)), if_pos (faulty_0 p1), if_pos p2.2.2.1, p2.1, p2.2.1]
      refine okk_bind (L_next p1) ?_
      rintro ⟨x, c1⟩ ⟨rfl, k1, k2, k3⟩
      dsimp only at k1 k2 k3 ⊢
      obtain ⟨q, eq⟩ : ∃ q, q = skp n B e := ⟨_, rfl⟩
      have hsq : skp n B q = q := by rw [eq]; exact skp_i e
      rw [← eq] at k1 hsk p2 ⊢
      have k3m := mS.rfl' m
      by_cases hq : q < n
      · have hc : ¬ chr n B q = (-1 : Int32) := by
          rw [chr_in hq]
          have hB := (k1.2.2.2.2.2.2 q hq).1
          exact (by decide +kernel : ∀ b, b < 256 → ¬ nI b = (-1 : Int32)) _ hB
        rw [if_neg hc, if_neg (show ¬ nI n ≤ nI q from nI_ge hq (by omega))]
        have st := hR c0 m0 0 E q k c1 m hKP (a1.trans k3.cX) a2 (by omega) b2 (by omega) ⟨k1, p2, rfl⟩ hsq (KC_S b5 k3 k3m) (BL_e d 0 k (sR_S k3 k3m) b6) (b7.trans (sR_S k3 k3m))
        refine okk_b2 st ?_
        rintro s ⟨t, yt, z⟩
        obtain ⟨t2, yt2, z2⟩ := SZ_b z
        rw [yt, Option.bind_some, yt2, Option.bind_some, nI_1]
        refine okk_w (ih fm (E + 4) (x4 + 1) s t2 (by omega) (by omega) (by omega) (by omega) (by omega) z2) ?_
        rintro s2 ⟨N, y, z3⟩
        exact ⟨N, y, SZ_w z3 (by omega)⟩
      · have hq2 : q = n := by omega
        rw [if_pos (chr_out hq), if_pos (show nI n ≤ nI q by rw [hq2]; exact Int32.le_refl _)]
        exact okk_some ⟨m, rfl, SZ_S a1 a2 (show E ≤ q by omega) b2 (by omega) ⟨k1, p2, rfl⟩ b5 b6 b7 k3 k3m⟩
    · obtain ⟨p, q, f, w, f0, f1, f2⟩ := a3
      rw [if_neg (show ¬ m 464 5 = 0 by rw [f2.2.2.1]; exact f0), if_neg (faulty_1 f0 f1)]
      by_cases z : (150 : Int32) ≤ nI x4
      · rw [if_pos z]; exact okk_some ⟨m, rfl, a1, a2, Or.inr ⟨p, q, f, w, f0, f1, f2⟩⟩
      · rw [if_neg z]; exact okk_some ⟨m, rfl, a1, a2, Or.inr ⟨p, q, f, w, f0, f1, f2⟩⟩
/-- after a fault -/
theorem MX_205 {n : Nat} {B : Nat → Nat} {q : Nat} {f w : Int32} {m : gM} (f0 : f ≠ 0) (h : tM n B q f w m) {k : Nat} (hk : k < 80) (rm : gM → Option gM) : okk (FM_readsStep_J205 rm (850 + k) m) (fun t => mX wM m t ∧ tM n B q f w t) := by
  unfold FM_readsStep_J205 g_let
  dsimp only
  have h2 := tM_o h (a := 850 + k) (k := 3) (x := m 464 28) (by omega) (by omega)
  rw [MF_sign (by rw [h2.2.2.1]; exact f0), Option.bind_some]
  exact okk_some ⟨mX_set (mX.rfl' wM m) (by omega) (by unfold wM; omega), h2⟩
theorem MX_189 {n : Nat} {B : Nat → Nat} {q : Nat} {f w : Int32} {m : gM} (f0 : f ≠ 0) (h : tM n B q f w m) {k : Nat} (hk : k < 80) (rm : gM → Option gM) : okk (FM_readsStep_J189 rm (850 + k) m) (fun t => mX wM m t ∧ tM n B q f w t) := by
  unfold FM_readsStep_J189
  rw [MF_sign (by rw [h.2.2.1]; exact f0), Option.bind_some]
  refine okk_w (MX_205 f0 (tM_7 h (k := 8) (x := m 464 8 - 1) (by decide)) hk rm) ?_
  rintro t ⟨t1, t2⟩
  exact ⟨(mX_7 (mX.rfl' wM m) (by decide)).trans t1, t2⟩
theorem CX_93 {n : Nat} {B : Nat → Nat} {p : Nat} {f w : Int32} {c : gM} (f0 : f ≠ 0) (h : tC n B p f w c) (x : Int32) : okk (((F_need (93 : Int32) c).bind fun s6 => g_let (r_put s6 31 150 x (s6 28 5)) fun M7 => some M7).bind fun s7 => F_need (59 : Int32) s7) (fun s => cX wS c s ∧ ∃ e, tC n B e f w s) := by
  refine okk_bb (CF_need f0 h (k := 93) (by decide)) ?_
  rintro s ⟨s1, e, s2⟩
  unfold g_let
  dsimp only
  rw [Option.bind_some]
  refine okk_w (CF_need f0 (tC_put s2 (a := 31) (k := 150) (i := x) (x := s 28 5) (by decide) (by decide)) (k := 59) (by decide)) ?_
  rintro t ⟨t1, e2, t2⟩
  exact ⟨(cX_put s1.cX (by decide) (by unfold wS; omega)).trans t1.cX, e2, t2⟩
theorem CX_all {n : Nat} {B : Nat → Nat} {p : Nat} {f w : Int32} {c : gM} (f0 : f ≠ 0) (h : tC n B p f w c) (ro : Int32 → gM → Option gM) (op : Int32) : FT_readAll_B ro op c = some c := by
  unfold FT_readAll_B
  by_cases z : op = 0
  · rw [if_pos z, FT_readAll_L14, if_neg (show ¬ (150 : Int32) ≤ 0 by decide), if_neg (faulty_1 f0 h)]
  · rw [if_neg z, FT_readAll_L14, if_neg (show ¬ (150 : Int32) ≤ 0 by decide), if_neg (faulty_1 f0 h)]
theorem Z_again {n : Nat} {B : Nat → Nat} (hn : n ≤ 150) {C H o d : Nat} (ho : o ≤ 6) (hd : d = 6 - o) {ro : Int32 → gM → Option gM} {rm : gM → Option gM} (hs : o < 6 → StR n B C H (o + 1) (d - 1) ro rm) : AgR n B C H o d (FT_readAgain_B (FT_readAll_B ro)) rm := by
  intro c0 m0 lo k q c c2 m m2 hKP a1 a2 h1 h4 hc h2 hm hK hB hR hl hk hE
  unfold FT_readAgain_B FM_readsStep_J19
  rw [if_pos rfl]
  by_cases o6 : o < 6
  · rw [if_pos (show nI o < (6 : Int32) from nI_lt (b := 6) o6 (by decide)), nI_1]
    have hS := hs o6
    obtain ⟨k1, k2, k3⟩ := hK
    have e8 : m2 464 8 = nI o := by rw [hm.2 8 (by decide) (by decide) (by decide)]; exact k3
    rw [opens_1 o6 h2.2.2.1 e8, Option.bind_some]
    dsimp only
    rw [if_neg i10]
    have hm8 : mS (g_set m 464 8 (nI (o + 1))) (g_set m2 464 8 (nI (o + 1))) := ⟨fun b hb => by rw [g_set_ne hb, g_set_ne hb]; exact hm.1 b hb, fun x x4 x5 x6 => by
      by_cases z : x = 8
      · rw [z, g_set_eq, g_set_eq]
      · rw [g_set_k z, g_set_k z]; exact hm.2 x x4 x5 x6⟩
    have r8 : ∀ p q, sR p q c m c (g_set m 464 8 (nI (o + 1))) := fun p q j _ _ => ⟨rfl, rfl, rfl, fun i _ => by rw [g_set_ne (by omega)]⟩
    obtain ⟨M4, y4, z0⟩ := N_open (C := C) (H := H) (o := o + 1) (d := d) (kd := 5) a1 (mX_7 a2 (k := 8) (x := nI (o + 1)) (by decide)) h1 hc (tM_7 h2 (k := 8) (x := nI (o + 1)) (by decide)) hm8 ⟨k1, by rw [g_set_k (by decide)]; exact k2, g_set_eq _ _ _ _⟩ (BL_e d lo k (r8 lo k) hB) (hR.trans (r8 0 lo)) hk hl rm
    rw [show FM_readsStep_J32 rm (5 : Int32) (g_set m2 464 8 (nI (o + 1))) = _ from y4, if_neg (by decide), J88_n (by decide) (by decide) (by decide)]
    unfold FM_readsStep_J118
    rw [if_neg (by decide)]
    unfold FM_readsStep_J133
    rw [if_pos (show nI 5 = (5 : Int32) from rfl)]
    have e28 : c2 28 5 = nI k := by rw [hc.1 28 (by decide)]; exact k1
    rw [e28]
    refine okk_bb (N_num z0 0 (hi := 60) (by decide) (by decide)) ?_
    rintro ⟨u, s⟩ hs1
    obtain ⟨⟨v, t⟩, yt, z1⟩ := hs1
    dsimp only at yt z1 ⊢
    rw [yt, Option.bind_some]
    have z2 := N_set z1 hk hl (i := 1) (Or.inl rfl) v
    unfold g_let
    dsimp only
    obtain ⟨a3, a4, ⟨e, b1, b2, ⟨b3, b4, b5⟩, b6, b7, b8, b9, -, x, x1, x2, x3, x4⟩ | hF⟩ := z2
    · have en : e ≤ n := b2.1.2.2.2.2.1
      refine okk_bb (X_write (show k < 150 by omega) b3 5 u 0) ?_
      rintro s3 ⟨d1, ⟨d2, d3, d4⟩, d5, d6⟩
      have p1 : PS n B e e s3 (g_set t (850 + k) 1 v) := ⟨tC_m b2.1 (d1 1 (by decide)) (d1 2 (by decide)), b2.2.1, b2.2.2⟩
      have c3 := cX_wS a3 d1
      obtain ⟨s4, xs4, t4, yt4, g1, g2, -, g4⟩ := P_need p1 (k := 91) (by decide)
      rw [show FM_sign (91 : Int32) (g_set t (850 + k) 1 v) = some t4 from yt4, Option.bind_some]
      refine okk_bb ⟨s4, xs4, rfl⟩ ?_
      rintro _ rfl
      have c4 := c3.trans g1.cX
      have m4 := a4.trans g2.mX
      rcases g4 with ⟨e2, u1, u2, u3, u4⟩ | hF
      · obtain ⟨t5, yt5, v1, v2⟩ := M_blanks u4.2.1
        rw [yt5, Option.bind_some]
        have m5 := m4.trans v2.mX
        have x5 : cS s3 s4 := g1
        -- the steps within
        have hb0 : SB n B C H s4 t5 (o + 1) (d - 1) (k + 1) e2 s4 t5 := by
          refine ⟨cX.rfl' wS s4, mX.rfl' wM t5, Or.inl ⟨e2, k + 1, Nat.le_refl _, Nat.le_refl _, by omega, ⟨u4.1, v1, (skp_i e2).symm⟩, ⟨?_, ?_, ?_⟩, ?_, sR.rfl' 0 (k + 1) s4 t5⟩⟩
          · rw [g1.1 28 (by decide)]; exact d5
          · rw [v2.2 28 (by decide) (by decide) (by decide), g2.2 28 (by decide) (by decide) (by decide)]; exact b4
          · rw [v2.2 8 (by decide) (by decide) (by decide), g2.2 8 (by decide) (by decide) (by decide)]; exact b5
          · rw [BL_i]; intro j j1 j2; exact absurd j2 (by omega)
        have KP5 : KP C H s4 t5 := KP_x hKP c4 m5
        obtain ⟨s5, xs5, N, yN, w1, w2, w3⟩ := Z_loopN hn hS KP5 (850 + k) (k + 1) 1000 1000 e2 0 s4 t5 (by omega) (by omega) (by decide) (by decide) (by omega) hb0
        rw [yN]
        have xs6 : FT_readAll_B ro (nI (o + 1)) s4 = some s5 := by
          unfold FT_readAll_B
          rw [if_neg (show ¬ nI (o + 1) = (0 : Int32) from fun z => absurd ((nI_eq (by omega) (by decide)).mp (show nI (o + 1) = nI 0 from z)) (by omega))]
          exact xs5
        rw [xs6, Option.bind_some]
        have c5 := c4.trans w1
        have m6 := m5.trans w2
        rcases w3 with ⟨e3, f3, kk, q1, q2, q3, q4, ⟨q5, q6, q7⟩, q8, q9⟩ | hF
        · unfold FM_readsStep_J189
          obtain ⟨s6, xs7, t6, yt6, r1, r2, -, r4⟩ := P_need q4 (k := 93) (by decide)
          refine okk_bb ⟨s6, xs7, rfl⟩ ?_
          rintro _ rfl
          rw [show FM_sign (93 : Int32) N = some t6 from yt6, Option.bind_some, Option.bind_some, r_put_in _ _ _ (show k < 150 by omega) (by decide), r1.1 28 (by decide), q5, r2.2 8 (by decide) (by decide) (by decide), q7, ← nI_1 o, Int32.add_sub_cancel]
          have c6 : cX wS c0 (g_set s6 31 k (nI kk)) := cX_set (c5.trans r1.cX) (by decide) (by unfold wS; omega)
          have m7 : mX wM m0 (g_set t6 464 8 (nI o)) := mX_7 (m6.trans r2.mX) (by decide)
          rcases r4 with ⟨e4, o1, o2, o3, o4⟩ | hF
          · unfold FM_readsStep_J205 g_let
            dsimp only
            have t628 : t6 464 28 = nI kk := by rw [r2.2 28 (by decide) (by decide) (by decide)]; exact q6
            rw [g_set_k (show 28 ≠ 8 by decide), t628, b_id]
            have hp8 : PS n B e4 e4 (g_set s6 31 k (nI kk)) (g_set (g_set t6 464 8 (nI o)) (850 + k) 3 (nI kk)) := ⟨tC_o o4.1 (by decide) (by decide), tM_o (tM_7 o4.2.1 (by decide)) (by omega) (by omega), rfl⟩
            have m8 : mX wM m0 (g_set (g_set t6 464 8 (nI o)) (850 + k) 3 (nI kk)) := mX_set m7 (by omega) (by unfold wM; omega)
            -- rows but row k are as they were
            have rO : ∀ p q2, (q2 ≤ k ∨ k < p) → sR p q2 s6 t6 (g_set s6 31 k (nI kk)) (g_set (g_set t6 464 8 (nI o)) (850 + k) 3 (nI kk)) := fun p q2 hpq j j1 j2 => ⟨rfl, rfl, by rw [g_set_k (by omega)], fun i _ => by rw [g_set_ne (by omega), g_set_ne (by omega)]⟩
            have rW : sR 0 k s (g_set t (850 + k) 1 v) s3 (g_set t (850 + k) 1 v) := fun j _ hj => ⟨(d6 j (by omega)).1, (d6 j (by omega)).2.1, (d6 j (by omega)).2.2, fun _ _ => rfl⟩
            have rA : sR 0 (k + 1) s3 (g_set t (850 + k) 1 v) s6 t6 := ((sR_S g1 g2).trans (sR_S (cS.rfl' s4) v2)).trans (q9.trans (sR_S r1 r2))
            have rT : sR 0 k s (g_set t (850 + k) 1 v) (g_set s6 31 k (nI kk)) (g_set (g_set t6 464 8 (nI o)) (850 + k) 3 (nI kk)) := (rW.trans (rA.sub (Nat.le_refl 0) (by omega))).trans (rO 0 k (Or.inl (Nat.le_refl k)))
            obtain ⟨rk1, rk2, -, rk4⟩ := rA k (by omega) (by omega)
            have x60 : x ≤ 60 := (nI_leI (by omega) (by decide)).mp (show nI x ≤ nI 60 from (in_nI (lo := 0) (show x < 2 ^ 31 by omega) (by decide) x4).2)
            have inner : BL C H (g_set s6 31 k (nI kk)) (g_set (g_set t6 464 8 (nI o)) (850 + k) 3 (nI kk)) (d - 1) (k + 1) kk := BL_e _ _ _ (rO (k + 1) kk (Or.inr (by omega))) (BL_e _ _ _ (sR_S r1 r2) q8)
            obtain ⟨dd, rfl⟩ : ∃ x, d = x + 1 := ⟨d - 1, by omega⟩
            have rowk : AG (BL C H (g_set s6 31 k (nI kk)) (g_set (g_set t6 464 8 (nI o)) (850 + k) 3 (nI kk)) dd) (g_set s6 31 k (nI kk)) (g_set (g_set t6 464 8 (nI o)) (850 + k) 3 (nI kk)) kk k := by
              refine ⟨kk, x, by omega, Nat.le_refl _, x60, ?_, ?_, ?_, ?_, ?_, ?_, inner⟩
              · rw [g_set_ne (by decide), rk1, d2]; rfl
              · rw [g_set_k (by decide), g_set_ne (by omega), rk4 0 (by decide)]; exact b8
              · rw [g_set_ne (by decide), rk2, d3]; exact x2
              · rw [g_set_eq]
              · rw [g_set_k (by decide), g_set_ne (by omega), rk4 1 (by decide), g_set_eq]; exact x3
              · rw [g_set_eq]
            have hB2 : BL C H (g_set s6 31 k (nI kk)) (g_set (g_set t6 464 8 (nI o)) (850 + k) 3 (nI kk)) (dd + 1) lo kk := by
              refine BL_add (show k ≤ kk by omega) (BL_e _ _ _ (rT.sub (Nat.zero_le lo) (Nat.le_refl k)) b6) ?_
              intro j j1 j2
              by_cases z : j = k
              · rw [z]; exact Or.inr rowk
              · exact (BL_i.mp (BL_up _ _ _ inner)) j (by omega) j2
            have K8 : KC o kk (g_set s6 31 k (nI kk)) (g_set (g_set t6 464 8 (nI o)) (850 + k) 3 (nI kk)) := ⟨by rw [g_set_ne (by decide), r1.1 28 (by decide)]; exact q5, by rw [g_set_ne (by omega), g_set_k (by decide)]; exact t628, by rw [g_set_ne (by omega), g_set_eq]⟩
            refine okk_w (P_need hp8 (k := 59) (by decide)) ?_
            intro s9 hs9
            refine okk_w hs9 ?_
            rintro t9 ⟨i1, i2, -, i4⟩
            rcases i4 with ⟨e5, j1, j2, j3, j4⟩ | hF
            · exact SZ_S c6 m8 (by omega) (show lo ≤ kk by omega) (by omega) j4 K8 hB2 (b7.trans (rT.sub (Nat.le_refl 0) hl)) i1 i2
            · exact ⟨c6.trans i1.cX, m8.trans i2.mX, Or.inr hF⟩
          · obtain ⟨pp, qq2, f, w, f0, f1, f2⟩ := hF
            refine okk_w (CF_need f0 (tC_o f1 (a := 31) (k := k) (x := nI kk) (by decide) (by decide)) (k := 59) (by decide)) ?_
            rintro s9 ⟨i1, e9, i2⟩
            refine okk_w (MX_205 f0 (tM_7 f2 (k := 8) (x := nI o) (by decide)) hk rm) ?_
            rintro t9 ⟨i3, i4⟩
            exact ⟨c6.trans i1.cX, m7.trans i3, Or.inr ⟨e9, qq2, f, w, f0, i2, i4⟩⟩
        · obtain ⟨pp, qq2, f, w, f0, f1, f2⟩ := hF
          refine okk_w (CX_93 f0 f1 (nI k)) ?_
          rintro s9 ⟨i1, e9, i2⟩
          refine okk_w (MX_189 f0 f2 hk rm) ?_
          rintro t9 ⟨i3, i4⟩
          exact ⟨c5.trans i1, m6.trans i3, Or.inr ⟨e9, qq2, f, w, f0, i2, i4⟩⟩
      · obtain ⟨pp, qq2, f, w, f0, f1, f2⟩ := hF
        obtain ⟨t5, yt5, v1, v2⟩ := M_blanks f2
        rw [yt5, Option.bind_some, CX_all f0 f1, Option.bind_some, FM_readsStep_L158, if_neg (show ¬ t5 464 5 = 0 by rw [v1.2.2.1]; exact f0)]
        refine okk_w (CX_93 f0 f1 (nI k)) ?_
        rintro s9 ⟨i1, e9, i2⟩
        refine okk_w (MX_189 f0 v1 hk rm) ?_
        rintro t9 ⟨i3, i4⟩
        exact ⟨c4.trans i1, (m4.trans v2.mX).trans i3, Or.inr ⟨e9, _, f, w, f0, i2, i4⟩⟩
    · obtain ⟨pp, qq2, f, w, f0, f1, f2⟩ := hF
      refine okk_bb (XF_write s 5 u 0) ?_
      intro s3 hs3
      have c3 := cX_wS a3 hs3
      refine okk_bb (CF_need f0 (tC_m f1 (hs3 1 (by decide)) (hs3 2 (by decide))) (k := 91) (by decide)) ?_
      rintro s4 ⟨g1, e4, g2⟩
      rw [MF_sign (by rw [f2.2.2.1]; exact f0), Option.bind_some]
      obtain ⟨t5, yt5, v1, v2⟩ := M_blanks f2
      rw [yt5, Option.bind_some, CX_all f0 g2, Option.bind_some, FM_readsStep_L158, if_neg (show ¬ t5 464 5 = 0 by rw [v1.2.2.1]; exact f0)]
      refine okk_w (CX_93 f0 g2 (nI k)) ?_
      rintro s9 ⟨i1, e9, i2⟩
      refine okk_w (MX_189 f0 v1 hk rm) ?_
      rintro t9 ⟨i3, i4⟩
      exact ⟨(c3.trans g1.cX).trans i1, (a4.trans v2.mX).trans i3, Or.inr ⟨e9, _, f, w, f0, i2, i4⟩⟩
  · have e6 : o = 6 := by omega
    subst e6
    have e8 : m2 464 8 = 6 := by rw [hm.2 8 (by decide) (by decide) (by decide)]; exact hK.2.2
    obtain ⟨⟨v, m3⟩, y3, y1, y2, y4⟩ := opens_6 h2 e8
    dsimp only at y1 y2 y4
    subst y1
    rw [if_neg (show ¬ nI 6 < (6 : Int32) by decide), y3, Option.bind_some, b_id, h4]
    dsimp only
    rw [if_pos rfl]
    refine okk_bind (L_fail h1 3 (nI q)) ?_
    rintro s ⟨s1, s2, s3⟩
    refine okk_w (CF_need (show (3 : Int32) ≠ 0 by decide) s1 (k := 59) (by decide)) ?_
    rintro s9 ⟨i1, e9, i2⟩
    exact okk_some ⟨a1.trans ((hc.trans s3).trans i1).cX, a2.trans (hm.trans y4).mX, Or.inr ⟨_, _, 3, nI q, by decide, i2, y2⟩⟩
theorem Z_steps {n : Nat} {B : Nat → Nat} (hn : n ≤ 150) {C H : Nat} : ∀ g, g ≤ 6 → ∀ x y, StR n B C H (6 - g) g (FT_readOne (3 * g + 2 + x)) (FM_readsStep (g + 1 + y)) := by
  have step : ∀ o d, o ≤ 6 → d = 6 - o → ∀ F G, (o < 6 → StR n B C H (o + 1) (d - 1) (FT_readOne F) (FM_readsStep G)) → StR n B C H o d (FT_readOne (F + 1 + 1 + 1)) (FM_readsStep (G + 1)) := by
    intro o d ho hd F G hs
    have hA : AgR n B C H o d (FT_readAgain (F + 1 + 1)) (FM_readsStep G) := fun c0 m0 lo k q c c2 m m2 => by
      rw [FT_readAgain_s]
      exact Z_again hn ho hd hs c0 m0 lo k q c c2 m m2
    exact fun c0 m0 lo E e k c m => by
      rw [FT_readOne_s, FM_readsStep_s]
      exact Z_step hn hA c0 m0 lo E e k c m
  intro g
  induction g with
  | zero =>
    intro _ x y
    cases x with
    | zero =>
      have hA : AgR n B C H 6 0 (FT_readAgain 1) (FM_readsStep y) := fun c0 m0 lo k q c c2 m m2 => by
        rw [FT_readAgain_s]
        exact Z_again hn (ro := fun _ _ => none) (Nat.le_refl 6) rfl (fun h => absurd h (by decide)) c0 m0 lo k q c c2 m m2
      exact fun c0 m0 lo E e k c m => by
        rw [show 0 + 1 + y = y + 1 by omega, FT_readOne_s, FM_readsStep_s]
        exact Z_step hn hA c0 m0 lo E e k c m
    | succ x =>
      have := step 6 0 (Nat.le_refl 6) rfl x y (fun h => absurd h (by decide))
      rw [show 3 * 0 + 2 + (x + 1) = x + 1 + 1 + 1 by omega, show 0 + 1 + y = y + 1 by omega]
      exact this
  | succ g ih =>
    intro hg x y
    have h := ih (by omega) x y
    have := step (6 - (g + 1)) (g + 1) (by omega) (by omega) (3 * g + 2 + x) (g + 1 + y) (fun _ => by
      rw [show 6 - (g + 1) + 1 = 6 - g by omega, show g + 1 - 1 = g by omega]
      exact h)
    rw [show 3 * (g + 1) + 2 + x = 3 * g + 2 + x + 1 + 1 + 1 by omega, show g + 1 + 1 + y = g + 1 + y + 1 by omega]
    exact this
