/-! Steps told: one step. -/
theorem J88_n {r : gM → Option gM} {x2 : Nat} {M : gM} {x : Int32} (h0 : ¬ x = 0) (h3 : ¬ x = 3) (h4 : ¬ x = 4) : FM_readsStep_J88 r x x2 M = FM_readsStep_J118 r x x2 M := by
  unfold FM_readsStep_J88
  rw [if_neg h0, if_neg h3, if_neg h4]
theorem J88_0 {r : gM → Option gM} {x2 : Nat} {M : gM} : FM_readsStep_J88 r 0 x2 M = FM_readsStep_J102 r 0 x2 M := by
  unfold FM_readsStep_J88
  rw [if_pos rfl]
theorem J88_3 {r : gM → Option gM} {x2 : Nat} {M : gM} : FM_readsStep_J88 r 3 x2 M = FM_readsStep_J102 r 3 x2 M := by
  unfold FM_readsStep_J88
  rw [if_neg (by decide), if_pos rfl]
theorem J88_4 {r : gM → Option gM} {x2 : Nat} {M : gM} : FM_readsStep_J88 r 4 x2 M = FM_readsStep_J102 r 4 x2 M := by
  unfold FM_readsStep_J88
  rw [if_neg (by decide), if_neg (by decide), if_pos rfl]
theorem J118_n {r : gM → Option gM} {x2 : Nat} {M : gM} {x : Int32} (h4 : ¬ x = 4) (h5 : ¬ x = 5) : FM_readsStep_J118 r x x2 M = FM_readsStep_J205 r x2 M := by
  unfold FM_readsStep_J118
  rw [if_neg h4]
  unfold FM_readsStep_J133
  rw [if_neg h5]
/-- a step's word taken -/
theorem N_open {n : Nat} {B : Nat → Nat} {C H : Nat} {c0 m0 : gM} {o d lo k q kd : Nat} {c c2 m m2 : gM} (a1 : cX wS c0 c) (a2 : mX wM m0 m) (hP : tC n B (wdp n B q) 0 (-1) c2) (hc : cS c c2) (h2 : tM n B q 0 (-1) m2) (hm : mS m m2) (hK : KC o k c m) (hB : BL C H c m d lo k) (hR : sR 0 lo c0 m0 c m) (hk : k < 80) (hl : lo ≤ k) (rm : gM → Option gM) : ∃ M4, FM_readsStep_J32 rm (nI kd) m2 = (if nI kd = (0 : Int32) then ((FM_number (0 : Int32) ((M4 468 2) - (1 : Int32)) M4).bind fun s6 => g_let (g_set (s6.2) (850 + k) 1 s6.1) fun M7 => FM_readsStep_J88 rm (nI kd) (850 + k) M7) else (FM_readsStep_J88 rm (nI kd) (850 + k) M4)) ∧ NZ n B C H c0 m0 o d lo (wdp n B q) k kd True (M4 (850 + k)) c2 M4 := by
  obtain ⟨k1, k2, k3⟩ := hK
  obtain ⟨m3, y3, u1, u2⟩ := M_skip h2
  have hmm := hm.trans u2
  refine ⟨g_set (g_set m3 464 28 (nI (k + 1))) (850 + k) 0 (nI kd), ?_, ?_⟩
  · unfold FM_readsStep_J32 g_let
    dsimp only
    rw [if_pos h2.2.2.1, y3, Option.bind_some, hmm.2 28 (by decide) (by decide) (by decide), k2, ix_in (show k < 80 from hk) (by decide), nI_1]
  · refine ⟨a1.trans hc.cX, mX_set (mX_7 (a2.trans hmm.mX) (by decide)) (by omega) (by unfold wM; omega), Or.inl ⟨wdp n B q, Nat.le_refl _, ⟨hP, tM_o (tM_7 u1 (by decide)) (by omega) (by omega), rfl⟩, ⟨by rw [hc.1 28 (by decide)]; exact k1, by rw [g_set_ne (by omega), g_set_eq], by rw [g_set_ne (by omega), g_set_k (by decide), hmm.2 8 (by decide) (by decide) (by decide)]; exact k3⟩, ?_, ?_, g_set_eq _ _ _ _, fun i _ => rfl, trivial⟩⟩
    · have s1 : sR lo k c m c2 (g_set (g_set m3 464 28 (nI (k + 1))) (850 + k) 0 (nI kd)) := (sR_S hc hmm).trans fun j _ hj => ⟨rfl, rfl, rfl, fun y _ => by rw [g_set_ne (by omega), g_set_ne (by omega)]⟩
      exact BL_e d lo k s1 hB
    · refine hR.trans ((sR_S hc hmm).trans fun j _ hj => ⟨rfl, rfl, rfl, fun y _ => by rw [g_set_ne (by omega), g_set_ne (by omega)]⟩)
/-- both readers of a step at a level -/
def StR (n : Nat) (B : Nat → Nat) (C H o d : Nat) (rc : Int32 → gM → Option gM) (rm : gM → Option gM) : Prop := ∀ (c0 m0 : gM) (lo E e k : Nat) (c m : gM), KP C H c0 m0 → cX wS c0 c → mX wM m0 m → E ≤ e → lo ≤ k → 4 * k ≤ e → PS n B e e c m → skp n B e = e → KC o k c m → BL C H c m d lo k → sR 0 lo c0 m0 c m → okk ((rc (nI o) c).bind fun s7 => F_need (59 : Int32) s7) (fun s => okk (rm m) (SZ n B C H c0 m0 o d lo (E + 4) s))
theorem tl_4 : ∀ t, t < 19 → (t = 11 ∨ t = 12 ∨ t = 15 ∨ t = 16 ∨ t = 17 ∨ t = 18) → 4 ≤ tl t := by decide +kernel
theorem wd_4 {n : Nat} {B : Nat → Nat} {q t : Nat} (h : wd n B q t) (ht : t = 11 ∨ t = 12 ∨ t = 15 ∨ t = 16 ∨ t = 17 ∨ t = 18) : q + 4 ≤ wdp n B q := by
  have := tl_4 t (by omega) ht
  rw [h.1]
  omega
/-- both readers of a loop -/
def AgR (n : Nat) (B : Nat → Nat) (C H o d : Nat) (ra : Int32 → gM → Option gM) (rm : gM → Option gM) : Prop := ∀ (c0 m0 : gM) (lo k q : Nat) (c c2 m m2 : gM), KP C H c0 m0 → cX wS c0 c → mX wM m0 m → tC n B (wdp n B q) 0 (-1) c2 → c2 1 4 = nI q → cS c c2 → tM n B q 0 (-1) m2 → mS m m2 → KC o k c m → BL C H c m d lo k → sR 0 lo c0 m0 c m → lo ≤ k → k < 80 → 4 * (k + 1) ≤ wdp n B q → okk ((ra (nI o) c2).bind fun s7 => F_need (59 : Int32) s7) (fun s => okk (FM_readsStep_J19 rm 5 m2) (SZ n B C H c0 m0 o d lo (wdp n B q) s))
theorem Z_step {n : Nat} {B : Nat → Nat} (hn : n ≤ 150) {C H o d : Nat} {ra : Int32 → gM → Option gM} {rm : gM → Option gM} (hA : AgR n B C H o d ra rm) : StR n B C H o d (FT_readOne_B ra) (FM_readsStep_B rm) := by
  intro c0 m0 lo E e k c m hKP a1 a2 hE hl h4 hP he hK hB hR
  have en : e ≤ n := hP.1.2.2.2.2.1
  have hk : k < 80 := by omega
  unfold FT_readOne_B FM_readsStep_B
  refine okk_bb (L_word hP.1) ?_
  rintro c2 ⟨w1, w2, w3⟩
  rw [he] at w1 w2
  have hw := wdp_le (B := B) en
  have wn : wdp n B e ≤ n := hw.2
  obtain ⟨kd, m2, y2, u1, u2, alt⟩ := P_step w1 w2 hP.2.1 he
  rw [y2, Option.bind_some]
  dsimp only
  have KPc := KP_x hKP (a1.trans w3.cX) (a2.trans u2.mX)
  have hiH := hi_8 H KPc.2.2.2.2.2
  have hiC := hi_8 C KPc.2.2.1
  have FC : ∀ (s : gM), cX wS c0 s → s 3 6 - (1 : Int32) = nI C - 1 := fun s hs => by rw [hs.1 3 (by decide) (by unfold wS; omega), hKP.1]
  have FH : ∀ (s : gM), cX wS c0 s → s 3 7 - (1 : Int32) = nI H - 1 := fun s hs => by rw [hs.1 3 (by decide) (by unfold wS; omega), hKP.2.2.2.1]
  have GC : ∀ (s : gM), mX wM m0 s → s 468 1 - (1 : Int32) = nI C - 1 := fun s hs => by rw [hs.1 468 (by decide) (by unfold wM; omega), hKP.2.1]
  have GH : ∀ (s : gM), mX wM m0 s → s 468 2 - (1 : Int32) = nI H - 1 := fun s hs => by rw [hs.1 468 (by decide) (by unfold wM; omega), hKP.2.2.2.2.1]
  have op : ∀ kd, ∃ M4, FM_readsStep_J32 rm (nI kd) m2 = (if nI kd = (0 : Int32) then ((FM_number (0 : Int32) ((M4 468 2) - (1 : Int32)) M4).bind fun s6 => g_let (g_set (s6.2) (850 + k) 1 s6.1) fun M7 => FM_readsStep_J88 rm (nI kd) (850 + k) M7) else (FM_readsStep_J88 rm (nI kd) (850 + k) M4)) ∧ NZ n B C H c0 m0 o d lo (wdp n B e) k kd True (M4 (850 + k)) c2 M4 := fun kd => N_open a1 a2 w1 w3 u1 u2 hK hB hR hk hl rm
  have in_C : ∀ v, v ≤ 10000 → FM_in (nI v) 0 (nI C - 1) = 1 → v < C := fun v hv h => (in_W (lo := 0) hv hKP.2.2.1 (by decide) h).2
  have in_H : ∀ v, v ≤ 10000 → FM_in (nI v) 0 (nI H - 1) = 1 → v < H := fun v hv h => (in_W (lo := 0) hv hKP.2.2.2.2.2 (by decide) h).2
  have dn : ∀ {s t : gM}, SZ n B C H c0 m0 o d lo (wdp n B e) s t → e + 4 ≤ wdp n B e → SZ n B C H c0 m0 o d lo (E + 4) s t := fun h1 h2 => SZ_w h1 (by omega)
  rcases alt with ⟨rfl, x1, x2, x3, x4, x5, x6⟩ | ⟨rfl, x1, wd0⟩ | ⟨rfl, x1, x2, wd0⟩ | ⟨rfl, x1, x2, x3, wd0⟩ | ⟨rfl, x1, x2, x3, x4, wd0⟩ | ⟨rfl, x1, x2, x3, x4, x5, wd0⟩ | ⟨rfl, x1, x2, x3, x4, x5, x6, wd0⟩
  · -- no step
    rw [x1, Option.bind_some, if_pos rfl, x2, Option.bind_some, if_pos rfl, x3, Option.bind_some, if_pos rfl, x4, Option.bind_some, if_pos rfl, x5, Option.bind_some, if_pos rfl, x6, Option.bind_some, if_pos rfl, if_pos rfl, b_id, w2, u1.2.1]
    obtain ⟨s, xs, t, yt, g1, g2, g3⟩ := PF_fail w1 u1 (k := 1) (by decide) (nI e)
    rw [show F_fail (1 : Int32) (nI e) c2 = some s from xs, show FM_wrong (1 : Int32) (nI e) m2 = some t from yt, Option.bind_some, Option.bind_some]
    obtain ⟨p, q, f, w, f0, f1, f2⟩ := g3
    refine okk_w (CF_need f0 f1 (k := 59) (by decide)) ?_
    rintro s2 ⟨d1, e2, d2⟩
    unfold FM_readsStep_J19
    rw [if_neg (by decide)]
    unfold FM_readsStep_J32
    rw [if_neg (show ¬ t 464 5 = 0 by rw [f2.2.2.1]; exact f0)]
    exact okk_some ⟨a1.trans ((w3.trans g1).trans d1).cX, a2.trans (u2.trans g2).mX, Or.inr ⟨e2, q, f, w, f0, d2, f2⟩⟩
  · -- give
    have we := wd_4 wd0 (by omega)
    rw [x1, Option.bind_some, if_neg i10, if_neg (show ¬ (0 : Int32) = -1 by decide)]
    unfold FM_readsStep_J19
    rw [if_neg (show ¬ (0 : Int32) = 5 by decide)]
    obtain ⟨M4, y4, z0⟩ := op 0
    rw [show FM_readsStep_J32 rm (0 : Int32) m2 = _ from y4, if_pos (show nI 0 = (0 : Int32) from rfl), FH c2 z0.1, GH M4 z0.2.1]
    refine okk_bb (N_num z0 0 hiH (by decide)) ?_
    intro s hs
    obtain ⟨t, yt, z1⟩ := hs
    rw [yt, Option.bind_some]
    have z2 := N_set z1 hk hl (Or.inl rfl) t.1
    unfold g_let
    dsimp only
    rw [show nI 0 = (0 : Int32) from rfl, J88_0]
    unfold FM_readsStep_J102
    rw [FC s.2 z2.1, GC _ z2.2.1]
    refine okk_bb (N_num z2 0 hiC (by decide)) ?_
    intro s2 hs2
    obtain ⟨t2, yt2, z3⟩ := hs2
    rw [yt2, Option.bind_some]
    have z4 := N_set z3 hk hl (Or.inr rfl) t2.1
    unfold g_let
    dsimp only
    rw [J118_n (by decide) (by decide)]
    refine okk_w (N_fin hn z4 hl (by omega) hk (u := s.1) (v := s2.1) ?_ rm) ?_
    · rintro ⟨⟨-, v, v1, v2, v3, v4⟩, x, q1, q2, q3, q4⟩
      exact Or.inl ⟨rfl, v, x, in_H v v1 v4, in_C x q1 q4, v2, q2, by rw [upd_ne (by decide), upd_eq]; exact v3, by rw [upd_eq]; exact q3⟩
    · exact fun s hs => okk_w hs fun t ht => dn ht we
  · -- roll
    have we := wd_4 wd0 (by omega)
    rw [x1, Option.bind_some, if_pos rfl, x2, Option.bind_some, if_neg i10, if_neg (show ¬ (1 : Int32) = -1 by decide)]
    unfold FM_readsStep_J19
    rw [if_neg (show ¬ (1 : Int32) = 5 by decide)]
    obtain ⟨M4, y4, z0⟩ := op 1
    rw [show FM_readsStep_J32 rm (1 : Int32) m2 = _ from y4, if_neg (by decide), J88_n (by decide) (by decide) (by decide), J118_n (by decide) (by decide)]
    refine okk_w (N_fin hn z0 hl (by omega) hk (u := 0) (v := 0) (fun _ => Or.inr (Or.inl rfl)) rm) ?_
    exact fun s hs => okk_w hs fun t ht => dn ht we
  · -- rain
    have we := wd_4 wd0 (by omega)
    rw [x1, Option.bind_some, if_pos rfl, x2, Option.bind_some, if_pos rfl, x3, Option.bind_some, if_neg i10, if_neg (show ¬ (2 : Int32) = -1 by decide)]
    unfold FM_readsStep_J19
    rw [if_neg (show ¬ (2 : Int32) = 5 by decide)]
    obtain ⟨M4, y4, z0⟩ := op 2
    rw [show FM_readsStep_J32 rm (2 : Int32) m2 = _ from y4, if_neg (by decide), J88_n (by decide) (by decide) (by decide), J118_n (by decide) (by decide)]
    refine okk_w (N_fin hn z0 hl (by omega) hk (u := 0) (v := 0) (fun _ => Or.inr (Or.inr (Or.inl rfl))) rm) ?_
    exact fun s hs => okk_w hs fun t ht => dn ht we
  · -- rest
    have we := wd_4 wd0 (by omega)
    rw [x1, Option.bind_some, if_pos rfl, x2, Option.bind_some, if_pos rfl, x3, Option.bind_some, if_pos rfl, x4, Option.bind_some, if_neg i10, if_neg (show ¬ (3 : Int32) = -1 by decide)]
    unfold FM_readsStep_J19
    rw [if_neg (show ¬ (3 : Int32) = 5 by decide)]
    obtain ⟨M4, y4, z0⟩ := op 3
    rw [show FM_readsStep_J32 rm (3 : Int32) m2 = _ from y4, if_neg (by decide), show nI 3 = (3 : Int32) from rfl, J88_3]
    unfold FM_readsStep_J102
    rw [FC c2 z0.1, GC M4 z0.2.1]
    refine okk_bb (N_num z0 0 hiC (by decide)) ?_
    intro s hs
    obtain ⟨t, yt, z1⟩ := hs
    rw [yt, Option.bind_some]
    have z2 := N_set z1 hk hl (Or.inr rfl) t.1
    unfold g_let
    dsimp only
    rw [J118_n (by decide) (by decide)]
    refine okk_w (N_fin hn z2 hl (by omega) hk (u := s.1) (v := 0) ?_ rm) ?_
    · rintro ⟨-, x, q1, q2, q3, q4⟩
      exact Or.inr (Or.inr (Or.inr (Or.inl ⟨rfl, x, in_C x q1 q4, q2, by rw [upd_eq]; exact q3⟩)))
    · exact fun s hs => okk_w hs fun t ht => dn ht we
  · -- bribe
    have we := wd_4 wd0 (by omega)
    rw [x1, Option.bind_some, if_pos rfl, x2, Option.bind_some, if_pos rfl, x3, Option.bind_some, if_pos rfl, x4, Option.bind_some, if_pos rfl, x5, Option.bind_some, if_neg i10, if_neg (show ¬ (4 : Int32) = -1 by decide)]
    unfold FM_readsStep_J19
    rw [if_neg (show ¬ (4 : Int32) = 5 by decide)]
    obtain ⟨M4, y4, z0⟩ := op 4
    rw [show FM_readsStep_J32 rm (4 : Int32) m2 = _ from y4, if_neg (by decide), show nI 4 = (4 : Int32) from rfl, J88_4]
    unfold FM_readsStep_J102
    rw [FC c2 z0.1, GC M4 z0.2.1]
    refine okk_bb (N_num z0 0 hiC (by decide)) ?_
    intro s hs
    obtain ⟨t, yt, z1⟩ := hs
    rw [yt, Option.bind_some]
    have z2 := N_set z1 hk hl (Or.inr rfl) t.1
    unfold g_let
    dsimp only
    unfold FM_readsStep_J118
    rw [if_pos rfl]
    refine okk_bb (N_num z2 1 (hi := 9) (by decide) (by decide)) ?_
    intro s2 hs2
    obtain ⟨t2, yt2, z3⟩ := hs2
    rw [yt2, Option.bind_some]
    have z4 := N_set z3 hk hl (Or.inl rfl) t2.1
    unfold g_let
    dsimp only
    unfold FM_readsStep_J133
    rw [if_neg (by decide)]
    refine okk_w (N_fin hn z4 hl (by omega) hk (u := s.1) (v := s2.1) ?_ rm) ?_
    · rintro ⟨⟨-, x, q1, q2, q3, q4⟩, v, v1, v2, v3, v4⟩
      have iv := in_nI (lo := 1) (show v < 2 ^ 31 by omega) (by decide) v4
      have iv9 : v ≤ 9 := (nI_leI (by omega) (by decide)).mp (show nI v ≤ nI 9 from iv.2)
      exact Or.inr (Or.inr (Or.inr (Or.inr ⟨rfl, x, v, in_C x q1 q4, iv.1, iv9, q2, v2, by rw [upd_ne (by decide), upd_eq]; exact q3, by rw [upd_eq]; exact v3⟩)))
    · exact fun s hs => okk_w hs fun t ht => dn ht we
  · -- again
    have we := wd_4 wd0 (by omega)
    rw [x1, Option.bind_some, if_pos rfl, x2, Option.bind_some, if_pos rfl, x3, Option.bind_some, if_pos rfl, x4, Option.bind_some, if_pos rfl, x5, Option.bind_some, if_pos rfl, x6, Option.bind_some, if_neg i10, if_neg (show ¬ (5 : Int32) = -1 by decide), b_id]
    refine okk_w (hA c0 m0 lo k e c c2 m m2 hKP a1 a2 w1 w2 w3 u1 u2 hK hB hR hl hk (by omega)) ?_
    exact fun s hs => okk_w hs fun t ht => dn ht we
