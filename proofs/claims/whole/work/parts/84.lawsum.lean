/-! A law's readers: products and sums, and all levels. -/
theorem L_turn {n : Nat} {B : Nat → Nat} (hn : n ≤ 150) {o hm : Nat} {rc : Int32 → gM → Option gM} {rm : gM → Option gM} (hR : Rd n B o hm rc rm) {c0 m0 : gM} {E D H q k : Nat} {c m : gM} (hH : H + hm ≤ 24) (hH1 : 1 ≤ H) (a1 : cX lS c0 c) (a2 : mX lM m0 m) (h1 : tC n B q 0 (-1) c) (hsq : skp n B q = q) (h2 : tM n B (q + 1) 0 (-1) m) (hE : E ≤ q) (hL : LQ k c m) (hD : k + D ≤ q) (hh : l_ht m k = H) (h8 : m 464 8 = nI o) {x y : Nat} (hx : x < 256) (hb : q < n ∧ B q = x) (hy : 2 ≤ y ∧ y ≤ 8) (hxy : a_mk (nI y) = nI x) {kc km : gM → Option gM} (K : ∀ s t, LZ n B c0 m0 o (E + 2) D H s t → oo (kc s) (km t) (LZ n B c0 m0 o E D H)) : oo ((F_need (nI x) c).bind fun s1 => (rc (nI o) s1).bind fun s2 => (FL_mark (nI x) (0 : Int32) s2).bind fun s3 => kc s3) ((rm m).bind fun s2 => (FM_notes (nI y) (0 : Int32) s2).bind fun s3 => km s3) (LZ n B c0 m0 o E D H) := by
  obtain ⟨s, x1, s1, s2, s3⟩ := L_need h1 hx
  rw [hsq, if_pos hb, if_pos hb, show nP n B x q = q + 1 from if_pos hb] at s1
  rw [x1, Option.bind_some]
  obtain ⟨l1, l2⟩ := LQ_S hL s3 (mS.rfl' m)
  have z0 : LZ n B c0 m0 o (E + 1) (D + 1) H s m := ⟨a1.trans s3.cX, a2, Or.inl ⟨q + 1, q + 1, k, by omega, ⟨s1, h2, rfl⟩, l1, by omega, by rw [l2]; exact hh, h8⟩⟩
  refine oo_bind (hR _ _ _ _ _ _ _ z0 hH) ?_
  intro s t z1
  have z2 := Z_note hn z1 (nI y) 0 (H2 := H) (Or.inr ⟨rfl, by omega, y, hy.1, hy.2, rfl⟩)
  rw [hxy] at z2
  refine oo_bind z2 ?_
  intro s t z3
  exact K s t z3

theorem Z_productL {n : Nat} {B : Nat → Nat} (hn : n ≤ 150) {o hm : Nat} {rc : Int32 → gM → Option gM} {rm : gM → Option gM} (hR : Rd n B o hm rc rm) {c0 m0 : gM} {D H : Nat} (hH : H + hm ≤ 24) (hH1 : 1 ≤ H) : ∀ (fl fm E x3 : Nat) (c m : gM), n < E + fl → n < E + fm → 0 < fl → 0 < fm → x3 < E → LZ n B c0 m0 o E D H c m → oo (FL_readProduct_L8 (nI o) rc fl (nI x3) c) (FM_product_L4 rm fm m) (LZ n B c0 m0 o E D H) := by
  intro fl
  induction fl with
  | zero => intro fm E x3 c m _ _ h; exact absurd h (by omega)
  | succ fl ih =>
    intro fm E x3 c m f1 f2 _ f4 hx3 hZ
    obtain ⟨fm, rfl⟩ : ∃ g, fm = g + 1 := ⟨fm - 1, by omega⟩
    rw [FL_readProduct_L8, FM_product_L4]
    have hZ2 := hZ
    obtain ⟨a1, a2, ⟨e, f, k, b1, b2, b3, b4, b5, b6⟩ | a3⟩ := hZ
    · obtain ⟨p1, p2, p3⟩ := b2
      obtain ⟨en, n6⟩ : e ≤ n ∧ n ≤ 600 := ⟨p1.2.2.2.2.1, p1.2.2.2.2.2.1⟩
      have hsk := skp_le (B := B) en
      rw [if_neg (show ¬ (150 : Int32) ≤ nI x3 from nI_ge (b := 150) (by omega) (by decide)), if_pos (faulty_0 p1), if_pos p2.2.2.1]
      refine okk_bind (L_next p1) ?_
      rintro ⟨x, c1⟩ ⟨rfl, k1, k2, k3⟩
      dsimp only at k1 k2 k3 ⊢
      have hB : ∀ j, j < n → B j < 256 := fun j hj => (p1.2.2.2.2.2.2 j hj).1
      obtain ⟨q, eq⟩ : ∃ q, q = skp n B e := ⟨_, rfl⟩
      have hsq : skp n B q = q := by rw [eq]; exact skp_i e
      obtain ⟨⟨v0, m1⟩, y0, r0, w0⟩ := P_sign (k := 42) ⟨p1, p2, p3⟩ (by decide)
      dsimp only at r0 w0
      rw [show FM_takesSign (42 : Int32) m = some (v0, m1) from y0, Option.bind_some]
      dsimp only
      rw [← eq] at w0
      rw [← eq] at k1 hsk ⊢
      have t0 := r0
      rcases w0 with ⟨rfl, w1, w2, w3⟩ | ⟨rfl, w1, w3⟩
      · have ec : chr n B q = (42 : Int32) := (chr_32 hB (show 42 < 256 by decide)).mpr ⟨w1, w2⟩
        rw [if_pos ec, if_neg i10]
        unfold FL_readProduct_J50 FM_product_J52
        rw [ec, if_neg (show ¬ (4 : Int32) = -1 by decide)]
        obtain ⟨l1, l2⟩ := LQ_S b3 k3 t0
        refine L_turn hn hR hH hH1 (a1.trans k3.cX) (a2.trans t0.mX) k1 hsq w3 (show E ≤ q by omega) l1 (by omega) (by rw [l2]; exact b5) (by rw [t0.2 8 (by decide) (by decide) (by decide)]; exact b6) (x := 42) (y := 4) (by decide) ⟨w1, w2⟩ (by decide) (by decide) ?_
        intro s t z
        rw [nI_1]
        exact oo_w (ih fm (E + 2) (x3 + 1) s t (by omega) (by omega) (by omega) (by omega) (by omega) z) (fun _ _ z => LZ_w z (by omega) (Nat.le_refl D))
      · rw [if_pos rfl]
        have n0 : ¬ chr n B q = (42 : Int32) := fun z => w1 ((chr_32 hB (show 42 < 256 by decide)).mp z)
        have g0 := w3
        obtain ⟨⟨v1, m2⟩, y1, r1, w1⟩ := P_sign (k := 47) (show PS n B e q c m1 from ⟨p1, w3, by rw [hsq]; exact eq.symm⟩) (by decide)
        dsimp only at r1 w1
        rw [show FM_takesSign (47 : Int32) m1 = some (v1, m2) from y1, Option.bind_some]
        dsimp only
        rw [← eq] at w1
        have t1 := (t0.trans r1)
        rcases w1 with ⟨rfl, w1, w2, w3⟩ | ⟨rfl, w1, w3⟩
        · have ec : chr n B q = (47 : Int32) := (chr_32 hB (show 47 < 256 by decide)).mpr ⟨w1, w2⟩
          rw [if_neg (show ¬ chr n B q = (42 : Int32) by rw [ec]; decide), if_pos ec, if_neg i10]
          unfold FL_readProduct_J50 FM_product_J52
          rw [ec, if_neg (show ¬ (5 : Int32) = -1 by decide)]
          obtain ⟨l1, l2⟩ := LQ_S b3 k3 t1
          refine L_turn hn hR hH hH1 (a1.trans k3.cX) (a2.trans t1.mX) k1 hsq w3 (show E ≤ q by omega) l1 (by omega) (by rw [l2]; exact b5) (by rw [t1.2 8 (by decide) (by decide) (by decide)]; exact b6) (x := 47) (y := 5) (by decide) ⟨w1, w2⟩ (by decide) (by decide) ?_
          intro s t z
          rw [nI_1]
          exact oo_w (ih fm (E + 2) (x3 + 1) s t (by omega) (by omega) (by omega) (by omega) (by omega) z) (fun _ _ z => LZ_w z (by omega) (Nat.le_refl D))
        · rw [if_pos rfl]
          have n1 : ¬ chr n B q = (47 : Int32) := fun z => w1 ((chr_32 hB (show 47 < 256 by decide)).mp z)
          have g1 := w3
          obtain ⟨⟨v2, m3⟩, y2, r2, w2⟩ := P_sign (k := 37) (show PS n B e q c m2 from ⟨p1, w3, by rw [hsq]; exact eq.symm⟩) (by decide)
          dsimp only at r2 w2
          rw [show FM_takesSign (37 : Int32) m2 = some (v2, m3) from y2, Option.bind_some]
          dsimp only
          rw [← eq] at w2
          have t2 := (t1.trans r2)
          rcases w2 with ⟨rfl, w1, w2, w3⟩ | ⟨rfl, w1, w3⟩
          · have ec : chr n B q = (37 : Int32) := (chr_32 hB (show 37 < 256 by decide)).mpr ⟨w1, w2⟩
            rw [if_neg (show ¬ chr n B q = (42 : Int32) by rw [ec]; decide), if_neg (show ¬ chr n B q = (47 : Int32) by rw [ec]; decide), if_pos ec, if_neg i10]
            unfold FL_readProduct_J50 FM_product_J52
            rw [ec, if_neg (show ¬ (6 : Int32) = -1 by decide)]
            obtain ⟨l1, l2⟩ := LQ_S b3 k3 t2
            refine L_turn hn hR hH hH1 (a1.trans k3.cX) (a2.trans t2.mX) k1 hsq w3 (show E ≤ q by omega) l1 (by omega) (by rw [l2]; exact b5) (by rw [t2.2 8 (by decide) (by decide) (by decide)]; exact b6) (x := 37) (y := 6) (by decide) ⟨w1, w2⟩ (by decide) (by decide) ?_
            intro s t z
            rw [nI_1]
            exact oo_w (ih fm (E + 2) (x3 + 1) s t (by omega) (by omega) (by omega) (by omega) (by omega) z) (fun _ _ z => LZ_w z (by omega) (Nat.le_refl D))
          · rw [if_pos rfl]
            have n2 : ¬ chr n B q = (37 : Int32) := fun z => w1 ((chr_32 hB (show 37 < 256 by decide)).mp z)
            have g2 := w3
            rw [if_neg n0, if_neg n1, if_neg n2]
            unfold FM_product_J52
            rw [if_pos rfl]
            obtain ⟨l1, l2⟩ := LQ_S b3 k3 t2
            exact okk_some (okk_some ⟨a1.trans k3.cX, a2.trans t2.mX, Or.inl ⟨q, q, k, by omega, ⟨k1, g2, rfl⟩, l1, by omega, by rw [l2]; exact b5, by rw [t2.2 8 (by decide) (by decide) (by decide)]; exact b6⟩⟩)
    · obtain ⟨p, q, f, w, f0, f1, f2⟩ := a3
      rw [if_neg (faulty_1 f0 f1), if_neg (show ¬ m 464 5 = 0 by rw [f2.2.2.1]; exact f0)]
      by_cases z : (150 : Int32) ≤ nI x3
      · rw [if_pos z]; exact okk_some (okk_some hZ2)
      · rw [if_neg z]; exact okk_some (okk_some hZ2)

theorem Z_sumL {n : Nat} {B : Nat → Nat} (hn : n ≤ 150) {o hm : Nat} {rc : Int32 → gM → Option gM} {rm : gM → Option gM} (hR : Rd n B o hm rc rm) {c0 m0 : gM} {D H : Nat} (hH : H + hm ≤ 24) (hH1 : 1 ≤ H) : ∀ (fl fm E x3 : Nat) (c m : gM), n < E + fl → n < E + fm → 0 < fl → 0 < fm → x3 < E → LZ n B c0 m0 o E D H c m → oo (FL_readSum_L8 (nI o) rc fl (nI x3) c) (FM_sum_L4 rm fm m) (LZ n B c0 m0 o E D H) := by
  intro fl
  induction fl with
  | zero => intro fm E x3 c m _ _ h; exact absurd h (by omega)
  | succ fl ih =>
    intro fm E x3 c m f1 f2 _ f4 hx3 hZ
    obtain ⟨fm, rfl⟩ : ∃ g, fm = g + 1 := ⟨fm - 1, by omega⟩
    rw [FL_readSum_L8, FM_sum_L4]
    have hZ2 := hZ
    obtain ⟨a1, a2, ⟨e, f, k, b1, b2, b3, b4, b5, b6⟩ | a3⟩ := hZ
    · obtain ⟨p1, p2, p3⟩ := b2
      obtain ⟨en, n6⟩ : e ≤ n ∧ n ≤ 600 := ⟨p1.2.2.2.2.1, p1.2.2.2.2.2.1⟩
      have hsk := skp_le (B := B) en
      rw [if_neg (show ¬ (150 : Int32) ≤ nI x3 from nI_ge (b := 150) (by omega) (by decide)), if_pos (faulty_0 p1), if_pos p2.2.2.1]
      refine okk_bind (L_next p1) ?_
      rintro ⟨x, c1⟩ ⟨rfl, k1, k2, k3⟩
      dsimp only at k1 k2 k3 ⊢
      have hB : ∀ j, j < n → B j < 256 := fun j hj => (p1.2.2.2.2.2.2 j hj).1
      obtain ⟨q, eq⟩ : ∃ q, q = skp n B e := ⟨_, rfl⟩
      have hsq : skp n B q = q := by rw [eq]; exact skp_i e
      obtain ⟨⟨v0, m1⟩, y0, r0, w0⟩ := P_sign (k := 43) ⟨p1, p2, p3⟩ (by decide)
      dsimp only at r0 w0
      rw [show FM_takesSign (43 : Int32) m = some (v0, m1) from y0, Option.bind_some]
      dsimp only
      rw [← eq] at w0
      rw [← eq] at k1 hsk ⊢
      have t0 := r0
      rcases w0 with ⟨rfl, w1, w2, w3⟩ | ⟨rfl, w1, w3⟩
      · have ec : chr n B q = (43 : Int32) := (chr_32 hB (show 43 < 256 by decide)).mpr ⟨w1, w2⟩
        rw [if_pos ec, if_neg i10]
        unfold FL_readSum_J43 FM_sum_J38
        rw [ec, if_neg (show ¬ (2 : Int32) = -1 by decide)]
        obtain ⟨l1, l2⟩ := LQ_S b3 k3 t0
        refine L_turn hn hR hH hH1 (a1.trans k3.cX) (a2.trans t0.mX) k1 hsq w3 (show E ≤ q by omega) l1 (by omega) (by rw [l2]; exact b5) (by rw [t0.2 8 (by decide) (by decide) (by decide)]; exact b6) (x := 43) (y := 2) (by decide) ⟨w1, w2⟩ (by decide) (by decide) ?_
        intro s t z
        rw [nI_1]
        exact oo_w (ih fm (E + 2) (x3 + 1) s t (by omega) (by omega) (by omega) (by omega) (by omega) z) (fun _ _ z => LZ_w z (by omega) (Nat.le_refl D))
      · rw [if_pos rfl]
        have n0 : ¬ chr n B q = (43 : Int32) := fun z => w1 ((chr_32 hB (show 43 < 256 by decide)).mp z)
        have g0 := w3
        obtain ⟨⟨v1, m2⟩, y1, r1, w1⟩ := P_sign (k := 45) (show PS n B e q c m1 from ⟨p1, w3, by rw [hsq]; exact eq.symm⟩) (by decide)
        dsimp only at r1 w1
        rw [show FM_takesSign (45 : Int32) m1 = some (v1, m2) from y1, Option.bind_some]
        dsimp only
        rw [← eq] at w1
        have t1 := (t0.trans r1)
        rcases w1 with ⟨rfl, w1, w2, w3⟩ | ⟨rfl, w1, w3⟩
        · have ec : chr n B q = (45 : Int32) := (chr_32 hB (show 45 < 256 by decide)).mpr ⟨w1, w2⟩
          rw [if_neg (show ¬ chr n B q = (43 : Int32) by rw [ec]; decide), if_pos ec, if_neg i10]
          unfold FL_readSum_J43 FM_sum_J38
          rw [ec, if_neg (show ¬ (3 : Int32) = -1 by decide)]
          obtain ⟨l1, l2⟩ := LQ_S b3 k3 t1
          refine L_turn hn hR hH hH1 (a1.trans k3.cX) (a2.trans t1.mX) k1 hsq w3 (show E ≤ q by omega) l1 (by omega) (by rw [l2]; exact b5) (by rw [t1.2 8 (by decide) (by decide) (by decide)]; exact b6) (x := 45) (y := 3) (by decide) ⟨w1, w2⟩ (by decide) (by decide) ?_
          intro s t z
          rw [nI_1]
          exact oo_w (ih fm (E + 2) (x3 + 1) s t (by omega) (by omega) (by omega) (by omega) (by omega) z) (fun _ _ z => LZ_w z (by omega) (Nat.le_refl D))
        · rw [if_pos rfl]
          have n1 : ¬ chr n B q = (45 : Int32) := fun z => w1 ((chr_32 hB (show 45 < 256 by decide)).mp z)
          have g1 := w3
          rw [if_neg n0, if_neg n1]
          unfold FM_sum_J38
          rw [if_pos rfl]
          obtain ⟨l1, l2⟩ := LQ_S b3 k3 t1
          exact okk_some (okk_some ⟨a1.trans k3.cX, a2.trans t1.mX, Or.inl ⟨q, q, k, by omega, ⟨k1, g1, rfl⟩, l1, by omega, by rw [l2]; exact b5, by rw [t1.2 8 (by decide) (by decide) (by decide)]; exact b6⟩⟩)
    · obtain ⟨p, q, f, w, f0, f1, f2⟩ := a3
      rw [if_neg (faulty_1 f0 f1), if_neg (show ¬ m 464 5 = 0 by rw [f2.2.2.1]; exact f0)]
      by_cases z : (150 : Int32) ≤ nI x3
      · rw [if_pos z]; exact okk_some (okk_some hZ2)
      · rw [if_neg z]; exact okk_some (okk_some hZ2)

theorem Z_product {n : Nat} {B : Nat → Nat} (hn : n ≤ 150) {o hm : Nat} {rc : Int32 → gM → Option gM} {rm : gM → Option gM} (hR : Rd n B o hm rc rm) : Rd n B o (hm + 1) (FL_readProduct_B rc) (FM_product_B rm) := by
  intro c0 m0 E D H c m hZ hH
  unfold FL_readProduct_B FM_product_B
  refine oo_bind (hR _ _ _ _ _ _ _ hZ (by omega)) ?_
  intro s t z
  exact Z_productL hn hR (by omega) (by omega) 1000 1000 (E + 1) 0 s t (by omega) (by omega) (by decide) (by decide) (by omega) z

theorem Z_sum {n : Nat} {B : Nat → Nat} (hn : n ≤ 150) {o hm : Nat} {rc : Int32 → gM → Option gM} {rm : gM → Option gM} (hR : Rd n B o hm rc rm) : Rd n B o (hm + 1) (FL_readSum_B rc) (FM_sum_B rm) := by
  intro c0 m0 E D H c m hZ hH
  unfold FL_readSum_B FM_sum_B
  refine oo_bind (hR _ _ _ _ _ _ _ hZ (by omega)) ?_
  intro s t z
  exact Z_sumL hn hR (by omega) (by omega) 1000 1000 (E + 1) 0 s t (by omega) (by omega) (by decide) (by decide) (by omega) z

theorem Z_all {n : Nat} {B : Nat → Nat} (hn : n ≤ 150) : ∀ g, g ≤ 6 → ∀ x y, Rd n B (6 - g) (3 + 3 * g) (FL_readSum (4 * g + 4 + x)) (FM_sum (3 * g + 3 + y)) := by
  have step : ∀ o, o ≤ 6 → ∀ F G, (o < 6 → Rd n B (o + 1) (18 - 3 * o) (FL_readSum F) (FM_sum G)) → Rd n B o (19 - 3 * o + 1 + 1) (FL_readSum (F + 1 + 1 + 1 + 1)) (FM_sum (G + 1 + 1 + 1)) := by
    intro o ho F G hs
    have hU : Rd n B o (19 - 3 * o) (FL_readUnit (F + 1 + 1)) (FM_one (G + 1)) := fun c0 m0 E D H c m hZ hH => by
      rw [FL_readUnit_s, FM_one_s]
      exact Z_unit hn ho hs c0 m0 E D H c m hZ hH
    have hP : Rd n B o (19 - 3 * o + 1) (FL_readProduct (F + 1 + 1 + 1)) (FM_product (G + 1 + 1)) := fun c0 m0 E D H c m hZ hH => by
      rw [FL_readProduct_s, FM_product_s]
      exact Z_product hn hU c0 m0 E D H c m hZ hH
    exact fun c0 m0 E D H c m hZ hH => by
      rw [FL_readSum_s, FM_sum_s]
      exact Z_sum hn hP c0 m0 E D H c m hZ hH
  intro g
  induction g with
  | zero =>
    intro _ x y
    have := step 6 (Nat.le_refl 6) x y (fun h => absurd h (by decide))
    rw [show 4 * 0 + 4 + x = x + 1 + 1 + 1 + 1 by omega, show 3 * 0 + 3 + y = y + 1 + 1 + 1 by omega]
    exact this
  | succ g ih =>
    intro hg x y
    have h := ih (by omega) x y
    have := step (6 - (g + 1)) (by omega) (4 * g + 4 + x) (3 * g + 3 + y) (fun _ => by
      rw [show 6 - (g + 1) + 1 = 6 - g by omega, show 18 - 3 * (6 - (g + 1)) = 3 + 3 * g by omega]
      exact h)
    rw [show 4 * (g + 1) + 4 + x = 4 * g + 4 + x + 1 + 1 + 1 + 1 by omega, show 3 * (g + 1) + 3 + y = 3 * g + 3 + y + 1 + 1 + 1 by omega, show 3 + 3 * (g + 1) = 19 - 3 * (6 - (g + 1)) + 1 + 1 by omega]
    exact this
