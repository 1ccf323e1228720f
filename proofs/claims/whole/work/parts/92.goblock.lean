/-! Steps performed: blocks. -/
theorem nI_dec (k : Nat) : nI (k + 1) + (-1 : Int32) = nI k := by
  rw [← nI_1 k, Int32.add_assoc, show (1 : Int32) + -1 = 0 by decide, Int32.add_zero]
/-- both perform a block alike -/
def GR (c0 m0 : gM) (op d : Nat) (rp : Int32 → Int32 → Int32 → gM → Option gM) (rg : Int32 → Int32 → gM → Option gM) : Prop := (∀ (p q : Int32) (c : gM), c 28 6 = nI 200 → rp p q (nI op) c = some c) ∧ ∀ (p q b : Nat) (c m : gM), p ≤ 80 → q ≤ 80 → b ≤ 200 → BL (nC m0) (nH m0) c0 m0 d p q → GP c0 m0 b c m → okk (rp (nI p) (nI q) (nI op) c) (fun s => okk (rg (nI p) (nI q) m) (fun t => ∃ b2, b2 ≤ 200 ∧ GP c0 m0 b2 s t))
theorem G_loop {c0 m0 : gM} (hE : GE c0 m0) {op d : Nat} {rp : Int32 → Int32 → Int32 → gM → Option gM} {rg : Int32 → Int32 → gM → Option gM} (hI : ∀ d2, d = d2 + 1 → GR c0 m0 (op + 1) d2 rp rg) (P PM : Int32) {p q : Nat} (q80 : q ≤ 80) (hB : BL (nC m0) (nH m0) c0 m0 d p q) : ∀ (fl fm x5 x6 b : Nat) (c m : gM), q < x5 + fl → q < x5 + fm → 0 < fl → 0 < fm → p ≤ x5 → x5 < 2 ^ 30 → x6 ≤ x5 → b ≤ 200 → GP c0 m0 b c m → okk (FT_perform_L14 P (nI q) (nI op) rp fl (nI x5) (nI x6) c) (fun s => okk (FM_goes_L2 PM (nI q) rg fm (nI x5) m) (fun t => ∃ b2, b2 ≤ 200 ∧ GP c0 m0 b2 s t)) := by
  intro fl
  induction fl with
  | zero => intro fm x5 x6 b c m _ _ h; exact absurd h (by omega)
  | succ fl ih =>
    intro fm x5 x6 b c m f1 f2 _ f4 hp hx5 hx hb hG
    obtain ⟨fm, rfl⟩ : ∃ g, fm = g + 1 := ⟨fm - 1, by omega⟩
    rw [FT_perform_L14, FM_goes_L2]
    have g5 := hG.2.2.2.2.1
    by_cases h1 : x5 < q
    · rw [if_neg (show ¬ (150 : Int32) ≤ nI x6 from nI_ge (b := 150) (by omega) (by decide)), if_neg (show ¬ nI q ≤ nI x5 from nI_ge h1 (by omega)), if_neg (show ¬ nI q ≤ nI x5 from nI_ge h1 (by omega)), g5.1, g5.2.1]
      by_cases h2 : b < 200
      · rw [if_neg (show ¬ (200 : Int32) ≤ nI b from nI_ge (b := 200) h2 (by decide)), if_neg (show ¬ (200 : Int32) ≤ nI b from nI_ge (b := 200) h2 (by decide)), nI_1 b, ix_in (show x5 < 80 by omega) (by decide)]
        have c29 : ∀ a, 29 ≤ a → a ≤ 31 → r_at (c a) 150 (nI x5) = c0 a x5 := fun a a1 a2 => by rw [r_at_in _ (show x5 < 150 by omega) (by decide), hG.1 a (by omega)]
        have mrow : ∀ i, (g_set m 464 39 (nI (b + 1))) (850 + x5) i = m0 (850 + x5) i := fun i => by rw [g_set_ne (by omega), hG.2.2.1 _ (by omega)]
        rw [c29 29 (by decide) (by decide), c29 30 (by decide) (by decide), c29 31 (by decide) (by decide), mrow 0]
        have row := (BL_i.mp hB) x5 hp h1
        have plain : PL (nC m0) (nH m0) c0 m0 x5 → okk (if c0 29 x5 = (5 : Int32) then (FT_perform_L83 P (nI q) (nI op) rp (FT_perform_L14 P (nI q) (nI op) rp fl) 1000 (nI x5) (nI x6) (c0 31 x5) (c0 30 x5) (g_set c 28 6 (nI (b + 1)))) else ((FT_performOne (nI x5) (g_set c 28 6 (nI (b + 1)))).bind fun s5 => FT_perform_L14 P (nI q) (nI op) rp fl (nI x5 + (1 : Int32)) (nI x6 + (1 : Int32)) s5)) (fun s => okk (if m0 (850 + x5) 0 = (5 : Int32) then (FM_goes_L42 PM (nI q) rg (FM_goes_L2 PM (nI q) rg fm) 1000 (nI x5) (0 : Int32) (g_set m 464 39 (nI (b + 1)))) else (g_ix (nI x5) 80 fun j5 => (FM_does 930 (850 + j5) (g_set m 464 39 (nI (b + 1)))).bind fun s6 => if s6.1 = (0 : Int32) then (FM_goes_J120 PM (nI q) rg (FM_goes_L2 PM (nI q) rg fm) (nI x5) s6.1 (0 : Int32) ((s6.2) 464 40) (s6.2)) else (FM_goes_J120 PM (nI q) rg (FM_goes_L2 PM (nI q) rg fm) (nI x5) s6.1 (1 : Int32) ((s6.2) 464 40) (s6.2)))) (fun t => ∃ b2, b2 ≤ 200 ∧ GP c0 m0 b2 s t)) := by
          intro hpl
          obtain ⟨s, v, t, y1, y2, alt⟩ := G_one hE hG h2 (j := x5) (by omega) hpl
          obtain ⟨kd, k1, k2, k3, k4⟩ := hpl
          have k5 : ¬ nI kd = (5 : Int32) := by
            rcases k4 with ⟨rfl, -⟩ | rfl | rfl | ⟨rfl, -⟩ | ⟨rfl, -⟩ <;> decide
          rw [k1, k2, if_neg k5, if_neg k5, ix_in (show x5 < 80 by omega) (by decide), y1, y2, Option.bind_some, Option.bind_some]
          dsimp only
          unfold FM_goes_J120
          rcases alt with ⟨rfl, z⟩ | ⟨rfl, z⟩
          · rw [if_pos rfl, if_pos rfl, ix_in (show x5 < 80 by omega) (by decide), z.2.2.1 (850 + x5) (by omega), k3, nI_1, nI_1]
            exact ih fm (x5 + 1) (x6 + 1) (b + 1) _ _ (by omega) (by omega) (by omega) (by omega) (by omega) (by omega) (by omega) (by omega) z
          · rw [if_neg i10, if_neg i10, ix_in (show x5 < 80 by omega) (by decide), z.2.2.1 (850 + x5) (by omega), k3, nI_1, nI_1]
            exact ih fm (x5 + 1) (x6 + 1) (b + 1) _ _ (by omega) (by omega) (by omega) (by omega) (by omega) (by omega) (by omega) (by omega) z
        cases d with
        | zero => exact plain row
        | succ d =>
          rcases row with hpl | ⟨en, t, r1, r2, r3, r4, r5, r6, r7, r8, r9, r10⟩
          · exact plain hpl
          · obtain ⟨noop, hR⟩ := hI d rfl
            have G1 : GP c0 m0 (b + 1) (g_set c 28 6 (nI (b + 1))) (g_set m 464 39 (nI (b + 1))) := by
              obtain ⟨a1, a2, a3, a4, ⟨a5, a6, a7, a8⟩, a9, a10⟩ := hG
              refine ⟨fun x hx => by rw [g_set_ne (by omega)]; exact a1 x hx, ⟨by rw [g_set_ne (by decide)]; exact a2.1, by rw [g_set_ne (by decide)]; exact a2.2⟩, fun x hx => by rw [g_set_ne (by omega)]; exact a3 x hx, fun k k1 k2 k3 => by rw [g_set_k k1]; exact a4 k k1 k2 k3, ⟨g_set_eq _ _ _ _, g_set_eq _ _ _ _, ?_, ?_⟩, ?_, ?_⟩
              · rw [g_set_k (by decide), g_set_k (by decide)]; exact a7
              · rw [g_set_k (by decide), g_set_k (by decide)]; exact a8
              · rw [g_set_ne (show 930 ≠ 464 by decide)]
                exact v_r_e (by rw [g_set_ne (show 468 ≠ 464 by decide)]) a9
              · rw [g_set_ne (show 930 ≠ 464 by decide)]
                exact r_st_m a10 (fun x x1 x2 => g_set_ne (by omega))
            rw [r4, r5, if_pos (show nI 5 = (5 : Int32) from rfl), if_pos (show nI 5 = (5 : Int32) from rfl), r6, r7]
            -- a step begun at the end: nothing more
            have still : ∀ rem f3 c, rem ≤ 60 → rem < f3 → c 28 6 = nI 200 → FT_perform_L83 P (nI q) (nI op) rp (FT_perform_L14 P (nI q) (nI op) rp fl) f3 (nI x5) (nI x6) (nI en) (nI rem) c = some c := by
              intro rem
              induction rem with
              | zero =>
                intro f3 c h60 hf hc
                obtain ⟨f3, rfl⟩ : ∃ g, f3 = g + 1 := ⟨f3 - 1, by omega⟩
                obtain ⟨fl, rfl⟩ : ∃ g, fl = g + 1 := ⟨fl - 1, by omega⟩
                rw [FT_perform_L83, if_pos (show nI 0 ≤ (0 : Int32) by decide), FT_perform_L14]
                by_cases z1 : (150 : Int32) ≤ nI x6 + 1
                · rw [if_pos z1]
                · rw [if_neg z1]
                  by_cases z2 : nI q ≤ nI en
                  · rw [if_pos z2]
                  · rw [if_neg z2, if_pos (show (200 : Int32) ≤ c 28 6 by rw [hc]; decide)]
              | succ rem ihr =>
                intro f3 c h60 hf hc
                obtain ⟨f3, rfl⟩ : ∃ g, f3 = g + 1 := ⟨f3 - 1, by omega⟩
                rw [FT_perform_L83, if_neg (show ¬ nI (rem + 1) ≤ (0 : Int32) from nI_ge (a := 0) (b := rem + 1) (by omega) (by omega)), nI_1 op, noop _ _ c hc, Option.bind_some, nI_dec]
                exact ihr f3 c (by omega) (by omega) hc
            have times : ∀ rem x4 f3 f5 b c m, x4 + rem = t → rem < f3 → rem < f5 → b ≤ 200 → GP c0 m0 b c m → okk (FT_perform_L83 P (nI q) (nI op) rp (FT_perform_L14 P (nI q) (nI op) rp fl) f3 (nI x5) (nI x6) (nI en) (nI rem) c) (fun s => okk (FM_goes_L42 PM (nI q) rg (FM_goes_L2 PM (nI q) rg fm) f5 (nI x5) (nI x4) m) (fun t => ∃ b2, b2 ≤ 200 ∧ GP c0 m0 b2 s t)) := by
              intro rem
              induction rem with
              | zero =>
                intro x4 f3 f5 b c m ht hf3 hf5 hb hG
                obtain ⟨f3, rfl⟩ : ∃ g, f3 = g + 1 := ⟨f3 - 1, by omega⟩
                obtain ⟨f5, rfl⟩ : ∃ g, f5 = g + 1 := ⟨f5 - 1, by omega⟩
                rw [FT_perform_L83, FM_goes_L42, if_pos (show nI 0 ≤ (0 : Int32) by decide), ix_in (show x5 < 80 by omega) (by decide), hG.2.2.1 _ (by omega), r8, if_pos (nI_le (show t ≤ x4 by omega) (by omega)), ix_in (show x5 < 80 by omega) (by decide), hG.2.2.1 _ (by omega), r9, nI_1]
                exact ih fm en (x6 + 1) b c m (by omega) (by omega) (by omega) (by omega) (by omega) (by omega) (by omega) hb hG
              | succ rem ihr =>
                intro x4 f3 f5 b c m ht hf3 hf5 hb hG
                by_cases hb2 : b < 200
                · obtain ⟨f3, rfl⟩ : ∃ g, f3 = g + 1 := ⟨f3 - 1, by omega⟩
                  obtain ⟨f5, rfl⟩ : ∃ g, f5 = g + 1 := ⟨f5 - 1, by omega⟩
                  rw [FT_perform_L83, FM_goes_L42, if_neg (show ¬ nI (rem + 1) ≤ (0 : Int32) from nI_ge (a := 0) (b := rem + 1) (by omega) (by omega)), ix_in (show x5 < 80 by omega) (by decide), hG.2.2.1 _ (by omega), r8, if_neg (show ¬ nI t ≤ nI x4 from nI_ge (by omega) (by omega)), hG.2.2.2.2.1.2.1, if_neg (show ¬ (200 : Int32) ≤ nI b from nI_ge (b := 200) hb2 (by decide)), ix_in (show x5 < 80 by omega) (by decide), hG.2.2.1 _ (by omega), r9, nI_1 x5, nI_1 op]
                  refine okk_bind (hR (x5 + 1) en b c m (by omega) (by omega) hb r10 hG) ?_
                  rintro s ⟨t2, y2, b3, b4, G2⟩
                  rw [y2, Option.bind_some, nI_dec, nI_1 x4]
                  exact ihr (x4 + 1) f3 f5 b3 s t2 (by omega) (by omega) (by omega) b4 G2
                · have e2 : b = 200 := by omega
                  subst e2
                  obtain ⟨f5, rfl⟩ : ∃ g, f5 = g + 1 := ⟨f5 - 1, by omega⟩
                  rw [still (rem + 1) f3 c (by omega) hf3 hG.2.2.2.2.1.1, FM_goes_L42, ix_in (show x5 < 80 by omega) (by decide), hG.2.2.1 _ (by omega), r8, if_neg (show ¬ nI t ≤ nI x4 from nI_ge (by omega) (by omega)), hG.2.2.2.2.1.2.1, if_pos (show (200 : Int32) ≤ nI 200 by decide), ix_in (show x5 < 80 by omega) (by decide), hG.2.2.1 _ (by omega), r9]
                  obtain ⟨fm, rfl⟩ : ∃ g, fm = g + 1 := ⟨fm - 1, by omega⟩
                  rw [FM_goes_L2]
                  refine okk_some ?_
                  by_cases z2 : nI q ≤ nI en
                  · rw [if_pos z2]; exact okk_some ⟨200, by omega, hG⟩
                  · rw [if_neg z2, hG.2.2.2.2.1.2.1, if_pos (show (200 : Int32) ≤ nI 200 by decide)]; exact okk_some ⟨200, by omega, hG⟩
            exact times t 0 1000 1000 (b + 1) _ _ (by omega) (by omega) (by omega) (by omega) G1
      · have e2 : b = 200 := by omega
        subst e2
        rw [if_pos (show (200 : Int32) ≤ nI 200 by decide), if_pos (show (200 : Int32) ≤ nI 200 by decide)]
        exact okk_some (okk_some ⟨200, by omega, hG⟩)
    · rw [if_pos (show nI q ≤ nI x5 from nI_le (by omega) (by omega)), if_pos (show nI q ≤ nI x5 from nI_le (by omega) (by omega))]
      by_cases z : (150 : Int32) ≤ nI x6
      · rw [if_pos z]; exact okk_some (okk_some ⟨b, hb, hG⟩)
      · rw [if_neg z]; exact okk_some (okk_some ⟨b, hb, hG⟩)
theorem G_block {c0 m0 : gM} (hE : GE c0 m0) : ∀ d op F G, op + d ≤ 6 → GR c0 m0 op d (FT_perform (d + 1 + F)) (FM_goes (d + 1 + G)) := by
  intro d
  have noop : ∀ f op (p q : Int32) (c : gM), c 28 6 = nI 200 → FT_perform (f + 1) p q (nI op) c = some c := by
    intro f op p q c hc
    rw [FT_perform_s]
    unfold FT_perform_B
    by_cases z : nI op ≤ (6 : Int32)
    · rw [if_pos z, FT_perform_L14, if_neg (show ¬ (150 : Int32) ≤ 0 by decide)]
      by_cases z2 : q ≤ p
      · rw [if_pos z2]
      · rw [if_neg z2, if_pos (show (200 : Int32) ≤ c 28 6 by rw [hc]; decide)]
    · rw [if_neg z]
  have main : ∀ d op F G, op ≤ 6 → (∀ d2, d = d2 + 1 → GR c0 m0 (op + 1) d2 (FT_perform F) (FM_goes G)) → GR c0 m0 op d (FT_perform (F + 1)) (FM_goes (G + 1)) := by
    intro d op F G ho hI
    refine ⟨noop F op, fun p q b c m hp hq hb hB hG => ?_⟩
    rw [FT_perform_s, FM_goes_s]
    unfold FT_perform_B FM_goes_B
    rw [if_pos (show nI op ≤ (6 : Int32) from nI_le (b := 6) ho (by decide))]
    exact G_loop hE hI (nI p) (nI p) hq hB 1000 1000 p 0 b c m (by omega) (by omega) (by decide) (by decide) (Nat.le_refl p) (by omega) (Nat.zero_le p) hb hG
  induction d with
  | zero =>
    intro op F G ho
    have := main 0 op F G (by omega) (fun d2 h => absurd h (by omega))
    rw [show 0 + 1 + F = F + 1 by omega, show 0 + 1 + G = G + 1 by omega]
    exact this
  | succ d ih =>
    intro op F G ho
    have := main (d + 1) op (d + 1 + F) (d + 1 + G) (by omega) (fun d2 h => by
      have e : d2 = d := by omega
      subst e
      exact ih (op + 1) F G (by omega))
    rw [show d + 1 + 1 + F = d + 1 + F + 1 by omega, show d + 1 + 1 + G = d + 1 + G + 1 by omega]
    exact this
