/-! The law: its loop, its start. -/
theorem RR_0 {M : gM} (hc : ic0 M) (hm : im0 M) : RR M M := by
  obtain ⟨a0, ⟨a1, a2⟩, ⟨a3, a4, a5⟩, a6, ⟨a7, a8⟩, a9, a10, a11⟩ := hc
  obtain ⟨v1, ⟨v2, v3, v4, v5, v6⟩, ⟨b0, b1, b3⟩, ⟨v8, v9, v10, v11, v12⟩, s466, -⟩ := hm
  have nWe : nW M = 0 := by unfold nW; rw [v8]; exact nI_clamp (by omega)
  have nCe : nC M = 0 := by unfold nC; rw [v9]; exact nI_clamp (by omega)
  have nHe : nH M = 0 := by unfold nH; rw [v10]; exact nI_clamp (by omega)
  have nLe : nL M = 0 := by unfold nL; rw [v2]; rfl
  have r0 : ∀ k, k < 8 → M 930 k = -1 := fun k hk => by rw [v1 k (by omega), if_pos hk]
  have r1 : ∀ k, 8 ≤ k → k < 48 → M 930 k = 0 := fun k h8 hk => by rw [v1 k hk, if_neg (by omega)]
  refine ⟨R_tape_0 a2 b1, ⟨?_, ?_, ?_, ?_⟩, ⟨⟨⟨?_, ?_, ?_⟩, ?_, fun k hk => ?_, fun k hk => ?_, fun w hw => ?_⟩, ⟨⟨?_, ?_, ?_, ?_, ?_⟩, fun w hw => ?_, fun k hk => ?_, fun k hk => ?_⟩⟩, ⟨⟨?_, Or.inl nLe⟩, Or.inl ⟨v2, ?_, ?_⟩⟩, ⟨0, by omega, v3, a7, fun k hk => absurd hk (by omega), fun g hg => Or.inl (a8 g hg)⟩, ⟨⟨⟨fun k hk => Or.inl (r0 k hk), fun k hk => ⟨0, by omega, r1 _ (by omega) (by omega)⟩, fun k hk => ⟨0, by omega, r1 _ (by omega) (by omega)⟩, fun k _ hk => r1 _ (by omega) (by omega), ⟨0, Or.inr rfl, r1 _ (by omega) (by omega)⟩, ⟨0, Or.inr rfl, r1 _ (by omega) (by omega)⟩, ⟨0, 0, 0, by omega, r1 _ (by omega) (by omega), r1 _ (by omega) (by omega), by omega, r1 _ (by omega) (by omega), by omega⟩⟩, ⟨0, by omega, r1 _ (by omega) (by omega)⟩⟩, ⟨fun k hk => ?_, ?_, ?_, ?_, ?_, ?_, ?_, ?_⟩⟩, ⟨0, by omega, v4, a11, fun j hj => absurd hj (by omega)⟩, ⟨0, by omega, v6, a0 14, fun j hj => absurd hj (by omega)⟩⟩
  · rw [a1, b3]
  · rw [a0, v5]
  · rw [a0, s466]
  · rw [a0, s466]
  · rw [nWe]; exact v8
  · rw [nCe]; exact v9
  · rw [nHe]; exact v10
  · rw [nWe, nCe, nHe]; exact ⟨by omega, by omega, by omega⟩
  · rw [nCe] at hk; exact absurd hk (by omega)
  · rw [nCe] at hk; exact absurd hk (by omega)
  · rw [nWe] at hw; exact absurd hw (by omega)
  · rw [a5 5 (by omega), v8]; rfl
  · rw [a5 6 (by omega), v9]; rfl
  · rw [a5 7 (by omega), v10]; rfl
  · rw [a3, v11]
  · rw [a4, v12]
  · rw [nWe] at hw; exact absurd hw (by omega)
  · rw [nCe] at hk; exact absurd hk (by omega)
  · rw [nHe] at hk; exact absurd hk (by omega)
  · rw [nLe]; exact v2
  · rw [a6]
  · rw [a6]
  · rw [r0 k hk, r1 (8 + k) (by omega) (by omega), r1 (16 + k) (by omega) (by omega), r1 (24 + k) (by omega) (by omega), r1 (32 + k) (by omega) (by omega)]
    exact a9 k hk
  · rw [r1 _ (by omega) (by omega)]; exact a10 5 (by omega) (by omega)
  · rw [r1 _ (by omega) (by omega)]; exact a10 6 (by omega) (by omega)
  · rw [r1 _ (by omega) (by omega)]; exact a10 7 (by omega) (by omega)
  · rw [r1 _ (by omega) (by omega)]; exact a10 8 (by omega) (by omega)
  · rw [r1 _ (by omega) (by omega)]; exact a10 9 (by omega) (by omega)
  · rw [r1 _ (by omega) (by omega)]; exact a10 10 (by omega) (by omega)
  · rw [r1 _ (by omega) (by omega)]; exact a10 11 (by omega) (by omega)
theorem and_63 (v : Int32) : ∃ c, c < 64 ∧ v &&& (63 : Int32) = nI c := by
  refine ⟨v.toBitVec.toNat % 64, Nat.mod_lt _ (by decide), ?_⟩
  apply Int32.toBitVec_inj.mp
  apply BitVec.eq_of_toNat_eq
  rw [Int32.toBitVec_and, BitVec.toNat_and]
  have h1 : ((63 : Int32).toBitVec).toNat = 2 ^ 6 - 1 := by decide
  rw [h1, Nat.and_two_pow_sub_one_eq_mod]
  have h2 : v.toBitVec.toNat % 2 ^ 6 < 2 ^ 32 := Nat.lt_of_lt_of_le (Nat.mod_lt _ (by decide)) (by decide)
  show v.toBitVec.toNat % 2 ^ 6 = (BitVec.ofNat 32 (v.toBitVec.toNat % 64)).toNat
  rw [BitVec.toNat_ofNat, Nat.mod_eq_of_lt (show v.toBitVec.toNat % 64 < 2 ^ 32 from h2)]
theorem law_le {L i : Nat} (hL : L ≤ 4096) (hi : i ≤ 5000) (h : ¬ nI L - (8 : Int32) < nI i) : i + 8 ≤ L := by
  by_cases h8 : L < 8
  · exfalso
    apply h
    have h1 : nI L - (8 : Int32) < 0 := (by decide +kernel : ∀ L, L < 8 → nI L - (8 : Int32) < 0) L h8
    exact Int32.lt_of_lt_of_le h1 (nI_le (a := 0) (by omega) (by omega))
  · have e : nI L - (8 : Int32) = nI (L - 8) := by
      have : nI (L - 8) + (8 : Int32) = nI L := by
        rw [show (8 : Int32) = nI 8 from rfl, nI_add, show L - 8 + 8 = L by omega]
      rw [← this, Int32.add_sub_cancel]
    rw [e] at h
    have : ¬ L - 8 < i := fun z => h (nI_lt z (by omega))
    omega

set_option maxRecDepth 20000 in
theorem law_loop {l : Launch} {C : gC} {L : Nat} {xs : Nat → Int32} (hC : g_ctx l C) (hL : g_cl C L xs) {Q : Option Value → gX → Prop} {d : Nat} (hd : 60 ≤ d) (hL4 : L ≤ 4096) (hQ : ∀ X, Q (some (.int 1)) X) : ∀ (k i : Nat) (M : gM) (sz kc ks : Nat), L < i + 8 * (k + 1) → i ≤ 5000 → kc + 8 * k ≤ 601024 → ks + 48 * k ≤ 7293034 → RR M M → M 956 2 = 1 → GW l C qLW d Q gN kc ks 23 [(4, .int (nI i)), (0, .retAddr 3000), (1, .ref 0), (2, .ref 464), (3, .ref 956)] [] (956, g_S0, M, sz) := by
  intro k
  have exit : ∀ (i : Nat) (M : gM) (sz kc ks : Nat), kc ≤ 601024 → ks ≤ 7293034 → GW l C qLW d Q gN kc ks 2629 [(4, .int (nI i)), (0, .retAddr 3000), (1, .ref 0), (2, .ref 464), (3, .ref 956)] [] (956, g_S0, M, sz) := by
    intro i M sz kc ks h1 h2
    refine gb_run 1 (pc2 := 2630) (ls2 := [(4, .int (nI i)), (0, .retAddr 3000), (1, .ref 0), (2, .ref 464), (3, .ref 956)]) (st2 := [.int 1]) (M2 := M) hC hqLW rfl ?_
    exact gb_zret hqLW rfl rfl (by show kc ≤ 601024; omega) (by show ks ≤ 7293034; omega) (Or.inr rfl) (hQ _)
  have head : ∀ (i : Nat) (M : gM) (sz kc ks : Nat), i ≤ 5000 → kc ≤ 601024 → ks ≤ 7293034 → (i + 8 ≤ L → GW l C qLW d Q gN kc ks 33 [(4, .int (nI i)), (0, .retAddr 3000), (1, .ref 0), (2, .ref 464), (3, .ref 956)] [] (956, g_S0, M, sz)) → GW l C qLW d Q gN kc ks 23 [(4, .int (nI i)), (0, .retAddr 3000), (1, .ref 0), (2, .ref 464), (3, .ref 956)] [] (956, g_S0, M, sz) := by
    intro i M sz kc ks hi h1 h2 kk
    refine gb_run 2 (pc2 := 26) (ls2 := [(4, .int (nI i)), (0, .retAddr 3000), (1, .ref 0), (2, .ref 464), (3, .ref 956)]) (st2 := [.retAddr 3000, .int (nI i)]) (M2 := M) hC hqLW rfl ?_
    refine gw_xlen hL (g_dec hqLW (q := (.arraylength, 0, 0, 0)) rfl).1 ?_
    refine gb_run 2 (pc2 := 30) (ls2 := [(4, .int (nI i)), (0, .retAddr 3000), (1, .ref 0), (2, .ref 464), (3, .ref 956)]) (st2 := [.int (nI L - 8), .int (nI i)]) (M2 := M) hC hqLW rfl ?_
    exact gb_icmp_gt hqLW rfl (fun _ => exit i M sz kc ks h1 h2) (fun q => kk (law_le hL4 hi q))
  induction k with
  | zero =>
    intro i M sz kc ks h1 h2 h3 h4 hR h5
    exact head i M sz kc ks h2 (by omega) (by omega) (fun q => absurd q (by omega))
  | succ k ih =>
    intro i M sz kc ks h1 h2i h3 h4 hR h2
    refine head i M sz kc ks h2i (by omega) (by omega) (fun hi8 => ?_)
    have K : ∀ (M2 : gM) (sz2 kc2 ks2 : Nat), kc2 ≤ kc + 8 → ks2 ≤ ks + 48 → RR M2 M2 → M2 956 2 = 1 → GW l C qLW d Q gN kc2 ks2 2623 [(4, .int (nI i)), (0, .retAddr 3000), (1, .ref 0), (2, .ref 464), (3, .ref 956)] [] (956, g_S0, M2, sz2) := by
      intro M2 sz2 kc2 ks2 q1 q2 q3 q4
      refine gb_run 2 (pc2 := 23) (ls2 := [(4, .int (nI i + 8)), (0, .retAddr 3000), (1, .ref 0), (2, .ref 464), (3, .ref 956)]) (st2 := []) (M2 := M2) hC hqLW rfl ?_
      have e8 : nI i + (8 : Int32) = nI (i + 8) := nI_add i 8
      rw [e8]
      exact ih (i + 8) M2 sz2 kc2 ks2 (by omega) (by omega) (by omega) (by omega) q3 q4
    refine gb_run 2 (pc2 := 36) (ls2 := [(4, .int (nI i)), (0, .retAddr 3000), (1, .ref 0), (2, .ref 464), (3, .ref 956)]) (st2 := [.int (nI i), .retAddr 3000]) (M2 := M) hC hqLW rfl ?_
    refine gw_xld hL (vp_in_nI (by omega) (by omega)) (g_dec hqLW (q := (.iaload, 0, 0, 0)) rfl).1 ?_
    obtain ⟨x0, hx0⟩ : ∃ y, y = xs (nI i).toNatClampNeg := ⟨_, rfl⟩
    rw [← hx0]
    refine gb_run 2 (pc2 := 40) (ls2 := [(4, .int (nI i)), (0, .retAddr 3000), (1, .ref 0), (2, .ref 464), (3, .ref 956)]) (st2 := [.int (x0 &&& 63)]) (M2 := M) hC hqLW rfl ?_
    obtain ⟨c, hc, ec⟩ := and_63 x0
    rw [ec]
    by_cases c41 : c < 41
    · rcases (show c = 0 ∨ c = 1 ∨ c = 2 ∨ c = 3 ∨ c = 4 ∨ c = 5 ∨ c = 6 ∨ c = 7 ∨ c = 8 ∨ c = 9 ∨ c = 10 ∨ c = 11 ∨ c = 12 ∨ c = 13 ∨ c = 14 ∨ c = 15 ∨ c = 16 ∨ c = 17 ∨ c = 18 ∨ c = 19 ∨ c = 20 ∨ c = 21 ∨ c = 22 ∨ c = 23 ∨ c = 24 ∨ c = 25 ∨ c = 26 ∨ c = 27 ∨ c = 28 ∨ c = 29 ∨ c = 30 ∨ c = 31 ∨ c = 32 ∨ c = 33 ∨ c = 34 ∨ c = 35 ∨ c = 36 ∨ c = 37 ∨ c = 38 ∨ c = 39 ∨ c = 40 by omega) with rfl | rfl | rfl | rfl | rfl | rfl | rfl | rfl | rfl | rfl | rfl | rfl | rfl | rfl | rfl | rfl | rfl | rfl | rfl | rfl | rfl | rfl | rfl | rfl | rfl | rfl | rfl | rfl | rfl | rfl | rfl | rfl | rfl | rfl | rfl | rfl | rfl | rfl | rfl | rfl | rfl
      · exact gb_tblIn (tgt := 220) hqLW rfl (by decide) (by decide) rfl (by decide) (lc_0 hC hL hd hL4 hi8 (by omega) (by omega) hR h2 K)
      · exact gb_tblIn (tgt := 293) hqLW rfl (by decide) (by decide) rfl (by decide) (lc_1 hC hL hd hL4 hi8 (by omega) (by omega) hR h2 K)
      · exact gb_tblIn (tgt := 349) hqLW rfl (by decide) (by decide) rfl (by decide) (lc_2 hC hL hd hL4 hi8 (by omega) (by omega) hR h2 K)
      · exact gb_tblIn (tgt := 405) hqLW rfl (by decide) (by decide) rfl (by decide) (lc_3 hC hL hd hL4 hi8 (by omega) (by omega) hR h2 K)
      · exact gb_tblIn (tgt := 461) hqLW rfl (by decide) (by decide) rfl (by decide) (lc_4 hC hL hd hL4 hi8 (by omega) (by omega) hR h2 K)
      · exact gb_tblIn (tgt := 517) hqLW rfl (by decide) (by decide) rfl (by decide) (lc_5 hC hL hd hL4 hi8 (by omega) (by omega) hR h2 K)
      · exact gb_tblIn (tgt := 530) hqLW rfl (by decide) (by decide) rfl (by decide) (lc_6 hC hL hd hL4 hi8 (by omega) (by omega) hR h2 K)
      · exact gb_tblIn (tgt := 543) hqLW rfl (by decide) (by decide) rfl (by decide) (lc_7 hC hL hd hL4 hi8 (by omega) (by omega) hR h2 K)
      · exact gb_tblIn (tgt := 599) hqLW rfl (by decide) (by decide) rfl (by decide) (lc_8 hC hL hd hL4 hi8 (by omega) (by omega) hR h2 K)
      · exact gb_tblIn (tgt := 667) hqLW rfl (by decide) (by decide) rfl (by decide) (lc_9 hC hL hd hL4 hi8 (by omega) (by omega) hR h2 K)
      · exact gb_tblIn (tgt := 735) hqLW rfl (by decide) (by decide) rfl (by decide) (lc_10 hC hL hd hL4 hi8 (by omega) (by omega) hR h2 K)
      · exact gb_tblIn (tgt := 803) hqLW rfl (by decide) (by decide) rfl (by decide) (lc_11 hC hL hd hL4 hi8 (by omega) (by omega) hR h2 K)
      · exact gb_tblIn (tgt := 883) hqLW rfl (by decide) (by decide) rfl (by decide) (lc_12 hC hL hd hL4 hi8 (by omega) (by omega) hR h2 K)
      · exact gb_tblIn (tgt := 1015) hqLW rfl (by decide) (by decide) rfl (by decide) (lc_13 hC hL hd hL4 hi8 (by omega) (by omega) hR h2 K)
      · exact gb_tblIn (tgt := 1083) hqLW rfl (by decide) (by decide) rfl (by decide) (lc_14 hC hL hd hL4 hi8 (by omega) (by omega) hR h2 K)
      · exact gb_tblIn (tgt := 1151) hqLW rfl (by decide) (by decide) rfl (by decide) (lc_15 hC hL hd hL4 hi8 (by omega) (by omega) hR h2 K)
      · exact gb_tblIn (tgt := 1207) hqLW rfl (by decide) (by decide) rfl (by decide) (lc_16 hC hL hd hL4 hi8 (by omega) (by omega) hR h2 K)
      · exact gb_tblIn (tgt := 1263) hqLW rfl (by decide) (by decide) rfl (by decide) (lc_17 hC hL hd hL4 hi8 (by omega) (by omega) hR h2 K)
      · exact gb_tblIn (tgt := 1276) hqLW rfl (by decide) (by decide) rfl (by decide) (lc_18 hC hL hd hL4 hi8 (by omega) (by omega) hR h2 K)
      · exact gb_tblIn (tgt := 1344) hqLW rfl (by decide) (by decide) rfl (by decide) (lc_19 hC hL hd hL4 hi8 (by omega) (by omega) hR h2 K)
      · exact gb_tblIn (tgt := 1424) hqLW rfl (by decide) (by decide) rfl (by decide) (lc_20 hC hL hd hL4 hi8 (by omega) (by omega) hR h2 K)
      · exact gb_tblIn (tgt := 1480) hqLW rfl (by decide) (by decide) rfl (by decide) (lc_21 hC hL hd hL4 hi8 (by omega) (by omega) hR h2 K)
      · exact gb_tblIn (tgt := 1536) hqLW rfl (by decide) (by decide) rfl (by decide) (lc_22 hC hL hd hL4 hi8 (by omega) (by omega) hR h2 K)
      · exact gb_tblIn (tgt := 1603) hqLW rfl (by decide) (by decide) rfl (by decide) (lc_23 hC hL hd hL4 hi8 (by omega) (by omega) hR h2 K)
      · exact gb_tblIn (tgt := 1671) hqLW rfl (by decide) (by decide) rfl (by decide) (lc_24 hC hL hd hL4 hi8 (by omega) (by omega) hR h2 K)
      · exact gb_tblIn (tgt := 1750) hqLW rfl (by decide) (by decide) rfl (by decide) (lc_25 hC hL hd hL4 hi8 (by omega) (by omega) hR h2 K)
      · exact gb_tblIn (tgt := 1806) hqLW rfl (by decide) (by decide) rfl (by decide) (lc_26 hC hL hd hL4 hi8 (by omega) (by omega) hR h2 K)
      · exact gb_tblIn (tgt := 1874) hqLW rfl (by decide) (by decide) rfl (by decide) (lc_27 hC hL hd hL4 hi8 (by omega) (by omega) hR h2 K)
      · exact gb_tblIn (tgt := 1954) hqLW rfl (by decide) (by decide) rfl (by decide) (lc_28 hC hL hd hL4 hi8 (by omega) (by omega) hR h2 K)
      · exact gb_tblIn (tgt := 2034) hqLW rfl (by decide) (by decide) rfl (by decide) (lc_29 hC hL hd hL4 hi8 (by omega) (by omega) hR h2 K)
      · exact gb_tblIn (tgt := 2102) hqLW rfl (by decide) (by decide) rfl (by decide) (lc_30 hC hL hd hL4 hi8 (by omega) (by omega) hR h2 K)
      · exact gb_tblIn (tgt := 2158) hqLW rfl (by decide) (by decide) rfl (by decide) (lc_31 hC hL hd hL4 hi8 (by omega) (by omega) hR h2 K)
      · exact gb_tblIn (tgt := 2171) hqLW rfl (by decide) (by decide) rfl (by decide) (lc_32 hC hL hd hL4 hi8 (by omega) (by omega) hR h2 K)
      · exact gb_tblIn (tgt := 2239) hqLW rfl (by decide) (by decide) rfl (by decide) (lc_33 hC hL hd hL4 hi8 (by omega) (by omega) hR h2 K)
      · exact gb_tblIn (tgt := 2295) hqLW rfl (by decide) (by decide) rfl (by decide) (lc_34 hC hL hd hL4 hi8 (by omega) (by omega) hR h2 K)
      · exact gb_tblIn (tgt := 2351) hqLW rfl (by decide) (by decide) rfl (by decide) (lc_35 hC hL hd hL4 hi8 (by omega) (by omega) hR h2 K)
      · exact gb_tblIn (tgt := 2443) hqLW rfl (by decide) (by decide) rfl (by decide) (lc_36 hC hL hd hL4 hi8 (by omega) (by omega) hR h2 K)
      · exact gb_tblIn (tgt := 2547) hqLW rfl (by decide) (by decide) rfl (by decide) (lc_37 hC hL hd hL4 hi8 (by omega) (by omega) hR h2 K)
      · exact gb_tblIn (tgt := 2560) hqLW rfl (by decide) (by decide) rfl (by decide) (lc_38 hC hL hd hL4 hi8 (by omega) (by omega) hR h2 K)
      · exact gb_tblIn (tgt := 2573) hqLW rfl (by decide) (by decide) rfl (by decide) (lc_39 hC hL hd hL4 hi8 (by omega) (by omega) hR h2 K)
      · exact gb_tblIn (tgt := 2598) hqLW rfl (by decide) (by decide) rfl (by decide) (lc_40 hC hL hd hL4 hi8 (by omega) (by omega) hR h2 K)
    · have h40 : (40 : Int) < (nI c).toInt := by
        have := (by decide +kernel : ∀ c, c < 64 → ¬ c < 41 → (40 : Int) < (nI c).toInt) c hc c41
        exact this
      exact gb_tblOut (tgt := 2623) hqLW rfl (Or.inr h40) (by decide) (K M sz kc ks (by omega) (by omega) hR h2)
set_option maxRecDepth 20000 in
theorem law_start {l : Launch} {C : gC} {L : Nat} {xs : Nat → Int32} (hC : g_ctx l C) (hL : g_cl C L xs) {Q : Option Value → gX → Prop} {d : Nat} (hd : 60 ≤ d) (hL4 : L ≤ 4096) (hQ : ∀ X, Q (some (.int 1)) X) : GW l C qLW d Q gN 0 0 0 [(0, .retAddr 3000)] [] (0, g_S0, fun _ _ => 0, g_b C) := by
  refine gw_new (ci := 11) (Cn := RX11) (T := TX11) (N := 18) hC (g_dec hqLW (q := (.new 8, 0, 0, 0)) rfl).1 rfl (by decide) (g_mem_tb (i := 25) (by decide +kernel)) (g_mem_tb (i := 26) (by decide +kernel)) (g_mem_tb (i := 1) (by decide +kernel)) (by decide) rfl (Nat.le_of_ble_eq_true rfl) (Nat.le_of_ble_eq_true rfl) ?_
  rw [g_up1_zero rfl]
  refine gb_run 1 (pc2 := 4) (ls2 := [(0, .retAddr 3000)]) (st2 := [.ref 0, .ref 0]) (M2 := fun _ _ => 0) hC hqLW rfl ?_
  refine gw_invI (z := qX11_init) (a := 0) (av := []) (rest := [.ref 0]) hC (i_HH (d := d - 1) hC (fun _ _ => 0) (g_b C) (by omega) rfl (fun _ _ => rfl)) (fun _ _ h => h) (g_dec hqLW (q := (.invokespecial 117, 0, 0, 0)) rfl).1 (g_mem_tb (i := 27) (by decide +kernel)) rfl rfl (g_mem_tb kX11_init.1) (g_mem_tb kX11_init.2.1) (g_mem_tb kX11_init.2.2.1) kX11_init.2.2.2.1 (by omega) kX11_init.2.2.2.2 rfl rfl (Nat.le_of_ble_eq_true rfl) ⟨(Nat.le_of_ble_eq_true rfl), (Nat.le_of_ble_eq_true rfl)⟩ ?_
  rintro r X' ⟨rfl, M1, ⟨c0, z1⟩, rfl⟩
  refine gb_run 1 (pc2 := 8) (ls2 := [(1, .ref 0), (0, .retAddr 3000)]) (st2 := []) (M2 := M1) hC hqLW rfl ?_
  refine gw_new (ci := 12) (Cn := RX12) (T := TX12) (N := 47) hC (g_dec hqLW (q := (.new 118, 0, 0, 0)) rfl).1 rfl (by decide) (g_mem_tb (i := 1375) (by decide +kernel)) (g_mem_tb (i := 1376) (by decide +kernel)) (g_mem_tb (i := 13) (by decide +kernel)) (by decide) rfl (Nat.le_of_ble_eq_true rfl) (Nat.le_of_ble_eq_true rfl) ?_
  rw [g_up1_zero (z1 464 (by decide))]
  refine gb_run 1 (pc2 := 12) (ls2 := [(1, .ref 0), (0, .retAddr 3000)]) (st2 := [.ref 464, .ref 464]) (M2 := M1) hC hqLW rfl ?_
  refine gw_invI (z := qX12_init) (a := 464) (av := []) (rest := [.ref 464]) hC (i_model (d := d - 1) hC M1 (g_b C + 464) (by omega) rfl z1) (fun _ _ h => h) (g_dec hqLW (q := (.invokespecial 120, 0, 0, 0)) rfl).1 (g_mem_tb (i := 1377) (by decide +kernel)) rfl rfl (g_mem_tb kX12_init.1) (g_mem_tb kX12_init.2.1) (g_mem_tb kX12_init.2.2.1) kX12_init.2.2.2.1 (by omega) kX12_init.2.2.2.2 rfl rfl (Nat.le_of_ble_eq_true rfl) ⟨(Nat.le_of_ble_eq_true rfl), (Nat.le_of_ble_eq_true rfl)⟩ ?_
  rintro r X' ⟨rfl, M2, ⟨m0, z2⟩, rfl⟩
  refine gb_run 2 (pc2 := 17) (ls2 := [(2, .ref 464), (1, .ref 0), (0, .retAddr 3000)]) (st2 := [.int 1]) (M2 := M2) hC hqLW rfl ?_
  refine gw_newlong hC hL (g_dec hqLW (q := (.newarray .long, 0, 0, 0)) rfl).1 (g_mem_tb (i := 1960) (by decide +kernel)) rfl (Nat.le_of_ble_eq_true rfl) (Nat.le_of_ble_eq_true rfl) ?_
  obtain ⟨M3, e3⟩ : ∃ y, y = g_up1 M2 956 (g_en 0) := ⟨_, rfl⟩
  rw [← e3]
  have o3 : ∀ b, b ≠ 956 → M3 b = M2 b := fun b hb => by rw [e3, g_up1_ne hb]
  refine gb_run 3 (pc2 := 23) (ls2 := [(4, .int 0), (3, .ref 956), (2, .ref 464), (1, .ref 0), (0, .retAddr 3000)]) (st2 := []) (M2 := M3) hC hqLW rfl ?_
  refine gw_pick [0, 4, 3, 2, 1] (ls2 := [(4, .int (nI 0)), (0, .retAddr 3000), (1, .ref 0), (2, .ref 464), (3, .ref 956)]) rfl ?_
  refine law_loop hC hL hd hL4 hQ 512 0 M3 _ _ _ (by omega) (by omega) (Nat.le_of_ble_eq_true rfl) (Nat.le_of_ble_eq_true rfl) ?_ (by rw [e3, g_up1_at]; rfl)
  have R2 : RR M2 M2 := RR_0 ?_ m0
  · exact RR_c (RR_m R2 (fun b _ hb => o3 b hb)) (fun b hb => o3 b (by omega))
  · unfold ic0 at c0 ⊢
    rw [z2 0 (by decide), z2 1 (by decide), z2 3 (by decide), z2 15 (by decide), z2 23 (by decide), z2 24 (by decide), z2 52 (by decide), z2 49 (by decide), z2 50 (by decide), z2 51 (by decide), z2 53 (by decide), z2 48 (by decide), z2 47 (by decide)]
    exact c0
