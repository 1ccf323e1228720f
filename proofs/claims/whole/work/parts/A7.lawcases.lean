/-! The law: each kind of call. -/
set_option maxRecDepth 20000 in
theorem lc_0 {l : Launch} {C : gC} {L : Nat} {xs : Nat → Int32} (hC : g_ctx l C) (hL : g_cl C L xs) {Q : Option Value → gX → Prop} {i kc ks sz d : Nat} (hd : 60 ≤ d) (hL4 : L ≤ 4096) (hi : i + 8 ≤ L) (hkc : kc + 8 ≤ 601024) (hks : ks + 48 ≤ 7293034) {M : gM} (hR : RR M M) (h2 : M 956 2 = 1) (K : ∀ (M2 : gM) (sz2 kc2 ks2 : Nat), kc2 ≤ kc + 8 → ks2 ≤ ks + 48 → RR M2 M2 → M2 956 2 = 1 → GW l C qLW d Q gN kc2 ks2 2623 [(4, .int (nI i)), (0, .retAddr 3000), (1, .ref 0), (2, .ref 464), (3, .ref 956)] [] (956, g_S0, M2, sz2)) : GW l C qLW d Q gN kc ks 220 [(4, .int (nI i)), (0, .retAddr 3000), (1, .ref 0), (2, .ref 464), (3, .ref 956)] [] (956, g_S0, M, sz) := by
  have vj : ∀ j, j < 8 → vp_in (nI i + nI j) L := fun j hj => by rw [nI_add]; exact vp_in_nI (by omega) (by omega)
  obtain ⟨x1, hx1⟩ : ∃ y, y = xs (nI i + 1).toNatClampNeg := ⟨_, rfl⟩
  obtain ⟨x2, hx2⟩ : ∃ y, y = xs (nI i + 2).toNatClampNeg := ⟨_, rfl⟩
  obtain ⟨x3, hx3⟩ : ∃ y, y = xs (nI i + 3).toNatClampNeg := ⟨_, rfl⟩
  obtain ⟨x4, hx4⟩ : ∃ y, y = xs (nI i + 4).toNatClampNeg := ⟨_, rfl⟩
  obtain ⟨x5, hx5⟩ : ∃ y, y = xs (nI i + 5).toNatClampNeg := ⟨_, rfl⟩
  refine gb_run 5 (pc2 := 226) (ls2 := [(4, .int (nI i)), (0, .retAddr 3000), (1, .ref 0), (2, .ref 464), (3, .ref 956)]) (st2 := [.int (nI i + 1), .retAddr 3000, .ref 0]) (M2 := M) hC hqLW rfl ?_
  refine gw_xld hL (vj 1 (by decide)) (g_dec hqLW (q := (.iaload, 0, 0, 0)) rfl).1 ?_
  rw [← hx1]
  refine gb_run 4 (pc2 := 232) (ls2 := [(4, .int (nI i)), (0, .retAddr 3000), (1, .ref 0), (2, .ref 464), (3, .ref 956)]) (st2 := [.int (nI i + 2), .retAddr 3000, .int x1, .ref 0]) (M2 := M) hC hqLW rfl ?_
  refine gw_xld hL (vj 2 (by decide)) (g_dec hqLW (q := (.iaload, 0, 0, 0)) rfl).1 ?_
  rw [← hx2]
  refine gb_run 4 (pc2 := 238) (ls2 := [(4, .int (nI i)), (0, .retAddr 3000), (1, .ref 0), (2, .ref 464), (3, .ref 956)]) (st2 := [.int (nI i + 3), .retAddr 3000, .int x2, .int x1, .ref 0]) (M2 := M) hC hqLW rfl ?_
  refine gw_xld hL (vj 3 (by decide)) (g_dec hqLW (q := (.iaload, 0, 0, 0)) rfl).1 ?_
  rw [← hx3]
  refine gb_run 4 (pc2 := 244) (ls2 := [(4, .int (nI i)), (0, .retAddr 3000), (1, .ref 0), (2, .ref 464), (3, .ref 956)]) (st2 := [.int (nI i + 4), .retAddr 3000, .int x3, .int x2, .int x1, .ref 0]) (M2 := M) hC hqLW rfl ?_
  refine gw_xld hL (vj 4 (by decide)) (g_dec hqLW (q := (.iaload, 0, 0, 0)) rfl).1 ?_
  rw [← hx4]
  refine gb_run 4 (pc2 := 250) (ls2 := [(4, .int (nI i)), (0, .retAddr 3000), (1, .ref 0), (2, .ref 464), (3, .ref 956)]) (st2 := [.int (nI i + 5), .retAddr 3000, .int x4, .int x3, .int x2, .int x1, .ref 0]) (M2 := M) hC hqLW rfl ?_
  refine gw_xld hL (vj 5 (by decide)) (g_dec hqLW (q := (.iaload, 0, 0, 0)) rfl).1 ?_
  rw [← hx5]
  obtain ⟨v, M1, t, y1, y2, k4, k5⟩ := b_feed x1 x2 x3 x4 x5 hR
  refine gz_cV (z := qX11_feed) (a := 0) (av := [.int x1, .int x2, .int x3, .int x4, .int x5]) (rest := []) (pl := 534) hC hqLW rfl kX11_feed sX11_feed (by decide +kernel) (c_FX_feed hC x1 x2 x3 x4 x5 M sz (d - 1) (by omega) (v, M1) y1) (by omega) ⟨rfl, rfl⟩ rfl (Nat.le_of_ble_eq_true rfl) (by decide) rfl rfl rfl (Nat.le_of_ble_eq_true rfl) ⟨by show kc ≤ 601024; omega, by show ks ≤ 7293034; omega⟩ (gs_I ?_)
  refine gb_run 5 (pc2 := 260) (ls2 := [(4, .int (nI i)), (0, .retAddr 3000), (1, .ref 0), (2, .ref 464), (3, .ref 956)]) (st2 := [.int (nI i + 1), .retAddr 3000, .ref 464, .int v]) (M2 := M1) hC hqLW rfl ?_
  refine gw_xld hL (vj 1 (by decide)) (g_dec hqLW (q := (.iaload, 0, 0, 0)) rfl).1 ?_
  rw [← hx1]
  refine gb_run 4 (pc2 := 266) (ls2 := [(4, .int (nI i)), (0, .retAddr 3000), (1, .ref 0), (2, .ref 464), (3, .ref 956)]) (st2 := [.int (nI i + 2), .retAddr 3000, .int x1, .ref 464, .int v]) (M2 := M1) hC hqLW rfl ?_
  refine gw_xld hL (vj 2 (by decide)) (g_dec hqLW (q := (.iaload, 0, 0, 0)) rfl).1 ?_
  rw [← hx2]
  refine gb_run 4 (pc2 := 272) (ls2 := [(4, .int (nI i)), (0, .retAddr 3000), (1, .ref 0), (2, .ref 464), (3, .ref 956)]) (st2 := [.int (nI i + 3), .retAddr 3000, .int x2, .int x1, .ref 464, .int v]) (M2 := M1) hC hqLW rfl ?_
  refine gw_xld hL (vj 3 (by decide)) (g_dec hqLW (q := (.iaload, 0, 0, 0)) rfl).1 ?_
  rw [← hx3]
  refine gb_run 4 (pc2 := 278) (ls2 := [(4, .int (nI i)), (0, .retAddr 3000), (1, .ref 0), (2, .ref 464), (3, .ref 956)]) (st2 := [.int (nI i + 4), .retAddr 3000, .int x3, .int x2, .int x1, .ref 464, .int v]) (M2 := M1) hC hqLW rfl ?_
  refine gw_xld hL (vj 4 (by decide)) (g_dec hqLW (q := (.iaload, 0, 0, 0)) rfl).1 ?_
  rw [← hx4]
  refine gb_run 4 (pc2 := 284) (ls2 := [(4, .int (nI i)), (0, .retAddr 3000), (1, .ref 0), (2, .ref 464), (3, .ref 956)]) (st2 := [.int (nI i + 5), .retAddr 3000, .int x4, .int x3, .int x2, .int x1, .ref 464, .int v]) (M2 := M1) hC hqLW rfl ?_
  refine gw_xld hL (vj 5 (by decide)) (g_dec hqLW (q := (.iaload, 0, 0, 0)) rfl).1 ?_
  rw [← hx5]
  refine gz_cV (z := qX12_feed) (a := 464) (av := [.int x1, .int x2, .int x3, .int x4, .int x5]) (rest := [.int v]) (pl := 1540) hC hqLW rfl kX12_feed sX12_feed (by decide +kernel) (c_FM_feed hC x1 x2 x3 x4 x5 M1 sz (d - 1) (by omega) (v, t) y2) (by omega) ⟨rfl, rfl⟩ rfl (Nat.le_of_ble_eq_true rfl) (by decide) rfl rfl rfl (Nat.le_of_ble_eq_true rfl) ⟨by show kc ≤ 601024; omega, by show ks ≤ 7293034; omega⟩ (gs_I ?_)
  refine gb_icmp_eq hqLW rfl (fun _ => ?_) (fun q => absurd rfl q)
  refine gw_pick [0, 1, 2, 3, 4] (ls2 := [(4, .int (nI i)), (0, .retAddr 3000), (1, .ref 0), (2, .ref 464), (3, .ref 956)]) rfl ?_
  exact K t _ _ _ (by omega) (by omega) k4 (by rw [k5]; exact h2)

set_option maxRecDepth 20000 in
theorem lc_1 {l : Launch} {C : gC} {L : Nat} {xs : Nat → Int32} (hC : g_ctx l C) (hL : g_cl C L xs) {Q : Option Value → gX → Prop} {i kc ks sz d : Nat} (hd : 60 ≤ d) (hL4 : L ≤ 4096) (hi : i + 8 ≤ L) (hkc : kc + 8 ≤ 601024) (hks : ks + 48 ≤ 7293034) {M : gM} (hR : RR M M) (h2 : M 956 2 = 1) (K : ∀ (M2 : gM) (sz2 kc2 ks2 : Nat), kc2 ≤ kc + 8 → ks2 ≤ ks + 48 → RR M2 M2 → M2 956 2 = 1 → GW l C qLW d Q gN kc2 ks2 2623 [(4, .int (nI i)), (0, .retAddr 3000), (1, .ref 0), (2, .ref 464), (3, .ref 956)] [] (956, g_S0, M2, sz2)) : GW l C qLW d Q gN kc ks 293 [(4, .int (nI i)), (0, .retAddr 3000), (1, .ref 0), (2, .ref 464), (3, .ref 956)] [] (956, g_S0, M, sz) := by
  have vj : ∀ j, j < 8 → vp_in (nI i + nI j) L := fun j hj => by rw [nI_add]; exact vp_in_nI (by omega) (by omega)
  obtain ⟨x1, hx1⟩ : ∃ y, y = xs (nI i + 1).toNatClampNeg := ⟨_, rfl⟩
  refine gb_run 5 (pc2 := 299) (ls2 := [(4, .int (nI i)), (0, .retAddr 3000), (1, .ref 0), (2, .ref 464), (3, .ref 956)]) (st2 := [.int (nI i + 1), .retAddr 3000, .ref 0]) (M2 := M) hC hqLW rfl ?_
  refine gw_xld hL (vj 1 (by decide)) (g_dec hqLW (q := (.iaload, 0, 0, 0)) rfl).1 ?_
  rw [← hx1]
  refine gb_run 1 (pc2 := 301) (ls2 := [(4, .int (nI i)), (0, .retAddr 3000), (1, .ref 0), (2, .ref 464), (3, .ref 956)]) (st2 := [.ref 956, .int x1, .ref 0]) (M2 := M) hC hqLW rfl ?_
  obtain ⟨e, v, M1, y1, f1, k1⟩ := b_park x1 hR
  refine gw_invSH (z := qL_park) (hh := [(0, 9, 12, 13)]) (av := [.ref 0, .int x1, .ref 956]) (rest := []) hC (k_park hC hL x1 M sz (d - 1) (by omega) h2 y1 (f1 956 (by decide))) (g_dec hqLW (q := (.invokestatic 125, 0, 0, 0)) rfl).1 (g_mem_tb (i := 645) (by decide +kernel)) (g_mem_tb (i := 646) (by decide +kernel)) (g_mem_tb (i := 0) (by decide +kernel)) (g_mem_tb (i := 647) (by decide +kernel)) (show qL_park.1.cls ≠ "java/lang/invoke/MethodHandle" ∧ qL_park.1.cls ≠ "java/lang/invoke/VarHandle" ∧ (parseMethodDescriptor qL_park.1.desc).map (fun q => q.parameters.length) = some 3 by decide +kernel) (by omega) (by decide) rfl rfl (Nat.le_of_ble_eq_true rfl) ⟨by show kc + 8 ≤ 601024; omega, by show ks + 48 ≤ 7293034; omega⟩ ?_
  rintro r X' ⟨M2, sz2, rfl, g1, g2, g3, rfl⟩
  obtain ⟨w, t, y2, k2, k3, k4, k5⟩ := k1 M2 g1
  obtain ⟨kE, hk⟩ : ∃ y, y = (if e = 0 then (0 : Int32) else if e = 1 then 1 else 1) := ⟨_, rfl⟩
  rw [← hk] at k2 ⊢
  refine gb_run 6 (pc2 := 312) (ls2 := [(5, .int kE), (4, .int (nI i)), (0, .retAddr 3000), (1, .ref 0), (2, .ref 464), (3, .ref 956)]) (st2 := [.int (nI i + 1), .retAddr 3000, .ref 464]) (M2 := M2) hC hqLW rfl ?_
  refine gw_xld hL (vj 1 (by decide)) (g_dec hqLW (q := (.iaload, 0, 0, 0)) rfl).1 ?_
  rw [← hx1]
  refine gz_cV (z := qX12_park) (a := 464) (av := [.int x1]) (rest := []) (pl := 1544) hC hqLW rfl kX12_park sX12_park (by decide +kernel) (c_FM_park hC x1 M2 sz2 (d - 1) (by omega) (w, t) y2) (by omega) ⟨rfl, rfl⟩ rfl (Nat.le_of_ble_eq_true rfl) (by decide) rfl rfl rfl (Nat.le_of_ble_eq_true rfl) ⟨by show kc + 8 ≤ 601024; omega, by show ks + 48 ≤ 7293034; omega⟩ (gs_I ?_)
  refine gb_run 2 (pc2 := 319) (ls2 := [(6, .int w), (5, .int kE), (4, .int (nI i)), (0, .retAddr 3000), (1, .ref 0), (2, .ref 464), (3, .ref 956)]) (st2 := [.ref 464]) (M2 := t) hC hqLW rfl ?_
  refine gz_cV (z := qX12_thrown) (a := 464) (av := []) (rest := []) (pl := 1536) hC hqLW rfl kX12_thrown sX12_thrown (by decide +kernel) (c_FM_thrown hC t sz2 (d - 1) (by omega)) (by omega) ⟨rfl, rfl⟩ rfl (Nat.le_of_ble_eq_true rfl) (by decide) rfl rfl rfl (Nat.le_of_ble_eq_true rfl) ⟨by show kc + 8 ≤ 601024; omega, by show ks + 48 ≤ 7293034; omega⟩ (gs_Ip ?_)
  refine gb_run 1 (pc2 := 324) (ls2 := [(6, .int w), (5, .int kE), (4, .int (nI i)), (0, .retAddr 3000), (1, .ref 0), (2, .ref 464), (3, .ref 956)]) (st2 := [.int kE, .int (FM_thrown t)]) (M2 := t) hC hqLW rfl ?_
  refine gb_icmp_eq hqLW rfl (fun _ => ?_) (fun q => absurd (show FM_thrown t = kE from k2) q)
  refine gb_run 1 (pc2 := 331) (ls2 := [(6, .int w), (5, .int kE), (4, .int (nI i)), (0, .retAddr 3000), (1, .ref 0), (2, .ref 464), (3, .ref 956)]) (st2 := [.int kE]) (M2 := t) hC hqLW rfl ?_
  have done : ∀ ls0, ls0 = [(6, .int w), (5, .int kE), (4, .int (nI i)), (0, .retAddr 3000), (1, .ref 0), (2, .ref 464), (3, .ref 956)] → GW l C qLW d Q gN (kc + 8) (ks + 48) 346 ls0 [] (956, g_S0, t, sz2) := by
    rintro _ rfl
    refine gb_run 1 (pc2 := 2623) (ls2 := [(6, .int w), (5, .int kE), (4, .int (nI i)), (0, .retAddr 3000), (1, .ref 0), (2, .ref 464), (3, .ref 956)]) (st2 := []) (M2 := t) hC hqLW rfl ?_
    refine gw_pick [2, 3, 4, 5, 6] (ls2 := [(4, .int (nI i)), (0, .retAddr 3000), (1, .ref 0), (2, .ref 464), (3, .ref 956)]) rfl ?_
    exact K t _ _ _ (by omega) (by omega) k4 (by rw [k5]; exact g2)
  refine gb_if_ne hqLW rfl (fun _ => done _ rfl) (fun q => ?_)
  have e0 : e = 0 := by
    rw [hk] at q
    by_cases z : e = 0
    · exact z
    · rw [if_neg z] at q
      by_cases z2 : e = 1
      · rw [if_pos z2] at q; exact absurd q (by decide)
      · rw [if_neg z2] at q; exact absurd q (by decide)
  refine gb_run 2 (pc2 := 336) (ls2 := [(6, .int w), (5, .int kE), (4, .int (nI i)), (0, .retAddr 3000), (1, .ref 0), (2, .ref 464), (3, .ref 956)]) (st2 := [.int 0, .ref 956]) (M2 := t) hC hqLW rfl ?_
  refine gw_laload hC hL (by rw [k5]; exact g2) (g_dec hqLW (q := (.laload, 0, 0, 0)) rfl).1 ?_
  rw [show g_lg (t 956) = w.toInt64 by rw [k5, g3 e0, k3 e0]]
  refine gb_run 3 (pc2 := 341) (ls2 := [(6, .int w), (5, .int kE), (4, .int (nI i)), (0, .retAddr 3000), (1, .ref 0), (2, .ref 464), (3, .ref 956)]) (st2 := [.int (lg_cmp w.toInt64 w.toInt64)]) (M2 := t) hC hqLW rfl ?_
  exact gb_if_eq hqLW rfl (fun _ => done _ rfl) (fun q => absurd (lg_cmp_self w.toInt64) q)

set_option maxRecDepth 20000 in
theorem lc_2 {l : Launch} {C : gC} {L : Nat} {xs : Nat → Int32} (hC : g_ctx l C) (hL : g_cl C L xs) {Q : Option Value → gX → Prop} {i kc ks sz d : Nat} (hd : 60 ≤ d) (hL4 : L ≤ 4096) (hi : i + 8 ≤ L) (hkc : kc + 8 ≤ 601024) (hks : ks + 48 ≤ 7293034) {M : gM} (hR : RR M M) (h2 : M 956 2 = 1) (K : ∀ (M2 : gM) (sz2 kc2 ks2 : Nat), kc2 ≤ kc + 8 → ks2 ≤ ks + 48 → RR M2 M2 → M2 956 2 = 1 → GW l C qLW d Q gN kc2 ks2 2623 [(4, .int (nI i)), (0, .retAddr 3000), (1, .ref 0), (2, .ref 464), (3, .ref 956)] [] (956, g_S0, M2, sz2)) : GW l C qLW d Q gN kc ks 349 [(4, .int (nI i)), (0, .retAddr 3000), (1, .ref 0), (2, .ref 464), (3, .ref 956)] [] (956, g_S0, M, sz) := by
  have vj : ∀ j, j < 8 → vp_in (nI i + nI j) L := fun j hj => by rw [nI_add]; exact vp_in_nI (by omega) (by omega)
  obtain ⟨x1, hx1⟩ : ∃ y, y = xs (nI i + 1).toNatClampNeg := ⟨_, rfl⟩
  refine gb_run 5 (pc2 := 355) (ls2 := [(4, .int (nI i)), (0, .retAddr 3000), (1, .ref 0), (2, .ref 464), (3, .ref 956)]) (st2 := [.int (nI i + 1), .retAddr 3000, .ref 0]) (M2 := M) hC hqLW rfl ?_
  refine gw_xld hL (vj 1 (by decide)) (g_dec hqLW (q := (.iaload, 0, 0, 0)) rfl).1 ?_
  rw [← hx1]
  refine gb_run 1 (pc2 := 357) (ls2 := [(4, .int (nI i)), (0, .retAddr 3000), (1, .ref 0), (2, .ref 464), (3, .ref 956)]) (st2 := [.ref 956, .int x1, .ref 0]) (M2 := M) hC hqLW rfl ?_
  obtain ⟨e, v, M1, y1, f1, k1⟩ := b_law x1 hR
  refine gw_invSH (z := qL_law) (hh := [(0, 9, 12, 13)]) (av := [.ref 0, .int x1, .ref 956]) (rest := []) hC (k_law hC hL x1 M sz (d - 1) (by omega) h2 y1 (f1 956 (by decide))) (g_dec hqLW (q := (.invokestatic 135, 0, 0, 0)) rfl).1 (g_mem_tb (i := 864) (by decide +kernel)) (g_mem_tb (i := 865) (by decide +kernel)) (g_mem_tb (i := 0) (by decide +kernel)) (g_mem_tb (i := 866) (by decide +kernel)) (show qL_law.1.cls ≠ "java/lang/invoke/MethodHandle" ∧ qL_law.1.cls ≠ "java/lang/invoke/VarHandle" ∧ (parseMethodDescriptor qL_law.1.desc).map (fun q => q.parameters.length) = some 3 by decide +kernel) (by omega) (by decide) rfl rfl (Nat.le_of_ble_eq_true rfl) ⟨by show kc + 8 ≤ 601024; omega, by show ks + 48 ≤ 7293034; omega⟩ ?_
  rintro r X' ⟨M2, sz2, rfl, g1, g2, g3, rfl⟩
  obtain ⟨w, t, y2, k2, k3, k4, k5⟩ := k1 M2 g1
  obtain ⟨kE, hk⟩ : ∃ y, y = (if e = 0 then (0 : Int32) else if e = 1 then 1 else 1) := ⟨_, rfl⟩
  rw [← hk] at k2 ⊢
  refine gb_run 6 (pc2 := 368) (ls2 := [(5, .int kE), (4, .int (nI i)), (0, .retAddr 3000), (1, .ref 0), (2, .ref 464), (3, .ref 956)]) (st2 := [.int (nI i + 1), .retAddr 3000, .ref 464]) (M2 := M2) hC hqLW rfl ?_
  refine gw_xld hL (vj 1 (by decide)) (g_dec hqLW (q := (.iaload, 0, 0, 0)) rfl).1 ?_
  rw [← hx1]
  refine gz_cV (z := qX12_law) (a := 464) (av := [.int x1]) (rest := []) (pl := 1613) hC hqLW rfl kX12_law sX12_law (by decide +kernel) (c_FM_law hC x1 M2 sz2 (d - 1) (by omega) (w, t) y2) (by omega) ⟨rfl, rfl⟩ rfl (Nat.le_of_ble_eq_true rfl) (by decide) rfl rfl rfl (Nat.le_of_ble_eq_true rfl) ⟨by show kc + 8 ≤ 601024; omega, by show ks + 48 ≤ 7293034; omega⟩ (gs_I ?_)
  refine gb_run 2 (pc2 := 375) (ls2 := [(6, .int w), (5, .int kE), (4, .int (nI i)), (0, .retAddr 3000), (1, .ref 0), (2, .ref 464), (3, .ref 956)]) (st2 := [.ref 464]) (M2 := t) hC hqLW rfl ?_
  refine gz_cV (z := qX12_thrown) (a := 464) (av := []) (rest := []) (pl := 1536) hC hqLW rfl kX12_thrown sX12_thrown (by decide +kernel) (c_FM_thrown hC t sz2 (d - 1) (by omega)) (by omega) ⟨rfl, rfl⟩ rfl (Nat.le_of_ble_eq_true rfl) (by decide) rfl rfl rfl (Nat.le_of_ble_eq_true rfl) ⟨by show kc + 8 ≤ 601024; omega, by show ks + 48 ≤ 7293034; omega⟩ (gs_Ip ?_)
  refine gb_run 1 (pc2 := 380) (ls2 := [(6, .int w), (5, .int kE), (4, .int (nI i)), (0, .retAddr 3000), (1, .ref 0), (2, .ref 464), (3, .ref 956)]) (st2 := [.int kE, .int (FM_thrown t)]) (M2 := t) hC hqLW rfl ?_
  refine gb_icmp_eq hqLW rfl (fun _ => ?_) (fun q => absurd (show FM_thrown t = kE from k2) q)
  refine gb_run 1 (pc2 := 387) (ls2 := [(6, .int w), (5, .int kE), (4, .int (nI i)), (0, .retAddr 3000), (1, .ref 0), (2, .ref 464), (3, .ref 956)]) (st2 := [.int kE]) (M2 := t) hC hqLW rfl ?_
  have done : ∀ ls0, ls0 = [(6, .int w), (5, .int kE), (4, .int (nI i)), (0, .retAddr 3000), (1, .ref 0), (2, .ref 464), (3, .ref 956)] → GW l C qLW d Q gN (kc + 8) (ks + 48) 402 ls0 [] (956, g_S0, t, sz2) := by
    rintro _ rfl
    refine gb_run 1 (pc2 := 2623) (ls2 := [(6, .int w), (5, .int kE), (4, .int (nI i)), (0, .retAddr 3000), (1, .ref 0), (2, .ref 464), (3, .ref 956)]) (st2 := []) (M2 := t) hC hqLW rfl ?_
    refine gw_pick [2, 3, 4, 5, 6] (ls2 := [(4, .int (nI i)), (0, .retAddr 3000), (1, .ref 0), (2, .ref 464), (3, .ref 956)]) rfl ?_
    exact K t _ _ _ (by omega) (by omega) k4 (by rw [k5]; exact g2)
  refine gb_if_ne hqLW rfl (fun _ => done _ rfl) (fun q => ?_)
  have e0 : e = 0 := by
    rw [hk] at q
    by_cases z : e = 0
    · exact z
    · rw [if_neg z] at q
      by_cases z2 : e = 1
      · rw [if_pos z2] at q; exact absurd q (by decide)
      · rw [if_neg z2] at q; exact absurd q (by decide)
  refine gb_run 2 (pc2 := 392) (ls2 := [(6, .int w), (5, .int kE), (4, .int (nI i)), (0, .retAddr 3000), (1, .ref 0), (2, .ref 464), (3, .ref 956)]) (st2 := [.int 0, .ref 956]) (M2 := t) hC hqLW rfl ?_
  refine gw_laload hC hL (by rw [k5]; exact g2) (g_dec hqLW (q := (.laload, 0, 0, 0)) rfl).1 ?_
  rw [show g_lg (t 956) = w.toInt64 by rw [k5, g3 e0, k3 e0]]
  refine gb_run 3 (pc2 := 397) (ls2 := [(6, .int w), (5, .int kE), (4, .int (nI i)), (0, .retAddr 3000), (1, .ref 0), (2, .ref 464), (3, .ref 956)]) (st2 := [.int (lg_cmp w.toInt64 w.toInt64)]) (M2 := t) hC hqLW rfl ?_
  exact gb_if_eq hqLW rfl (fun _ => done _ rfl) (fun q => absurd (lg_cmp_self w.toInt64) q)

set_option maxRecDepth 20000 in
theorem lc_3 {l : Launch} {C : gC} {L : Nat} {xs : Nat → Int32} (hC : g_ctx l C) (hL : g_cl C L xs) {Q : Option Value → gX → Prop} {i kc ks sz d : Nat} (hd : 60 ≤ d) (hL4 : L ≤ 4096) (hi : i + 8 ≤ L) (hkc : kc + 8 ≤ 601024) (hks : ks + 48 ≤ 7293034) {M : gM} (hR : RR M M) (h2 : M 956 2 = 1) (K : ∀ (M2 : gM) (sz2 kc2 ks2 : Nat), kc2 ≤ kc + 8 → ks2 ≤ ks + 48 → RR M2 M2 → M2 956 2 = 1 → GW l C qLW d Q gN kc2 ks2 2623 [(4, .int (nI i)), (0, .retAddr 3000), (1, .ref 0), (2, .ref 464), (3, .ref 956)] [] (956, g_S0, M2, sz2)) : GW l C qLW d Q gN kc ks 405 [(4, .int (nI i)), (0, .retAddr 3000), (1, .ref 0), (2, .ref 464), (3, .ref 956)] [] (956, g_S0, M, sz) := by
  have vj : ∀ j, j < 8 → vp_in (nI i + nI j) L := fun j hj => by rw [nI_add]; exact vp_in_nI (by omega) (by omega)
  obtain ⟨x1, hx1⟩ : ∃ y, y = xs (nI i + 1).toNatClampNeg := ⟨_, rfl⟩
  refine gb_run 5 (pc2 := 411) (ls2 := [(4, .int (nI i)), (0, .retAddr 3000), (1, .ref 0), (2, .ref 464), (3, .ref 956)]) (st2 := [.int (nI i + 1), .retAddr 3000, .ref 0]) (M2 := M) hC hqLW rfl ?_
  refine gw_xld hL (vj 1 (by decide)) (g_dec hqLW (q := (.iaload, 0, 0, 0)) rfl).1 ?_
  rw [← hx1]
  refine gb_run 1 (pc2 := 413) (ls2 := [(4, .int (nI i)), (0, .retAddr 3000), (1, .ref 0), (2, .ref 464), (3, .ref 956)]) (st2 := [.ref 956, .int x1, .ref 0]) (M2 := M) hC hqLW rfl ?_
  obtain ⟨e, v, M1, y1, f1, k1⟩ := b_work x1 hR
  refine gw_invSH (z := qL_work) (hh := [(0, 9, 12, 13)]) (av := [.ref 0, .int x1, .ref 956]) (rest := []) hC (k_work hC hL x1 M sz (d - 1) (by omega) h2 y1 (f1 956 (by decide))) (g_dec hqLW (q := (.invokestatic 138, 0, 0, 0)) rfl).1 (g_mem_tb (i := 926) (by decide +kernel)) (g_mem_tb (i := 927) (by decide +kernel)) (g_mem_tb (i := 0) (by decide +kernel)) (g_mem_tb (i := 928) (by decide +kernel)) (show qL_work.1.cls ≠ "java/lang/invoke/MethodHandle" ∧ qL_work.1.cls ≠ "java/lang/invoke/VarHandle" ∧ (parseMethodDescriptor qL_work.1.desc).map (fun q => q.parameters.length) = some 3 by decide +kernel) (by omega) (by decide) rfl rfl (Nat.le_of_ble_eq_true rfl) ⟨by show kc + 8 ≤ 601024; omega, by show ks + 48 ≤ 7293034; omega⟩ ?_
  rintro r X' ⟨M2, sz2, rfl, g1, g2, g3, rfl⟩
  obtain ⟨w, t, y2, k2, k3, k4, k5⟩ := k1 M2 g1
  obtain ⟨kE, hk⟩ : ∃ y, y = (if e = 0 then (0 : Int32) else if e = 1 then 1 else 1) := ⟨_, rfl⟩
  rw [← hk] at k2 ⊢
  refine gb_run 6 (pc2 := 424) (ls2 := [(5, .int kE), (4, .int (nI i)), (0, .retAddr 3000), (1, .ref 0), (2, .ref 464), (3, .ref 956)]) (st2 := [.int (nI i + 1), .retAddr 3000, .ref 464]) (M2 := M2) hC hqLW rfl ?_
  refine gw_xld hL (vj 1 (by decide)) (g_dec hqLW (q := (.iaload, 0, 0, 0)) rfl).1 ?_
  rw [← hx1]
  refine gz_cV (z := qX12_work) (a := 464) (av := [.int x1]) (rest := []) (pl := 1660) hC hqLW rfl kX12_work sX12_work (by decide +kernel) (c_FM_work hC x1 M2 sz2 (d - 1) (by omega) (w, t) y2) (by omega) ⟨rfl, rfl⟩ rfl (Nat.le_of_ble_eq_true rfl) (by decide) rfl rfl rfl (Nat.le_of_ble_eq_true rfl) ⟨by show kc + 8 ≤ 601024; omega, by show ks + 48 ≤ 7293034; omega⟩ (gs_I ?_)
  refine gb_run 2 (pc2 := 431) (ls2 := [(6, .int w), (5, .int kE), (4, .int (nI i)), (0, .retAddr 3000), (1, .ref 0), (2, .ref 464), (3, .ref 956)]) (st2 := [.ref 464]) (M2 := t) hC hqLW rfl ?_
  refine gz_cV (z := qX12_thrown) (a := 464) (av := []) (rest := []) (pl := 1536) hC hqLW rfl kX12_thrown sX12_thrown (by decide +kernel) (c_FM_thrown hC t sz2 (d - 1) (by omega)) (by omega) ⟨rfl, rfl⟩ rfl (Nat.le_of_ble_eq_true rfl) (by decide) rfl rfl rfl (Nat.le_of_ble_eq_true rfl) ⟨by show kc + 8 ≤ 601024; omega, by show ks + 48 ≤ 7293034; omega⟩ (gs_Ip ?_)
  refine gb_run 1 (pc2 := 436) (ls2 := [(6, .int w), (5, .int kE), (4, .int (nI i)), (0, .retAddr 3000), (1, .ref 0), (2, .ref 464), (3, .ref 956)]) (st2 := [.int kE, .int (FM_thrown t)]) (M2 := t) hC hqLW rfl ?_
  refine gb_icmp_eq hqLW rfl (fun _ => ?_) (fun q => absurd (show FM_thrown t = kE from k2) q)
  refine gb_run 1 (pc2 := 443) (ls2 := [(6, .int w), (5, .int kE), (4, .int (nI i)), (0, .retAddr 3000), (1, .ref 0), (2, .ref 464), (3, .ref 956)]) (st2 := [.int kE]) (M2 := t) hC hqLW rfl ?_
  have done : ∀ ls0, ls0 = [(6, .int w), (5, .int kE), (4, .int (nI i)), (0, .retAddr 3000), (1, .ref 0), (2, .ref 464), (3, .ref 956)] → GW l C qLW d Q gN (kc + 8) (ks + 48) 458 ls0 [] (956, g_S0, t, sz2) := by
    rintro _ rfl
    refine gb_run 1 (pc2 := 2623) (ls2 := [(6, .int w), (5, .int kE), (4, .int (nI i)), (0, .retAddr 3000), (1, .ref 0), (2, .ref 464), (3, .ref 956)]) (st2 := []) (M2 := t) hC hqLW rfl ?_
    refine gw_pick [2, 3, 4, 5, 6] (ls2 := [(4, .int (nI i)), (0, .retAddr 3000), (1, .ref 0), (2, .ref 464), (3, .ref 956)]) rfl ?_
    exact K t _ _ _ (by omega) (by omega) k4 (by rw [k5]; exact g2)
  refine gb_if_ne hqLW rfl (fun _ => done _ rfl) (fun q => ?_)
  have e0 : e = 0 := by
    rw [hk] at q
    by_cases z : e = 0
    · exact z
    · rw [if_neg z] at q
      by_cases z2 : e = 1
      · rw [if_pos z2] at q; exact absurd q (by decide)
      · rw [if_neg z2] at q; exact absurd q (by decide)
  refine gb_run 2 (pc2 := 448) (ls2 := [(6, .int w), (5, .int kE), (4, .int (nI i)), (0, .retAddr 3000), (1, .ref 0), (2, .ref 464), (3, .ref 956)]) (st2 := [.int 0, .ref 956]) (M2 := t) hC hqLW rfl ?_
  refine gw_laload hC hL (by rw [k5]; exact g2) (g_dec hqLW (q := (.laload, 0, 0, 0)) rfl).1 ?_
  rw [show g_lg (t 956) = w.toInt64 by rw [k5, g3 e0, k3 e0]]
  refine gb_run 3 (pc2 := 453) (ls2 := [(6, .int w), (5, .int kE), (4, .int (nI i)), (0, .retAddr 3000), (1, .ref 0), (2, .ref 464), (3, .ref 956)]) (st2 := [.int (lg_cmp w.toInt64 w.toInt64)]) (M2 := t) hC hqLW rfl ?_
  exact gb_if_eq hqLW rfl (fun _ => done _ rfl) (fun q => absurd (lg_cmp_self w.toInt64) q)

set_option maxRecDepth 20000 in
theorem lc_4 {l : Launch} {C : gC} {L : Nat} {xs : Nat → Int32} (hC : g_ctx l C) (hL : g_cl C L xs) {Q : Option Value → gX → Prop} {i kc ks sz d : Nat} (hd : 60 ≤ d) (hL4 : L ≤ 4096) (hi : i + 8 ≤ L) (hkc : kc + 8 ≤ 601024) (hks : ks + 48 ≤ 7293034) {M : gM} (hR : RR M M) (h2 : M 956 2 = 1) (K : ∀ (M2 : gM) (sz2 kc2 ks2 : Nat), kc2 ≤ kc + 8 → ks2 ≤ ks + 48 → RR M2 M2 → M2 956 2 = 1 → GW l C qLW d Q gN kc2 ks2 2623 [(4, .int (nI i)), (0, .retAddr 3000), (1, .ref 0), (2, .ref 464), (3, .ref 956)] [] (956, g_S0, M2, sz2)) : GW l C qLW d Q gN kc ks 461 [(4, .int (nI i)), (0, .retAddr 3000), (1, .ref 0), (2, .ref 464), (3, .ref 956)] [] (956, g_S0, M, sz) := by
  have vj : ∀ j, j < 8 → vp_in (nI i + nI j) L := fun j hj => by rw [nI_add]; exact vp_in_nI (by omega) (by omega)
  obtain ⟨x1, hx1⟩ : ∃ y, y = xs (nI i + 1).toNatClampNeg := ⟨_, rfl⟩
  refine gb_run 5 (pc2 := 467) (ls2 := [(4, .int (nI i)), (0, .retAddr 3000), (1, .ref 0), (2, .ref 464), (3, .ref 956)]) (st2 := [.int (nI i + 1), .retAddr 3000, .ref 0]) (M2 := M) hC hqLW rfl ?_
  refine gw_xld hL (vj 1 (by decide)) (g_dec hqLW (q := (.iaload, 0, 0, 0)) rfl).1 ?_
  rw [← hx1]
  refine gb_run 1 (pc2 := 469) (ls2 := [(4, .int (nI i)), (0, .retAddr 3000), (1, .ref 0), (2, .ref 464), (3, .ref 956)]) (st2 := [.ref 956, .int x1, .ref 0]) (M2 := M) hC hqLW rfl ?_
  obtain ⟨e, v, M1, y1, f1, k1⟩ := b_songs x1 hR
  refine gw_invSH (z := qL_songs) (hh := [(0, 9, 12, 13)]) (av := [.ref 0, .int x1, .ref 956]) (rest := []) hC (k_songs hC hL x1 M sz (d - 1) (by omega) h2 y1 (f1 956 (by decide))) (g_dec hqLW (q := (.invokestatic 141, 0, 0, 0)) rfl).1 (g_mem_tb (i := 992) (by decide +kernel)) (g_mem_tb (i := 993) (by decide +kernel)) (g_mem_tb (i := 0) (by decide +kernel)) (g_mem_tb (i := 994) (by decide +kernel)) (show qL_songs.1.cls ≠ "java/lang/invoke/MethodHandle" ∧ qL_songs.1.cls ≠ "java/lang/invoke/VarHandle" ∧ (parseMethodDescriptor qL_songs.1.desc).map (fun q => q.parameters.length) = some 3 by decide +kernel) (by omega) (by decide) rfl rfl (Nat.le_of_ble_eq_true rfl) ⟨by show kc + 8 ≤ 601024; omega, by show ks + 48 ≤ 7293034; omega⟩ ?_
  rintro r X' ⟨M2, sz2, rfl, g1, g2, g3, rfl⟩
  obtain ⟨w, t, y2, k2, k3, k4, k5⟩ := k1 M2 g1
  obtain ⟨kE, hk⟩ : ∃ y, y = (if e = 0 then (0 : Int32) else if e = 1 then 1 else 1) := ⟨_, rfl⟩
  rw [← hk] at k2 ⊢
  refine gb_run 6 (pc2 := 480) (ls2 := [(5, .int kE), (4, .int (nI i)), (0, .retAddr 3000), (1, .ref 0), (2, .ref 464), (3, .ref 956)]) (st2 := [.int (nI i + 1), .retAddr 3000, .ref 464]) (M2 := M2) hC hqLW rfl ?_
  refine gw_xld hL (vj 1 (by decide)) (g_dec hqLW (q := (.iaload, 0, 0, 0)) rfl).1 ?_
  rw [← hx1]
  refine gz_cV (z := qX12_songs) (a := 464) (av := [.int x1]) (rest := []) (pl := 1649) hC hqLW rfl kX12_songs sX12_songs (by decide +kernel) (c_FM_songs hC x1 M2 sz2 (d - 1) (by omega) (w, t) y2) (by omega) ⟨rfl, rfl⟩ rfl (Nat.le_of_ble_eq_true rfl) (by decide) rfl rfl rfl (Nat.le_of_ble_eq_true rfl) ⟨by show kc + 8 ≤ 601024; omega, by show ks + 48 ≤ 7293034; omega⟩ (gs_I ?_)
  refine gb_run 2 (pc2 := 487) (ls2 := [(6, .int w), (5, .int kE), (4, .int (nI i)), (0, .retAddr 3000), (1, .ref 0), (2, .ref 464), (3, .ref 956)]) (st2 := [.ref 464]) (M2 := t) hC hqLW rfl ?_
  refine gz_cV (z := qX12_thrown) (a := 464) (av := []) (rest := []) (pl := 1536) hC hqLW rfl kX12_thrown sX12_thrown (by decide +kernel) (c_FM_thrown hC t sz2 (d - 1) (by omega)) (by omega) ⟨rfl, rfl⟩ rfl (Nat.le_of_ble_eq_true rfl) (by decide) rfl rfl rfl (Nat.le_of_ble_eq_true rfl) ⟨by show kc + 8 ≤ 601024; omega, by show ks + 48 ≤ 7293034; omega⟩ (gs_Ip ?_)
  refine gb_run 1 (pc2 := 492) (ls2 := [(6, .int w), (5, .int kE), (4, .int (nI i)), (0, .retAddr 3000), (1, .ref 0), (2, .ref 464), (3, .ref 956)]) (st2 := [.int kE, .int (FM_thrown t)]) (M2 := t) hC hqLW rfl ?_
  refine gb_icmp_eq hqLW rfl (fun _ => ?_) (fun q => absurd (show FM_thrown t = kE from k2) q)
  refine gb_run 1 (pc2 := 499) (ls2 := [(6, .int w), (5, .int kE), (4, .int (nI i)), (0, .retAddr 3000), (1, .ref 0), (2, .ref 464), (3, .ref 956)]) (st2 := [.int kE]) (M2 := t) hC hqLW rfl ?_
  have done : ∀ ls0, ls0 = [(6, .int w), (5, .int kE), (4, .int (nI i)), (0, .retAddr 3000), (1, .ref 0), (2, .ref 464), (3, .ref 956)] → GW l C qLW d Q gN (kc + 8) (ks + 48) 514 ls0 [] (956, g_S0, t, sz2) := by
    rintro _ rfl
    refine gb_run 1 (pc2 := 2623) (ls2 := [(6, .int w), (5, .int kE), (4, .int (nI i)), (0, .retAddr 3000), (1, .ref 0), (2, .ref 464), (3, .ref 956)]) (st2 := []) (M2 := t) hC hqLW rfl ?_
    refine gw_pick [2, 3, 4, 5, 6] (ls2 := [(4, .int (nI i)), (0, .retAddr 3000), (1, .ref 0), (2, .ref 464), (3, .ref 956)]) rfl ?_
    exact K t _ _ _ (by omega) (by omega) k4 (by rw [k5]; exact g2)
  refine gb_if_ne hqLW rfl (fun _ => done _ rfl) (fun q => ?_)
  have e0 : e = 0 := by
    rw [hk] at q
    by_cases z : e = 0
    · exact z
    · rw [if_neg z] at q
      by_cases z2 : e = 1
      · rw [if_pos z2] at q; exact absurd q (by decide)
      · rw [if_neg z2] at q; exact absurd q (by decide)
  refine gb_run 2 (pc2 := 504) (ls2 := [(6, .int w), (5, .int kE), (4, .int (nI i)), (0, .retAddr 3000), (1, .ref 0), (2, .ref 464), (3, .ref 956)]) (st2 := [.int 0, .ref 956]) (M2 := t) hC hqLW rfl ?_
  refine gw_laload hC hL (by rw [k5]; exact g2) (g_dec hqLW (q := (.laload, 0, 0, 0)) rfl).1 ?_
  rw [show g_lg (t 956) = w.toInt64 by rw [k5, g3 e0, k3 e0]]
  refine gb_run 3 (pc2 := 509) (ls2 := [(6, .int w), (5, .int kE), (4, .int (nI i)), (0, .retAddr 3000), (1, .ref 0), (2, .ref 464), (3, .ref 956)]) (st2 := [.int (lg_cmp w.toInt64 w.toInt64)]) (M2 := t) hC hqLW rfl ?_
  exact gb_if_eq hqLW rfl (fun _ => done _ rfl) (fun q => absurd (lg_cmp_self w.toInt64) q)

set_option maxRecDepth 20000 in
theorem lc_5 {l : Launch} {C : gC} {L : Nat} {xs : Nat → Int32} (hC : g_ctx l C) (hL : g_cl C L xs) {Q : Option Value → gX → Prop} {i kc ks sz d : Nat} (hd : 60 ≤ d) (hL4 : L ≤ 4096) (hi : i + 8 ≤ L) (hkc : kc + 8 ≤ 601024) (hks : ks + 48 ≤ 7293034) {M : gM} (hR : RR M M) (h2 : M 956 2 = 1) (K : ∀ (M2 : gM) (sz2 kc2 ks2 : Nat), kc2 ≤ kc + 8 → ks2 ≤ ks + 48 → RR M2 M2 → M2 956 2 = 1 → GW l C qLW d Q gN kc2 ks2 2623 [(4, .int (nI i)), (0, .retAddr 3000), (1, .ref 0), (2, .ref 464), (3, .ref 956)] [] (956, g_S0, M2, sz2)) : GW l C qLW d Q gN kc ks 517 [(4, .int (nI i)), (0, .retAddr 3000), (1, .ref 0), (2, .ref 464), (3, .ref 956)] [] (956, g_S0, M, sz) := by
  have vj : ∀ j, j < 8 → vp_in (nI i + nI j) L := fun j hj => by rw [nI_add]; exact vp_in_nI (by omega) (by omega)
  refine gb_run 1 (pc2 := 518) (ls2 := [(4, .int (nI i)), (0, .retAddr 3000), (1, .ref 0), (2, .ref 464), (3, .ref 956)]) (st2 := [.ref 0]) (M2 := M) hC hqLW rfl ?_
  obtain ⟨v, t, y1, y2, k4, k5⟩ := b_fault hR
  have y1 : FX_fault M = v := Option.some.inj y1
  refine gz_cV (z := qX11_fault) (a := 0) (av := []) (rest := []) (pl := 545) hC hqLW rfl kX11_fault sX11_fault (by decide +kernel) (c_FX_fault hC M sz (d - 1) (by omega)) (by omega) ⟨rfl, rfl⟩ rfl (Nat.le_of_ble_eq_true rfl) (by decide) rfl rfl rfl (Nat.le_of_ble_eq_true rfl) ⟨by show kc ≤ 601024; omega, by show ks ≤ 7293034; omega⟩ (gs_Ip ?_)
  rw [y1]
  refine gb_run 1 (pc2 := 522) (ls2 := [(4, .int (nI i)), (0, .retAddr 3000), (1, .ref 0), (2, .ref 464), (3, .ref 956)]) (st2 := [.ref 464, .int v]) (M2 := M) hC hqLW rfl ?_
  refine gz_cV (z := qX12_fault) (a := 464) (av := []) (rest := [.int v]) (pl := 1656) hC hqLW rfl kX12_fault sX12_fault (by decide +kernel) (c_FM_fault hC M sz (d - 1) (by omega) (v, t) y2) (by omega) ⟨rfl, rfl⟩ rfl (Nat.le_of_ble_eq_true rfl) (by decide) rfl rfl rfl (Nat.le_of_ble_eq_true rfl) ⟨by show kc ≤ 601024; omega, by show ks ≤ 7293034; omega⟩ (gs_I ?_)
  refine gb_icmp_eq hqLW rfl (fun _ => ?_) (fun q => absurd rfl q)
  refine gw_pick [0, 1, 2, 3, 4] (ls2 := [(4, .int (nI i)), (0, .retAddr 3000), (1, .ref 0), (2, .ref 464), (3, .ref 956)]) rfl ?_
  exact K t _ _ _ (by omega) (by omega) k4 (by rw [k5]; exact h2)

set_option maxRecDepth 20000 in
theorem lc_6 {l : Launch} {C : gC} {L : Nat} {xs : Nat → Int32} (hC : g_ctx l C) (hL : g_cl C L xs) {Q : Option Value → gX → Prop} {i kc ks sz d : Nat} (hd : 60 ≤ d) (hL4 : L ≤ 4096) (hi : i + 8 ≤ L) (hkc : kc + 8 ≤ 601024) (hks : ks + 48 ≤ 7293034) {M : gM} (hR : RR M M) (h2 : M 956 2 = 1) (K : ∀ (M2 : gM) (sz2 kc2 ks2 : Nat), kc2 ≤ kc + 8 → ks2 ≤ ks + 48 → RR M2 M2 → M2 956 2 = 1 → GW l C qLW d Q gN kc2 ks2 2623 [(4, .int (nI i)), (0, .retAddr 3000), (1, .ref 0), (2, .ref 464), (3, .ref 956)] [] (956, g_S0, M2, sz2)) : GW l C qLW d Q gN kc ks 530 [(4, .int (nI i)), (0, .retAddr 3000), (1, .ref 0), (2, .ref 464), (3, .ref 956)] [] (956, g_S0, M, sz) := by
  have vj : ∀ j, j < 8 → vp_in (nI i + nI j) L := fun j hj => by rw [nI_add]; exact vp_in_nI (by omega) (by omega)
  refine gb_run 1 (pc2 := 531) (ls2 := [(4, .int (nI i)), (0, .retAddr 3000), (1, .ref 0), (2, .ref 464), (3, .ref 956)]) (st2 := [.ref 0]) (M2 := M) hC hqLW rfl ?_
  obtain ⟨v, M1, t, y1, y2, k4, k5⟩ := b_undo hR
  refine gz_cV (z := qX11_undo) (a := 0) (av := []) (rest := []) (pl := 549) hC hqLW rfl kX11_undo sX11_undo (by decide +kernel) (c_FX_undo hC M sz (d - 1) (by omega) (v, M1) y1) (by omega) ⟨rfl, rfl⟩ rfl (Nat.le_of_ble_eq_true rfl) (by decide) rfl rfl rfl (Nat.le_of_ble_eq_true rfl) ⟨by show kc ≤ 601024; omega, by show ks ≤ 7293034; omega⟩ (gs_I ?_)
  refine gb_run 1 (pc2 := 535) (ls2 := [(4, .int (nI i)), (0, .retAddr 3000), (1, .ref 0), (2, .ref 464), (3, .ref 956)]) (st2 := [.ref 464, .int v]) (M2 := M1) hC hqLW rfl ?_
  refine gz_cV (z := qX12_undo) (a := 464) (av := []) (rest := [.int v]) (pl := 1716) hC hqLW rfl kX12_undo sX12_undo (by decide +kernel) (c_FM_undo hC M1 sz (d - 1) (by omega) (v, t) y2) (by omega) ⟨rfl, rfl⟩ rfl (Nat.le_of_ble_eq_true rfl) (by decide) rfl rfl rfl (Nat.le_of_ble_eq_true rfl) ⟨by show kc ≤ 601024; omega, by show ks ≤ 7293034; omega⟩ (gs_I ?_)
  refine gb_icmp_eq hqLW rfl (fun _ => ?_) (fun q => absurd rfl q)
  refine gw_pick [0, 1, 2, 3, 4] (ls2 := [(4, .int (nI i)), (0, .retAddr 3000), (1, .ref 0), (2, .ref 464), (3, .ref 956)]) rfl ?_
  exact K t _ _ _ (by omega) (by omega) k4 (by rw [k5]; exact h2)

set_option maxRecDepth 20000 in
theorem lc_7 {l : Launch} {C : gC} {L : Nat} {xs : Nat → Int32} (hC : g_ctx l C) (hL : g_cl C L xs) {Q : Option Value → gX → Prop} {i kc ks sz d : Nat} (hd : 60 ≤ d) (hL4 : L ≤ 4096) (hi : i + 8 ≤ L) (hkc : kc + 8 ≤ 601024) (hks : ks + 48 ≤ 7293034) {M : gM} (hR : RR M M) (h2 : M 956 2 = 1) (K : ∀ (M2 : gM) (sz2 kc2 ks2 : Nat), kc2 ≤ kc + 8 → ks2 ≤ ks + 48 → RR M2 M2 → M2 956 2 = 1 → GW l C qLW d Q gN kc2 ks2 2623 [(4, .int (nI i)), (0, .retAddr 3000), (1, .ref 0), (2, .ref 464), (3, .ref 956)] [] (956, g_S0, M2, sz2)) : GW l C qLW d Q gN kc ks 543 [(4, .int (nI i)), (0, .retAddr 3000), (1, .ref 0), (2, .ref 464), (3, .ref 956)] [] (956, g_S0, M, sz) := by
  have vj : ∀ j, j < 8 → vp_in (nI i + nI j) L := fun j hj => by rw [nI_add]; exact vp_in_nI (by omega) (by omega)
  obtain ⟨x1, hx1⟩ : ∃ y, y = xs (nI i + 1).toNatClampNeg := ⟨_, rfl⟩
  refine gb_run 5 (pc2 := 549) (ls2 := [(4, .int (nI i)), (0, .retAddr 3000), (1, .ref 0), (2, .ref 464), (3, .ref 956)]) (st2 := [.int (nI i + 1), .retAddr 3000, .ref 0]) (M2 := M) hC hqLW rfl ?_
  refine gw_xld hL (vj 1 (by decide)) (g_dec hqLW (q := (.iaload, 0, 0, 0)) rfl).1 ?_
  rw [← hx1]
  refine gb_run 1 (pc2 := 551) (ls2 := [(4, .int (nI i)), (0, .retAddr 3000), (1, .ref 0), (2, .ref 464), (3, .ref 956)]) (st2 := [.ref 956, .int x1, .ref 0]) (M2 := M) hC hqLW rfl ?_
  obtain ⟨e, v, M1, y1, f1, k1⟩ := b_told x1 hR
  refine gw_invSH (z := qL_told) (hh := [(0, 9, 12, 13)]) (av := [.ref 0, .int x1, .ref 956]) (rest := []) hC (k_told hC hL x1 M sz (d - 1) (by omega) h2 y1 (f1 956 (by decide))) (g_dec hqLW (q := (.invokestatic 152, 0, 0, 0)) rfl).1 (g_mem_tb (i := 1023) (by decide +kernel)) (g_mem_tb (i := 1024) (by decide +kernel)) (g_mem_tb (i := 0) (by decide +kernel)) (g_mem_tb (i := 1025) (by decide +kernel)) (show qL_told.1.cls ≠ "java/lang/invoke/MethodHandle" ∧ qL_told.1.cls ≠ "java/lang/invoke/VarHandle" ∧ (parseMethodDescriptor qL_told.1.desc).map (fun q => q.parameters.length) = some 3 by decide +kernel) (by omega) (by decide) rfl rfl (Nat.le_of_ble_eq_true rfl) ⟨by show kc + 8 ≤ 601024; omega, by show ks + 48 ≤ 7293034; omega⟩ ?_
  rintro r X' ⟨M2, sz2, rfl, g1, g2, g3, rfl⟩
  obtain ⟨w, t, y2, k2, k3, k4, k5⟩ := k1 M2 g1
  obtain ⟨kE, hk⟩ : ∃ y, y = (if e = 0 then (0 : Int32) else if e = 1 then 1 else 1) := ⟨_, rfl⟩
  rw [← hk] at k2 ⊢
  refine gb_run 6 (pc2 := 562) (ls2 := [(5, .int kE), (4, .int (nI i)), (0, .retAddr 3000), (1, .ref 0), (2, .ref 464), (3, .ref 956)]) (st2 := [.int (nI i + 1), .retAddr 3000, .ref 464]) (M2 := M2) hC hqLW rfl ?_
  refine gw_xld hL (vj 1 (by decide)) (g_dec hqLW (q := (.iaload, 0, 0, 0)) rfl).1 ?_
  rw [← hx1]
  refine gz_cV (z := qX12_told) (a := 464) (av := [.int x1]) (rest := []) (pl := 1720) hC hqLW rfl kX12_told sX12_told (by decide +kernel) (c_FM_told hC x1 M2 sz2 (d - 1) (by omega) (w, t) y2) (by omega) ⟨rfl, rfl⟩ rfl (Nat.le_of_ble_eq_true rfl) (by decide) rfl rfl rfl (Nat.le_of_ble_eq_true rfl) ⟨by show kc + 8 ≤ 601024; omega, by show ks + 48 ≤ 7293034; omega⟩ (gs_I ?_)
  refine gb_run 2 (pc2 := 569) (ls2 := [(6, .int w), (5, .int kE), (4, .int (nI i)), (0, .retAddr 3000), (1, .ref 0), (2, .ref 464), (3, .ref 956)]) (st2 := [.ref 464]) (M2 := t) hC hqLW rfl ?_
  refine gz_cV (z := qX12_thrown) (a := 464) (av := []) (rest := []) (pl := 1536) hC hqLW rfl kX12_thrown sX12_thrown (by decide +kernel) (c_FM_thrown hC t sz2 (d - 1) (by omega)) (by omega) ⟨rfl, rfl⟩ rfl (Nat.le_of_ble_eq_true rfl) (by decide) rfl rfl rfl (Nat.le_of_ble_eq_true rfl) ⟨by show kc + 8 ≤ 601024; omega, by show ks + 48 ≤ 7293034; omega⟩ (gs_Ip ?_)
  refine gb_run 1 (pc2 := 574) (ls2 := [(6, .int w), (5, .int kE), (4, .int (nI i)), (0, .retAddr 3000), (1, .ref 0), (2, .ref 464), (3, .ref 956)]) (st2 := [.int kE, .int (FM_thrown t)]) (M2 := t) hC hqLW rfl ?_
  refine gb_icmp_eq hqLW rfl (fun _ => ?_) (fun q => absurd (show FM_thrown t = kE from k2) q)
  refine gb_run 1 (pc2 := 581) (ls2 := [(6, .int w), (5, .int kE), (4, .int (nI i)), (0, .retAddr 3000), (1, .ref 0), (2, .ref 464), (3, .ref 956)]) (st2 := [.int kE]) (M2 := t) hC hqLW rfl ?_
  have done : ∀ ls0, ls0 = [(6, .int w), (5, .int kE), (4, .int (nI i)), (0, .retAddr 3000), (1, .ref 0), (2, .ref 464), (3, .ref 956)] → GW l C qLW d Q gN (kc + 8) (ks + 48) 596 ls0 [] (956, g_S0, t, sz2) := by
    rintro _ rfl
    refine gb_run 1 (pc2 := 2623) (ls2 := [(6, .int w), (5, .int kE), (4, .int (nI i)), (0, .retAddr 3000), (1, .ref 0), (2, .ref 464), (3, .ref 956)]) (st2 := []) (M2 := t) hC hqLW rfl ?_
    refine gw_pick [2, 3, 4, 5, 6] (ls2 := [(4, .int (nI i)), (0, .retAddr 3000), (1, .ref 0), (2, .ref 464), (3, .ref 956)]) rfl ?_
    exact K t _ _ _ (by omega) (by omega) k4 (by rw [k5]; exact g2)
  refine gb_if_ne hqLW rfl (fun _ => done _ rfl) (fun q => ?_)
  have e0 : e = 0 := by
    rw [hk] at q
    by_cases z : e = 0
    · exact z
    · rw [if_neg z] at q
      by_cases z2 : e = 1
      · rw [if_pos z2] at q; exact absurd q (by decide)
      · rw [if_neg z2] at q; exact absurd q (by decide)
  refine gb_run 2 (pc2 := 586) (ls2 := [(6, .int w), (5, .int kE), (4, .int (nI i)), (0, .retAddr 3000), (1, .ref 0), (2, .ref 464), (3, .ref 956)]) (st2 := [.int 0, .ref 956]) (M2 := t) hC hqLW rfl ?_
  refine gw_laload hC hL (by rw [k5]; exact g2) (g_dec hqLW (q := (.laload, 0, 0, 0)) rfl).1 ?_
  rw [show g_lg (t 956) = w.toInt64 by rw [k5, g3 e0, k3 e0]]
  refine gb_run 3 (pc2 := 591) (ls2 := [(6, .int w), (5, .int kE), (4, .int (nI i)), (0, .retAddr 3000), (1, .ref 0), (2, .ref 464), (3, .ref 956)]) (st2 := [.int (lg_cmp w.toInt64 w.toInt64)]) (M2 := t) hC hqLW rfl ?_
  exact gb_if_eq hqLW rfl (fun _ => done _ rfl) (fun q => absurd (lg_cmp_self w.toInt64) q)

set_option maxRecDepth 20000 in
theorem lc_8 {l : Launch} {C : gC} {L : Nat} {xs : Nat → Int32} (hC : g_ctx l C) (hL : g_cl C L xs) {Q : Option Value → gX → Prop} {i kc ks sz d : Nat} (hd : 60 ≤ d) (hL4 : L ≤ 4096) (hi : i + 8 ≤ L) (hkc : kc + 8 ≤ 601024) (hks : ks + 48 ≤ 7293034) {M : gM} (hR : RR M M) (h2 : M 956 2 = 1) (K : ∀ (M2 : gM) (sz2 kc2 ks2 : Nat), kc2 ≤ kc + 8 → ks2 ≤ ks + 48 → RR M2 M2 → M2 956 2 = 1 → GW l C qLW d Q gN kc2 ks2 2623 [(4, .int (nI i)), (0, .retAddr 3000), (1, .ref 0), (2, .ref 464), (3, .ref 956)] [] (956, g_S0, M2, sz2)) : GW l C qLW d Q gN kc ks 599 [(4, .int (nI i)), (0, .retAddr 3000), (1, .ref 0), (2, .ref 464), (3, .ref 956)] [] (956, g_S0, M, sz) := by
  have vj : ∀ j, j < 8 → vp_in (nI i + nI j) L := fun j hj => by rw [nI_add]; exact vp_in_nI (by omega) (by omega)
  obtain ⟨x1, hx1⟩ : ∃ y, y = xs (nI i + 1).toNatClampNeg := ⟨_, rfl⟩
  obtain ⟨x2, hx2⟩ : ∃ y, y = xs (nI i + 2).toNatClampNeg := ⟨_, rfl⟩
  refine gb_run 5 (pc2 := 605) (ls2 := [(4, .int (nI i)), (0, .retAddr 3000), (1, .ref 0), (2, .ref 464), (3, .ref 956)]) (st2 := [.int (nI i + 1), .retAddr 3000, .ref 0]) (M2 := M) hC hqLW rfl ?_
  refine gw_xld hL (vj 1 (by decide)) (g_dec hqLW (q := (.iaload, 0, 0, 0)) rfl).1 ?_
  rw [← hx1]
  refine gb_run 4 (pc2 := 611) (ls2 := [(4, .int (nI i)), (0, .retAddr 3000), (1, .ref 0), (2, .ref 464), (3, .ref 956)]) (st2 := [.int (nI i + 2), .retAddr 3000, .int x1, .ref 0]) (M2 := M) hC hqLW rfl ?_
  refine gw_xld hL (vj 2 (by decide)) (g_dec hqLW (q := (.iaload, 0, 0, 0)) rfl).1 ?_
  rw [← hx2]
  refine gb_run 1 (pc2 := 613) (ls2 := [(4, .int (nI i)), (0, .retAddr 3000), (1, .ref 0), (2, .ref 464), (3, .ref 956)]) (st2 := [.ref 956, .int x2, .int x1, .ref 0]) (M2 := M) hC hqLW rfl ?_
  obtain ⟨e, v, M1, y1, f1, k1⟩ := b_walk x1 x2 hR
  refine gw_invSH (z := qL_walk) (hh := [(0, 10, 13, 31), (0, 10, 17, 13)]) (av := [.ref 0, .int x1, .int x2, .ref 956]) (rest := []) hC (k_walk hC hL x1 x2 M sz (d - 1) (by omega) h2 y1 (f1 956 (by decide))) (g_dec hqLW (q := (.invokestatic 155, 0, 0, 0)) rfl).1 (g_mem_tb (i := 1034) (by decide +kernel)) (g_mem_tb (i := 1035) (by decide +kernel)) (g_mem_tb (i := 0) (by decide +kernel)) (g_mem_tb (i := 1036) (by decide +kernel)) (show qL_walk.1.cls ≠ "java/lang/invoke/MethodHandle" ∧ qL_walk.1.cls ≠ "java/lang/invoke/VarHandle" ∧ (parseMethodDescriptor qL_walk.1.desc).map (fun q => q.parameters.length) = some 4 by decide +kernel) (by omega) (by decide) rfl rfl (Nat.le_of_ble_eq_true rfl) ⟨by show kc + 8 ≤ 601024; omega, by show ks + 48 ≤ 7293034; omega⟩ ?_
  rintro r X' ⟨M2, sz2, rfl, g1, g2, g3, rfl⟩
  obtain ⟨w, t, y2, k2, k3, k4, k5⟩ := k1 M2 g1
  obtain ⟨kE, hk⟩ : ∃ y, y = (if e = 0 then (0 : Int32) else if e = 1 then 1 else 2) := ⟨_, rfl⟩
  rw [← hk] at k2 ⊢
  refine gb_run 6 (pc2 := 624) (ls2 := [(5, .int kE), (4, .int (nI i)), (0, .retAddr 3000), (1, .ref 0), (2, .ref 464), (3, .ref 956)]) (st2 := [.int (nI i + 1), .retAddr 3000, .ref 464]) (M2 := M2) hC hqLW rfl ?_
  refine gw_xld hL (vj 1 (by decide)) (g_dec hqLW (q := (.iaload, 0, 0, 0)) rfl).1 ?_
  rw [← hx1]
  refine gb_run 4 (pc2 := 630) (ls2 := [(5, .int kE), (4, .int (nI i)), (0, .retAddr 3000), (1, .ref 0), (2, .ref 464), (3, .ref 956)]) (st2 := [.int (nI i + 2), .retAddr 3000, .int x1, .ref 464]) (M2 := M2) hC hqLW rfl ?_
  refine gw_xld hL (vj 2 (by decide)) (g_dec hqLW (q := (.iaload, 0, 0, 0)) rfl).1 ?_
  rw [← hx2]
  refine gz_cV (z := qX12_walk) (a := 464) (av := [.int x1, .int x2]) (rest := []) (pl := 1728) hC hqLW rfl kX12_walk sX12_walk (by decide +kernel) (c_FM_walk hC x1 x2 M2 sz2 (d - 1) (by omega) (w, t) y2) (by omega) ⟨rfl, rfl⟩ rfl (Nat.le_of_ble_eq_true rfl) (by decide) rfl rfl rfl (Nat.le_of_ble_eq_true rfl) ⟨by show kc + 8 ≤ 601024; omega, by show ks + 48 ≤ 7293034; omega⟩ (gs_I ?_)
  refine gb_run 2 (pc2 := 637) (ls2 := [(6, .int w), (5, .int kE), (4, .int (nI i)), (0, .retAddr 3000), (1, .ref 0), (2, .ref 464), (3, .ref 956)]) (st2 := [.ref 464]) (M2 := t) hC hqLW rfl ?_
  refine gz_cV (z := qX12_thrown) (a := 464) (av := []) (rest := []) (pl := 1536) hC hqLW rfl kX12_thrown sX12_thrown (by decide +kernel) (c_FM_thrown hC t sz2 (d - 1) (by omega)) (by omega) ⟨rfl, rfl⟩ rfl (Nat.le_of_ble_eq_true rfl) (by decide) rfl rfl rfl (Nat.le_of_ble_eq_true rfl) ⟨by show kc + 8 ≤ 601024; omega, by show ks + 48 ≤ 7293034; omega⟩ (gs_Ip ?_)
  refine gb_run 1 (pc2 := 642) (ls2 := [(6, .int w), (5, .int kE), (4, .int (nI i)), (0, .retAddr 3000), (1, .ref 0), (2, .ref 464), (3, .ref 956)]) (st2 := [.int kE, .int (FM_thrown t)]) (M2 := t) hC hqLW rfl ?_
  refine gb_icmp_eq hqLW rfl (fun _ => ?_) (fun q => absurd (show FM_thrown t = kE from k2) q)
  refine gb_run 1 (pc2 := 649) (ls2 := [(6, .int w), (5, .int kE), (4, .int (nI i)), (0, .retAddr 3000), (1, .ref 0), (2, .ref 464), (3, .ref 956)]) (st2 := [.int kE]) (M2 := t) hC hqLW rfl ?_
  have done : ∀ ls0, ls0 = [(6, .int w), (5, .int kE), (4, .int (nI i)), (0, .retAddr 3000), (1, .ref 0), (2, .ref 464), (3, .ref 956)] → GW l C qLW d Q gN (kc + 8) (ks + 48) 664 ls0 [] (956, g_S0, t, sz2) := by
    rintro _ rfl
    refine gb_run 1 (pc2 := 2623) (ls2 := [(6, .int w), (5, .int kE), (4, .int (nI i)), (0, .retAddr 3000), (1, .ref 0), (2, .ref 464), (3, .ref 956)]) (st2 := []) (M2 := t) hC hqLW rfl ?_
    refine gw_pick [2, 3, 4, 5, 6] (ls2 := [(4, .int (nI i)), (0, .retAddr 3000), (1, .ref 0), (2, .ref 464), (3, .ref 956)]) rfl ?_
    exact K t _ _ _ (by omega) (by omega) k4 (by rw [k5]; exact g2)
  refine gb_if_ne hqLW rfl (fun _ => done _ rfl) (fun q => ?_)
  have e0 : e = 0 := by
    rw [hk] at q
    by_cases z : e = 0
    · exact z
    · rw [if_neg z] at q
      by_cases z2 : e = 1
      · rw [if_pos z2] at q; exact absurd q (by decide)
      · rw [if_neg z2] at q; exact absurd q (by decide)
  refine gb_run 2 (pc2 := 654) (ls2 := [(6, .int w), (5, .int kE), (4, .int (nI i)), (0, .retAddr 3000), (1, .ref 0), (2, .ref 464), (3, .ref 956)]) (st2 := [.int 0, .ref 956]) (M2 := t) hC hqLW rfl ?_
  refine gw_laload hC hL (by rw [k5]; exact g2) (g_dec hqLW (q := (.laload, 0, 0, 0)) rfl).1 ?_
  rw [show g_lg (t 956) = w.toInt64 by rw [k5, g3 e0, k3 e0]]
  refine gb_run 3 (pc2 := 659) (ls2 := [(6, .int w), (5, .int kE), (4, .int (nI i)), (0, .retAddr 3000), (1, .ref 0), (2, .ref 464), (3, .ref 956)]) (st2 := [.int (lg_cmp w.toInt64 w.toInt64)]) (M2 := t) hC hqLW rfl ?_
  exact gb_if_eq hqLW rfl (fun _ => done _ rfl) (fun q => absurd (lg_cmp_self w.toInt64) q)

set_option maxRecDepth 20000 in
theorem lc_9 {l : Launch} {C : gC} {L : Nat} {xs : Nat → Int32} (hC : g_ctx l C) (hL : g_cl C L xs) {Q : Option Value → gX → Prop} {i kc ks sz d : Nat} (hd : 60 ≤ d) (hL4 : L ≤ 4096) (hi : i + 8 ≤ L) (hkc : kc + 8 ≤ 601024) (hks : ks + 48 ≤ 7293034) {M : gM} (hR : RR M M) (h2 : M 956 2 = 1) (K : ∀ (M2 : gM) (sz2 kc2 ks2 : Nat), kc2 ≤ kc + 8 → ks2 ≤ ks + 48 → RR M2 M2 → M2 956 2 = 1 → GW l C qLW d Q gN kc2 ks2 2623 [(4, .int (nI i)), (0, .retAddr 3000), (1, .ref 0), (2, .ref 464), (3, .ref 956)] [] (956, g_S0, M2, sz2)) : GW l C qLW d Q gN kc ks 667 [(4, .int (nI i)), (0, .retAddr 3000), (1, .ref 0), (2, .ref 464), (3, .ref 956)] [] (956, g_S0, M, sz) := by
  have vj : ∀ j, j < 8 → vp_in (nI i + nI j) L := fun j hj => by rw [nI_add]; exact vp_in_nI (by omega) (by omega)
  obtain ⟨x1, hx1⟩ : ∃ y, y = xs (nI i + 1).toNatClampNeg := ⟨_, rfl⟩
  obtain ⟨x2, hx2⟩ : ∃ y, y = xs (nI i + 2).toNatClampNeg := ⟨_, rfl⟩
  refine gb_run 5 (pc2 := 673) (ls2 := [(4, .int (nI i)), (0, .retAddr 3000), (1, .ref 0), (2, .ref 464), (3, .ref 956)]) (st2 := [.int (nI i + 1), .retAddr 3000, .ref 0]) (M2 := M) hC hqLW rfl ?_
  refine gw_xld hL (vj 1 (by decide)) (g_dec hqLW (q := (.iaload, 0, 0, 0)) rfl).1 ?_
  rw [← hx1]
  refine gb_run 4 (pc2 := 679) (ls2 := [(4, .int (nI i)), (0, .retAddr 3000), (1, .ref 0), (2, .ref 464), (3, .ref 956)]) (st2 := [.int (nI i + 2), .retAddr 3000, .int x1, .ref 0]) (M2 := M) hC hqLW rfl ?_
  refine gw_xld hL (vj 2 (by decide)) (g_dec hqLW (q := (.iaload, 0, 0, 0)) rfl).1 ?_
  rw [← hx2]
  refine gb_run 1 (pc2 := 681) (ls2 := [(4, .int (nI i)), (0, .retAddr 3000), (1, .ref 0), (2, .ref 464), (3, .ref 956)]) (st2 := [.ref 956, .int x2, .int x1, .ref 0]) (M2 := M) hC hqLW rfl ?_
  obtain ⟨e, v, M1, y1, f1, k1⟩ := b_child x1 x2 hR
  refine gw_invSH (z := qL_child) (hh := [(0, 10, 13, 31), (0, 10, 17, 13)]) (av := [.ref 0, .int x1, .int x2, .ref 956]) (rest := []) hC (k_child hC hL x1 x2 M sz (d - 1) (by omega) h2 y1 (f1 956 (by decide))) (g_dec hqLW (q := (.invokestatic 159, 0, 0, 0)) rfl).1 (g_mem_tb (i := 1063) (by decide +kernel)) (g_mem_tb (i := 1064) (by decide +kernel)) (g_mem_tb (i := 0) (by decide +kernel)) (g_mem_tb (i := 1065) (by decide +kernel)) (show qL_child.1.cls ≠ "java/lang/invoke/MethodHandle" ∧ qL_child.1.cls ≠ "java/lang/invoke/VarHandle" ∧ (parseMethodDescriptor qL_child.1.desc).map (fun q => q.parameters.length) = some 4 by decide +kernel) (by omega) (by decide) rfl rfl (Nat.le_of_ble_eq_true rfl) ⟨by show kc + 8 ≤ 601024; omega, by show ks + 48 ≤ 7293034; omega⟩ ?_
  rintro r X' ⟨M2, sz2, rfl, g1, g2, g3, rfl⟩
  obtain ⟨w, t, y2, k2, k3, k4, k5⟩ := k1 M2 g1
  obtain ⟨kE, hk⟩ : ∃ y, y = (if e = 0 then (0 : Int32) else if e = 1 then 1 else 2) := ⟨_, rfl⟩
  rw [← hk] at k2 ⊢
  refine gb_run 6 (pc2 := 692) (ls2 := [(5, .int kE), (4, .int (nI i)), (0, .retAddr 3000), (1, .ref 0), (2, .ref 464), (3, .ref 956)]) (st2 := [.int (nI i + 1), .retAddr 3000, .ref 464]) (M2 := M2) hC hqLW rfl ?_
  refine gw_xld hL (vj 1 (by decide)) (g_dec hqLW (q := (.iaload, 0, 0, 0)) rfl).1 ?_
  rw [← hx1]
  refine gb_run 4 (pc2 := 698) (ls2 := [(5, .int kE), (4, .int (nI i)), (0, .retAddr 3000), (1, .ref 0), (2, .ref 464), (3, .ref 956)]) (st2 := [.int (nI i + 2), .retAddr 3000, .int x1, .ref 464]) (M2 := M2) hC hqLW rfl ?_
  refine gw_xld hL (vj 2 (by decide)) (g_dec hqLW (q := (.iaload, 0, 0, 0)) rfl).1 ?_
  rw [← hx2]
  refine gz_cV (z := qX12_child) (a := 464) (av := [.int x1, .int x2]) (rest := []) (pl := 1736) hC hqLW rfl kX12_child sX12_child (by decide +kernel) (c_FM_child hC x1 x2 M2 sz2 (d - 1) (by omega) (w, t) y2) (by omega) ⟨rfl, rfl⟩ rfl (Nat.le_of_ble_eq_true rfl) (by decide) rfl rfl rfl (Nat.le_of_ble_eq_true rfl) ⟨by show kc + 8 ≤ 601024; omega, by show ks + 48 ≤ 7293034; omega⟩ (gs_I ?_)
  refine gb_run 2 (pc2 := 705) (ls2 := [(6, .int w), (5, .int kE), (4, .int (nI i)), (0, .retAddr 3000), (1, .ref 0), (2, .ref 464), (3, .ref 956)]) (st2 := [.ref 464]) (M2 := t) hC hqLW rfl ?_
  refine gz_cV (z := qX12_thrown) (a := 464) (av := []) (rest := []) (pl := 1536) hC hqLW rfl kX12_thrown sX12_thrown (by decide +kernel) (c_FM_thrown hC t sz2 (d - 1) (by omega)) (by omega) ⟨rfl, rfl⟩ rfl (Nat.le_of_ble_eq_true rfl) (by decide) rfl rfl rfl (Nat.le_of_ble_eq_true rfl) ⟨by show kc + 8 ≤ 601024; omega, by show ks + 48 ≤ 7293034; omega⟩ (gs_Ip ?_)
  refine gb_run 1 (pc2 := 710) (ls2 := [(6, .int w), (5, .int kE), (4, .int (nI i)), (0, .retAddr 3000), (1, .ref 0), (2, .ref 464), (3, .ref 956)]) (st2 := [.int kE, .int (FM_thrown t)]) (M2 := t) hC hqLW rfl ?_
  refine gb_icmp_eq hqLW rfl (fun _ => ?_) (fun q => absurd (show FM_thrown t = kE from k2) q)
  refine gb_run 1 (pc2 := 717) (ls2 := [(6, .int w), (5, .int kE), (4, .int (nI i)), (0, .retAddr 3000), (1, .ref 0), (2, .ref 464), (3, .ref 956)]) (st2 := [.int kE]) (M2 := t) hC hqLW rfl ?_
  have done : ∀ ls0, ls0 = [(6, .int w), (5, .int kE), (4, .int (nI i)), (0, .retAddr 3000), (1, .ref 0), (2, .ref 464), (3, .ref 956)] → GW l C qLW d Q gN (kc + 8) (ks + 48) 732 ls0 [] (956, g_S0, t, sz2) := by
    rintro _ rfl
    refine gb_run 1 (pc2 := 2623) (ls2 := [(6, .int w), (5, .int kE), (4, .int (nI i)), (0, .retAddr 3000), (1, .ref 0), (2, .ref 464), (3, .ref 956)]) (st2 := []) (M2 := t) hC hqLW rfl ?_
    refine gw_pick [2, 3, 4, 5, 6] (ls2 := [(4, .int (nI i)), (0, .retAddr 3000), (1, .ref 0), (2, .ref 464), (3, .ref 956)]) rfl ?_
    exact K t _ _ _ (by omega) (by omega) k4 (by rw [k5]; exact g2)
  refine gb_if_ne hqLW rfl (fun _ => done _ rfl) (fun q => ?_)
  have e0 : e = 0 := by
    rw [hk] at q
    by_cases z : e = 0
    · exact z
    · rw [if_neg z] at q
      by_cases z2 : e = 1
      · rw [if_pos z2] at q; exact absurd q (by decide)
      · rw [if_neg z2] at q; exact absurd q (by decide)
  refine gb_run 2 (pc2 := 722) (ls2 := [(6, .int w), (5, .int kE), (4, .int (nI i)), (0, .retAddr 3000), (1, .ref 0), (2, .ref 464), (3, .ref 956)]) (st2 := [.int 0, .ref 956]) (M2 := t) hC hqLW rfl ?_
  refine gw_laload hC hL (by rw [k5]; exact g2) (g_dec hqLW (q := (.laload, 0, 0, 0)) rfl).1 ?_
  rw [show g_lg (t 956) = w.toInt64 by rw [k5, g3 e0, k3 e0]]
  refine gb_run 3 (pc2 := 727) (ls2 := [(6, .int w), (5, .int kE), (4, .int (nI i)), (0, .retAddr 3000), (1, .ref 0), (2, .ref 464), (3, .ref 956)]) (st2 := [.int (lg_cmp w.toInt64 w.toInt64)]) (M2 := t) hC hqLW rfl ?_
  exact gb_if_eq hqLW rfl (fun _ => done _ rfl) (fun q => absurd (lg_cmp_self w.toInt64) q)

set_option maxRecDepth 20000 in
theorem lc_10 {l : Launch} {C : gC} {L : Nat} {xs : Nat → Int32} (hC : g_ctx l C) (hL : g_cl C L xs) {Q : Option Value → gX → Prop} {i kc ks sz d : Nat} (hd : 60 ≤ d) (hL4 : L ≤ 4096) (hi : i + 8 ≤ L) (hkc : kc + 8 ≤ 601024) (hks : ks + 48 ≤ 7293034) {M : gM} (hR : RR M M) (h2 : M 956 2 = 1) (K : ∀ (M2 : gM) (sz2 kc2 ks2 : Nat), kc2 ≤ kc + 8 → ks2 ≤ ks + 48 → RR M2 M2 → M2 956 2 = 1 → GW l C qLW d Q gN kc2 ks2 2623 [(4, .int (nI i)), (0, .retAddr 3000), (1, .ref 0), (2, .ref 464), (3, .ref 956)] [] (956, g_S0, M2, sz2)) : GW l C qLW d Q gN kc ks 735 [(4, .int (nI i)), (0, .retAddr 3000), (1, .ref 0), (2, .ref 464), (3, .ref 956)] [] (956, g_S0, M, sz) := by
  have vj : ∀ j, j < 8 → vp_in (nI i + nI j) L := fun j hj => by rw [nI_add]; exact vp_in_nI (by omega) (by omega)
  obtain ⟨x1, hx1⟩ : ∃ y, y = xs (nI i + 1).toNatClampNeg := ⟨_, rfl⟩
  obtain ⟨x2, hx2⟩ : ∃ y, y = xs (nI i + 2).toNatClampNeg := ⟨_, rfl⟩
  refine gb_run 5 (pc2 := 741) (ls2 := [(4, .int (nI i)), (0, .retAddr 3000), (1, .ref 0), (2, .ref 464), (3, .ref 956)]) (st2 := [.int (nI i + 1), .retAddr 3000, .ref 0]) (M2 := M) hC hqLW rfl ?_
  refine gw_xld hL (vj 1 (by decide)) (g_dec hqLW (q := (.iaload, 0, 0, 0)) rfl).1 ?_
  rw [← hx1]
  refine gb_run 4 (pc2 := 747) (ls2 := [(4, .int (nI i)), (0, .retAddr 3000), (1, .ref 0), (2, .ref 464), (3, .ref 956)]) (st2 := [.int (nI i + 2), .retAddr 3000, .int x1, .ref 0]) (M2 := M) hC hqLW rfl ?_
  refine gw_xld hL (vj 2 (by decide)) (g_dec hqLW (q := (.iaload, 0, 0, 0)) rfl).1 ?_
  rw [← hx2]
  refine gb_run 1 (pc2 := 749) (ls2 := [(4, .int (nI i)), (0, .retAddr 3000), (1, .ref 0), (2, .ref 464), (3, .ref 956)]) (st2 := [.ref 956, .int x2, .int x1, .ref 0]) (M2 := M) hC hqLW rfl ?_
  obtain ⟨e, v, M1, y1, f1, k1⟩ := b_hoop x1 x2 hR
  refine gw_invSH (z := qL_hoop) (hh := [(0, 10, 13, 31), (0, 10, 17, 13)]) (av := [.ref 0, .int x1, .int x2, .ref 956]) (rest := []) hC (k_hoop hC hL x1 x2 M sz (d - 1) (by omega) h2 y1 (f1 956 (by decide))) (g_dec hqLW (q := (.invokestatic 162, 0, 0, 0)) rfl).1 (g_mem_tb (i := 1070) (by decide +kernel)) (g_mem_tb (i := 1071) (by decide +kernel)) (g_mem_tb (i := 0) (by decide +kernel)) (g_mem_tb (i := 1072) (by decide +kernel)) (show qL_hoop.1.cls ≠ "java/lang/invoke/MethodHandle" ∧ qL_hoop.1.cls ≠ "java/lang/invoke/VarHandle" ∧ (parseMethodDescriptor qL_hoop.1.desc).map (fun q => q.parameters.length) = some 4 by decide +kernel) (by omega) (by decide) rfl rfl (Nat.le_of_ble_eq_true rfl) ⟨by show kc + 8 ≤ 601024; omega, by show ks + 48 ≤ 7293034; omega⟩ ?_
  rintro r X' ⟨M2, sz2, rfl, g1, g2, g3, rfl⟩
  obtain ⟨w, t, y2, k2, k3, k4, k5⟩ := k1 M2 g1
  obtain ⟨kE, hk⟩ : ∃ y, y = (if e = 0 then (0 : Int32) else if e = 1 then 1 else 2) := ⟨_, rfl⟩
  rw [← hk] at k2 ⊢
  refine gb_run 6 (pc2 := 760) (ls2 := [(5, .int kE), (4, .int (nI i)), (0, .retAddr 3000), (1, .ref 0), (2, .ref 464), (3, .ref 956)]) (st2 := [.int (nI i + 1), .retAddr 3000, .ref 464]) (M2 := M2) hC hqLW rfl ?_
  refine gw_xld hL (vj 1 (by decide)) (g_dec hqLW (q := (.iaload, 0, 0, 0)) rfl).1 ?_
  rw [← hx1]
  refine gb_run 4 (pc2 := 766) (ls2 := [(5, .int kE), (4, .int (nI i)), (0, .retAddr 3000), (1, .ref 0), (2, .ref 464), (3, .ref 956)]) (st2 := [.int (nI i + 2), .retAddr 3000, .int x1, .ref 464]) (M2 := M2) hC hqLW rfl ?_
  refine gw_xld hL (vj 2 (by decide)) (g_dec hqLW (q := (.iaload, 0, 0, 0)) rfl).1 ?_
  rw [← hx2]
  refine gz_cV (z := qX12_hoop) (a := 464) (av := [.int x1, .int x2]) (rest := []) (pl := 1744) hC hqLW rfl kX12_hoop sX12_hoop (by decide +kernel) (c_FM_hoop hC x1 x2 M2 sz2 (d - 1) (by omega) (w, t) y2) (by omega) ⟨rfl, rfl⟩ rfl (Nat.le_of_ble_eq_true rfl) (by decide) rfl rfl rfl (Nat.le_of_ble_eq_true rfl) ⟨by show kc + 8 ≤ 601024; omega, by show ks + 48 ≤ 7293034; omega⟩ (gs_I ?_)
  refine gb_run 2 (pc2 := 773) (ls2 := [(6, .int w), (5, .int kE), (4, .int (nI i)), (0, .retAddr 3000), (1, .ref 0), (2, .ref 464), (3, .ref 956)]) (st2 := [.ref 464]) (M2 := t) hC hqLW rfl ?_
  refine gz_cV (z := qX12_thrown) (a := 464) (av := []) (rest := []) (pl := 1536) hC hqLW rfl kX12_thrown sX12_thrown (by decide +kernel) (c_FM_thrown hC t sz2 (d - 1) (by omega)) (by omega) ⟨rfl, rfl⟩ rfl (Nat.le_of_ble_eq_true rfl) (by decide) rfl rfl rfl (Nat.le_of_ble_eq_true rfl) ⟨by show kc + 8 ≤ 601024; omega, by show ks + 48 ≤ 7293034; omega⟩ (gs_Ip ?_)
  refine gb_run 1 (pc2 := 778) (ls2 := [(6, .int w), (5, .int kE), (4, .int (nI i)), (0, .retAddr 3000), (1, .ref 0), (2, .ref 464), (3, .ref 956)]) (st2 := [.int kE, .int (FM_thrown t)]) (M2 := t) hC hqLW rfl ?_
  refine gb_icmp_eq hqLW rfl (fun _ => ?_) (fun q => absurd (show FM_thrown t = kE from k2) q)
  refine gb_run 1 (pc2 := 785) (ls2 := [(6, .int w), (5, .int kE), (4, .int (nI i)), (0, .retAddr 3000), (1, .ref 0), (2, .ref 464), (3, .ref 956)]) (st2 := [.int kE]) (M2 := t) hC hqLW rfl ?_
  have done : ∀ ls0, ls0 = [(6, .int w), (5, .int kE), (4, .int (nI i)), (0, .retAddr 3000), (1, .ref 0), (2, .ref 464), (3, .ref 956)] → GW l C qLW d Q gN (kc + 8) (ks + 48) 800 ls0 [] (956, g_S0, t, sz2) := by
    rintro _ rfl
    refine gb_run 1 (pc2 := 2623) (ls2 := [(6, .int w), (5, .int kE), (4, .int (nI i)), (0, .retAddr 3000), (1, .ref 0), (2, .ref 464), (3, .ref 956)]) (st2 := []) (M2 := t) hC hqLW rfl ?_
    refine gw_pick [2, 3, 4, 5, 6] (ls2 := [(4, .int (nI i)), (0, .retAddr 3000), (1, .ref 0), (2, .ref 464), (3, .ref 956)]) rfl ?_
    exact K t _ _ _ (by omega) (by omega) k4 (by rw [k5]; exact g2)
  refine gb_if_ne hqLW rfl (fun _ => done _ rfl) (fun q => ?_)
  have e0 : e = 0 := by
    rw [hk] at q
    by_cases z : e = 0
    · exact z
    · rw [if_neg z] at q
      by_cases z2 : e = 1
      · rw [if_pos z2] at q; exact absurd q (by decide)
      · rw [if_neg z2] at q; exact absurd q (by decide)
  refine gb_run 2 (pc2 := 790) (ls2 := [(6, .int w), (5, .int kE), (4, .int (nI i)), (0, .retAddr 3000), (1, .ref 0), (2, .ref 464), (3, .ref 956)]) (st2 := [.int 0, .ref 956]) (M2 := t) hC hqLW rfl ?_
  refine gw_laload hC hL (by rw [k5]; exact g2) (g_dec hqLW (q := (.laload, 0, 0, 0)) rfl).1 ?_
  rw [show g_lg (t 956) = w.toInt64 by rw [k5, g3 e0, k3 e0]]
  refine gb_run 3 (pc2 := 795) (ls2 := [(6, .int w), (5, .int kE), (4, .int (nI i)), (0, .retAddr 3000), (1, .ref 0), (2, .ref 464), (3, .ref 956)]) (st2 := [.int (lg_cmp w.toInt64 w.toInt64)]) (M2 := t) hC hqLW rfl ?_
  exact gb_if_eq hqLW rfl (fun _ => done _ rfl) (fun q => absurd (lg_cmp_self w.toInt64) q)

set_option maxRecDepth 20000 in
theorem lc_11 {l : Launch} {C : gC} {L : Nat} {xs : Nat → Int32} (hC : g_ctx l C) (hL : g_cl C L xs) {Q : Option Value → gX → Prop} {i kc ks sz d : Nat} (hd : 60 ≤ d) (hL4 : L ≤ 4096) (hi : i + 8 ≤ L) (hkc : kc + 8 ≤ 601024) (hks : ks + 48 ≤ 7293034) {M : gM} (hR : RR M M) (h2 : M 956 2 = 1) (K : ∀ (M2 : gM) (sz2 kc2 ks2 : Nat), kc2 ≤ kc + 8 → ks2 ≤ ks + 48 → RR M2 M2 → M2 956 2 = 1 → GW l C qLW d Q gN kc2 ks2 2623 [(4, .int (nI i)), (0, .retAddr 3000), (1, .ref 0), (2, .ref 464), (3, .ref 956)] [] (956, g_S0, M2, sz2)) : GW l C qLW d Q gN kc ks 803 [(4, .int (nI i)), (0, .retAddr 3000), (1, .ref 0), (2, .ref 464), (3, .ref 956)] [] (956, g_S0, M, sz) := by
  have vj : ∀ j, j < 8 → vp_in (nI i + nI j) L := fun j hj => by rw [nI_add]; exact vp_in_nI (by omega) (by omega)
  obtain ⟨x1, hx1⟩ : ∃ y, y = xs (nI i + 1).toNatClampNeg := ⟨_, rfl⟩
  obtain ⟨x2, hx2⟩ : ∃ y, y = xs (nI i + 2).toNatClampNeg := ⟨_, rfl⟩
  obtain ⟨x3, hx3⟩ : ∃ y, y = xs (nI i + 3).toNatClampNeg := ⟨_, rfl⟩
  refine gb_run 5 (pc2 := 809) (ls2 := [(4, .int (nI i)), (0, .retAddr 3000), (1, .ref 0), (2, .ref 464), (3, .ref 956)]) (st2 := [.int (nI i + 1), .retAddr 3000, .ref 0]) (M2 := M) hC hqLW rfl ?_
  refine gw_xld hL (vj 1 (by decide)) (g_dec hqLW (q := (.iaload, 0, 0, 0)) rfl).1 ?_
  rw [← hx1]
  refine gb_run 4 (pc2 := 815) (ls2 := [(4, .int (nI i)), (0, .retAddr 3000), (1, .ref 0), (2, .ref 464), (3, .ref 956)]) (st2 := [.int (nI i + 2), .retAddr 3000, .int x1, .ref 0]) (M2 := M) hC hqLW rfl ?_
  refine gw_xld hL (vj 2 (by decide)) (g_dec hqLW (q := (.iaload, 0, 0, 0)) rfl).1 ?_
  rw [← hx2]
  refine gb_run 4 (pc2 := 821) (ls2 := [(4, .int (nI i)), (0, .retAddr 3000), (1, .ref 0), (2, .ref 464), (3, .ref 956)]) (st2 := [.int (nI i + 3), .retAddr 3000, .int x2, .int x1, .ref 0]) (M2 := M) hC hqLW rfl ?_
  refine gw_xld hL (vj 3 (by decide)) (g_dec hqLW (q := (.iaload, 0, 0, 0)) rfl).1 ?_
  rw [← hx3]
  refine gb_run 1 (pc2 := 823) (ls2 := [(4, .int (nI i)), (0, .retAddr 3000), (1, .ref 0), (2, .ref 464), (3, .ref 956)]) (st2 := [.ref 956, .int x3, .int x2, .int x1, .ref 0]) (M2 := M) hC hqLW rfl ?_
  obtain ⟨e, v, M1, y1, f1, k1⟩ := b_minutes x1 x2 x3 hR
  refine gw_invSH (z := qL_minutes) (hh := [(0, 12, 15, 31)]) (av := [.ref 0, .int x1, .int x2, .int x3, .ref 956]) (rest := []) hC (k_minutes hC hL x1 x2 x3 M sz (d - 1) (by omega) h2 y1 (f1 956 (by decide))) (g_dec hqLW (q := (.invokestatic 165, 0, 0, 0)) rfl).1 (g_mem_tb (i := 1077) (by decide +kernel)) (g_mem_tb (i := 1078) (by decide +kernel)) (g_mem_tb (i := 0) (by decide +kernel)) (g_mem_tb (i := 1079) (by decide +kernel)) (show qL_minutes.1.cls ≠ "java/lang/invoke/MethodHandle" ∧ qL_minutes.1.cls ≠ "java/lang/invoke/VarHandle" ∧ (parseMethodDescriptor qL_minutes.1.desc).map (fun q => q.parameters.length) = some 5 by decide +kernel) (by omega) (by decide) rfl rfl (Nat.le_of_ble_eq_true rfl) ⟨by show kc + 8 ≤ 601024; omega, by show ks + 48 ≤ 7293034; omega⟩ ?_
  rintro r X' ⟨M2, sz2, rfl, g1, g2, g3, rfl⟩
  obtain ⟨w, t, y2, k2, k3, k4, k5⟩ := k1 M2 g1
  obtain ⟨kE, hk⟩ : ∃ y, y = (if e = 0 then (0 : Int32) else if e = 1 then 1 else 1) := ⟨_, rfl⟩
  rw [← hk] at k2 ⊢
  refine gb_run 6 (pc2 := 834) (ls2 := [(5, .int kE), (4, .int (nI i)), (0, .retAddr 3000), (1, .ref 0), (2, .ref 464), (3, .ref 956)]) (st2 := [.int (nI i + 1), .retAddr 3000, .ref 464]) (M2 := M2) hC hqLW rfl ?_
  refine gw_xld hL (vj 1 (by decide)) (g_dec hqLW (q := (.iaload, 0, 0, 0)) rfl).1 ?_
  rw [← hx1]
  refine gb_run 4 (pc2 := 840) (ls2 := [(5, .int kE), (4, .int (nI i)), (0, .retAddr 3000), (1, .ref 0), (2, .ref 464), (3, .ref 956)]) (st2 := [.int (nI i + 2), .retAddr 3000, .int x1, .ref 464]) (M2 := M2) hC hqLW rfl ?_
  refine gw_xld hL (vj 2 (by decide)) (g_dec hqLW (q := (.iaload, 0, 0, 0)) rfl).1 ?_
  rw [← hx2]
  refine gb_run 4 (pc2 := 846) (ls2 := [(5, .int kE), (4, .int (nI i)), (0, .retAddr 3000), (1, .ref 0), (2, .ref 464), (3, .ref 956)]) (st2 := [.int (nI i + 3), .retAddr 3000, .int x2, .int x1, .ref 464]) (M2 := M2) hC hqLW rfl ?_
  refine gw_xld hL (vj 3 (by decide)) (g_dec hqLW (q := (.iaload, 0, 0, 0)) rfl).1 ?_
  rw [← hx3]
  refine gz_cV (z := qX12_minutes) (a := 464) (av := [.int x1, .int x2, .int x3]) (rest := []) (pl := 1752) hC hqLW rfl kX12_minutes sX12_minutes (by decide +kernel) (c_FM_minutes hC x1 x2 x3 M2 sz2 (d - 1) (by omega) (w, t) y2) (by omega) ⟨rfl, rfl⟩ rfl (Nat.le_of_ble_eq_true rfl) (by decide) rfl rfl rfl (Nat.le_of_ble_eq_true rfl) ⟨by show kc + 8 ≤ 601024; omega, by show ks + 48 ≤ 7293034; omega⟩ (gs_I ?_)
  refine gb_run 2 (pc2 := 853) (ls2 := [(6, .int w), (5, .int kE), (4, .int (nI i)), (0, .retAddr 3000), (1, .ref 0), (2, .ref 464), (3, .ref 956)]) (st2 := [.ref 464]) (M2 := t) hC hqLW rfl ?_
  refine gz_cV (z := qX12_thrown) (a := 464) (av := []) (rest := []) (pl := 1536) hC hqLW rfl kX12_thrown sX12_thrown (by decide +kernel) (c_FM_thrown hC t sz2 (d - 1) (by omega)) (by omega) ⟨rfl, rfl⟩ rfl (Nat.le_of_ble_eq_true rfl) (by decide) rfl rfl rfl (Nat.le_of_ble_eq_true rfl) ⟨by show kc + 8 ≤ 601024; omega, by show ks + 48 ≤ 7293034; omega⟩ (gs_Ip ?_)
  refine gb_run 1 (pc2 := 858) (ls2 := [(6, .int w), (5, .int kE), (4, .int (nI i)), (0, .retAddr 3000), (1, .ref 0), (2, .ref 464), (3, .ref 956)]) (st2 := [.int kE, .int (FM_thrown t)]) (M2 := t) hC hqLW rfl ?_
  refine gb_icmp_eq hqLW rfl (fun _ => ?_) (fun q => absurd (show FM_thrown t = kE from k2) q)
  refine gb_run 1 (pc2 := 865) (ls2 := [(6, .int w), (5, .int kE), (4, .int (nI i)), (0, .retAddr 3000), (1, .ref 0), (2, .ref 464), (3, .ref 956)]) (st2 := [.int kE]) (M2 := t) hC hqLW rfl ?_
  have done : ∀ ls0, ls0 = [(6, .int w), (5, .int kE), (4, .int (nI i)), (0, .retAddr 3000), (1, .ref 0), (2, .ref 464), (3, .ref 956)] → GW l C qLW d Q gN (kc + 8) (ks + 48) 880 ls0 [] (956, g_S0, t, sz2) := by
    rintro _ rfl
    refine gb_run 1 (pc2 := 2623) (ls2 := [(6, .int w), (5, .int kE), (4, .int (nI i)), (0, .retAddr 3000), (1, .ref 0), (2, .ref 464), (3, .ref 956)]) (st2 := []) (M2 := t) hC hqLW rfl ?_
    refine gw_pick [2, 3, 4, 5, 6] (ls2 := [(4, .int (nI i)), (0, .retAddr 3000), (1, .ref 0), (2, .ref 464), (3, .ref 956)]) rfl ?_
    exact K t _ _ _ (by omega) (by omega) k4 (by rw [k5]; exact g2)
  refine gb_if_ne hqLW rfl (fun _ => done _ rfl) (fun q => ?_)
  have e0 : e = 0 := by
    rw [hk] at q
    by_cases z : e = 0
    · exact z
    · rw [if_neg z] at q
      by_cases z2 : e = 1
      · rw [if_pos z2] at q; exact absurd q (by decide)
      · rw [if_neg z2] at q; exact absurd q (by decide)
  refine gb_run 2 (pc2 := 870) (ls2 := [(6, .int w), (5, .int kE), (4, .int (nI i)), (0, .retAddr 3000), (1, .ref 0), (2, .ref 464), (3, .ref 956)]) (st2 := [.int 0, .ref 956]) (M2 := t) hC hqLW rfl ?_
  refine gw_laload hC hL (by rw [k5]; exact g2) (g_dec hqLW (q := (.laload, 0, 0, 0)) rfl).1 ?_
  rw [show g_lg (t 956) = w.toInt64 by rw [k5, g3 e0, k3 e0]]
  refine gb_run 3 (pc2 := 875) (ls2 := [(6, .int w), (5, .int kE), (4, .int (nI i)), (0, .retAddr 3000), (1, .ref 0), (2, .ref 464), (3, .ref 956)]) (st2 := [.int (lg_cmp w.toInt64 w.toInt64)]) (M2 := t) hC hqLW rfl ?_
  exact gb_if_eq hqLW rfl (fun _ => done _ rfl) (fun q => absurd (lg_cmp_self w.toInt64) q)

set_option maxRecDepth 20000 in
theorem lc_12 {l : Launch} {C : gC} {L : Nat} {xs : Nat → Int32} (hC : g_ctx l C) (hL : g_cl C L xs) {Q : Option Value → gX → Prop} {i kc ks sz d : Nat} (hd : 60 ≤ d) (hL4 : L ≤ 4096) (hi : i + 8 ≤ L) (hkc : kc + 8 ≤ 601024) (hks : ks + 48 ≤ 7293034) {M : gM} (hR : RR M M) (h2 : M 956 2 = 1) (K : ∀ (M2 : gM) (sz2 kc2 ks2 : Nat), kc2 ≤ kc + 8 → ks2 ≤ ks + 48 → RR M2 M2 → M2 956 2 = 1 → GW l C qLW d Q gN kc2 ks2 2623 [(4, .int (nI i)), (0, .retAddr 3000), (1, .ref 0), (2, .ref 464), (3, .ref 956)] [] (956, g_S0, M2, sz2)) : GW l C qLW d Q gN kc ks 883 [(4, .int (nI i)), (0, .retAddr 3000), (1, .ref 0), (2, .ref 464), (3, .ref 956)] [] (956, g_S0, M, sz) := by
  have vj : ∀ j, j < 8 → vp_in (nI i + nI j) L := fun j hj => by rw [nI_add]; exact vp_in_nI (by omega) (by omega)
  obtain ⟨x1, hx1⟩ : ∃ y, y = xs (nI i + 1).toNatClampNeg := ⟨_, rfl⟩
  obtain ⟨x2, hx2⟩ : ∃ y, y = xs (nI i + 2).toNatClampNeg := ⟨_, rfl⟩
  obtain ⟨x3, hx3⟩ : ∃ y, y = xs (nI i + 3).toNatClampNeg := ⟨_, rfl⟩
  obtain ⟨x4, hx4⟩ : ∃ y, y = xs (nI i + 4).toNatClampNeg := ⟨_, rfl⟩
  obtain ⟨x5, hx5⟩ : ∃ y, y = xs (nI i + 5).toNatClampNeg := ⟨_, rfl⟩
  obtain ⟨x6, hx6⟩ : ∃ y, y = xs (nI i + 6).toNatClampNeg := ⟨_, rfl⟩
  obtain ⟨x7, hx7⟩ : ∃ y, y = xs (nI i + 7).toNatClampNeg := ⟨_, rfl⟩
  refine gb_run 5 (pc2 := 889) (ls2 := [(4, .int (nI i)), (0, .retAddr 3000), (1, .ref 0), (2, .ref 464), (3, .ref 956)]) (st2 := [.int (nI i + 1), .retAddr 3000, .ref 0]) (M2 := M) hC hqLW rfl ?_
  refine gw_xld hL (vj 1 (by decide)) (g_dec hqLW (q := (.iaload, 0, 0, 0)) rfl).1 ?_
  rw [← hx1]
  refine gb_run 4 (pc2 := 895) (ls2 := [(4, .int (nI i)), (0, .retAddr 3000), (1, .ref 0), (2, .ref 464), (3, .ref 956)]) (st2 := [.int (nI i + 2), .retAddr 3000, .int x1, .ref 0]) (M2 := M) hC hqLW rfl ?_
  refine gw_xld hL (vj 2 (by decide)) (g_dec hqLW (q := (.iaload, 0, 0, 0)) rfl).1 ?_
  rw [← hx2]
  refine gb_run 4 (pc2 := 901) (ls2 := [(4, .int (nI i)), (0, .retAddr 3000), (1, .ref 0), (2, .ref 464), (3, .ref 956)]) (st2 := [.int (nI i + 3), .retAddr 3000, .int x2, .int x1, .ref 0]) (M2 := M) hC hqLW rfl ?_
  refine gw_xld hL (vj 3 (by decide)) (g_dec hqLW (q := (.iaload, 0, 0, 0)) rfl).1 ?_
  rw [← hx3]
  refine gb_run 4 (pc2 := 907) (ls2 := [(4, .int (nI i)), (0, .retAddr 3000), (1, .ref 0), (2, .ref 464), (3, .ref 956)]) (st2 := [.int (nI i + 4), .retAddr 3000, .int x3, .int x2, .int x1, .ref 0]) (M2 := M) hC hqLW rfl ?_
  refine gw_xld hL (vj 4 (by decide)) (g_dec hqLW (q := (.iaload, 0, 0, 0)) rfl).1 ?_
  rw [← hx4]
  refine gb_run 4 (pc2 := 913) (ls2 := [(4, .int (nI i)), (0, .retAddr 3000), (1, .ref 0), (2, .ref 464), (3, .ref 956)]) (st2 := [.int (nI i + 5), .retAddr 3000, .int x4, .int x3, .int x2, .int x1, .ref 0]) (M2 := M) hC hqLW rfl ?_
  refine gw_xld hL (vj 5 (by decide)) (g_dec hqLW (q := (.iaload, 0, 0, 0)) rfl).1 ?_
  rw [← hx5]
  refine gb_run 4 (pc2 := 920) (ls2 := [(4, .int (nI i)), (0, .retAddr 3000), (1, .ref 0), (2, .ref 464), (3, .ref 956)]) (st2 := [.int (nI i + 6), .retAddr 3000, .int x5, .int x4, .int x3, .int x2, .int x1, .ref 0]) (M2 := M) hC hqLW rfl ?_
  refine gw_xld hL (vj 6 (by decide)) (g_dec hqLW (q := (.iaload, 0, 0, 0)) rfl).1 ?_
  rw [← hx6]
  refine gb_run 4 (pc2 := 927) (ls2 := [(4, .int (nI i)), (0, .retAddr 3000), (1, .ref 0), (2, .ref 464), (3, .ref 956)]) (st2 := [.int (nI i + 7), .retAddr 3000, .int x6, .int x5, .int x4, .int x3, .int x2, .int x1, .ref 0]) (M2 := M) hC hqLW rfl ?_
  refine gw_xld hL (vj 7 (by decide)) (g_dec hqLW (q := (.iaload, 0, 0, 0)) rfl).1 ?_
  rw [← hx7]
  refine gb_run 1 (pc2 := 929) (ls2 := [(4, .int (nI i)), (0, .retAddr 3000), (1, .ref 0), (2, .ref 464), (3, .ref 956)]) (st2 := [.ref 956, .int x7, .int x6, .int x5, .int x4, .int x3, .int x2, .int x1, .ref 0]) (M2 := M) hC hqLW rfl ?_
  obtain ⟨e, v, M1, y1, f1, k1⟩ := b_would x1 x2 x3 x4 x5 x6 x7 hR
  refine gw_invSH (z := qL_would) (hh := [(0, 20, 23, 13)]) (av := [.ref 0, .int x1, .int x2, .int x3, .int x4, .int x5, .int x6, .int x7, .ref 956]) (rest := []) hC (k_would hC hL x1 x2 x3 x4 x5 x6 x7 M sz (d - 1) (by omega) h2 y1 (f1 956 (by decide))) (g_dec hqLW (q := (.invokestatic 169, 0, 0, 0)) rfl).1 (g_mem_tb (i := 1085) (by decide +kernel)) (g_mem_tb (i := 1086) (by decide +kernel)) (g_mem_tb (i := 0) (by decide +kernel)) (g_mem_tb (i := 1087) (by decide +kernel)) (show qL_would.1.cls ≠ "java/lang/invoke/MethodHandle" ∧ qL_would.1.cls ≠ "java/lang/invoke/VarHandle" ∧ (parseMethodDescriptor qL_would.1.desc).map (fun q => q.parameters.length) = some 9 by decide +kernel) (by omega) (by decide) rfl rfl (Nat.le_of_ble_eq_true rfl) ⟨by show kc + 8 ≤ 601024; omega, by show ks + 48 ≤ 7293034; omega⟩ ?_
  rintro r X' ⟨M2, sz2, rfl, g1, g2, g3, rfl⟩
  obtain ⟨w, t, y2, k2, k3, k4, k5⟩ := k1 M2 g1
  obtain ⟨kE, hk⟩ : ∃ y, y = (if e = 0 then (0 : Int32) else if e = 1 then 1 else 1) := ⟨_, rfl⟩
  rw [← hk] at k2 ⊢
  refine gb_run 6 (pc2 := 940) (ls2 := [(5, .int kE), (4, .int (nI i)), (0, .retAddr 3000), (1, .ref 0), (2, .ref 464), (3, .ref 956)]) (st2 := [.int (nI i + 1), .retAddr 3000, .ref 464]) (M2 := M2) hC hqLW rfl ?_
  refine gw_xld hL (vj 1 (by decide)) (g_dec hqLW (q := (.iaload, 0, 0, 0)) rfl).1 ?_
  rw [← hx1]
  refine gb_run 4 (pc2 := 946) (ls2 := [(5, .int kE), (4, .int (nI i)), (0, .retAddr 3000), (1, .ref 0), (2, .ref 464), (3, .ref 956)]) (st2 := [.int (nI i + 2), .retAddr 3000, .int x1, .ref 464]) (M2 := M2) hC hqLW rfl ?_
  refine gw_xld hL (vj 2 (by decide)) (g_dec hqLW (q := (.iaload, 0, 0, 0)) rfl).1 ?_
  rw [← hx2]
  refine gb_run 4 (pc2 := 952) (ls2 := [(5, .int kE), (4, .int (nI i)), (0, .retAddr 3000), (1, .ref 0), (2, .ref 464), (3, .ref 956)]) (st2 := [.int (nI i + 3), .retAddr 3000, .int x2, .int x1, .ref 464]) (M2 := M2) hC hqLW rfl ?_
  refine gw_xld hL (vj 3 (by decide)) (g_dec hqLW (q := (.iaload, 0, 0, 0)) rfl).1 ?_
  rw [← hx3]
  refine gb_run 4 (pc2 := 958) (ls2 := [(5, .int kE), (4, .int (nI i)), (0, .retAddr 3000), (1, .ref 0), (2, .ref 464), (3, .ref 956)]) (st2 := [.int (nI i + 4), .retAddr 3000, .int x3, .int x2, .int x1, .ref 464]) (M2 := M2) hC hqLW rfl ?_
  refine gw_xld hL (vj 4 (by decide)) (g_dec hqLW (q := (.iaload, 0, 0, 0)) rfl).1 ?_
  rw [← hx4]
  refine gb_run 4 (pc2 := 964) (ls2 := [(5, .int kE), (4, .int (nI i)), (0, .retAddr 3000), (1, .ref 0), (2, .ref 464), (3, .ref 956)]) (st2 := [.int (nI i + 5), .retAddr 3000, .int x4, .int x3, .int x2, .int x1, .ref 464]) (M2 := M2) hC hqLW rfl ?_
  refine gw_xld hL (vj 5 (by decide)) (g_dec hqLW (q := (.iaload, 0, 0, 0)) rfl).1 ?_
  rw [← hx5]
  refine gb_run 4 (pc2 := 971) (ls2 := [(5, .int kE), (4, .int (nI i)), (0, .retAddr 3000), (1, .ref 0), (2, .ref 464), (3, .ref 956)]) (st2 := [.int (nI i + 6), .retAddr 3000, .int x5, .int x4, .int x3, .int x2, .int x1, .ref 464]) (M2 := M2) hC hqLW rfl ?_
  refine gw_xld hL (vj 6 (by decide)) (g_dec hqLW (q := (.iaload, 0, 0, 0)) rfl).1 ?_
  rw [← hx6]
  refine gb_run 4 (pc2 := 978) (ls2 := [(5, .int kE), (4, .int (nI i)), (0, .retAddr 3000), (1, .ref 0), (2, .ref 464), (3, .ref 956)]) (st2 := [.int (nI i + 7), .retAddr 3000, .int x6, .int x5, .int x4, .int x3, .int x2, .int x1, .ref 464]) (M2 := M2) hC hqLW rfl ?_
  refine gw_xld hL (vj 7 (by decide)) (g_dec hqLW (q := (.iaload, 0, 0, 0)) rfl).1 ?_
  rw [← hx7]
  refine gz_cV (z := qX12_would) (a := 464) (av := [.int x1, .int x2, .int x3, .int x4, .int x5, .int x6, .int x7]) (rest := []) (pl := 1756) hC hqLW rfl kX12_would sX12_would (by decide +kernel) (c_FM_would hC x1 x2 x3 x4 x5 x6 x7 M2 sz2 (d - 1) (by omega) (w, t) y2) (by omega) ⟨rfl, rfl⟩ rfl (Nat.le_of_ble_eq_true rfl) (by decide) rfl rfl rfl (Nat.le_of_ble_eq_true rfl) ⟨by show kc + 8 ≤ 601024; omega, by show ks + 48 ≤ 7293034; omega⟩ (gs_I ?_)
  refine gb_run 2 (pc2 := 985) (ls2 := [(6, .int w), (5, .int kE), (4, .int (nI i)), (0, .retAddr 3000), (1, .ref 0), (2, .ref 464), (3, .ref 956)]) (st2 := [.ref 464]) (M2 := t) hC hqLW rfl ?_
  refine gz_cV (z := qX12_thrown) (a := 464) (av := []) (rest := []) (pl := 1536) hC hqLW rfl kX12_thrown sX12_thrown (by decide +kernel) (c_FM_thrown hC t sz2 (d - 1) (by omega)) (by omega) ⟨rfl, rfl⟩ rfl (Nat.le_of_ble_eq_true rfl) (by decide) rfl rfl rfl (Nat.le_of_ble_eq_true rfl) ⟨by show kc + 8 ≤ 601024; omega, by show ks + 48 ≤ 7293034; omega⟩ (gs_Ip ?_)
  refine gb_run 1 (pc2 := 990) (ls2 := [(6, .int w), (5, .int kE), (4, .int (nI i)), (0, .retAddr 3000), (1, .ref 0), (2, .ref 464), (3, .ref 956)]) (st2 := [.int kE, .int (FM_thrown t)]) (M2 := t) hC hqLW rfl ?_
  refine gb_icmp_eq hqLW rfl (fun _ => ?_) (fun q => absurd (show FM_thrown t = kE from k2) q)
  refine gb_run 1 (pc2 := 997) (ls2 := [(6, .int w), (5, .int kE), (4, .int (nI i)), (0, .retAddr 3000), (1, .ref 0), (2, .ref 464), (3, .ref 956)]) (st2 := [.int kE]) (M2 := t) hC hqLW rfl ?_
  have done : ∀ ls0, ls0 = [(6, .int w), (5, .int kE), (4, .int (nI i)), (0, .retAddr 3000), (1, .ref 0), (2, .ref 464), (3, .ref 956)] → GW l C qLW d Q gN (kc + 8) (ks + 48) 1012 ls0 [] (956, g_S0, t, sz2) := by
    rintro _ rfl
    refine gb_run 1 (pc2 := 2623) (ls2 := [(6, .int w), (5, .int kE), (4, .int (nI i)), (0, .retAddr 3000), (1, .ref 0), (2, .ref 464), (3, .ref 956)]) (st2 := []) (M2 := t) hC hqLW rfl ?_
    refine gw_pick [2, 3, 4, 5, 6] (ls2 := [(4, .int (nI i)), (0, .retAddr 3000), (1, .ref 0), (2, .ref 464), (3, .ref 956)]) rfl ?_
    exact K t _ _ _ (by omega) (by omega) k4 (by rw [k5]; exact g2)
  refine gb_if_ne hqLW rfl (fun _ => done _ rfl) (fun q => ?_)
  have e0 : e = 0 := by
    rw [hk] at q
    by_cases z : e = 0
    · exact z
    · rw [if_neg z] at q
      by_cases z2 : e = 1
      · rw [if_pos z2] at q; exact absurd q (by decide)
      · rw [if_neg z2] at q; exact absurd q (by decide)
  refine gb_run 2 (pc2 := 1002) (ls2 := [(6, .int w), (5, .int kE), (4, .int (nI i)), (0, .retAddr 3000), (1, .ref 0), (2, .ref 464), (3, .ref 956)]) (st2 := [.int 0, .ref 956]) (M2 := t) hC hqLW rfl ?_
  refine gw_laload hC hL (by rw [k5]; exact g2) (g_dec hqLW (q := (.laload, 0, 0, 0)) rfl).1 ?_
  rw [show g_lg (t 956) = w.toInt64 by rw [k5, g3 e0, k3 e0]]
  refine gb_run 3 (pc2 := 1007) (ls2 := [(6, .int w), (5, .int kE), (4, .int (nI i)), (0, .retAddr 3000), (1, .ref 0), (2, .ref 464), (3, .ref 956)]) (st2 := [.int (lg_cmp w.toInt64 w.toInt64)]) (M2 := t) hC hqLW rfl ?_
  exact gb_if_eq hqLW rfl (fun _ => done _ rfl) (fun q => absurd (lg_cmp_self w.toInt64) q)

set_option maxRecDepth 20000 in
theorem lc_13 {l : Launch} {C : gC} {L : Nat} {xs : Nat → Int32} (hC : g_ctx l C) (hL : g_cl C L xs) {Q : Option Value → gX → Prop} {i kc ks sz d : Nat} (hd : 60 ≤ d) (hL4 : L ≤ 4096) (hi : i + 8 ≤ L) (hkc : kc + 8 ≤ 601024) (hks : ks + 48 ≤ 7293034) {M : gM} (hR : RR M M) (h2 : M 956 2 = 1) (K : ∀ (M2 : gM) (sz2 kc2 ks2 : Nat), kc2 ≤ kc + 8 → ks2 ≤ ks + 48 → RR M2 M2 → M2 956 2 = 1 → GW l C qLW d Q gN kc2 ks2 2623 [(4, .int (nI i)), (0, .retAddr 3000), (1, .ref 0), (2, .ref 464), (3, .ref 956)] [] (956, g_S0, M2, sz2)) : GW l C qLW d Q gN kc ks 1015 [(4, .int (nI i)), (0, .retAddr 3000), (1, .ref 0), (2, .ref 464), (3, .ref 956)] [] (956, g_S0, M, sz) := by
  have vj : ∀ j, j < 8 → vp_in (nI i + nI j) L := fun j hj => by rw [nI_add]; exact vp_in_nI (by omega) (by omega)
  obtain ⟨x1, hx1⟩ : ∃ y, y = xs (nI i + 1).toNatClampNeg := ⟨_, rfl⟩
  obtain ⟨x2, hx2⟩ : ∃ y, y = xs (nI i + 2).toNatClampNeg := ⟨_, rfl⟩
  refine gb_run 5 (pc2 := 1021) (ls2 := [(4, .int (nI i)), (0, .retAddr 3000), (1, .ref 0), (2, .ref 464), (3, .ref 956)]) (st2 := [.int (nI i + 1), .retAddr 3000, .ref 0]) (M2 := M) hC hqLW rfl ?_
  refine gw_xld hL (vj 1 (by decide)) (g_dec hqLW (q := (.iaload, 0, 0, 0)) rfl).1 ?_
  rw [← hx1]
  refine gb_run 4 (pc2 := 1027) (ls2 := [(4, .int (nI i)), (0, .retAddr 3000), (1, .ref 0), (2, .ref 464), (3, .ref 956)]) (st2 := [.int (nI i + 2), .retAddr 3000, .int x1, .ref 0]) (M2 := M) hC hqLW rfl ?_
  refine gw_xld hL (vj 2 (by decide)) (g_dec hqLW (q := (.iaload, 0, 0, 0)) rfl).1 ?_
  rw [← hx2]
  refine gb_run 1 (pc2 := 1029) (ls2 := [(4, .int (nI i)), (0, .retAddr 3000), (1, .ref 0), (2, .ref 464), (3, .ref 956)]) (st2 := [.ref 956, .int x2, .int x1, .ref 0]) (M2 := M) hC hqLW rfl ?_
  obtain ⟨e, v, M1, y1, f1, k1⟩ := b_lasts x1 x2 hR
  refine gw_invSH (z := qL_lasts) (hh := [(0, 10, 13, 31)]) (av := [.ref 0, .int x1, .int x2, .ref 956]) (rest := []) hC (k_lasts hC hL x1 x2 M sz (d - 1) (by omega) h2 y1 (f1 956 (by decide))) (g_dec hqLW (q := (.invokestatic 173, 0, 0, 0)) rfl).1 (g_mem_tb (i := 1093) (by decide +kernel)) (g_mem_tb (i := 1094) (by decide +kernel)) (g_mem_tb (i := 0) (by decide +kernel)) (g_mem_tb (i := 1095) (by decide +kernel)) (show qL_lasts.1.cls ≠ "java/lang/invoke/MethodHandle" ∧ qL_lasts.1.cls ≠ "java/lang/invoke/VarHandle" ∧ (parseMethodDescriptor qL_lasts.1.desc).map (fun q => q.parameters.length) = some 4 by decide +kernel) (by omega) (by decide) rfl rfl (Nat.le_of_ble_eq_true rfl) ⟨by show kc + 8 ≤ 601024; omega, by show ks + 48 ≤ 7293034; omega⟩ ?_
  rintro r X' ⟨M2, sz2, rfl, g1, g2, g3, rfl⟩
  obtain ⟨w, t, y2, k2, k3, k4, k5⟩ := k1 M2 g1
  obtain ⟨kE, hk⟩ : ∃ y, y = (if e = 0 then (0 : Int32) else if e = 1 then 1 else 1) := ⟨_, rfl⟩
  rw [← hk] at k2 ⊢
  refine gb_run 6 (pc2 := 1040) (ls2 := [(5, .int kE), (4, .int (nI i)), (0, .retAddr 3000), (1, .ref 0), (2, .ref 464), (3, .ref 956)]) (st2 := [.int (nI i + 1), .retAddr 3000, .ref 464]) (M2 := M2) hC hqLW rfl ?_
  refine gw_xld hL (vj 1 (by decide)) (g_dec hqLW (q := (.iaload, 0, 0, 0)) rfl).1 ?_
  rw [← hx1]
  refine gb_run 4 (pc2 := 1046) (ls2 := [(5, .int kE), (4, .int (nI i)), (0, .retAddr 3000), (1, .ref 0), (2, .ref 464), (3, .ref 956)]) (st2 := [.int (nI i + 2), .retAddr 3000, .int x1, .ref 464]) (M2 := M2) hC hqLW rfl ?_
  refine gw_xld hL (vj 2 (by decide)) (g_dec hqLW (q := (.iaload, 0, 0, 0)) rfl).1 ?_
  rw [← hx2]
  refine gz_cV (z := qX12_lasts) (a := 464) (av := [.int x1, .int x2]) (rest := []) (pl := 1760) hC hqLW rfl kX12_lasts sX12_lasts (by decide +kernel) (c_FM_lasts hC x1 x2 M2 sz2 (d - 1) (by omega) (w, t) y2) (by omega) ⟨rfl, rfl⟩ rfl (Nat.le_of_ble_eq_true rfl) (by decide) rfl rfl rfl (Nat.le_of_ble_eq_true rfl) ⟨by show kc + 8 ≤ 601024; omega, by show ks + 48 ≤ 7293034; omega⟩ (gs_I ?_)
  refine gb_run 2 (pc2 := 1053) (ls2 := [(6, .int w), (5, .int kE), (4, .int (nI i)), (0, .retAddr 3000), (1, .ref 0), (2, .ref 464), (3, .ref 956)]) (st2 := [.ref 464]) (M2 := t) hC hqLW rfl ?_
  refine gz_cV (z := qX12_thrown) (a := 464) (av := []) (rest := []) (pl := 1536) hC hqLW rfl kX12_thrown sX12_thrown (by decide +kernel) (c_FM_thrown hC t sz2 (d - 1) (by omega)) (by omega) ⟨rfl, rfl⟩ rfl (Nat.le_of_ble_eq_true rfl) (by decide) rfl rfl rfl (Nat.le_of_ble_eq_true rfl) ⟨by show kc + 8 ≤ 601024; omega, by show ks + 48 ≤ 7293034; omega⟩ (gs_Ip ?_)
  refine gb_run 1 (pc2 := 1058) (ls2 := [(6, .int w), (5, .int kE), (4, .int (nI i)), (0, .retAddr 3000), (1, .ref 0), (2, .ref 464), (3, .ref 956)]) (st2 := [.int kE, .int (FM_thrown t)]) (M2 := t) hC hqLW rfl ?_
  refine gb_icmp_eq hqLW rfl (fun _ => ?_) (fun q => absurd (show FM_thrown t = kE from k2) q)
  refine gb_run 1 (pc2 := 1065) (ls2 := [(6, .int w), (5, .int kE), (4, .int (nI i)), (0, .retAddr 3000), (1, .ref 0), (2, .ref 464), (3, .ref 956)]) (st2 := [.int kE]) (M2 := t) hC hqLW rfl ?_
  have done : ∀ ls0, ls0 = [(6, .int w), (5, .int kE), (4, .int (nI i)), (0, .retAddr 3000), (1, .ref 0), (2, .ref 464), (3, .ref 956)] → GW l C qLW d Q gN (kc + 8) (ks + 48) 1080 ls0 [] (956, g_S0, t, sz2) := by
    rintro _ rfl
    refine gb_run 1 (pc2 := 2623) (ls2 := [(6, .int w), (5, .int kE), (4, .int (nI i)), (0, .retAddr 3000), (1, .ref 0), (2, .ref 464), (3, .ref 956)]) (st2 := []) (M2 := t) hC hqLW rfl ?_
    refine gw_pick [2, 3, 4, 5, 6] (ls2 := [(4, .int (nI i)), (0, .retAddr 3000), (1, .ref 0), (2, .ref 464), (3, .ref 956)]) rfl ?_
    exact K t _ _ _ (by omega) (by omega) k4 (by rw [k5]; exact g2)
  refine gb_if_ne hqLW rfl (fun _ => done _ rfl) (fun q => ?_)
  have e0 : e = 0 := by
    rw [hk] at q
    by_cases z : e = 0
    · exact z
    · rw [if_neg z] at q
      by_cases z2 : e = 1
      · rw [if_pos z2] at q; exact absurd q (by decide)
      · rw [if_neg z2] at q; exact absurd q (by decide)
  refine gb_run 2 (pc2 := 1070) (ls2 := [(6, .int w), (5, .int kE), (4, .int (nI i)), (0, .retAddr 3000), (1, .ref 0), (2, .ref 464), (3, .ref 956)]) (st2 := [.int 0, .ref 956]) (M2 := t) hC hqLW rfl ?_
  refine gw_laload hC hL (by rw [k5]; exact g2) (g_dec hqLW (q := (.laload, 0, 0, 0)) rfl).1 ?_
  rw [show g_lg (t 956) = w.toInt64 by rw [k5, g3 e0, k3 e0]]
  refine gb_run 3 (pc2 := 1075) (ls2 := [(6, .int w), (5, .int kE), (4, .int (nI i)), (0, .retAddr 3000), (1, .ref 0), (2, .ref 464), (3, .ref 956)]) (st2 := [.int (lg_cmp w.toInt64 w.toInt64)]) (M2 := t) hC hqLW rfl ?_
  exact gb_if_eq hqLW rfl (fun _ => done _ rfl) (fun q => absurd (lg_cmp_self w.toInt64) q)

set_option maxRecDepth 20000 in
theorem lc_14 {l : Launch} {C : gC} {L : Nat} {xs : Nat → Int32} (hC : g_ctx l C) (hL : g_cl C L xs) {Q : Option Value → gX → Prop} {i kc ks sz d : Nat} (hd : 60 ≤ d) (hL4 : L ≤ 4096) (hi : i + 8 ≤ L) (hkc : kc + 8 ≤ 601024) (hks : ks + 48 ≤ 7293034) {M : gM} (hR : RR M M) (h2 : M 956 2 = 1) (K : ∀ (M2 : gM) (sz2 kc2 ks2 : Nat), kc2 ≤ kc + 8 → ks2 ≤ ks + 48 → RR M2 M2 → M2 956 2 = 1 → GW l C qLW d Q gN kc2 ks2 2623 [(4, .int (nI i)), (0, .retAddr 3000), (1, .ref 0), (2, .ref 464), (3, .ref 956)] [] (956, g_S0, M2, sz2)) : GW l C qLW d Q gN kc ks 1083 [(4, .int (nI i)), (0, .retAddr 3000), (1, .ref 0), (2, .ref 464), (3, .ref 956)] [] (956, g_S0, M, sz) := by
  have vj : ∀ j, j < 8 → vp_in (nI i + nI j) L := fun j hj => by rw [nI_add]; exact vp_in_nI (by omega) (by omega)
  obtain ⟨x1, hx1⟩ : ∃ y, y = xs (nI i + 1).toNatClampNeg := ⟨_, rfl⟩
  obtain ⟨x2, hx2⟩ : ∃ y, y = xs (nI i + 2).toNatClampNeg := ⟨_, rfl⟩
  refine gb_run 5 (pc2 := 1089) (ls2 := [(4, .int (nI i)), (0, .retAddr 3000), (1, .ref 0), (2, .ref 464), (3, .ref 956)]) (st2 := [.int (nI i + 1), .retAddr 3000, .ref 0]) (M2 := M) hC hqLW rfl ?_
  refine gw_xld hL (vj 1 (by decide)) (g_dec hqLW (q := (.iaload, 0, 0, 0)) rfl).1 ?_
  rw [← hx1]
  refine gb_run 4 (pc2 := 1095) (ls2 := [(4, .int (nI i)), (0, .retAddr 3000), (1, .ref 0), (2, .ref 464), (3, .ref 956)]) (st2 := [.int (nI i + 2), .retAddr 3000, .int x1, .ref 0]) (M2 := M) hC hqLW rfl ?_
  refine gw_xld hL (vj 2 (by decide)) (g_dec hqLW (q := (.iaload, 0, 0, 0)) rfl).1 ?_
  rw [← hx2]
  refine gb_run 1 (pc2 := 1097) (ls2 := [(4, .int (nI i)), (0, .retAddr 3000), (1, .ref 0), (2, .ref 464), (3, .ref 956)]) (st2 := [.ref 956, .int x2, .int x1, .ref 0]) (M2 := M) hC hqLW rfl ?_
  obtain ⟨e, v, M1, y1, f1, k1⟩ := b_ahead x1 x2 hR
  refine gw_invSH (z := qL_ahead) (hh := [(0, 10, 13, 13)]) (av := [.ref 0, .int x1, .int x2, .ref 956]) (rest := []) hC (k_ahead hC hL x1 x2 M sz (d - 1) (by omega) h2 y1 (f1 956 (by decide))) (g_dec hqLW (q := (.invokestatic 176, 0, 0, 0)) rfl).1 (g_mem_tb (i := 1104) (by decide +kernel)) (g_mem_tb (i := 1105) (by decide +kernel)) (g_mem_tb (i := 0) (by decide +kernel)) (g_mem_tb (i := 1106) (by decide +kernel)) (show qL_ahead.1.cls ≠ "java/lang/invoke/MethodHandle" ∧ qL_ahead.1.cls ≠ "java/lang/invoke/VarHandle" ∧ (parseMethodDescriptor qL_ahead.1.desc).map (fun q => q.parameters.length) = some 4 by decide +kernel) (by omega) (by decide) rfl rfl (Nat.le_of_ble_eq_true rfl) ⟨by show kc + 8 ≤ 601024; omega, by show ks + 48 ≤ 7293034; omega⟩ ?_
  rintro r X' ⟨M2, sz2, rfl, g1, g2, g3, rfl⟩
  obtain ⟨w, t, y2, k2, k3, k4, k5⟩ := k1 M2 g1
  obtain ⟨kE, hk⟩ : ∃ y, y = (if e = 0 then (0 : Int32) else if e = 1 then 1 else 1) := ⟨_, rfl⟩
  rw [← hk] at k2 ⊢
  refine gb_run 6 (pc2 := 1108) (ls2 := [(5, .int kE), (4, .int (nI i)), (0, .retAddr 3000), (1, .ref 0), (2, .ref 464), (3, .ref 956)]) (st2 := [.int (nI i + 1), .retAddr 3000, .ref 464]) (M2 := M2) hC hqLW rfl ?_
  refine gw_xld hL (vj 1 (by decide)) (g_dec hqLW (q := (.iaload, 0, 0, 0)) rfl).1 ?_
  rw [← hx1]
  refine gb_run 4 (pc2 := 1114) (ls2 := [(5, .int kE), (4, .int (nI i)), (0, .retAddr 3000), (1, .ref 0), (2, .ref 464), (3, .ref 956)]) (st2 := [.int (nI i + 2), .retAddr 3000, .int x1, .ref 464]) (M2 := M2) hC hqLW rfl ?_
  refine gw_xld hL (vj 2 (by decide)) (g_dec hqLW (q := (.iaload, 0, 0, 0)) rfl).1 ?_
  rw [← hx2]
  refine gz_cV (z := qX12_ahead) (a := 464) (av := [.int x1, .int x2]) (rest := []) (pl := 1772) hC hqLW rfl kX12_ahead sX12_ahead (by decide +kernel) (c_FM_ahead hC x1 x2 M2 sz2 (d - 1) (by omega) (w, t) y2) (by omega) ⟨rfl, rfl⟩ rfl (Nat.le_of_ble_eq_true rfl) (by decide) rfl rfl rfl (Nat.le_of_ble_eq_true rfl) ⟨by show kc + 8 ≤ 601024; omega, by show ks + 48 ≤ 7293034; omega⟩ (gs_I ?_)
  refine gb_run 2 (pc2 := 1121) (ls2 := [(6, .int w), (5, .int kE), (4, .int (nI i)), (0, .retAddr 3000), (1, .ref 0), (2, .ref 464), (3, .ref 956)]) (st2 := [.ref 464]) (M2 := t) hC hqLW rfl ?_
  refine gz_cV (z := qX12_thrown) (a := 464) (av := []) (rest := []) (pl := 1536) hC hqLW rfl kX12_thrown sX12_thrown (by decide +kernel) (c_FM_thrown hC t sz2 (d - 1) (by omega)) (by omega) ⟨rfl, rfl⟩ rfl (Nat.le_of_ble_eq_true rfl) (by decide) rfl rfl rfl (Nat.le_of_ble_eq_true rfl) ⟨by show kc + 8 ≤ 601024; omega, by show ks + 48 ≤ 7293034; omega⟩ (gs_Ip ?_)
  refine gb_run 1 (pc2 := 1126) (ls2 := [(6, .int w), (5, .int kE), (4, .int (nI i)), (0, .retAddr 3000), (1, .ref 0), (2, .ref 464), (3, .ref 956)]) (st2 := [.int kE, .int (FM_thrown t)]) (M2 := t) hC hqLW rfl ?_
  refine gb_icmp_eq hqLW rfl (fun _ => ?_) (fun q => absurd (show FM_thrown t = kE from k2) q)
  refine gb_run 1 (pc2 := 1133) (ls2 := [(6, .int w), (5, .int kE), (4, .int (nI i)), (0, .retAddr 3000), (1, .ref 0), (2, .ref 464), (3, .ref 956)]) (st2 := [.int kE]) (M2 := t) hC hqLW rfl ?_
  have done : ∀ ls0, ls0 = [(6, .int w), (5, .int kE), (4, .int (nI i)), (0, .retAddr 3000), (1, .ref 0), (2, .ref 464), (3, .ref 956)] → GW l C qLW d Q gN (kc + 8) (ks + 48) 1148 ls0 [] (956, g_S0, t, sz2) := by
    rintro _ rfl
    refine gb_run 1 (pc2 := 2623) (ls2 := [(6, .int w), (5, .int kE), (4, .int (nI i)), (0, .retAddr 3000), (1, .ref 0), (2, .ref 464), (3, .ref 956)]) (st2 := []) (M2 := t) hC hqLW rfl ?_
    refine gw_pick [2, 3, 4, 5, 6] (ls2 := [(4, .int (nI i)), (0, .retAddr 3000), (1, .ref 0), (2, .ref 464), (3, .ref 956)]) rfl ?_
    exact K t _ _ _ (by omega) (by omega) k4 (by rw [k5]; exact g2)
  refine gb_if_ne hqLW rfl (fun _ => done _ rfl) (fun q => ?_)
  have e0 : e = 0 := by
    rw [hk] at q
    by_cases z : e = 0
    · exact z
    · rw [if_neg z] at q
      by_cases z2 : e = 1
      · rw [if_pos z2] at q; exact absurd q (by decide)
      · rw [if_neg z2] at q; exact absurd q (by decide)
  refine gb_run 2 (pc2 := 1138) (ls2 := [(6, .int w), (5, .int kE), (4, .int (nI i)), (0, .retAddr 3000), (1, .ref 0), (2, .ref 464), (3, .ref 956)]) (st2 := [.int 0, .ref 956]) (M2 := t) hC hqLW rfl ?_
  refine gw_laload hC hL (by rw [k5]; exact g2) (g_dec hqLW (q := (.laload, 0, 0, 0)) rfl).1 ?_
  rw [show g_lg (t 956) = w.toInt64 by rw [k5, g3 e0, k3 e0]]
  refine gb_run 3 (pc2 := 1143) (ls2 := [(6, .int w), (5, .int kE), (4, .int (nI i)), (0, .retAddr 3000), (1, .ref 0), (2, .ref 464), (3, .ref 956)]) (st2 := [.int (lg_cmp w.toInt64 w.toInt64)]) (M2 := t) hC hqLW rfl ?_
  exact gb_if_eq hqLW rfl (fun _ => done _ rfl) (fun q => absurd (lg_cmp_self w.toInt64) q)

set_option maxRecDepth 20000 in
theorem lc_15 {l : Launch} {C : gC} {L : Nat} {xs : Nat → Int32} (hC : g_ctx l C) (hL : g_cl C L xs) {Q : Option Value → gX → Prop} {i kc ks sz d : Nat} (hd : 60 ≤ d) (hL4 : L ≤ 4096) (hi : i + 8 ≤ L) (hkc : kc + 8 ≤ 601024) (hks : ks + 48 ≤ 7293034) {M : gM} (hR : RR M M) (h2 : M 956 2 = 1) (K : ∀ (M2 : gM) (sz2 kc2 ks2 : Nat), kc2 ≤ kc + 8 → ks2 ≤ ks + 48 → RR M2 M2 → M2 956 2 = 1 → GW l C qLW d Q gN kc2 ks2 2623 [(4, .int (nI i)), (0, .retAddr 3000), (1, .ref 0), (2, .ref 464), (3, .ref 956)] [] (956, g_S0, M2, sz2)) : GW l C qLW d Q gN kc ks 1151 [(4, .int (nI i)), (0, .retAddr 3000), (1, .ref 0), (2, .ref 464), (3, .ref 956)] [] (956, g_S0, M, sz) := by
  have vj : ∀ j, j < 8 → vp_in (nI i + nI j) L := fun j hj => by rw [nI_add]; exact vp_in_nI (by omega) (by omega)
  obtain ⟨x1, hx1⟩ : ∃ y, y = xs (nI i + 1).toNatClampNeg := ⟨_, rfl⟩
  refine gb_run 5 (pc2 := 1157) (ls2 := [(4, .int (nI i)), (0, .retAddr 3000), (1, .ref 0), (2, .ref 464), (3, .ref 956)]) (st2 := [.int (nI i + 1), .retAddr 3000, .ref 0]) (M2 := M) hC hqLW rfl ?_
  refine gw_xld hL (vj 1 (by decide)) (g_dec hqLW (q := (.iaload, 0, 0, 0)) rfl).1 ?_
  rw [← hx1]
  refine gb_run 1 (pc2 := 1159) (ls2 := [(4, .int (nI i)), (0, .retAddr 3000), (1, .ref 0), (2, .ref 464), (3, .ref 956)]) (st2 := [.ref 956, .int x1, .ref 0]) (M2 := M) hC hqLW rfl ?_
  obtain ⟨e, v, M1, y1, f1, k1⟩ := b_due x1 hR
  refine gw_invSH (z := qL_due) (hh := [(0, 9, 12, 31)]) (av := [.ref 0, .int x1, .ref 956]) (rest := []) hC (k_due hC hL x1 M sz (d - 1) (by omega) h2 y1 (f1 956 (by decide))) (g_dec hqLW (q := (.invokestatic 179, 0, 0, 0)) rfl).1 (g_mem_tb (i := 1111) (by decide +kernel)) (g_mem_tb (i := 1112) (by decide +kernel)) (g_mem_tb (i := 0) (by decide +kernel)) (g_mem_tb (i := 1113) (by decide +kernel)) (show qL_due.1.cls ≠ "java/lang/invoke/MethodHandle" ∧ qL_due.1.cls ≠ "java/lang/invoke/VarHandle" ∧ (parseMethodDescriptor qL_due.1.desc).map (fun q => q.parameters.length) = some 3 by decide +kernel) (by omega) (by decide) rfl rfl (Nat.le_of_ble_eq_true rfl) ⟨by show kc + 8 ≤ 601024; omega, by show ks + 48 ≤ 7293034; omega⟩ ?_
  rintro r X' ⟨M2, sz2, rfl, g1, g2, g3, rfl⟩
  obtain ⟨w, t, y2, k2, k3, k4, k5⟩ := k1 M2 g1
  obtain ⟨kE, hk⟩ : ∃ y, y = (if e = 0 then (0 : Int32) else if e = 1 then 1 else 1) := ⟨_, rfl⟩
  rw [← hk] at k2 ⊢
  refine gb_run 6 (pc2 := 1170) (ls2 := [(5, .int kE), (4, .int (nI i)), (0, .retAddr 3000), (1, .ref 0), (2, .ref 464), (3, .ref 956)]) (st2 := [.int (nI i + 1), .retAddr 3000, .ref 464]) (M2 := M2) hC hqLW rfl ?_
  refine gw_xld hL (vj 1 (by decide)) (g_dec hqLW (q := (.iaload, 0, 0, 0)) rfl).1 ?_
  rw [← hx1]
  refine gz_cV (z := qX12_due) (a := 464) (av := [.int x1]) (rest := []) (pl := 1776) hC hqLW rfl kX12_due sX12_due (by decide +kernel) (c_FM_due hC x1 M2 sz2 (d - 1) (by omega) (w, t) y2) (by omega) ⟨rfl, rfl⟩ rfl (Nat.le_of_ble_eq_true rfl) (by decide) rfl rfl rfl (Nat.le_of_ble_eq_true rfl) ⟨by show kc + 8 ≤ 601024; omega, by show ks + 48 ≤ 7293034; omega⟩ (gs_I ?_)
  refine gb_run 2 (pc2 := 1177) (ls2 := [(6, .int w), (5, .int kE), (4, .int (nI i)), (0, .retAddr 3000), (1, .ref 0), (2, .ref 464), (3, .ref 956)]) (st2 := [.ref 464]) (M2 := t) hC hqLW rfl ?_
  refine gz_cV (z := qX12_thrown) (a := 464) (av := []) (rest := []) (pl := 1536) hC hqLW rfl kX12_thrown sX12_thrown (by decide +kernel) (c_FM_thrown hC t sz2 (d - 1) (by omega)) (by omega) ⟨rfl, rfl⟩ rfl (Nat.le_of_ble_eq_true rfl) (by decide) rfl rfl rfl (Nat.le_of_ble_eq_true rfl) ⟨by show kc + 8 ≤ 601024; omega, by show ks + 48 ≤ 7293034; omega⟩ (gs_Ip ?_)
  refine gb_run 1 (pc2 := 1182) (ls2 := [(6, .int w), (5, .int kE), (4, .int (nI i)), (0, .retAddr 3000), (1, .ref 0), (2, .ref 464), (3, .ref 956)]) (st2 := [.int kE, .int (FM_thrown t)]) (M2 := t) hC hqLW rfl ?_
  refine gb_icmp_eq hqLW rfl (fun _ => ?_) (fun q => absurd (show FM_thrown t = kE from k2) q)
  refine gb_run 1 (pc2 := 1189) (ls2 := [(6, .int w), (5, .int kE), (4, .int (nI i)), (0, .retAddr 3000), (1, .ref 0), (2, .ref 464), (3, .ref 956)]) (st2 := [.int kE]) (M2 := t) hC hqLW rfl ?_
  have done : ∀ ls0, ls0 = [(6, .int w), (5, .int kE), (4, .int (nI i)), (0, .retAddr 3000), (1, .ref 0), (2, .ref 464), (3, .ref 956)] → GW l C qLW d Q gN (kc + 8) (ks + 48) 1204 ls0 [] (956, g_S0, t, sz2) := by
    rintro _ rfl
    refine gb_run 1 (pc2 := 2623) (ls2 := [(6, .int w), (5, .int kE), (4, .int (nI i)), (0, .retAddr 3000), (1, .ref 0), (2, .ref 464), (3, .ref 956)]) (st2 := []) (M2 := t) hC hqLW rfl ?_
    refine gw_pick [2, 3, 4, 5, 6] (ls2 := [(4, .int (nI i)), (0, .retAddr 3000), (1, .ref 0), (2, .ref 464), (3, .ref 956)]) rfl ?_
    exact K t _ _ _ (by omega) (by omega) k4 (by rw [k5]; exact g2)
  refine gb_if_ne hqLW rfl (fun _ => done _ rfl) (fun q => ?_)
  have e0 : e = 0 := by
    rw [hk] at q
    by_cases z : e = 0
    · exact z
    · rw [if_neg z] at q
      by_cases z2 : e = 1
      · rw [if_pos z2] at q; exact absurd q (by decide)
      · rw [if_neg z2] at q; exact absurd q (by decide)
  refine gb_run 2 (pc2 := 1194) (ls2 := [(6, .int w), (5, .int kE), (4, .int (nI i)), (0, .retAddr 3000), (1, .ref 0), (2, .ref 464), (3, .ref 956)]) (st2 := [.int 0, .ref 956]) (M2 := t) hC hqLW rfl ?_
  refine gw_laload hC hL (by rw [k5]; exact g2) (g_dec hqLW (q := (.laload, 0, 0, 0)) rfl).1 ?_
  rw [show g_lg (t 956) = w.toInt64 by rw [k5, g3 e0, k3 e0]]
  refine gb_run 3 (pc2 := 1199) (ls2 := [(6, .int w), (5, .int kE), (4, .int (nI i)), (0, .retAddr 3000), (1, .ref 0), (2, .ref 464), (3, .ref 956)]) (st2 := [.int (lg_cmp w.toInt64 w.toInt64)]) (M2 := t) hC hqLW rfl ?_
  exact gb_if_eq hqLW rfl (fun _ => done _ rfl) (fun q => absurd (lg_cmp_self w.toInt64) q)

set_option maxRecDepth 20000 in
theorem lc_16 {l : Launch} {C : gC} {L : Nat} {xs : Nat → Int32} (hC : g_ctx l C) (hL : g_cl C L xs) {Q : Option Value → gX → Prop} {i kc ks sz d : Nat} (hd : 60 ≤ d) (hL4 : L ≤ 4096) (hi : i + 8 ≤ L) (hkc : kc + 8 ≤ 601024) (hks : ks + 48 ≤ 7293034) {M : gM} (hR : RR M M) (h2 : M 956 2 = 1) (K : ∀ (M2 : gM) (sz2 kc2 ks2 : Nat), kc2 ≤ kc + 8 → ks2 ≤ ks + 48 → RR M2 M2 → M2 956 2 = 1 → GW l C qLW d Q gN kc2 ks2 2623 [(4, .int (nI i)), (0, .retAddr 3000), (1, .ref 0), (2, .ref 464), (3, .ref 956)] [] (956, g_S0, M2, sz2)) : GW l C qLW d Q gN kc ks 1207 [(4, .int (nI i)), (0, .retAddr 3000), (1, .ref 0), (2, .ref 464), (3, .ref 956)] [] (956, g_S0, M, sz) := by
  have vj : ∀ j, j < 8 → vp_in (nI i + nI j) L := fun j hj => by rw [nI_add]; exact vp_in_nI (by omega) (by omega)
  obtain ⟨x1, hx1⟩ : ∃ y, y = xs (nI i + 1).toNatClampNeg := ⟨_, rfl⟩
  refine gb_run 5 (pc2 := 1213) (ls2 := [(4, .int (nI i)), (0, .retAddr 3000), (1, .ref 0), (2, .ref 464), (3, .ref 956)]) (st2 := [.int (nI i + 1), .retAddr 3000, .ref 0]) (M2 := M) hC hqLW rfl ?_
  refine gw_xld hL (vj 1 (by decide)) (g_dec hqLW (q := (.iaload, 0, 0, 0)) rfl).1 ?_
  rw [← hx1]
  refine gb_run 1 (pc2 := 1215) (ls2 := [(4, .int (nI i)), (0, .retAddr 3000), (1, .ref 0), (2, .ref 464), (3, .ref 956)]) (st2 := [.ref 956, .int x1, .ref 0]) (M2 := M) hC hqLW rfl ?_
  obtain ⟨e, v, M1, y1, f1, k1⟩ := b_hour x1 hR
  refine gw_invSH (z := qL_hour) (hh := [(0, 9, 12, 13)]) (av := [.ref 0, .int x1, .ref 956]) (rest := []) hC (k_hour hC hL x1 M sz (d - 1) (by omega) h2 y1 (f1 956 (by decide))) (g_dec hqLW (q := (.invokestatic 182, 0, 0, 0)) rfl).1 (g_mem_tb (i := 1122) (by decide +kernel)) (g_mem_tb (i := 1123) (by decide +kernel)) (g_mem_tb (i := 0) (by decide +kernel)) (g_mem_tb (i := 1124) (by decide +kernel)) (show qL_hour.1.cls ≠ "java/lang/invoke/MethodHandle" ∧ qL_hour.1.cls ≠ "java/lang/invoke/VarHandle" ∧ (parseMethodDescriptor qL_hour.1.desc).map (fun q => q.parameters.length) = some 3 by decide +kernel) (by omega) (by decide) rfl rfl (Nat.le_of_ble_eq_true rfl) ⟨by show kc + 8 ≤ 601024; omega, by show ks + 48 ≤ 7293034; omega⟩ ?_
  rintro r X' ⟨M2, sz2, rfl, g1, g2, g3, rfl⟩
  obtain ⟨w, t, y2, k2, k3, k4, k5⟩ := k1 M2 g1
  obtain ⟨kE, hk⟩ : ∃ y, y = (if e = 0 then (0 : Int32) else if e = 1 then 1 else 1) := ⟨_, rfl⟩
  rw [← hk] at k2 ⊢
  refine gb_run 6 (pc2 := 1226) (ls2 := [(5, .int kE), (4, .int (nI i)), (0, .retAddr 3000), (1, .ref 0), (2, .ref 464), (3, .ref 956)]) (st2 := [.int (nI i + 1), .retAddr 3000, .ref 464]) (M2 := M2) hC hqLW rfl ?_
  refine gw_xld hL (vj 1 (by decide)) (g_dec hqLW (q := (.iaload, 0, 0, 0)) rfl).1 ?_
  rw [← hx1]
  refine gz_cV (z := qX12_hour) (a := 464) (av := [.int x1]) (rest := []) (pl := 1780) hC hqLW rfl kX12_hour sX12_hour (by decide +kernel) (c_FM_hour hC x1 M2 sz2 (d - 1) (by omega) (w, t) y2) (by omega) ⟨rfl, rfl⟩ rfl (Nat.le_of_ble_eq_true rfl) (by decide) rfl rfl rfl (Nat.le_of_ble_eq_true rfl) ⟨by show kc + 8 ≤ 601024; omega, by show ks + 48 ≤ 7293034; omega⟩ (gs_I ?_)
  refine gb_run 2 (pc2 := 1233) (ls2 := [(6, .int w), (5, .int kE), (4, .int (nI i)), (0, .retAddr 3000), (1, .ref 0), (2, .ref 464), (3, .ref 956)]) (st2 := [.ref 464]) (M2 := t) hC hqLW rfl ?_
  refine gz_cV (z := qX12_thrown) (a := 464) (av := []) (rest := []) (pl := 1536) hC hqLW rfl kX12_thrown sX12_thrown (by decide +kernel) (c_FM_thrown hC t sz2 (d - 1) (by omega)) (by omega) ⟨rfl, rfl⟩ rfl (Nat.le_of_ble_eq_true rfl) (by decide) rfl rfl rfl (Nat.le_of_ble_eq_true rfl) ⟨by show kc + 8 ≤ 601024; omega, by show ks + 48 ≤ 7293034; omega⟩ (gs_Ip ?_)
  refine gb_run 1 (pc2 := 1238) (ls2 := [(6, .int w), (5, .int kE), (4, .int (nI i)), (0, .retAddr 3000), (1, .ref 0), (2, .ref 464), (3, .ref 956)]) (st2 := [.int kE, .int (FM_thrown t)]) (M2 := t) hC hqLW rfl ?_
  refine gb_icmp_eq hqLW rfl (fun _ => ?_) (fun q => absurd (show FM_thrown t = kE from k2) q)
  refine gb_run 1 (pc2 := 1245) (ls2 := [(6, .int w), (5, .int kE), (4, .int (nI i)), (0, .retAddr 3000), (1, .ref 0), (2, .ref 464), (3, .ref 956)]) (st2 := [.int kE]) (M2 := t) hC hqLW rfl ?_
  have done : ∀ ls0, ls0 = [(6, .int w), (5, .int kE), (4, .int (nI i)), (0, .retAddr 3000), (1, .ref 0), (2, .ref 464), (3, .ref 956)] → GW l C qLW d Q gN (kc + 8) (ks + 48) 1260 ls0 [] (956, g_S0, t, sz2) := by
    rintro _ rfl
    refine gb_run 1 (pc2 := 2623) (ls2 := [(6, .int w), (5, .int kE), (4, .int (nI i)), (0, .retAddr 3000), (1, .ref 0), (2, .ref 464), (3, .ref 956)]) (st2 := []) (M2 := t) hC hqLW rfl ?_
    refine gw_pick [2, 3, 4, 5, 6] (ls2 := [(4, .int (nI i)), (0, .retAddr 3000), (1, .ref 0), (2, .ref 464), (3, .ref 956)]) rfl ?_
    exact K t _ _ _ (by omega) (by omega) k4 (by rw [k5]; exact g2)
  refine gb_if_ne hqLW rfl (fun _ => done _ rfl) (fun q => ?_)
  have e0 : e = 0 := by
    rw [hk] at q
    by_cases z : e = 0
    · exact z
    · rw [if_neg z] at q
      by_cases z2 : e = 1
      · rw [if_pos z2] at q; exact absurd q (by decide)
      · rw [if_neg z2] at q; exact absurd q (by decide)
  refine gb_run 2 (pc2 := 1250) (ls2 := [(6, .int w), (5, .int kE), (4, .int (nI i)), (0, .retAddr 3000), (1, .ref 0), (2, .ref 464), (3, .ref 956)]) (st2 := [.int 0, .ref 956]) (M2 := t) hC hqLW rfl ?_
  refine gw_laload hC hL (by rw [k5]; exact g2) (g_dec hqLW (q := (.laload, 0, 0, 0)) rfl).1 ?_
  rw [show g_lg (t 956) = w.toInt64 by rw [k5, g3 e0, k3 e0]]
  refine gb_run 3 (pc2 := 1255) (ls2 := [(6, .int w), (5, .int kE), (4, .int (nI i)), (0, .retAddr 3000), (1, .ref 0), (2, .ref 464), (3, .ref 956)]) (st2 := [.int (lg_cmp w.toInt64 w.toInt64)]) (M2 := t) hC hqLW rfl ?_
  exact gb_if_eq hqLW rfl (fun _ => done _ rfl) (fun q => absurd (lg_cmp_self w.toInt64) q)

set_option maxRecDepth 20000 in
theorem lc_17 {l : Launch} {C : gC} {L : Nat} {xs : Nat → Int32} (hC : g_ctx l C) (hL : g_cl C L xs) {Q : Option Value → gX → Prop} {i kc ks sz d : Nat} (hd : 60 ≤ d) (hL4 : L ≤ 4096) (hi : i + 8 ≤ L) (hkc : kc + 8 ≤ 601024) (hks : ks + 48 ≤ 7293034) {M : gM} (hR : RR M M) (h2 : M 956 2 = 1) (K : ∀ (M2 : gM) (sz2 kc2 ks2 : Nat), kc2 ≤ kc + 8 → ks2 ≤ ks + 48 → RR M2 M2 → M2 956 2 = 1 → GW l C qLW d Q gN kc2 ks2 2623 [(4, .int (nI i)), (0, .retAddr 3000), (1, .ref 0), (2, .ref 464), (3, .ref 956)] [] (956, g_S0, M2, sz2)) : GW l C qLW d Q gN kc ks 1263 [(4, .int (nI i)), (0, .retAddr 3000), (1, .ref 0), (2, .ref 464), (3, .ref 956)] [] (956, g_S0, M, sz) := by
  have vj : ∀ j, j < 8 → vp_in (nI i + nI j) L := fun j hj => by rw [nI_add]; exact vp_in_nI (by omega) (by omega)
  refine gb_run 1 (pc2 := 1264) (ls2 := [(4, .int (nI i)), (0, .retAddr 3000), (1, .ref 0), (2, .ref 464), (3, .ref 956)]) (st2 := [.ref 0]) (M2 := M) hC hqLW rfl ?_
  obtain ⟨v, M1, t, y1, y2, k4, k5⟩ := b_late hR
  refine gz_cV (z := qX11_late) (a := 0) (av := []) (rest := []) (pl := 564) hC hqLW rfl kX11_late sX11_late (by decide +kernel) (c_FX_late hC M sz (d - 1) (by omega) (v, M1) y1) (by omega) ⟨rfl, rfl⟩ rfl (Nat.le_of_ble_eq_true rfl) (by decide) rfl rfl rfl (Nat.le_of_ble_eq_true rfl) ⟨by show kc ≤ 601024; omega, by show ks ≤ 7293034; omega⟩ (gs_I ?_)
  refine gb_run 1 (pc2 := 1268) (ls2 := [(4, .int (nI i)), (0, .retAddr 3000), (1, .ref 0), (2, .ref 464), (3, .ref 956)]) (st2 := [.ref 464, .int v]) (M2 := M1) hC hqLW rfl ?_
  refine gz_cV (z := qX12_late) (a := 464) (av := []) (rest := [.int v]) (pl := 1784) hC hqLW rfl kX12_late sX12_late (by decide +kernel) (c_FM_late hC M1 sz (d - 1) (by omega) (v, t) y2) (by omega) ⟨rfl, rfl⟩ rfl (Nat.le_of_ble_eq_true rfl) (by decide) rfl rfl rfl (Nat.le_of_ble_eq_true rfl) ⟨by show kc ≤ 601024; omega, by show ks ≤ 7293034; omega⟩ (gs_I ?_)
  refine gb_icmp_eq hqLW rfl (fun _ => ?_) (fun q => absurd rfl q)
  refine gw_pick [0, 1, 2, 3, 4] (ls2 := [(4, .int (nI i)), (0, .retAddr 3000), (1, .ref 0), (2, .ref 464), (3, .ref 956)]) rfl ?_
  exact K t _ _ _ (by omega) (by omega) k4 (by rw [k5]; exact h2)

set_option maxRecDepth 20000 in
theorem lc_18 {l : Launch} {C : gC} {L : Nat} {xs : Nat → Int32} (hC : g_ctx l C) (hL : g_cl C L xs) {Q : Option Value → gX → Prop} {i kc ks sz d : Nat} (hd : 60 ≤ d) (hL4 : L ≤ 4096) (hi : i + 8 ≤ L) (hkc : kc + 8 ≤ 601024) (hks : ks + 48 ≤ 7293034) {M : gM} (hR : RR M M) (h2 : M 956 2 = 1) (K : ∀ (M2 : gM) (sz2 kc2 ks2 : Nat), kc2 ≤ kc + 8 → ks2 ≤ ks + 48 → RR M2 M2 → M2 956 2 = 1 → GW l C qLW d Q gN kc2 ks2 2623 [(4, .int (nI i)), (0, .retAddr 3000), (1, .ref 0), (2, .ref 464), (3, .ref 956)] [] (956, g_S0, M2, sz2)) : GW l C qLW d Q gN kc ks 1276 [(4, .int (nI i)), (0, .retAddr 3000), (1, .ref 0), (2, .ref 464), (3, .ref 956)] [] (956, g_S0, M, sz) := by
  have vj : ∀ j, j < 8 → vp_in (nI i + nI j) L := fun j hj => by rw [nI_add]; exact vp_in_nI (by omega) (by omega)
  obtain ⟨x1, hx1⟩ : ∃ y, y = xs (nI i + 1).toNatClampNeg := ⟨_, rfl⟩
  obtain ⟨x2, hx2⟩ : ∃ y, y = xs (nI i + 2).toNatClampNeg := ⟨_, rfl⟩
  refine gb_run 5 (pc2 := 1282) (ls2 := [(4, .int (nI i)), (0, .retAddr 3000), (1, .ref 0), (2, .ref 464), (3, .ref 956)]) (st2 := [.int (nI i + 1), .retAddr 3000, .ref 0]) (M2 := M) hC hqLW rfl ?_
  refine gw_xld hL (vj 1 (by decide)) (g_dec hqLW (q := (.iaload, 0, 0, 0)) rfl).1 ?_
  rw [← hx1]
  refine gb_run 4 (pc2 := 1288) (ls2 := [(4, .int (nI i)), (0, .retAddr 3000), (1, .ref 0), (2, .ref 464), (3, .ref 956)]) (st2 := [.int (nI i + 2), .retAddr 3000, .int x1, .ref 0]) (M2 := M) hC hqLW rfl ?_
  refine gw_xld hL (vj 2 (by decide)) (g_dec hqLW (q := (.iaload, 0, 0, 0)) rfl).1 ?_
  rw [← hx2]
  refine gb_run 1 (pc2 := 1290) (ls2 := [(4, .int (nI i)), (0, .retAddr 3000), (1, .ref 0), (2, .ref 464), (3, .ref 956)]) (st2 := [.ref 956, .int x2, .int x1, .ref 0]) (M2 := M) hC hqLW rfl ?_
  obtain ⟨e, v, M1, y1, f1, k1⟩ := b_match x1 x2 hR
  refine gw_invSH (z := qL_match) (hh := [(0, 10, 13, 13)]) (av := [.ref 0, .int x1, .int x2, .ref 956]) (rest := []) hC (k_match hC hL x1 x2 M sz (d - 1) (by omega) h2 y1 (f1 956 (by decide))) (g_dec hqLW (q := (.invokestatic 189, 0, 0, 0)) rfl).1 (g_mem_tb (i := 1129) (by decide +kernel)) (g_mem_tb (i := 1130) (by decide +kernel)) (g_mem_tb (i := 0) (by decide +kernel)) (g_mem_tb (i := 1131) (by decide +kernel)) (show qL_match.1.cls ≠ "java/lang/invoke/MethodHandle" ∧ qL_match.1.cls ≠ "java/lang/invoke/VarHandle" ∧ (parseMethodDescriptor qL_match.1.desc).map (fun q => q.parameters.length) = some 4 by decide +kernel) (by omega) (by decide) rfl rfl (Nat.le_of_ble_eq_true rfl) ⟨by show kc + 8 ≤ 601024; omega, by show ks + 48 ≤ 7293034; omega⟩ ?_
  rintro r X' ⟨M2, sz2, rfl, g1, g2, g3, rfl⟩
  obtain ⟨w, t, y2, k2, k3, k4, k5⟩ := k1 M2 g1
  obtain ⟨kE, hk⟩ : ∃ y, y = (if e = 0 then (0 : Int32) else if e = 1 then 1 else 1) := ⟨_, rfl⟩
  rw [← hk] at k2 ⊢
  refine gb_run 6 (pc2 := 1301) (ls2 := [(5, .int kE), (4, .int (nI i)), (0, .retAddr 3000), (1, .ref 0), (2, .ref 464), (3, .ref 956)]) (st2 := [.int (nI i + 1), .retAddr 3000, .ref 464]) (M2 := M2) hC hqLW rfl ?_
  refine gw_xld hL (vj 1 (by decide)) (g_dec hqLW (q := (.iaload, 0, 0, 0)) rfl).1 ?_
  rw [← hx1]
  refine gb_run 4 (pc2 := 1307) (ls2 := [(5, .int kE), (4, .int (nI i)), (0, .retAddr 3000), (1, .ref 0), (2, .ref 464), (3, .ref 956)]) (st2 := [.int (nI i + 2), .retAddr 3000, .int x1, .ref 464]) (M2 := M2) hC hqLW rfl ?_
  refine gw_xld hL (vj 2 (by decide)) (g_dec hqLW (q := (.iaload, 0, 0, 0)) rfl).1 ?_
  rw [← hx2]
  refine gz_cV (z := qX12_match) (a := 464) (av := [.int x1, .int x2]) (rest := []) (pl := 1812) hC hqLW rfl kX12_match sX12_match (by decide +kernel) (c_FM_match hC x1 x2 M2 sz2 (d - 1) (by omega) (w, t) y2) (by omega) ⟨rfl, rfl⟩ rfl (Nat.le_of_ble_eq_true rfl) (by decide) rfl rfl rfl (Nat.le_of_ble_eq_true rfl) ⟨by show kc + 8 ≤ 601024; omega, by show ks + 48 ≤ 7293034; omega⟩ (gs_I ?_)
  refine gb_run 2 (pc2 := 1314) (ls2 := [(6, .int w), (5, .int kE), (4, .int (nI i)), (0, .retAddr 3000), (1, .ref 0), (2, .ref 464), (3, .ref 956)]) (st2 := [.ref 464]) (M2 := t) hC hqLW rfl ?_
  refine gz_cV (z := qX12_thrown) (a := 464) (av := []) (rest := []) (pl := 1536) hC hqLW rfl kX12_thrown sX12_thrown (by decide +kernel) (c_FM_thrown hC t sz2 (d - 1) (by omega)) (by omega) ⟨rfl, rfl⟩ rfl (Nat.le_of_ble_eq_true rfl) (by decide) rfl rfl rfl (Nat.le_of_ble_eq_true rfl) ⟨by show kc + 8 ≤ 601024; omega, by show ks + 48 ≤ 7293034; omega⟩ (gs_Ip ?_)
  refine gb_run 1 (pc2 := 1319) (ls2 := [(6, .int w), (5, .int kE), (4, .int (nI i)), (0, .retAddr 3000), (1, .ref 0), (2, .ref 464), (3, .ref 956)]) (st2 := [.int kE, .int (FM_thrown t)]) (M2 := t) hC hqLW rfl ?_
  refine gb_icmp_eq hqLW rfl (fun _ => ?_) (fun q => absurd (show FM_thrown t = kE from k2) q)
  refine gb_run 1 (pc2 := 1326) (ls2 := [(6, .int w), (5, .int kE), (4, .int (nI i)), (0, .retAddr 3000), (1, .ref 0), (2, .ref 464), (3, .ref 956)]) (st2 := [.int kE]) (M2 := t) hC hqLW rfl ?_
  have done : ∀ ls0, ls0 = [(6, .int w), (5, .int kE), (4, .int (nI i)), (0, .retAddr 3000), (1, .ref 0), (2, .ref 464), (3, .ref 956)] → GW l C qLW d Q gN (kc + 8) (ks + 48) 1341 ls0 [] (956, g_S0, t, sz2) := by
    rintro _ rfl
    refine gb_run 1 (pc2 := 2623) (ls2 := [(6, .int w), (5, .int kE), (4, .int (nI i)), (0, .retAddr 3000), (1, .ref 0), (2, .ref 464), (3, .ref 956)]) (st2 := []) (M2 := t) hC hqLW rfl ?_
    refine gw_pick [2, 3, 4, 5, 6] (ls2 := [(4, .int (nI i)), (0, .retAddr 3000), (1, .ref 0), (2, .ref 464), (3, .ref 956)]) rfl ?_
    exact K t _ _ _ (by omega) (by omega) k4 (by rw [k5]; exact g2)
  refine gb_if_ne hqLW rfl (fun _ => done _ rfl) (fun q => ?_)
  have e0 : e = 0 := by
    rw [hk] at q
    by_cases z : e = 0
    · exact z
    · rw [if_neg z] at q
      by_cases z2 : e = 1
      · rw [if_pos z2] at q; exact absurd q (by decide)
      · rw [if_neg z2] at q; exact absurd q (by decide)
  refine gb_run 2 (pc2 := 1331) (ls2 := [(6, .int w), (5, .int kE), (4, .int (nI i)), (0, .retAddr 3000), (1, .ref 0), (2, .ref 464), (3, .ref 956)]) (st2 := [.int 0, .ref 956]) (M2 := t) hC hqLW rfl ?_
  refine gw_laload hC hL (by rw [k5]; exact g2) (g_dec hqLW (q := (.laload, 0, 0, 0)) rfl).1 ?_
  rw [show g_lg (t 956) = w.toInt64 by rw [k5, g3 e0, k3 e0]]
  refine gb_run 3 (pc2 := 1336) (ls2 := [(6, .int w), (5, .int kE), (4, .int (nI i)), (0, .retAddr 3000), (1, .ref 0), (2, .ref 464), (3, .ref 956)]) (st2 := [.int (lg_cmp w.toInt64 w.toInt64)]) (M2 := t) hC hqLW rfl ?_
  exact gb_if_eq hqLW rfl (fun _ => done _ rfl) (fun q => absurd (lg_cmp_self w.toInt64) q)

set_option maxRecDepth 20000 in
theorem lc_19 {l : Launch} {C : gC} {L : Nat} {xs : Nat → Int32} (hC : g_ctx l C) (hL : g_cl C L xs) {Q : Option Value → gX → Prop} {i kc ks sz d : Nat} (hd : 60 ≤ d) (hL4 : L ≤ 4096) (hi : i + 8 ≤ L) (hkc : kc + 8 ≤ 601024) (hks : ks + 48 ≤ 7293034) {M : gM} (hR : RR M M) (h2 : M 956 2 = 1) (K : ∀ (M2 : gM) (sz2 kc2 ks2 : Nat), kc2 ≤ kc + 8 → ks2 ≤ ks + 48 → RR M2 M2 → M2 956 2 = 1 → GW l C qLW d Q gN kc2 ks2 2623 [(4, .int (nI i)), (0, .retAddr 3000), (1, .ref 0), (2, .ref 464), (3, .ref 956)] [] (956, g_S0, M2, sz2)) : GW l C qLW d Q gN kc ks 1344 [(4, .int (nI i)), (0, .retAddr 3000), (1, .ref 0), (2, .ref 464), (3, .ref 956)] [] (956, g_S0, M, sz) := by
  have vj : ∀ j, j < 8 → vp_in (nI i + nI j) L := fun j hj => by rw [nI_add]; exact vp_in_nI (by omega) (by omega)
  obtain ⟨x1, hx1⟩ : ∃ y, y = xs (nI i + 1).toNatClampNeg := ⟨_, rfl⟩
  obtain ⟨x2, hx2⟩ : ∃ y, y = xs (nI i + 2).toNatClampNeg := ⟨_, rfl⟩
  obtain ⟨x3, hx3⟩ : ∃ y, y = xs (nI i + 3).toNatClampNeg := ⟨_, rfl⟩
  refine gb_run 5 (pc2 := 1350) (ls2 := [(4, .int (nI i)), (0, .retAddr 3000), (1, .ref 0), (2, .ref 464), (3, .ref 956)]) (st2 := [.int (nI i + 1), .retAddr 3000, .ref 0]) (M2 := M) hC hqLW rfl ?_
  refine gw_xld hL (vj 1 (by decide)) (g_dec hqLW (q := (.iaload, 0, 0, 0)) rfl).1 ?_
  rw [← hx1]
  refine gb_run 4 (pc2 := 1356) (ls2 := [(4, .int (nI i)), (0, .retAddr 3000), (1, .ref 0), (2, .ref 464), (3, .ref 956)]) (st2 := [.int (nI i + 2), .retAddr 3000, .int x1, .ref 0]) (M2 := M) hC hqLW rfl ?_
  refine gw_xld hL (vj 2 (by decide)) (g_dec hqLW (q := (.iaload, 0, 0, 0)) rfl).1 ?_
  rw [← hx2]
  refine gb_run 4 (pc2 := 1362) (ls2 := [(4, .int (nI i)), (0, .retAddr 3000), (1, .ref 0), (2, .ref 464), (3, .ref 956)]) (st2 := [.int (nI i + 3), .retAddr 3000, .int x2, .int x1, .ref 0]) (M2 := M) hC hqLW rfl ?_
  refine gw_xld hL (vj 3 (by decide)) (g_dec hqLW (q := (.iaload, 0, 0, 0)) rfl).1 ?_
  rw [← hx3]
  refine gb_run 1 (pc2 := 1364) (ls2 := [(4, .int (nI i)), (0, .retAddr 3000), (1, .ref 0), (2, .ref 464), (3, .ref 956)]) (st2 := [.ref 956, .int x3, .int x2, .int x1, .ref 0]) (M2 := M) hC hqLW rfl ?_
  obtain ⟨e, v, M1, y1, f1, k1⟩ := b_matched x1 x2 x3 hR
  refine gw_invSH (z := qL_matched) (hh := [(0, 12, 15, 31), (0, 12, 19, 13)]) (av := [.ref 0, .int x1, .int x2, .int x3, .ref 956]) (rest := []) hC (k_matched hC hL x1 x2 x3 M sz (d - 1) (by omega) h2 y1 (f1 956 (by decide))) (g_dec hqLW (q := (.invokestatic 192, 0, 0, 0)) rfl).1 (g_mem_tb (i := 1186) (by decide +kernel)) (g_mem_tb (i := 1187) (by decide +kernel)) (g_mem_tb (i := 0) (by decide +kernel)) (g_mem_tb (i := 1188) (by decide +kernel)) (show qL_matched.1.cls ≠ "java/lang/invoke/MethodHandle" ∧ qL_matched.1.cls ≠ "java/lang/invoke/VarHandle" ∧ (parseMethodDescriptor qL_matched.1.desc).map (fun q => q.parameters.length) = some 5 by decide +kernel) (by omega) (by decide) rfl rfl (Nat.le_of_ble_eq_true rfl) ⟨by show kc + 8 ≤ 601024; omega, by show ks + 48 ≤ 7293034; omega⟩ ?_
  rintro r X' ⟨M2, sz2, rfl, g1, g2, g3, rfl⟩
  obtain ⟨w, t, y2, k2, k3, k4, k5⟩ := k1 M2 g1
  obtain ⟨kE, hk⟩ : ∃ y, y = (if e = 0 then (0 : Int32) else if e = 1 then 1 else 2) := ⟨_, rfl⟩
  rw [← hk] at k2 ⊢
  refine gb_run 6 (pc2 := 1375) (ls2 := [(5, .int kE), (4, .int (nI i)), (0, .retAddr 3000), (1, .ref 0), (2, .ref 464), (3, .ref 956)]) (st2 := [.int (nI i + 1), .retAddr 3000, .ref 464]) (M2 := M2) hC hqLW rfl ?_
  refine gw_xld hL (vj 1 (by decide)) (g_dec hqLW (q := (.iaload, 0, 0, 0)) rfl).1 ?_
  rw [← hx1]
  refine gb_run 4 (pc2 := 1381) (ls2 := [(5, .int kE), (4, .int (nI i)), (0, .retAddr 3000), (1, .ref 0), (2, .ref 464), (3, .ref 956)]) (st2 := [.int (nI i + 2), .retAddr 3000, .int x1, .ref 464]) (M2 := M2) hC hqLW rfl ?_
  refine gw_xld hL (vj 2 (by decide)) (g_dec hqLW (q := (.iaload, 0, 0, 0)) rfl).1 ?_
  rw [← hx2]
  refine gb_run 4 (pc2 := 1387) (ls2 := [(5, .int kE), (4, .int (nI i)), (0, .retAddr 3000), (1, .ref 0), (2, .ref 464), (3, .ref 956)]) (st2 := [.int (nI i + 3), .retAddr 3000, .int x2, .int x1, .ref 464]) (M2 := M2) hC hqLW rfl ?_
  refine gw_xld hL (vj 3 (by decide)) (g_dec hqLW (q := (.iaload, 0, 0, 0)) rfl).1 ?_
  rw [← hx3]
  refine gz_cV (z := qX12_matched) (a := 464) (av := [.int x1, .int x2, .int x3]) (rest := []) (pl := 1831) hC hqLW rfl kX12_matched sX12_matched (by decide +kernel) (c_FM_matched hC x1 x2 x3 M2 sz2 (d - 1) (by omega) (w, t) y2) (by omega) ⟨rfl, rfl⟩ rfl (Nat.le_of_ble_eq_true rfl) (by decide) rfl rfl rfl (Nat.le_of_ble_eq_true rfl) ⟨by show kc + 8 ≤ 601024; omega, by show ks + 48 ≤ 7293034; omega⟩ (gs_I ?_)
  refine gb_run 2 (pc2 := 1394) (ls2 := [(6, .int w), (5, .int kE), (4, .int (nI i)), (0, .retAddr 3000), (1, .ref 0), (2, .ref 464), (3, .ref 956)]) (st2 := [.ref 464]) (M2 := t) hC hqLW rfl ?_
  refine gz_cV (z := qX12_thrown) (a := 464) (av := []) (rest := []) (pl := 1536) hC hqLW rfl kX12_thrown sX12_thrown (by decide +kernel) (c_FM_thrown hC t sz2 (d - 1) (by omega)) (by omega) ⟨rfl, rfl⟩ rfl (Nat.le_of_ble_eq_true rfl) (by decide) rfl rfl rfl (Nat.le_of_ble_eq_true rfl) ⟨by show kc + 8 ≤ 601024; omega, by show ks + 48 ≤ 7293034; omega⟩ (gs_Ip ?_)
  refine gb_run 1 (pc2 := 1399) (ls2 := [(6, .int w), (5, .int kE), (4, .int (nI i)), (0, .retAddr 3000), (1, .ref 0), (2, .ref 464), (3, .ref 956)]) (st2 := [.int kE, .int (FM_thrown t)]) (M2 := t) hC hqLW rfl ?_
  refine gb_icmp_eq hqLW rfl (fun _ => ?_) (fun q => absurd (show FM_thrown t = kE from k2) q)
  refine gb_run 1 (pc2 := 1406) (ls2 := [(6, .int w), (5, .int kE), (4, .int (nI i)), (0, .retAddr 3000), (1, .ref 0), (2, .ref 464), (3, .ref 956)]) (st2 := [.int kE]) (M2 := t) hC hqLW rfl ?_
  have done : ∀ ls0, ls0 = [(6, .int w), (5, .int kE), (4, .int (nI i)), (0, .retAddr 3000), (1, .ref 0), (2, .ref 464), (3, .ref 956)] → GW l C qLW d Q gN (kc + 8) (ks + 48) 1421 ls0 [] (956, g_S0, t, sz2) := by
    rintro _ rfl
    refine gb_run 1 (pc2 := 2623) (ls2 := [(6, .int w), (5, .int kE), (4, .int (nI i)), (0, .retAddr 3000), (1, .ref 0), (2, .ref 464), (3, .ref 956)]) (st2 := []) (M2 := t) hC hqLW rfl ?_
    refine gw_pick [2, 3, 4, 5, 6] (ls2 := [(4, .int (nI i)), (0, .retAddr 3000), (1, .ref 0), (2, .ref 464), (3, .ref 956)]) rfl ?_
    exact K t _ _ _ (by omega) (by omega) k4 (by rw [k5]; exact g2)
  refine gb_if_ne hqLW rfl (fun _ => done _ rfl) (fun q => ?_)
  have e0 : e = 0 := by
    rw [hk] at q
    by_cases z : e = 0
    · exact z
    · rw [if_neg z] at q
      by_cases z2 : e = 1
      · rw [if_pos z2] at q; exact absurd q (by decide)
      · rw [if_neg z2] at q; exact absurd q (by decide)
  refine gb_run 2 (pc2 := 1411) (ls2 := [(6, .int w), (5, .int kE), (4, .int (nI i)), (0, .retAddr 3000), (1, .ref 0), (2, .ref 464), (3, .ref 956)]) (st2 := [.int 0, .ref 956]) (M2 := t) hC hqLW rfl ?_
  refine gw_laload hC hL (by rw [k5]; exact g2) (g_dec hqLW (q := (.laload, 0, 0, 0)) rfl).1 ?_
  rw [show g_lg (t 956) = w.toInt64 by rw [k5, g3 e0, k3 e0]]
  refine gb_run 3 (pc2 := 1416) (ls2 := [(6, .int w), (5, .int kE), (4, .int (nI i)), (0, .retAddr 3000), (1, .ref 0), (2, .ref 464), (3, .ref 956)]) (st2 := [.int (lg_cmp w.toInt64 w.toInt64)]) (M2 := t) hC hqLW rfl ?_
  exact gb_if_eq hqLW rfl (fun _ => done _ rfl) (fun q => absurd (lg_cmp_self w.toInt64) q)

set_option maxRecDepth 20000 in
theorem lc_20 {l : Launch} {C : gC} {L : Nat} {xs : Nat → Int32} (hC : g_ctx l C) (hL : g_cl C L xs) {Q : Option Value → gX → Prop} {i kc ks sz d : Nat} (hd : 60 ≤ d) (hL4 : L ≤ 4096) (hi : i + 8 ≤ L) (hkc : kc + 8 ≤ 601024) (hks : ks + 48 ≤ 7293034) {M : gM} (hR : RR M M) (h2 : M 956 2 = 1) (K : ∀ (M2 : gM) (sz2 kc2 ks2 : Nat), kc2 ≤ kc + 8 → ks2 ≤ ks + 48 → RR M2 M2 → M2 956 2 = 1 → GW l C qLW d Q gN kc2 ks2 2623 [(4, .int (nI i)), (0, .retAddr 3000), (1, .ref 0), (2, .ref 464), (3, .ref 956)] [] (956, g_S0, M2, sz2)) : GW l C qLW d Q gN kc ks 1424 [(4, .int (nI i)), (0, .retAddr 3000), (1, .ref 0), (2, .ref 464), (3, .ref 956)] [] (956, g_S0, M, sz) := by
  have vj : ∀ j, j < 8 → vp_in (nI i + nI j) L := fun j hj => by rw [nI_add]; exact vp_in_nI (by omega) (by omega)
  obtain ⟨x1, hx1⟩ : ∃ y, y = xs (nI i + 1).toNatClampNeg := ⟨_, rfl⟩
  refine gb_run 5 (pc2 := 1430) (ls2 := [(4, .int (nI i)), (0, .retAddr 3000), (1, .ref 0), (2, .ref 464), (3, .ref 956)]) (st2 := [.int (nI i + 1), .retAddr 3000, .ref 0]) (M2 := M) hC hqLW rfl ?_
  refine gw_xld hL (vj 1 (by decide)) (g_dec hqLW (q := (.iaload, 0, 0, 0)) rfl).1 ?_
  rw [← hx1]
  refine gb_run 1 (pc2 := 1432) (ls2 := [(4, .int (nI i)), (0, .retAddr 3000), (1, .ref 0), (2, .ref 464), (3, .ref 956)]) (st2 := [.ref 956, .int x1, .ref 0]) (M2 := M) hC hqLW rfl ?_
  obtain ⟨e, v, M1, y1, f1, k1⟩ := b_fits x1 hR
  refine gw_invSH (z := qL_fits) (hh := [(0, 9, 12, 13)]) (av := [.ref 0, .int x1, .ref 956]) (rest := []) hC (k_fits hC hL x1 M sz (d - 1) (by omega) h2 y1 (f1 956 (by decide))) (g_dec hqLW (q := (.invokestatic 195, 0, 0, 0)) rfl).1 (g_mem_tb (i := 1193) (by decide +kernel)) (g_mem_tb (i := 1194) (by decide +kernel)) (g_mem_tb (i := 0) (by decide +kernel)) (g_mem_tb (i := 1195) (by decide +kernel)) (show qL_fits.1.cls ≠ "java/lang/invoke/MethodHandle" ∧ qL_fits.1.cls ≠ "java/lang/invoke/VarHandle" ∧ (parseMethodDescriptor qL_fits.1.desc).map (fun q => q.parameters.length) = some 3 by decide +kernel) (by omega) (by decide) rfl rfl (Nat.le_of_ble_eq_true rfl) ⟨by show kc + 8 ≤ 601024; omega, by show ks + 48 ≤ 7293034; omega⟩ ?_
  rintro r X' ⟨M2, sz2, rfl, g1, g2, g3, rfl⟩
  obtain ⟨w, t, y2, k2, k3, k4, k5⟩ := k1 M2 g1
  obtain ⟨kE, hk⟩ : ∃ y, y = (if e = 0 then (0 : Int32) else if e = 1 then 1 else 1) := ⟨_, rfl⟩
  rw [← hk] at k2 ⊢
  refine gb_run 6 (pc2 := 1443) (ls2 := [(5, .int kE), (4, .int (nI i)), (0, .retAddr 3000), (1, .ref 0), (2, .ref 464), (3, .ref 956)]) (st2 := [.int (nI i + 1), .retAddr 3000, .ref 464]) (M2 := M2) hC hqLW rfl ?_
  refine gw_xld hL (vj 1 (by decide)) (g_dec hqLW (q := (.iaload, 0, 0, 0)) rfl).1 ?_
  rw [← hx1]
  refine gz_cV (z := qX12_fits) (a := 464) (av := [.int x1]) (rest := []) (pl := 1835) hC hqLW rfl kX12_fits sX12_fits (by decide +kernel) (c_FM_fits hC x1 M2 sz2 (d - 1) (by omega) (w, t) y2) (by omega) ⟨rfl, rfl⟩ rfl (Nat.le_of_ble_eq_true rfl) (by decide) rfl rfl rfl (Nat.le_of_ble_eq_true rfl) ⟨by show kc + 8 ≤ 601024; omega, by show ks + 48 ≤ 7293034; omega⟩ (gs_I ?_)
  refine gb_run 2 (pc2 := 1450) (ls2 := [(6, .int w), (5, .int kE), (4, .int (nI i)), (0, .retAddr 3000), (1, .ref 0), (2, .ref 464), (3, .ref 956)]) (st2 := [.ref 464]) (M2 := t) hC hqLW rfl ?_
  refine gz_cV (z := qX12_thrown) (a := 464) (av := []) (rest := []) (pl := 1536) hC hqLW rfl kX12_thrown sX12_thrown (by decide +kernel) (c_FM_thrown hC t sz2 (d - 1) (by omega)) (by omega) ⟨rfl, rfl⟩ rfl (Nat.le_of_ble_eq_true rfl) (by decide) rfl rfl rfl (Nat.le_of_ble_eq_true rfl) ⟨by show kc + 8 ≤ 601024; omega, by show ks + 48 ≤ 7293034; omega⟩ (gs_Ip ?_)
  refine gb_run 1 (pc2 := 1455) (ls2 := [(6, .int w), (5, .int kE), (4, .int (nI i)), (0, .retAddr 3000), (1, .ref 0), (2, .ref 464), (3, .ref 956)]) (st2 := [.int kE, .int (FM_thrown t)]) (M2 := t) hC hqLW rfl ?_
  refine gb_icmp_eq hqLW rfl (fun _ => ?_) (fun q => absurd (show FM_thrown t = kE from k2) q)
  refine gb_run 1 (pc2 := 1462) (ls2 := [(6, .int w), (5, .int kE), (4, .int (nI i)), (0, .retAddr 3000), (1, .ref 0), (2, .ref 464), (3, .ref 956)]) (st2 := [.int kE]) (M2 := t) hC hqLW rfl ?_
  have done : ∀ ls0, ls0 = [(6, .int w), (5, .int kE), (4, .int (nI i)), (0, .retAddr 3000), (1, .ref 0), (2, .ref 464), (3, .ref 956)] → GW l C qLW d Q gN (kc + 8) (ks + 48) 1477 ls0 [] (956, g_S0, t, sz2) := by
    rintro _ rfl
    refine gb_run 1 (pc2 := 2623) (ls2 := [(6, .int w), (5, .int kE), (4, .int (nI i)), (0, .retAddr 3000), (1, .ref 0), (2, .ref 464), (3, .ref 956)]) (st2 := []) (M2 := t) hC hqLW rfl ?_
    refine gw_pick [2, 3, 4, 5, 6] (ls2 := [(4, .int (nI i)), (0, .retAddr 3000), (1, .ref 0), (2, .ref 464), (3, .ref 956)]) rfl ?_
    exact K t _ _ _ (by omega) (by omega) k4 (by rw [k5]; exact g2)
  refine gb_if_ne hqLW rfl (fun _ => done _ rfl) (fun q => ?_)
  have e0 : e = 0 := by
    rw [hk] at q
    by_cases z : e = 0
    · exact z
    · rw [if_neg z] at q
      by_cases z2 : e = 1
      · rw [if_pos z2] at q; exact absurd q (by decide)
      · rw [if_neg z2] at q; exact absurd q (by decide)
  refine gb_run 2 (pc2 := 1467) (ls2 := [(6, .int w), (5, .int kE), (4, .int (nI i)), (0, .retAddr 3000), (1, .ref 0), (2, .ref 464), (3, .ref 956)]) (st2 := [.int 0, .ref 956]) (M2 := t) hC hqLW rfl ?_
  refine gw_laload hC hL (by rw [k5]; exact g2) (g_dec hqLW (q := (.laload, 0, 0, 0)) rfl).1 ?_
  rw [show g_lg (t 956) = w.toInt64 by rw [k5, g3 e0, k3 e0]]
  refine gb_run 3 (pc2 := 1472) (ls2 := [(6, .int w), (5, .int kE), (4, .int (nI i)), (0, .retAddr 3000), (1, .ref 0), (2, .ref 464), (3, .ref 956)]) (st2 := [.int (lg_cmp w.toInt64 w.toInt64)]) (M2 := t) hC hqLW rfl ?_
  exact gb_if_eq hqLW rfl (fun _ => done _ rfl) (fun q => absurd (lg_cmp_self w.toInt64) q)

set_option maxRecDepth 20000 in
theorem lc_21 {l : Launch} {C : gC} {L : Nat} {xs : Nat → Int32} (hC : g_ctx l C) (hL : g_cl C L xs) {Q : Option Value → gX → Prop} {i kc ks sz d : Nat} (hd : 60 ≤ d) (hL4 : L ≤ 4096) (hi : i + 8 ≤ L) (hkc : kc + 8 ≤ 601024) (hks : ks + 48 ≤ 7293034) {M : gM} (hR : RR M M) (h2 : M 956 2 = 1) (K : ∀ (M2 : gM) (sz2 kc2 ks2 : Nat), kc2 ≤ kc + 8 → ks2 ≤ ks + 48 → RR M2 M2 → M2 956 2 = 1 → GW l C qLW d Q gN kc2 ks2 2623 [(4, .int (nI i)), (0, .retAddr 3000), (1, .ref 0), (2, .ref 464), (3, .ref 956)] [] (956, g_S0, M2, sz2)) : GW l C qLW d Q gN kc ks 1480 [(4, .int (nI i)), (0, .retAddr 3000), (1, .ref 0), (2, .ref 464), (3, .ref 956)] [] (956, g_S0, M, sz) := by
  have vj : ∀ j, j < 8 → vp_in (nI i + nI j) L := fun j hj => by rw [nI_add]; exact vp_in_nI (by omega) (by omega)
  obtain ⟨x1, hx1⟩ : ∃ y, y = xs (nI i + 1).toNatClampNeg := ⟨_, rfl⟩
  refine gb_run 5 (pc2 := 1486) (ls2 := [(4, .int (nI i)), (0, .retAddr 3000), (1, .ref 0), (2, .ref 464), (3, .ref 956)]) (st2 := [.int (nI i + 1), .retAddr 3000, .ref 0]) (M2 := M) hC hqLW rfl ?_
  refine gw_xld hL (vj 1 (by decide)) (g_dec hqLW (q := (.iaload, 0, 0, 0)) rfl).1 ?_
  rw [← hx1]
  refine gb_run 1 (pc2 := 1488) (ls2 := [(4, .int (nI i)), (0, .retAddr 3000), (1, .ref 0), (2, .ref 464), (3, .ref 956)]) (st2 := [.ref 956, .int x1, .ref 0]) (M2 := M) hC hqLW rfl ?_
  obtain ⟨e, v, M1, y1, f1, k1⟩ := b_listen x1 hR
  refine gw_invSH (z := qL_listen) (hh := [(0, 9, 12, 13)]) (av := [.ref 0, .int x1, .ref 956]) (rest := []) hC (k_listen hC hL x1 M sz (d - 1) (by omega) h2 y1 (f1 956 (by decide))) (g_dec hqLW (q := (.invokestatic 198, 0, 0, 0)) rfl).1 (g_mem_tb (i := 1212) (by decide +kernel)) (g_mem_tb (i := 1213) (by decide +kernel)) (g_mem_tb (i := 0) (by decide +kernel)) (g_mem_tb (i := 1214) (by decide +kernel)) (show qL_listen.1.cls ≠ "java/lang/invoke/MethodHandle" ∧ qL_listen.1.cls ≠ "java/lang/invoke/VarHandle" ∧ (parseMethodDescriptor qL_listen.1.desc).map (fun q => q.parameters.length) = some 3 by decide +kernel) (by omega) (by decide) rfl rfl (Nat.le_of_ble_eq_true rfl) ⟨by show kc + 8 ≤ 601024; omega, by show ks + 48 ≤ 7293034; omega⟩ ?_
  rintro r X' ⟨M2, sz2, rfl, g1, g2, g3, rfl⟩
  obtain ⟨w, t, y2, k2, k3, k4, k5⟩ := k1 M2 g1
  obtain ⟨kE, hk⟩ : ∃ y, y = (if e = 0 then (0 : Int32) else if e = 1 then 1 else 1) := ⟨_, rfl⟩
  rw [← hk] at k2 ⊢
  refine gb_run 6 (pc2 := 1499) (ls2 := [(5, .int kE), (4, .int (nI i)), (0, .retAddr 3000), (1, .ref 0), (2, .ref 464), (3, .ref 956)]) (st2 := [.int (nI i + 1), .retAddr 3000, .ref 464]) (M2 := M2) hC hqLW rfl ?_
  refine gw_xld hL (vj 1 (by decide)) (g_dec hqLW (q := (.iaload, 0, 0, 0)) rfl).1 ?_
  rw [← hx1]
  refine gz_cV (z := qX12_listen) (a := 464) (av := [.int x1]) (rest := []) (pl := 1843) hC hqLW rfl kX12_listen sX12_listen (by decide +kernel) (c_FM_listen hC x1 M2 sz2 (d - 1) (by omega) (w, t) y2) (by omega) ⟨rfl, rfl⟩ rfl (Nat.le_of_ble_eq_true rfl) (by decide) rfl rfl rfl (Nat.le_of_ble_eq_true rfl) ⟨by show kc + 8 ≤ 601024; omega, by show ks + 48 ≤ 7293034; omega⟩ (gs_I ?_)
  refine gb_run 2 (pc2 := 1506) (ls2 := [(6, .int w), (5, .int kE), (4, .int (nI i)), (0, .retAddr 3000), (1, .ref 0), (2, .ref 464), (3, .ref 956)]) (st2 := [.ref 464]) (M2 := t) hC hqLW rfl ?_
  refine gz_cV (z := qX12_thrown) (a := 464) (av := []) (rest := []) (pl := 1536) hC hqLW rfl kX12_thrown sX12_thrown (by decide +kernel) (c_FM_thrown hC t sz2 (d - 1) (by omega)) (by omega) ⟨rfl, rfl⟩ rfl (Nat.le_of_ble_eq_true rfl) (by decide) rfl rfl rfl (Nat.le_of_ble_eq_true rfl) ⟨by show kc + 8 ≤ 601024; omega, by show ks + 48 ≤ 7293034; omega⟩ (gs_Ip ?_)
  refine gb_run 1 (pc2 := 1511) (ls2 := [(6, .int w), (5, .int kE), (4, .int (nI i)), (0, .retAddr 3000), (1, .ref 0), (2, .ref 464), (3, .ref 956)]) (st2 := [.int kE, .int (FM_thrown t)]) (M2 := t) hC hqLW rfl ?_
  refine gb_icmp_eq hqLW rfl (fun _ => ?_) (fun q => absurd (show FM_thrown t = kE from k2) q)
  refine gb_run 1 (pc2 := 1518) (ls2 := [(6, .int w), (5, .int kE), (4, .int (nI i)), (0, .retAddr 3000), (1, .ref 0), (2, .ref 464), (3, .ref 956)]) (st2 := [.int kE]) (M2 := t) hC hqLW rfl ?_
  have done : ∀ ls0, ls0 = [(6, .int w), (5, .int kE), (4, .int (nI i)), (0, .retAddr 3000), (1, .ref 0), (2, .ref 464), (3, .ref 956)] → GW l C qLW d Q gN (kc + 8) (ks + 48) 1533 ls0 [] (956, g_S0, t, sz2) := by
    rintro _ rfl
    refine gb_run 1 (pc2 := 2623) (ls2 := [(6, .int w), (5, .int kE), (4, .int (nI i)), (0, .retAddr 3000), (1, .ref 0), (2, .ref 464), (3, .ref 956)]) (st2 := []) (M2 := t) hC hqLW rfl ?_
    refine gw_pick [2, 3, 4, 5, 6] (ls2 := [(4, .int (nI i)), (0, .retAddr 3000), (1, .ref 0), (2, .ref 464), (3, .ref 956)]) rfl ?_
    exact K t _ _ _ (by omega) (by omega) k4 (by rw [k5]; exact g2)
  refine gb_if_ne hqLW rfl (fun _ => done _ rfl) (fun q => ?_)
  have e0 : e = 0 := by
    rw [hk] at q
    by_cases z : e = 0
    · exact z
    · rw [if_neg z] at q
      by_cases z2 : e = 1
      · rw [if_pos z2] at q; exact absurd q (by decide)
      · rw [if_neg z2] at q; exact absurd q (by decide)
  refine gb_run 2 (pc2 := 1523) (ls2 := [(6, .int w), (5, .int kE), (4, .int (nI i)), (0, .retAddr 3000), (1, .ref 0), (2, .ref 464), (3, .ref 956)]) (st2 := [.int 0, .ref 956]) (M2 := t) hC hqLW rfl ?_
  refine gw_laload hC hL (by rw [k5]; exact g2) (g_dec hqLW (q := (.laload, 0, 0, 0)) rfl).1 ?_
  rw [show g_lg (t 956) = w.toInt64 by rw [k5, g3 e0, k3 e0]]
  refine gb_run 3 (pc2 := 1528) (ls2 := [(6, .int w), (5, .int kE), (4, .int (nI i)), (0, .retAddr 3000), (1, .ref 0), (2, .ref 464), (3, .ref 956)]) (st2 := [.int (lg_cmp w.toInt64 w.toInt64)]) (M2 := t) hC hqLW rfl ?_
  exact gb_if_eq hqLW rfl (fun _ => done _ rfl) (fun q => absurd (lg_cmp_self w.toInt64) q)

set_option maxRecDepth 20000 in
theorem lc_22 {l : Launch} {C : gC} {L : Nat} {xs : Nat → Int32} (hC : g_ctx l C) (hL : g_cl C L xs) {Q : Option Value → gX → Prop} {i kc ks sz d : Nat} (hd : 60 ≤ d) (hL4 : L ≤ 4096) (hi : i + 8 ≤ L) (hkc : kc + 8 ≤ 601024) (hks : ks + 48 ≤ 7293034) {M : gM} (hR : RR M M) (h2 : M 956 2 = 1) (K : ∀ (M2 : gM) (sz2 kc2 ks2 : Nat), kc2 ≤ kc + 8 → ks2 ≤ ks + 48 → RR M2 M2 → M2 956 2 = 1 → GW l C qLW d Q gN kc2 ks2 2623 [(4, .int (nI i)), (0, .retAddr 3000), (1, .ref 0), (2, .ref 464), (3, .ref 956)] [] (956, g_S0, M2, sz2)) : GW l C qLW d Q gN kc ks 1536 [(4, .int (nI i)), (0, .retAddr 3000), (1, .ref 0), (2, .ref 464), (3, .ref 956)] [] (956, g_S0, M, sz) := by
  have vj : ∀ j, j < 8 → vp_in (nI i + nI j) L := fun j hj => by rw [nI_add]; exact vp_in_nI (by omega) (by omega)
  obtain ⟨x1, hx1⟩ : ∃ y, y = xs (nI i + 1).toNatClampNeg := ⟨_, rfl⟩
  obtain ⟨x2, hx2⟩ : ∃ y, y = xs (nI i + 2).toNatClampNeg := ⟨_, rfl⟩
  refine gb_run 5 (pc2 := 1542) (ls2 := [(4, .int (nI i)), (0, .retAddr 3000), (1, .ref 0), (2, .ref 464), (3, .ref 956)]) (st2 := [.int (nI i + 1), .retAddr 3000, .ref 0]) (M2 := M) hC hqLW rfl ?_
  refine gw_xld hL (vj 1 (by decide)) (g_dec hqLW (q := (.iaload, 0, 0, 0)) rfl).1 ?_
  rw [← hx1]
  refine gb_run 4 (pc2 := 1548) (ls2 := [(4, .int (nI i)), (0, .retAddr 3000), (1, .ref 0), (2, .ref 464), (3, .ref 956)]) (st2 := [.int (nI i + 2), .retAddr 3000, .int x1, .ref 0]) (M2 := M) hC hqLW rfl ?_
  refine gw_xld hL (vj 2 (by decide)) (g_dec hqLW (q := (.iaload, 0, 0, 0)) rfl).1 ?_
  rw [← hx2]
  refine gb_run 1 (pc2 := 1550) (ls2 := [(4, .int (nI i)), (0, .retAddr 3000), (1, .ref 0), (2, .ref 464), (3, .ref 956)]) (st2 := [.ref 956, .int x2, .int x1, .ref 0]) (M2 := M) hC hqLW rfl ?_
  obtain ⟨e, v, M1, y1, f1, k1⟩ := b_safe x1 x2 hR
  refine gw_invSH (z := qL_safe) (hh := [(0, 9, 12, 13)]) (av := [.ref 0, .int x1, .int x2, .ref 956]) (rest := []) hC (k_safe hC hL x1 x2 M sz (d - 1) (by omega) h2 y1 (f1 956 (by decide))) (g_dec hqLW (q := (.invokestatic 201, 0, 0, 0)) rfl).1 (g_mem_tb (i := 1236) (by decide +kernel)) (g_mem_tb (i := 1237) (by decide +kernel)) (g_mem_tb (i := 0) (by decide +kernel)) (g_mem_tb (i := 1238) (by decide +kernel)) (show qL_safe.1.cls ≠ "java/lang/invoke/MethodHandle" ∧ qL_safe.1.cls ≠ "java/lang/invoke/VarHandle" ∧ (parseMethodDescriptor qL_safe.1.desc).map (fun q => q.parameters.length) = some 4 by decide +kernel) (by omega) (by decide) rfl rfl (Nat.le_of_ble_eq_true rfl) ⟨by show kc + 8 ≤ 601024; omega, by show ks + 48 ≤ 7293034; omega⟩ ?_
  rintro r X' ⟨M2, sz2, rfl, g1, g2, g3, rfl⟩
  obtain ⟨w, t, y2, k2, k3, k4, k5⟩ := k1 M2 g1
  obtain ⟨kE, hk⟩ : ∃ y, y = (if e = 0 then (0 : Int32) else if e = 1 then 1 else 1) := ⟨_, rfl⟩
  rw [← hk] at k2 ⊢
  refine gb_run 6 (pc2 := 1561) (ls2 := [(5, .int kE), (4, .int (nI i)), (0, .retAddr 3000), (1, .ref 0), (2, .ref 464), (3, .ref 956)]) (st2 := [.int (nI i + 1), .retAddr 3000, .ref 464]) (M2 := M2) hC hqLW rfl ?_
  refine gw_xld hL (vj 1 (by decide)) (g_dec hqLW (q := (.iaload, 0, 0, 0)) rfl).1 ?_
  rw [← hx1]
  refine gb_run 4 (pc2 := 1567) (ls2 := [(5, .int kE), (4, .int (nI i)), (0, .retAddr 3000), (1, .ref 0), (2, .ref 464), (3, .ref 956)]) (st2 := [.int (nI i + 2), .retAddr 3000, .int x1, .ref 464]) (M2 := M2) hC hqLW rfl ?_
  refine gw_xld hL (vj 2 (by decide)) (g_dec hqLW (q := (.iaload, 0, 0, 0)) rfl).1 ?_
  rw [← hx2]
  refine gz_cV (z := qX12_safe) (a := 464) (av := [.int x1, .int x2]) (rest := []) (pl := 1855) hC hqLW rfl kX12_safe sX12_safe (by decide +kernel) (c_FM_safe hC x1 x2 M2 sz2 (d - 1) (by omega) (w, t) y2) (by omega) ⟨rfl, rfl⟩ rfl (Nat.le_of_ble_eq_true rfl) (by decide) rfl rfl rfl (Nat.le_of_ble_eq_true rfl) ⟨by show kc + 8 ≤ 601024; omega, by show ks + 48 ≤ 7293034; omega⟩ (gs_J ?_)
  refine gb_run 2 (pc2 := 1574) (ls2 := [(6, .long w), (5, .int kE), (4, .int (nI i)), (0, .retAddr 3000), (1, .ref 0), (2, .ref 464), (3, .ref 956)]) (st2 := [.ref 464]) (M2 := t) hC hqLW rfl ?_
  refine gz_cV (z := qX12_thrown) (a := 464) (av := []) (rest := []) (pl := 1536) hC hqLW rfl kX12_thrown sX12_thrown (by decide +kernel) (c_FM_thrown hC t sz2 (d - 1) (by omega)) (by omega) ⟨rfl, rfl⟩ rfl (Nat.le_of_ble_eq_true rfl) (by decide) rfl rfl rfl (Nat.le_of_ble_eq_true rfl) ⟨by show kc + 8 ≤ 601024; omega, by show ks + 48 ≤ 7293034; omega⟩ (gs_Ip ?_)
  refine gb_run 1 (pc2 := 1579) (ls2 := [(6, .long w), (5, .int kE), (4, .int (nI i)), (0, .retAddr 3000), (1, .ref 0), (2, .ref 464), (3, .ref 956)]) (st2 := [.int kE, .int (FM_thrown t)]) (M2 := t) hC hqLW rfl ?_
  refine gb_icmp_eq hqLW rfl (fun _ => ?_) (fun q => absurd (show FM_thrown t = kE from k2) q)
  refine gb_run 1 (pc2 := 1586) (ls2 := [(6, .long w), (5, .int kE), (4, .int (nI i)), (0, .retAddr 3000), (1, .ref 0), (2, .ref 464), (3, .ref 956)]) (st2 := [.int kE]) (M2 := t) hC hqLW rfl ?_
  have done : ∀ ls0, ls0 = [(6, .long w), (5, .int kE), (4, .int (nI i)), (0, .retAddr 3000), (1, .ref 0), (2, .ref 464), (3, .ref 956)] → GW l C qLW d Q gN (kc + 8) (ks + 48) 1600 ls0 [] (956, g_S0, t, sz2) := by
    rintro _ rfl
    refine gb_run 1 (pc2 := 2623) (ls2 := [(6, .long w), (5, .int kE), (4, .int (nI i)), (0, .retAddr 3000), (1, .ref 0), (2, .ref 464), (3, .ref 956)]) (st2 := []) (M2 := t) hC hqLW rfl ?_
    refine gw_pick [2, 3, 4, 5, 6] (ls2 := [(4, .int (nI i)), (0, .retAddr 3000), (1, .ref 0), (2, .ref 464), (3, .ref 956)]) rfl ?_
    exact K t _ _ _ (by omega) (by omega) k4 (by rw [k5]; exact g2)
  refine gb_if_ne hqLW rfl (fun _ => done _ rfl) (fun q => ?_)
  have e0 : e = 0 := by
    rw [hk] at q
    by_cases z : e = 0
    · exact z
    · rw [if_neg z] at q
      by_cases z2 : e = 1
      · rw [if_pos z2] at q; exact absurd q (by decide)
      · rw [if_neg z2] at q; exact absurd q (by decide)
  refine gb_run 2 (pc2 := 1591) (ls2 := [(6, .long w), (5, .int kE), (4, .int (nI i)), (0, .retAddr 3000), (1, .ref 0), (2, .ref 464), (3, .ref 956)]) (st2 := [.int 0, .ref 956]) (M2 := t) hC hqLW rfl ?_
  refine gw_laload hC hL (by rw [k5]; exact g2) (g_dec hqLW (q := (.laload, 0, 0, 0)) rfl).1 ?_
  rw [show g_lg (t 956) = w by rw [k5, g3 e0, k3 e0]]
  refine gb_run 2 (pc2 := 1595) (ls2 := [(6, .long w), (5, .int kE), (4, .int (nI i)), (0, .retAddr 3000), (1, .ref 0), (2, .ref 464), (3, .ref 956)]) (st2 := [.int (lg_cmp w w)]) (M2 := t) hC hqLW rfl ?_
  exact gb_if_eq hqLW rfl (fun _ => done _ rfl) (fun q => absurd (lg_cmp_self w) q)

set_option maxRecDepth 20000 in
theorem lc_23 {l : Launch} {C : gC} {L : Nat} {xs : Nat → Int32} (hC : g_ctx l C) (hL : g_cl C L xs) {Q : Option Value → gX → Prop} {i kc ks sz d : Nat} (hd : 60 ≤ d) (hL4 : L ≤ 4096) (hi : i + 8 ≤ L) (hkc : kc + 8 ≤ 601024) (hks : ks + 48 ≤ 7293034) {M : gM} (hR : RR M M) (h2 : M 956 2 = 1) (K : ∀ (M2 : gM) (sz2 kc2 ks2 : Nat), kc2 ≤ kc + 8 → ks2 ≤ ks + 48 → RR M2 M2 → M2 956 2 = 1 → GW l C qLW d Q gN kc2 ks2 2623 [(4, .int (nI i)), (0, .retAddr 3000), (1, .ref 0), (2, .ref 464), (3, .ref 956)] [] (956, g_S0, M2, sz2)) : GW l C qLW d Q gN kc ks 1603 [(4, .int (nI i)), (0, .retAddr 3000), (1, .ref 0), (2, .ref 464), (3, .ref 956)] [] (956, g_S0, M, sz) := by
  have vj : ∀ j, j < 8 → vp_in (nI i + nI j) L := fun j hj => by rw [nI_add]; exact vp_in_nI (by omega) (by omega)
  obtain ⟨x1, hx1⟩ : ∃ y, y = xs (nI i + 1).toNatClampNeg := ⟨_, rfl⟩
  obtain ⟨x2, hx2⟩ : ∃ y, y = xs (nI i + 2).toNatClampNeg := ⟨_, rfl⟩
  refine gb_run 5 (pc2 := 1609) (ls2 := [(4, .int (nI i)), (0, .retAddr 3000), (1, .ref 0), (2, .ref 464), (3, .ref 956)]) (st2 := [.int (nI i + 1), .retAddr 3000, .ref 0]) (M2 := M) hC hqLW rfl ?_
  refine gw_xld hL (vj 1 (by decide)) (g_dec hqLW (q := (.iaload, 0, 0, 0)) rfl).1 ?_
  rw [← hx1]
  refine gb_run 4 (pc2 := 1615) (ls2 := [(4, .int (nI i)), (0, .retAddr 3000), (1, .ref 0), (2, .ref 464), (3, .ref 956)]) (st2 := [.int (nI i + 2), .retAddr 3000, .int x1, .ref 0]) (M2 := M) hC hqLW rfl ?_
  refine gw_xld hL (vj 2 (by decide)) (g_dec hqLW (q := (.iaload, 0, 0, 0)) rfl).1 ?_
  rw [← hx2]
  refine gb_run 1 (pc2 := 1617) (ls2 := [(4, .int (nI i)), (0, .retAddr 3000), (1, .ref 0), (2, .ref 464), (3, .ref 956)]) (st2 := [.ref 956, .int x2, .int x1, .ref 0]) (M2 := M) hC hqLW rfl ?_
  obtain ⟨e, v, M1, y1, f1, k1⟩ := b_mean x1 x2 hR
  refine gw_invSH (z := qL_mean) (hh := [(0, 10, 13, 13)]) (av := [.ref 0, .int x1, .int x2, .ref 956]) (rest := []) hC (k_mean hC hL x1 x2 M sz (d - 1) (by omega) h2 y1 (f1 956 (by decide))) (g_dec hqLW (q := (.invokestatic 204, 0, 0, 0)) rfl).1 (g_mem_tb (i := 1248) (by decide +kernel)) (g_mem_tb (i := 1249) (by decide +kernel)) (g_mem_tb (i := 0) (by decide +kernel)) (g_mem_tb (i := 1250) (by decide +kernel)) (show qL_mean.1.cls ≠ "java/lang/invoke/MethodHandle" ∧ qL_mean.1.cls ≠ "java/lang/invoke/VarHandle" ∧ (parseMethodDescriptor qL_mean.1.desc).map (fun q => q.parameters.length) = some 4 by decide +kernel) (by omega) (by decide) rfl rfl (Nat.le_of_ble_eq_true rfl) ⟨by show kc + 8 ≤ 601024; omega, by show ks + 48 ≤ 7293034; omega⟩ ?_
  rintro r X' ⟨M2, sz2, rfl, g1, g2, g3, rfl⟩
  obtain ⟨w, t, y2, k2, k3, k4, k5⟩ := k1 M2 g1
  obtain ⟨kE, hk⟩ : ∃ y, y = (if e = 0 then (0 : Int32) else if e = 1 then 1 else 1) := ⟨_, rfl⟩
  rw [← hk] at k2 ⊢
  refine gb_run 6 (pc2 := 1628) (ls2 := [(5, .int kE), (4, .int (nI i)), (0, .retAddr 3000), (1, .ref 0), (2, .ref 464), (3, .ref 956)]) (st2 := [.int (nI i + 1), .retAddr 3000, .ref 464]) (M2 := M2) hC hqLW rfl ?_
  refine gw_xld hL (vj 1 (by decide)) (g_dec hqLW (q := (.iaload, 0, 0, 0)) rfl).1 ?_
  rw [← hx1]
  refine gb_run 4 (pc2 := 1634) (ls2 := [(5, .int kE), (4, .int (nI i)), (0, .retAddr 3000), (1, .ref 0), (2, .ref 464), (3, .ref 956)]) (st2 := [.int (nI i + 2), .retAddr 3000, .int x1, .ref 464]) (M2 := M2) hC hqLW rfl ?_
  refine gw_xld hL (vj 2 (by decide)) (g_dec hqLW (q := (.iaload, 0, 0, 0)) rfl).1 ?_
  rw [← hx2]
  refine gz_cV (z := qX12_mean) (a := 464) (av := [.int x1, .int x2]) (rest := []) (pl := 1867) hC hqLW rfl kX12_mean sX12_mean (by decide +kernel) (c_FM_mean hC x1 x2 M2 sz2 (d - 1) (by omega) (w, t) y2) (by omega) ⟨rfl, rfl⟩ rfl (Nat.le_of_ble_eq_true rfl) (by decide) rfl rfl rfl (Nat.le_of_ble_eq_true rfl) ⟨by show kc + 8 ≤ 601024; omega, by show ks + 48 ≤ 7293034; omega⟩ (gs_I ?_)
  refine gb_run 2 (pc2 := 1641) (ls2 := [(6, .int w), (5, .int kE), (4, .int (nI i)), (0, .retAddr 3000), (1, .ref 0), (2, .ref 464), (3, .ref 956)]) (st2 := [.ref 464]) (M2 := t) hC hqLW rfl ?_
  refine gz_cV (z := qX12_thrown) (a := 464) (av := []) (rest := []) (pl := 1536) hC hqLW rfl kX12_thrown sX12_thrown (by decide +kernel) (c_FM_thrown hC t sz2 (d - 1) (by omega)) (by omega) ⟨rfl, rfl⟩ rfl (Nat.le_of_ble_eq_true rfl) (by decide) rfl rfl rfl (Nat.le_of_ble_eq_true rfl) ⟨by show kc + 8 ≤ 601024; omega, by show ks + 48 ≤ 7293034; omega⟩ (gs_Ip ?_)
  refine gb_run 1 (pc2 := 1646) (ls2 := [(6, .int w), (5, .int kE), (4, .int (nI i)), (0, .retAddr 3000), (1, .ref 0), (2, .ref 464), (3, .ref 956)]) (st2 := [.int kE, .int (FM_thrown t)]) (M2 := t) hC hqLW rfl ?_
  refine gb_icmp_eq hqLW rfl (fun _ => ?_) (fun q => absurd (show FM_thrown t = kE from k2) q)
  refine gb_run 1 (pc2 := 1653) (ls2 := [(6, .int w), (5, .int kE), (4, .int (nI i)), (0, .retAddr 3000), (1, .ref 0), (2, .ref 464), (3, .ref 956)]) (st2 := [.int kE]) (M2 := t) hC hqLW rfl ?_
  have done : ∀ ls0, ls0 = [(6, .int w), (5, .int kE), (4, .int (nI i)), (0, .retAddr 3000), (1, .ref 0), (2, .ref 464), (3, .ref 956)] → GW l C qLW d Q gN (kc + 8) (ks + 48) 1668 ls0 [] (956, g_S0, t, sz2) := by
    rintro _ rfl
    refine gb_run 1 (pc2 := 2623) (ls2 := [(6, .int w), (5, .int kE), (4, .int (nI i)), (0, .retAddr 3000), (1, .ref 0), (2, .ref 464), (3, .ref 956)]) (st2 := []) (M2 := t) hC hqLW rfl ?_
    refine gw_pick [2, 3, 4, 5, 6] (ls2 := [(4, .int (nI i)), (0, .retAddr 3000), (1, .ref 0), (2, .ref 464), (3, .ref 956)]) rfl ?_
    exact K t _ _ _ (by omega) (by omega) k4 (by rw [k5]; exact g2)
  refine gb_if_ne hqLW rfl (fun _ => done _ rfl) (fun q => ?_)
  have e0 : e = 0 := by
    rw [hk] at q
    by_cases z : e = 0
    · exact z
    · rw [if_neg z] at q
      by_cases z2 : e = 1
      · rw [if_pos z2] at q; exact absurd q (by decide)
      · rw [if_neg z2] at q; exact absurd q (by decide)
  refine gb_run 2 (pc2 := 1658) (ls2 := [(6, .int w), (5, .int kE), (4, .int (nI i)), (0, .retAddr 3000), (1, .ref 0), (2, .ref 464), (3, .ref 956)]) (st2 := [.int 0, .ref 956]) (M2 := t) hC hqLW rfl ?_
  refine gw_laload hC hL (by rw [k5]; exact g2) (g_dec hqLW (q := (.laload, 0, 0, 0)) rfl).1 ?_
  rw [show g_lg (t 956) = w.toInt64 by rw [k5, g3 e0, k3 e0]]
  refine gb_run 3 (pc2 := 1663) (ls2 := [(6, .int w), (5, .int kE), (4, .int (nI i)), (0, .retAddr 3000), (1, .ref 0), (2, .ref 464), (3, .ref 956)]) (st2 := [.int (lg_cmp w.toInt64 w.toInt64)]) (M2 := t) hC hqLW rfl ?_
  exact gb_if_eq hqLW rfl (fun _ => done _ rfl) (fun q => absurd (lg_cmp_self w.toInt64) q)

set_option maxRecDepth 20000 in
theorem lc_24 {l : Launch} {C : gC} {L : Nat} {xs : Nat → Int32} (hC : g_ctx l C) (hL : g_cl C L xs) {Q : Option Value → gX → Prop} {i kc ks sz d : Nat} (hd : 60 ≤ d) (hL4 : L ≤ 4096) (hi : i + 8 ≤ L) (hkc : kc + 8 ≤ 601024) (hks : ks + 48 ≤ 7293034) {M : gM} (hR : RR M M) (h2 : M 956 2 = 1) (K : ∀ (M2 : gM) (sz2 kc2 ks2 : Nat), kc2 ≤ kc + 8 → ks2 ≤ ks + 48 → RR M2 M2 → M2 956 2 = 1 → GW l C qLW d Q gN kc2 ks2 2623 [(4, .int (nI i)), (0, .retAddr 3000), (1, .ref 0), (2, .ref 464), (3, .ref 956)] [] (956, g_S0, M2, sz2)) : GW l C qLW d Q gN kc ks 1671 [(4, .int (nI i)), (0, .retAddr 3000), (1, .ref 0), (2, .ref 464), (3, .ref 956)] [] (956, g_S0, M, sz) := by
  have vj : ∀ j, j < 8 → vp_in (nI i + nI j) L := fun j hj => by rw [nI_add]; exact vp_in_nI (by omega) (by omega)
  obtain ⟨x1, hx1⟩ : ∃ y, y = xs (nI i + 1).toNatClampNeg := ⟨_, rfl⟩
  obtain ⟨x2, hx2⟩ : ∃ y, y = xs (nI i + 2).toNatClampNeg := ⟨_, rfl⟩
  obtain ⟨x3, hx3⟩ : ∃ y, y = xs (nI i + 3).toNatClampNeg := ⟨_, rfl⟩
  refine gb_run 5 (pc2 := 1677) (ls2 := [(4, .int (nI i)), (0, .retAddr 3000), (1, .ref 0), (2, .ref 464), (3, .ref 956)]) (st2 := [.int (nI i + 1), .retAddr 3000, .ref 0]) (M2 := M) hC hqLW rfl ?_
  refine gw_xld hL (vj 1 (by decide)) (g_dec hqLW (q := (.iaload, 0, 0, 0)) rfl).1 ?_
  rw [← hx1]
  refine gb_run 4 (pc2 := 1683) (ls2 := [(4, .int (nI i)), (0, .retAddr 3000), (1, .ref 0), (2, .ref 464), (3, .ref 956)]) (st2 := [.int (nI i + 2), .retAddr 3000, .int x1, .ref 0]) (M2 := M) hC hqLW rfl ?_
  refine gw_xld hL (vj 2 (by decide)) (g_dec hqLW (q := (.iaload, 0, 0, 0)) rfl).1 ?_
  rw [← hx2]
  refine gb_run 4 (pc2 := 1689) (ls2 := [(4, .int (nI i)), (0, .retAddr 3000), (1, .ref 0), (2, .ref 464), (3, .ref 956)]) (st2 := [.int (nI i + 3), .retAddr 3000, .int x2, .int x1, .ref 0]) (M2 := M) hC hqLW rfl ?_
  refine gw_xld hL (vj 3 (by decide)) (g_dec hqLW (q := (.iaload, 0, 0, 0)) rfl).1 ?_
  rw [← hx3]
  refine gb_run 1 (pc2 := 1691) (ls2 := [(4, .int (nI i)), (0, .retAddr 3000), (1, .ref 0), (2, .ref 464), (3, .ref 956)]) (st2 := [.ref 956, .int x3, .int x2, .int x1, .ref 0]) (M2 := M) hC hqLW rfl ?_
  obtain ⟨e, v, M1, y1, f1, k1⟩ := b_stands x1 x2 x3 hR
  refine gw_invSH (z := qL_stands) (hh := [(0, 11, 14, 13)]) (av := [.ref 0, .int x1, .int x2, .int x3, .ref 956]) (rest := []) hC (k_stands hC hL x1 x2 x3 M sz (d - 1) (by omega) h2 y1 (f1 956 (by decide))) (g_dec hqLW (q := (.invokestatic 207, 0, 0, 0)) rfl).1 (g_mem_tb (i := 1255) (by decide +kernel)) (g_mem_tb (i := 1256) (by decide +kernel)) (g_mem_tb (i := 0) (by decide +kernel)) (g_mem_tb (i := 1257) (by decide +kernel)) (show qL_stands.1.cls ≠ "java/lang/invoke/MethodHandle" ∧ qL_stands.1.cls ≠ "java/lang/invoke/VarHandle" ∧ (parseMethodDescriptor qL_stands.1.desc).map (fun q => q.parameters.length) = some 5 by decide +kernel) (by omega) (by decide) rfl rfl (Nat.le_of_ble_eq_true rfl) ⟨by show kc + 8 ≤ 601024; omega, by show ks + 48 ≤ 7293034; omega⟩ ?_
  rintro r X' ⟨M2, sz2, rfl, g1, g2, g3, rfl⟩
  obtain ⟨w, t, y2, k2, k3, k4, k5⟩ := k1 M2 g1
  obtain ⟨kE, hk⟩ : ∃ y, y = (if e = 0 then (0 : Int32) else if e = 1 then 1 else 1) := ⟨_, rfl⟩
  rw [← hk] at k2 ⊢
  refine gb_run 6 (pc2 := 1702) (ls2 := [(5, .int kE), (4, .int (nI i)), (0, .retAddr 3000), (1, .ref 0), (2, .ref 464), (3, .ref 956)]) (st2 := [.int (nI i + 1), .retAddr 3000, .ref 464]) (M2 := M2) hC hqLW rfl ?_
  refine gw_xld hL (vj 1 (by decide)) (g_dec hqLW (q := (.iaload, 0, 0, 0)) rfl).1 ?_
  rw [← hx1]
  refine gb_run 4 (pc2 := 1708) (ls2 := [(5, .int kE), (4, .int (nI i)), (0, .retAddr 3000), (1, .ref 0), (2, .ref 464), (3, .ref 956)]) (st2 := [.int (nI i + 2), .retAddr 3000, .int x1, .ref 464]) (M2 := M2) hC hqLW rfl ?_
  refine gw_xld hL (vj 2 (by decide)) (g_dec hqLW (q := (.iaload, 0, 0, 0)) rfl).1 ?_
  rw [← hx2]
  refine gb_run 4 (pc2 := 1714) (ls2 := [(5, .int kE), (4, .int (nI i)), (0, .retAddr 3000), (1, .ref 0), (2, .ref 464), (3, .ref 956)]) (st2 := [.int (nI i + 3), .retAddr 3000, .int x2, .int x1, .ref 464]) (M2 := M2) hC hqLW rfl ?_
  refine gw_xld hL (vj 3 (by decide)) (g_dec hqLW (q := (.iaload, 0, 0, 0)) rfl).1 ?_
  rw [← hx3]
  refine gz_cV (z := qX12_stands) (a := 464) (av := [.int x1, .int x2, .int x3]) (rest := []) (pl := 1879) hC hqLW rfl kX12_stands sX12_stands (by decide +kernel) (c_FM_stands hC x1 x2 x3 M2 sz2 (d - 1) (by omega) (w, t) y2) (by omega) ⟨rfl, rfl⟩ rfl (Nat.le_of_ble_eq_true rfl) (by decide) rfl rfl rfl (Nat.le_of_ble_eq_true rfl) ⟨by show kc + 8 ≤ 601024; omega, by show ks + 48 ≤ 7293034; omega⟩ (gs_J ?_)
  refine gb_run 2 (pc2 := 1721) (ls2 := [(6, .long w), (5, .int kE), (4, .int (nI i)), (0, .retAddr 3000), (1, .ref 0), (2, .ref 464), (3, .ref 956)]) (st2 := [.ref 464]) (M2 := t) hC hqLW rfl ?_
  refine gz_cV (z := qX12_thrown) (a := 464) (av := []) (rest := []) (pl := 1536) hC hqLW rfl kX12_thrown sX12_thrown (by decide +kernel) (c_FM_thrown hC t sz2 (d - 1) (by omega)) (by omega) ⟨rfl, rfl⟩ rfl (Nat.le_of_ble_eq_true rfl) (by decide) rfl rfl rfl (Nat.le_of_ble_eq_true rfl) ⟨by show kc + 8 ≤ 601024; omega, by show ks + 48 ≤ 7293034; omega⟩ (gs_Ip ?_)
  refine gb_run 1 (pc2 := 1726) (ls2 := [(6, .long w), (5, .int kE), (4, .int (nI i)), (0, .retAddr 3000), (1, .ref 0), (2, .ref 464), (3, .ref 956)]) (st2 := [.int kE, .int (FM_thrown t)]) (M2 := t) hC hqLW rfl ?_
  refine gb_icmp_eq hqLW rfl (fun _ => ?_) (fun q => absurd (show FM_thrown t = kE from k2) q)
  refine gb_run 1 (pc2 := 1733) (ls2 := [(6, .long w), (5, .int kE), (4, .int (nI i)), (0, .retAddr 3000), (1, .ref 0), (2, .ref 464), (3, .ref 956)]) (st2 := [.int kE]) (M2 := t) hC hqLW rfl ?_
  have done : ∀ ls0, ls0 = [(6, .long w), (5, .int kE), (4, .int (nI i)), (0, .retAddr 3000), (1, .ref 0), (2, .ref 464), (3, .ref 956)] → GW l C qLW d Q gN (kc + 8) (ks + 48) 1747 ls0 [] (956, g_S0, t, sz2) := by
    rintro _ rfl
    refine gb_run 1 (pc2 := 2623) (ls2 := [(6, .long w), (5, .int kE), (4, .int (nI i)), (0, .retAddr 3000), (1, .ref 0), (2, .ref 464), (3, .ref 956)]) (st2 := []) (M2 := t) hC hqLW rfl ?_
    refine gw_pick [2, 3, 4, 5, 6] (ls2 := [(4, .int (nI i)), (0, .retAddr 3000), (1, .ref 0), (2, .ref 464), (3, .ref 956)]) rfl ?_
    exact K t _ _ _ (by omega) (by omega) k4 (by rw [k5]; exact g2)
  refine gb_if_ne hqLW rfl (fun _ => done _ rfl) (fun q => ?_)
  have e0 : e = 0 := by
    rw [hk] at q
    by_cases z : e = 0
    · exact z
    · rw [if_neg z] at q
      by_cases z2 : e = 1
      · rw [if_pos z2] at q; exact absurd q (by decide)
      · rw [if_neg z2] at q; exact absurd q (by decide)
  refine gb_run 2 (pc2 := 1738) (ls2 := [(6, .long w), (5, .int kE), (4, .int (nI i)), (0, .retAddr 3000), (1, .ref 0), (2, .ref 464), (3, .ref 956)]) (st2 := [.int 0, .ref 956]) (M2 := t) hC hqLW rfl ?_
  refine gw_laload hC hL (by rw [k5]; exact g2) (g_dec hqLW (q := (.laload, 0, 0, 0)) rfl).1 ?_
  rw [show g_lg (t 956) = w by rw [k5, g3 e0, k3 e0]]
  refine gb_run 2 (pc2 := 1742) (ls2 := [(6, .long w), (5, .int kE), (4, .int (nI i)), (0, .retAddr 3000), (1, .ref 0), (2, .ref 464), (3, .ref 956)]) (st2 := [.int (lg_cmp w w)]) (M2 := t) hC hqLW rfl ?_
  exact gb_if_eq hqLW rfl (fun _ => done _ rfl) (fun q => absurd (lg_cmp_self w) q)

set_option maxRecDepth 20000 in
theorem lc_25 {l : Launch} {C : gC} {L : Nat} {xs : Nat → Int32} (hC : g_ctx l C) (hL : g_cl C L xs) {Q : Option Value → gX → Prop} {i kc ks sz d : Nat} (hd : 60 ≤ d) (hL4 : L ≤ 4096) (hi : i + 8 ≤ L) (hkc : kc + 8 ≤ 601024) (hks : ks + 48 ≤ 7293034) {M : gM} (hR : RR M M) (h2 : M 956 2 = 1) (K : ∀ (M2 : gM) (sz2 kc2 ks2 : Nat), kc2 ≤ kc + 8 → ks2 ≤ ks + 48 → RR M2 M2 → M2 956 2 = 1 → GW l C qLW d Q gN kc2 ks2 2623 [(4, .int (nI i)), (0, .retAddr 3000), (1, .ref 0), (2, .ref 464), (3, .ref 956)] [] (956, g_S0, M2, sz2)) : GW l C qLW d Q gN kc ks 1750 [(4, .int (nI i)), (0, .retAddr 3000), (1, .ref 0), (2, .ref 464), (3, .ref 956)] [] (956, g_S0, M, sz) := by
  have vj : ∀ j, j < 8 → vp_in (nI i + nI j) L := fun j hj => by rw [nI_add]; exact vp_in_nI (by omega) (by omega)
  obtain ⟨x1, hx1⟩ : ∃ y, y = xs (nI i + 1).toNatClampNeg := ⟨_, rfl⟩
  refine gb_run 5 (pc2 := 1756) (ls2 := [(4, .int (nI i)), (0, .retAddr 3000), (1, .ref 0), (2, .ref 464), (3, .ref 956)]) (st2 := [.int (nI i + 1), .retAddr 3000, .ref 0]) (M2 := M) hC hqLW rfl ?_
  refine gw_xld hL (vj 1 (by decide)) (g_dec hqLW (q := (.iaload, 0, 0, 0)) rfl).1 ?_
  rw [← hx1]
  refine gb_run 1 (pc2 := 1758) (ls2 := [(4, .int (nI i)), (0, .retAddr 3000), (1, .ref 0), (2, .ref 464), (3, .ref 956)]) (st2 := [.ref 956, .int x1, .ref 0]) (M2 := M) hC hqLW rfl ?_
  obtain ⟨e, v, M1, y1, f1, k1⟩ := b_cover x1 hR
  refine gw_invSH (z := qL_cover) (hh := [(0, 9, 12, 13)]) (av := [.ref 0, .int x1, .ref 956]) (rest := []) hC (k_cover hC hL x1 M sz (d - 1) (by omega) h2 y1 (f1 956 (by decide))) (g_dec hqLW (q := (.invokestatic 210, 0, 0, 0)) rfl).1 (g_mem_tb (i := 1262) (by decide +kernel)) (g_mem_tb (i := 1263) (by decide +kernel)) (g_mem_tb (i := 0) (by decide +kernel)) (g_mem_tb (i := 1264) (by decide +kernel)) (show qL_cover.1.cls ≠ "java/lang/invoke/MethodHandle" ∧ qL_cover.1.cls ≠ "java/lang/invoke/VarHandle" ∧ (parseMethodDescriptor qL_cover.1.desc).map (fun q => q.parameters.length) = some 3 by decide +kernel) (by omega) (by decide) rfl rfl (Nat.le_of_ble_eq_true rfl) ⟨by show kc + 8 ≤ 601024; omega, by show ks + 48 ≤ 7293034; omega⟩ ?_
  rintro r X' ⟨M2, sz2, rfl, g1, g2, g3, rfl⟩
  obtain ⟨w, t, y2, k2, k3, k4, k5⟩ := k1 M2 g1
  obtain ⟨kE, hk⟩ : ∃ y, y = (if e = 0 then (0 : Int32) else if e = 1 then 1 else 1) := ⟨_, rfl⟩
  rw [← hk] at k2 ⊢
  refine gb_run 6 (pc2 := 1769) (ls2 := [(5, .int kE), (4, .int (nI i)), (0, .retAddr 3000), (1, .ref 0), (2, .ref 464), (3, .ref 956)]) (st2 := [.int (nI i + 1), .retAddr 3000, .ref 464]) (M2 := M2) hC hqLW rfl ?_
  refine gw_xld hL (vj 1 (by decide)) (g_dec hqLW (q := (.iaload, 0, 0, 0)) rfl).1 ?_
  rw [← hx1]
  refine gz_cV (z := qX12_cover) (a := 464) (av := [.int x1]) (rest := []) (pl := 1883) hC hqLW rfl kX12_cover sX12_cover (by decide +kernel) (c_FM_cover hC x1 M2 sz2 (d - 1) (by omega) (w, t) y2) (by omega) ⟨rfl, rfl⟩ rfl (Nat.le_of_ble_eq_true rfl) (by decide) rfl rfl rfl (Nat.le_of_ble_eq_true rfl) ⟨by show kc + 8 ≤ 601024; omega, by show ks + 48 ≤ 7293034; omega⟩ (gs_I ?_)
  refine gb_run 2 (pc2 := 1776) (ls2 := [(6, .int w), (5, .int kE), (4, .int (nI i)), (0, .retAddr 3000), (1, .ref 0), (2, .ref 464), (3, .ref 956)]) (st2 := [.ref 464]) (M2 := t) hC hqLW rfl ?_
  refine gz_cV (z := qX12_thrown) (a := 464) (av := []) (rest := []) (pl := 1536) hC hqLW rfl kX12_thrown sX12_thrown (by decide +kernel) (c_FM_thrown hC t sz2 (d - 1) (by omega)) (by omega) ⟨rfl, rfl⟩ rfl (Nat.le_of_ble_eq_true rfl) (by decide) rfl rfl rfl (Nat.le_of_ble_eq_true rfl) ⟨by show kc + 8 ≤ 601024; omega, by show ks + 48 ≤ 7293034; omega⟩ (gs_Ip ?_)
  refine gb_run 1 (pc2 := 1781) (ls2 := [(6, .int w), (5, .int kE), (4, .int (nI i)), (0, .retAddr 3000), (1, .ref 0), (2, .ref 464), (3, .ref 956)]) (st2 := [.int kE, .int (FM_thrown t)]) (M2 := t) hC hqLW rfl ?_
  refine gb_icmp_eq hqLW rfl (fun _ => ?_) (fun q => absurd (show FM_thrown t = kE from k2) q)
  refine gb_run 1 (pc2 := 1788) (ls2 := [(6, .int w), (5, .int kE), (4, .int (nI i)), (0, .retAddr 3000), (1, .ref 0), (2, .ref 464), (3, .ref 956)]) (st2 := [.int kE]) (M2 := t) hC hqLW rfl ?_
  have done : ∀ ls0, ls0 = [(6, .int w), (5, .int kE), (4, .int (nI i)), (0, .retAddr 3000), (1, .ref 0), (2, .ref 464), (3, .ref 956)] → GW l C qLW d Q gN (kc + 8) (ks + 48) 1803 ls0 [] (956, g_S0, t, sz2) := by
    rintro _ rfl
    refine gb_run 1 (pc2 := 2623) (ls2 := [(6, .int w), (5, .int kE), (4, .int (nI i)), (0, .retAddr 3000), (1, .ref 0), (2, .ref 464), (3, .ref 956)]) (st2 := []) (M2 := t) hC hqLW rfl ?_
    refine gw_pick [2, 3, 4, 5, 6] (ls2 := [(4, .int (nI i)), (0, .retAddr 3000), (1, .ref 0), (2, .ref 464), (3, .ref 956)]) rfl ?_
    exact K t _ _ _ (by omega) (by omega) k4 (by rw [k5]; exact g2)
  refine gb_if_ne hqLW rfl (fun _ => done _ rfl) (fun q => ?_)
  have e0 : e = 0 := by
    rw [hk] at q
    by_cases z : e = 0
    · exact z
    · rw [if_neg z] at q
      by_cases z2 : e = 1
      · rw [if_pos z2] at q; exact absurd q (by decide)
      · rw [if_neg z2] at q; exact absurd q (by decide)
  refine gb_run 2 (pc2 := 1793) (ls2 := [(6, .int w), (5, .int kE), (4, .int (nI i)), (0, .retAddr 3000), (1, .ref 0), (2, .ref 464), (3, .ref 956)]) (st2 := [.int 0, .ref 956]) (M2 := t) hC hqLW rfl ?_
  refine gw_laload hC hL (by rw [k5]; exact g2) (g_dec hqLW (q := (.laload, 0, 0, 0)) rfl).1 ?_
  rw [show g_lg (t 956) = w.toInt64 by rw [k5, g3 e0, k3 e0]]
  refine gb_run 3 (pc2 := 1798) (ls2 := [(6, .int w), (5, .int kE), (4, .int (nI i)), (0, .retAddr 3000), (1, .ref 0), (2, .ref 464), (3, .ref 956)]) (st2 := [.int (lg_cmp w.toInt64 w.toInt64)]) (M2 := t) hC hqLW rfl ?_
  exact gb_if_eq hqLW rfl (fun _ => done _ rfl) (fun q => absurd (lg_cmp_self w.toInt64) q)

set_option maxRecDepth 20000 in
theorem lc_26 {l : Launch} {C : gC} {L : Nat} {xs : Nat → Int32} (hC : g_ctx l C) (hL : g_cl C L xs) {Q : Option Value → gX → Prop} {i kc ks sz d : Nat} (hd : 60 ≤ d) (hL4 : L ≤ 4096) (hi : i + 8 ≤ L) (hkc : kc + 8 ≤ 601024) (hks : ks + 48 ≤ 7293034) {M : gM} (hR : RR M M) (h2 : M 956 2 = 1) (K : ∀ (M2 : gM) (sz2 kc2 ks2 : Nat), kc2 ≤ kc + 8 → ks2 ≤ ks + 48 → RR M2 M2 → M2 956 2 = 1 → GW l C qLW d Q gN kc2 ks2 2623 [(4, .int (nI i)), (0, .retAddr 3000), (1, .ref 0), (2, .ref 464), (3, .ref 956)] [] (956, g_S0, M2, sz2)) : GW l C qLW d Q gN kc ks 1806 [(4, .int (nI i)), (0, .retAddr 3000), (1, .ref 0), (2, .ref 464), (3, .ref 956)] [] (956, g_S0, M, sz) := by
  have vj : ∀ j, j < 8 → vp_in (nI i + nI j) L := fun j hj => by rw [nI_add]; exact vp_in_nI (by omega) (by omega)
  obtain ⟨x1, hx1⟩ : ∃ y, y = xs (nI i + 1).toNatClampNeg := ⟨_, rfl⟩
  obtain ⟨x2, hx2⟩ : ∃ y, y = xs (nI i + 2).toNatClampNeg := ⟨_, rfl⟩
  refine gb_run 5 (pc2 := 1812) (ls2 := [(4, .int (nI i)), (0, .retAddr 3000), (1, .ref 0), (2, .ref 464), (3, .ref 956)]) (st2 := [.int (nI i + 1), .retAddr 3000, .ref 0]) (M2 := M) hC hqLW rfl ?_
  refine gw_xld hL (vj 1 (by decide)) (g_dec hqLW (q := (.iaload, 0, 0, 0)) rfl).1 ?_
  rw [← hx1]
  refine gb_run 4 (pc2 := 1818) (ls2 := [(4, .int (nI i)), (0, .retAddr 3000), (1, .ref 0), (2, .ref 464), (3, .ref 956)]) (st2 := [.int (nI i + 2), .retAddr 3000, .int x1, .ref 0]) (M2 := M) hC hqLW rfl ?_
  refine gw_xld hL (vj 2 (by decide)) (g_dec hqLW (q := (.iaload, 0, 0, 0)) rfl).1 ?_
  rw [← hx2]
  refine gb_run 1 (pc2 := 1820) (ls2 := [(4, .int (nI i)), (0, .retAddr 3000), (1, .ref 0), (2, .ref 464), (3, .ref 956)]) (st2 := [.ref 956, .int x2, .int x1, .ref 0]) (M2 := M) hC hqLW rfl ?_
  obtain ⟨e, v, M1, y1, f1, k1⟩ := b_watch x1 x2 hR
  refine gw_invSH (z := qL_watch) (hh := [(0, 10, 13, 13)]) (av := [.ref 0, .int x1, .int x2, .ref 956]) (rest := []) hC (k_watch hC hL x1 x2 M sz (d - 1) (by omega) h2 y1 (f1 956 (by decide))) (g_dec hqLW (q := (.invokestatic 213, 0, 0, 0)) rfl).1 (g_mem_tb (i := 1275) (by decide +kernel)) (g_mem_tb (i := 1276) (by decide +kernel)) (g_mem_tb (i := 0) (by decide +kernel)) (g_mem_tb (i := 1277) (by decide +kernel)) (show qL_watch.1.cls ≠ "java/lang/invoke/MethodHandle" ∧ qL_watch.1.cls ≠ "java/lang/invoke/VarHandle" ∧ (parseMethodDescriptor qL_watch.1.desc).map (fun q => q.parameters.length) = some 4 by decide +kernel) (by omega) (by decide) rfl rfl (Nat.le_of_ble_eq_true rfl) ⟨by show kc + 8 ≤ 601024; omega, by show ks + 48 ≤ 7293034; omega⟩ ?_
  rintro r X' ⟨M2, sz2, rfl, g1, g2, g3, rfl⟩
  obtain ⟨w, t, y2, k2, k3, k4, k5⟩ := k1 M2 g1
  obtain ⟨kE, hk⟩ : ∃ y, y = (if e = 0 then (0 : Int32) else if e = 1 then 1 else 1) := ⟨_, rfl⟩
  rw [← hk] at k2 ⊢
  refine gb_run 6 (pc2 := 1831) (ls2 := [(5, .int kE), (4, .int (nI i)), (0, .retAddr 3000), (1, .ref 0), (2, .ref 464), (3, .ref 956)]) (st2 := [.int (nI i + 1), .retAddr 3000, .ref 464]) (M2 := M2) hC hqLW rfl ?_
  refine gw_xld hL (vj 1 (by decide)) (g_dec hqLW (q := (.iaload, 0, 0, 0)) rfl).1 ?_
  rw [← hx1]
  refine gb_run 4 (pc2 := 1837) (ls2 := [(5, .int kE), (4, .int (nI i)), (0, .retAddr 3000), (1, .ref 0), (2, .ref 464), (3, .ref 956)]) (st2 := [.int (nI i + 2), .retAddr 3000, .int x1, .ref 464]) (M2 := M2) hC hqLW rfl ?_
  refine gw_xld hL (vj 2 (by decide)) (g_dec hqLW (q := (.iaload, 0, 0, 0)) rfl).1 ?_
  rw [← hx2]
  refine gz_cV (z := qX12_watch) (a := 464) (av := [.int x1, .int x2]) (rest := []) (pl := 1894) hC hqLW rfl kX12_watch sX12_watch (by decide +kernel) (c_FM_watch hC x1 x2 M2 sz2 (d - 1) (by omega) (w, t) y2) (by omega) ⟨rfl, rfl⟩ rfl (Nat.le_of_ble_eq_true rfl) (by decide) rfl rfl rfl (Nat.le_of_ble_eq_true rfl) ⟨by show kc + 8 ≤ 601024; omega, by show ks + 48 ≤ 7293034; omega⟩ (gs_I ?_)
  refine gb_run 2 (pc2 := 1844) (ls2 := [(6, .int w), (5, .int kE), (4, .int (nI i)), (0, .retAddr 3000), (1, .ref 0), (2, .ref 464), (3, .ref 956)]) (st2 := [.ref 464]) (M2 := t) hC hqLW rfl ?_
  refine gz_cV (z := qX12_thrown) (a := 464) (av := []) (rest := []) (pl := 1536) hC hqLW rfl kX12_thrown sX12_thrown (by decide +kernel) (c_FM_thrown hC t sz2 (d - 1) (by omega)) (by omega) ⟨rfl, rfl⟩ rfl (Nat.le_of_ble_eq_true rfl) (by decide) rfl rfl rfl (Nat.le_of_ble_eq_true rfl) ⟨by show kc + 8 ≤ 601024; omega, by show ks + 48 ≤ 7293034; omega⟩ (gs_Ip ?_)
  refine gb_run 1 (pc2 := 1849) (ls2 := [(6, .int w), (5, .int kE), (4, .int (nI i)), (0, .retAddr 3000), (1, .ref 0), (2, .ref 464), (3, .ref 956)]) (st2 := [.int kE, .int (FM_thrown t)]) (M2 := t) hC hqLW rfl ?_
  refine gb_icmp_eq hqLW rfl (fun _ => ?_) (fun q => absurd (show FM_thrown t = kE from k2) q)
  refine gb_run 1 (pc2 := 1856) (ls2 := [(6, .int w), (5, .int kE), (4, .int (nI i)), (0, .retAddr 3000), (1, .ref 0), (2, .ref 464), (3, .ref 956)]) (st2 := [.int kE]) (M2 := t) hC hqLW rfl ?_
  have done : ∀ ls0, ls0 = [(6, .int w), (5, .int kE), (4, .int (nI i)), (0, .retAddr 3000), (1, .ref 0), (2, .ref 464), (3, .ref 956)] → GW l C qLW d Q gN (kc + 8) (ks + 48) 1871 ls0 [] (956, g_S0, t, sz2) := by
    rintro _ rfl
    refine gb_run 1 (pc2 := 2623) (ls2 := [(6, .int w), (5, .int kE), (4, .int (nI i)), (0, .retAddr 3000), (1, .ref 0), (2, .ref 464), (3, .ref 956)]) (st2 := []) (M2 := t) hC hqLW rfl ?_
    refine gw_pick [2, 3, 4, 5, 6] (ls2 := [(4, .int (nI i)), (0, .retAddr 3000), (1, .ref 0), (2, .ref 464), (3, .ref 956)]) rfl ?_
    exact K t _ _ _ (by omega) (by omega) k4 (by rw [k5]; exact g2)
  refine gb_if_ne hqLW rfl (fun _ => done _ rfl) (fun q => ?_)
  have e0 : e = 0 := by
    rw [hk] at q
    by_cases z : e = 0
    · exact z
    · rw [if_neg z] at q
      by_cases z2 : e = 1
      · rw [if_pos z2] at q; exact absurd q (by decide)
      · rw [if_neg z2] at q; exact absurd q (by decide)
  refine gb_run 2 (pc2 := 1861) (ls2 := [(6, .int w), (5, .int kE), (4, .int (nI i)), (0, .retAddr 3000), (1, .ref 0), (2, .ref 464), (3, .ref 956)]) (st2 := [.int 0, .ref 956]) (M2 := t) hC hqLW rfl ?_
  refine gw_laload hC hL (by rw [k5]; exact g2) (g_dec hqLW (q := (.laload, 0, 0, 0)) rfl).1 ?_
  rw [show g_lg (t 956) = w.toInt64 by rw [k5, g3 e0, k3 e0]]
  refine gb_run 3 (pc2 := 1866) (ls2 := [(6, .int w), (5, .int kE), (4, .int (nI i)), (0, .retAddr 3000), (1, .ref 0), (2, .ref 464), (3, .ref 956)]) (st2 := [.int (lg_cmp w.toInt64 w.toInt64)]) (M2 := t) hC hqLW rfl ?_
  exact gb_if_eq hqLW rfl (fun _ => done _ rfl) (fun q => absurd (lg_cmp_self w.toInt64) q)

set_option maxRecDepth 20000 in
theorem lc_27 {l : Launch} {C : gC} {L : Nat} {xs : Nat → Int32} (hC : g_ctx l C) (hL : g_cl C L xs) {Q : Option Value → gX → Prop} {i kc ks sz d : Nat} (hd : 60 ≤ d) (hL4 : L ≤ 4096) (hi : i + 8 ≤ L) (hkc : kc + 8 ≤ 601024) (hks : ks + 48 ≤ 7293034) {M : gM} (hR : RR M M) (h2 : M 956 2 = 1) (K : ∀ (M2 : gM) (sz2 kc2 ks2 : Nat), kc2 ≤ kc + 8 → ks2 ≤ ks + 48 → RR M2 M2 → M2 956 2 = 1 → GW l C qLW d Q gN kc2 ks2 2623 [(4, .int (nI i)), (0, .retAddr 3000), (1, .ref 0), (2, .ref 464), (3, .ref 956)] [] (956, g_S0, M2, sz2)) : GW l C qLW d Q gN kc ks 1874 [(4, .int (nI i)), (0, .retAddr 3000), (1, .ref 0), (2, .ref 464), (3, .ref 956)] [] (956, g_S0, M, sz) := by
  have vj : ∀ j, j < 8 → vp_in (nI i + nI j) L := fun j hj => by rw [nI_add]; exact vp_in_nI (by omega) (by omega)
  obtain ⟨x1, hx1⟩ : ∃ y, y = xs (nI i + 1).toNatClampNeg := ⟨_, rfl⟩
  obtain ⟨x2, hx2⟩ : ∃ y, y = xs (nI i + 2).toNatClampNeg := ⟨_, rfl⟩
  obtain ⟨x3, hx3⟩ : ∃ y, y = xs (nI i + 3).toNatClampNeg := ⟨_, rfl⟩
  refine gb_run 5 (pc2 := 1880) (ls2 := [(4, .int (nI i)), (0, .retAddr 3000), (1, .ref 0), (2, .ref 464), (3, .ref 956)]) (st2 := [.int (nI i + 1), .retAddr 3000, .ref 0]) (M2 := M) hC hqLW rfl ?_
  refine gw_xld hL (vj 1 (by decide)) (g_dec hqLW (q := (.iaload, 0, 0, 0)) rfl).1 ?_
  rw [← hx1]
  refine gb_run 4 (pc2 := 1886) (ls2 := [(4, .int (nI i)), (0, .retAddr 3000), (1, .ref 0), (2, .ref 464), (3, .ref 956)]) (st2 := [.int (nI i + 2), .retAddr 3000, .int x1, .ref 0]) (M2 := M) hC hqLW rfl ?_
  refine gw_xld hL (vj 2 (by decide)) (g_dec hqLW (q := (.iaload, 0, 0, 0)) rfl).1 ?_
  rw [← hx2]
  refine gb_run 4 (pc2 := 1892) (ls2 := [(4, .int (nI i)), (0, .retAddr 3000), (1, .ref 0), (2, .ref 464), (3, .ref 956)]) (st2 := [.int (nI i + 3), .retAddr 3000, .int x2, .int x1, .ref 0]) (M2 := M) hC hqLW rfl ?_
  refine gw_xld hL (vj 3 (by decide)) (g_dec hqLW (q := (.iaload, 0, 0, 0)) rfl).1 ?_
  rw [← hx3]
  refine gb_run 1 (pc2 := 1894) (ls2 := [(4, .int (nI i)), (0, .retAddr 3000), (1, .ref 0), (2, .ref 464), (3, .ref 956)]) (st2 := [.ref 956, .int x3, .int x2, .int x1, .ref 0]) (M2 := M) hC hqLW rfl ?_
  obtain ⟨e, v, M1, y1, f1, k1⟩ := b_toffee x1 x2 x3 hR
  refine gw_invSH (z := qL_toffee) (hh := [(0, 12, 15, 31), (0, 12, 19, 13)]) (av := [.ref 0, .int x1, .int x2, .int x3, .ref 956]) (rest := []) hC (k_toffee hC hL x1 x2 x3 M sz (d - 1) (by omega) h2 y1 (f1 956 (by decide))) (g_dec hqLW (q := (.invokestatic 216, 0, 0, 0)) rfl).1 (g_mem_tb (i := 1287) (by decide +kernel)) (g_mem_tb (i := 1288) (by decide +kernel)) (g_mem_tb (i := 0) (by decide +kernel)) (g_mem_tb (i := 1289) (by decide +kernel)) (show qL_toffee.1.cls ≠ "java/lang/invoke/MethodHandle" ∧ qL_toffee.1.cls ≠ "java/lang/invoke/VarHandle" ∧ (parseMethodDescriptor qL_toffee.1.desc).map (fun q => q.parameters.length) = some 5 by decide +kernel) (by omega) (by decide) rfl rfl (Nat.le_of_ble_eq_true rfl) ⟨by show kc + 8 ≤ 601024; omega, by show ks + 48 ≤ 7293034; omega⟩ ?_
  rintro r X' ⟨M2, sz2, rfl, g1, g2, g3, rfl⟩
  obtain ⟨w, t, y2, k2, k3, k4, k5⟩ := k1 M2 g1
  obtain ⟨kE, hk⟩ : ∃ y, y = (if e = 0 then (0 : Int32) else if e = 1 then 1 else 2) := ⟨_, rfl⟩
  rw [← hk] at k2 ⊢
  refine gb_run 6 (pc2 := 1905) (ls2 := [(5, .int kE), (4, .int (nI i)), (0, .retAddr 3000), (1, .ref 0), (2, .ref 464), (3, .ref 956)]) (st2 := [.int (nI i + 1), .retAddr 3000, .ref 464]) (M2 := M2) hC hqLW rfl ?_
  refine gw_xld hL (vj 1 (by decide)) (g_dec hqLW (q := (.iaload, 0, 0, 0)) rfl).1 ?_
  rw [← hx1]
  refine gb_run 4 (pc2 := 1911) (ls2 := [(5, .int kE), (4, .int (nI i)), (0, .retAddr 3000), (1, .ref 0), (2, .ref 464), (3, .ref 956)]) (st2 := [.int (nI i + 2), .retAddr 3000, .int x1, .ref 464]) (M2 := M2) hC hqLW rfl ?_
  refine gw_xld hL (vj 2 (by decide)) (g_dec hqLW (q := (.iaload, 0, 0, 0)) rfl).1 ?_
  rw [← hx2]
  refine gb_run 4 (pc2 := 1917) (ls2 := [(5, .int kE), (4, .int (nI i)), (0, .retAddr 3000), (1, .ref 0), (2, .ref 464), (3, .ref 956)]) (st2 := [.int (nI i + 3), .retAddr 3000, .int x2, .int x1, .ref 464]) (M2 := M2) hC hqLW rfl ?_
  refine gw_xld hL (vj 3 (by decide)) (g_dec hqLW (q := (.iaload, 0, 0, 0)) rfl).1 ?_
  rw [← hx3]
  refine gz_cV (z := qX12_toffee) (a := 464) (av := [.int x1, .int x2, .int x3]) (rest := []) (pl := 1898) hC hqLW rfl kX12_toffee sX12_toffee (by decide +kernel) (c_FM_toffee hC x1 x2 x3 M2 sz2 (d - 1) (by omega) (w, t) y2) (by omega) ⟨rfl, rfl⟩ rfl (Nat.le_of_ble_eq_true rfl) (by decide) rfl rfl rfl (Nat.le_of_ble_eq_true rfl) ⟨by show kc + 8 ≤ 601024; omega, by show ks + 48 ≤ 7293034; omega⟩ (gs_I ?_)
  refine gb_run 2 (pc2 := 1924) (ls2 := [(6, .int w), (5, .int kE), (4, .int (nI i)), (0, .retAddr 3000), (1, .ref 0), (2, .ref 464), (3, .ref 956)]) (st2 := [.ref 464]) (M2 := t) hC hqLW rfl ?_
  refine gz_cV (z := qX12_thrown) (a := 464) (av := []) (rest := []) (pl := 1536) hC hqLW rfl kX12_thrown sX12_thrown (by decide +kernel) (c_FM_thrown hC t sz2 (d - 1) (by omega)) (by omega) ⟨rfl, rfl⟩ rfl (Nat.le_of_ble_eq_true rfl) (by decide) rfl rfl rfl (Nat.le_of_ble_eq_true rfl) ⟨by show kc + 8 ≤ 601024; omega, by show ks + 48 ≤ 7293034; omega⟩ (gs_Ip ?_)
  refine gb_run 1 (pc2 := 1929) (ls2 := [(6, .int w), (5, .int kE), (4, .int (nI i)), (0, .retAddr 3000), (1, .ref 0), (2, .ref 464), (3, .ref 956)]) (st2 := [.int kE, .int (FM_thrown t)]) (M2 := t) hC hqLW rfl ?_
  refine gb_icmp_eq hqLW rfl (fun _ => ?_) (fun q => absurd (show FM_thrown t = kE from k2) q)
  refine gb_run 1 (pc2 := 1936) (ls2 := [(6, .int w), (5, .int kE), (4, .int (nI i)), (0, .retAddr 3000), (1, .ref 0), (2, .ref 464), (3, .ref 956)]) (st2 := [.int kE]) (M2 := t) hC hqLW rfl ?_
  have done : ∀ ls0, ls0 = [(6, .int w), (5, .int kE), (4, .int (nI i)), (0, .retAddr 3000), (1, .ref 0), (2, .ref 464), (3, .ref 956)] → GW l C qLW d Q gN (kc + 8) (ks + 48) 1951 ls0 [] (956, g_S0, t, sz2) := by
    rintro _ rfl
    refine gb_run 1 (pc2 := 2623) (ls2 := [(6, .int w), (5, .int kE), (4, .int (nI i)), (0, .retAddr 3000), (1, .ref 0), (2, .ref 464), (3, .ref 956)]) (st2 := []) (M2 := t) hC hqLW rfl ?_
    refine gw_pick [2, 3, 4, 5, 6] (ls2 := [(4, .int (nI i)), (0, .retAddr 3000), (1, .ref 0), (2, .ref 464), (3, .ref 956)]) rfl ?_
    exact K t _ _ _ (by omega) (by omega) k4 (by rw [k5]; exact g2)
  refine gb_if_ne hqLW rfl (fun _ => done _ rfl) (fun q => ?_)
  have e0 : e = 0 := by
    rw [hk] at q
    by_cases z : e = 0
    · exact z
    · rw [if_neg z] at q
      by_cases z2 : e = 1
      · rw [if_pos z2] at q; exact absurd q (by decide)
      · rw [if_neg z2] at q; exact absurd q (by decide)
  refine gb_run 2 (pc2 := 1941) (ls2 := [(6, .int w), (5, .int kE), (4, .int (nI i)), (0, .retAddr 3000), (1, .ref 0), (2, .ref 464), (3, .ref 956)]) (st2 := [.int 0, .ref 956]) (M2 := t) hC hqLW rfl ?_
  refine gw_laload hC hL (by rw [k5]; exact g2) (g_dec hqLW (q := (.laload, 0, 0, 0)) rfl).1 ?_
  rw [show g_lg (t 956) = w.toInt64 by rw [k5, g3 e0, k3 e0]]
  refine gb_run 3 (pc2 := 1946) (ls2 := [(6, .int w), (5, .int kE), (4, .int (nI i)), (0, .retAddr 3000), (1, .ref 0), (2, .ref 464), (3, .ref 956)]) (st2 := [.int (lg_cmp w.toInt64 w.toInt64)]) (M2 := t) hC hqLW rfl ?_
  exact gb_if_eq hqLW rfl (fun _ => done _ rfl) (fun q => absurd (lg_cmp_self w.toInt64) q)

set_option maxRecDepth 20000 in
theorem lc_28 {l : Launch} {C : gC} {L : Nat} {xs : Nat → Int32} (hC : g_ctx l C) (hL : g_cl C L xs) {Q : Option Value → gX → Prop} {i kc ks sz d : Nat} (hd : 60 ≤ d) (hL4 : L ≤ 4096) (hi : i + 8 ≤ L) (hkc : kc + 8 ≤ 601024) (hks : ks + 48 ≤ 7293034) {M : gM} (hR : RR M M) (h2 : M 956 2 = 1) (K : ∀ (M2 : gM) (sz2 kc2 ks2 : Nat), kc2 ≤ kc + 8 → ks2 ≤ ks + 48 → RR M2 M2 → M2 956 2 = 1 → GW l C qLW d Q gN kc2 ks2 2623 [(4, .int (nI i)), (0, .retAddr 3000), (1, .ref 0), (2, .ref 464), (3, .ref 956)] [] (956, g_S0, M2, sz2)) : GW l C qLW d Q gN kc ks 1954 [(4, .int (nI i)), (0, .retAddr 3000), (1, .ref 0), (2, .ref 464), (3, .ref 956)] [] (956, g_S0, M, sz) := by
  have vj : ∀ j, j < 8 → vp_in (nI i + nI j) L := fun j hj => by rw [nI_add]; exact vp_in_nI (by omega) (by omega)
  obtain ⟨x1, hx1⟩ : ∃ y, y = xs (nI i + 1).toNatClampNeg := ⟨_, rfl⟩
  obtain ⟨x2, hx2⟩ : ∃ y, y = xs (nI i + 2).toNatClampNeg := ⟨_, rfl⟩
  obtain ⟨x3, hx3⟩ : ∃ y, y = xs (nI i + 3).toNatClampNeg := ⟨_, rfl⟩
  refine gb_run 5 (pc2 := 1960) (ls2 := [(4, .int (nI i)), (0, .retAddr 3000), (1, .ref 0), (2, .ref 464), (3, .ref 956)]) (st2 := [.int (nI i + 1), .retAddr 3000, .ref 0]) (M2 := M) hC hqLW rfl ?_
  refine gw_xld hL (vj 1 (by decide)) (g_dec hqLW (q := (.iaload, 0, 0, 0)) rfl).1 ?_
  rw [← hx1]
  refine gb_run 4 (pc2 := 1966) (ls2 := [(4, .int (nI i)), (0, .retAddr 3000), (1, .ref 0), (2, .ref 464), (3, .ref 956)]) (st2 := [.int (nI i + 2), .retAddr 3000, .int x1, .ref 0]) (M2 := M) hC hqLW rfl ?_
  refine gw_xld hL (vj 2 (by decide)) (g_dec hqLW (q := (.iaload, 0, 0, 0)) rfl).1 ?_
  rw [← hx2]
  refine gb_run 4 (pc2 := 1972) (ls2 := [(4, .int (nI i)), (0, .retAddr 3000), (1, .ref 0), (2, .ref 464), (3, .ref 956)]) (st2 := [.int (nI i + 3), .retAddr 3000, .int x2, .int x1, .ref 0]) (M2 := M) hC hqLW rfl ?_
  refine gw_xld hL (vj 3 (by decide)) (g_dec hqLW (q := (.iaload, 0, 0, 0)) rfl).1 ?_
  rw [← hx3]
  refine gb_run 1 (pc2 := 1974) (ls2 := [(4, .int (nI i)), (0, .retAddr 3000), (1, .ref 0), (2, .ref 464), (3, .ref 956)]) (st2 := [.ref 956, .int x3, .int x2, .int x1, .ref 0]) (M2 := M) hC hqLW rfl ?_
  obtain ⟨e, v, M1, y1, f1, k1⟩ := b_share x1 x2 x3 hR
  refine gw_invSH (z := qL_share) (hh := [(0, 12, 15, 31), (0, 12, 19, 13)]) (av := [.ref 0, .int x1, .int x2, .int x3, .ref 956]) (rest := []) hC (k_share hC hL x1 x2 x3 M sz (d - 1) (by omega) h2 y1 (f1 956 (by decide))) (g_dec hqLW (q := (.invokestatic 219, 0, 0, 0)) rfl).1 (g_mem_tb (i := 1300) (by decide +kernel)) (g_mem_tb (i := 1301) (by decide +kernel)) (g_mem_tb (i := 0) (by decide +kernel)) (g_mem_tb (i := 1302) (by decide +kernel)) (show qL_share.1.cls ≠ "java/lang/invoke/MethodHandle" ∧ qL_share.1.cls ≠ "java/lang/invoke/VarHandle" ∧ (parseMethodDescriptor qL_share.1.desc).map (fun q => q.parameters.length) = some 5 by decide +kernel) (by omega) (by decide) rfl rfl (Nat.le_of_ble_eq_true rfl) ⟨by show kc + 8 ≤ 601024; omega, by show ks + 48 ≤ 7293034; omega⟩ ?_
  rintro r X' ⟨M2, sz2, rfl, g1, g2, g3, rfl⟩
  obtain ⟨w, t, y2, k2, k3, k4, k5⟩ := k1 M2 g1
  obtain ⟨kE, hk⟩ : ∃ y, y = (if e = 0 then (0 : Int32) else if e = 1 then 1 else 2) := ⟨_, rfl⟩
  rw [← hk] at k2 ⊢
  refine gb_run 6 (pc2 := 1985) (ls2 := [(5, .int kE), (4, .int (nI i)), (0, .retAddr 3000), (1, .ref 0), (2, .ref 464), (3, .ref 956)]) (st2 := [.int (nI i + 1), .retAddr 3000, .ref 464]) (M2 := M2) hC hqLW rfl ?_
  refine gw_xld hL (vj 1 (by decide)) (g_dec hqLW (q := (.iaload, 0, 0, 0)) rfl).1 ?_
  rw [← hx1]
  refine gb_run 4 (pc2 := 1991) (ls2 := [(5, .int kE), (4, .int (nI i)), (0, .retAddr 3000), (1, .ref 0), (2, .ref 464), (3, .ref 956)]) (st2 := [.int (nI i + 2), .retAddr 3000, .int x1, .ref 464]) (M2 := M2) hC hqLW rfl ?_
  refine gw_xld hL (vj 2 (by decide)) (g_dec hqLW (q := (.iaload, 0, 0, 0)) rfl).1 ?_
  rw [← hx2]
  refine gb_run 4 (pc2 := 1997) (ls2 := [(5, .int kE), (4, .int (nI i)), (0, .retAddr 3000), (1, .ref 0), (2, .ref 464), (3, .ref 956)]) (st2 := [.int (nI i + 3), .retAddr 3000, .int x2, .int x1, .ref 464]) (M2 := M2) hC hqLW rfl ?_
  refine gw_xld hL (vj 3 (by decide)) (g_dec hqLW (q := (.iaload, 0, 0, 0)) rfl).1 ?_
  rw [← hx3]
  refine gz_cV (z := qX12_share) (a := 464) (av := [.int x1, .int x2, .int x3]) (rest := []) (pl := 1908) hC hqLW rfl kX12_share sX12_share (by decide +kernel) (c_FM_share hC x1 x2 x3 M2 sz2 (d - 1) (by omega) (w, t) y2) (by omega) ⟨rfl, rfl⟩ rfl (Nat.le_of_ble_eq_true rfl) (by decide) rfl rfl rfl (Nat.le_of_ble_eq_true rfl) ⟨by show kc + 8 ≤ 601024; omega, by show ks + 48 ≤ 7293034; omega⟩ (gs_I ?_)
  refine gb_run 2 (pc2 := 2004) (ls2 := [(6, .int w), (5, .int kE), (4, .int (nI i)), (0, .retAddr 3000), (1, .ref 0), (2, .ref 464), (3, .ref 956)]) (st2 := [.ref 464]) (M2 := t) hC hqLW rfl ?_
  refine gz_cV (z := qX12_thrown) (a := 464) (av := []) (rest := []) (pl := 1536) hC hqLW rfl kX12_thrown sX12_thrown (by decide +kernel) (c_FM_thrown hC t sz2 (d - 1) (by omega)) (by omega) ⟨rfl, rfl⟩ rfl (Nat.le_of_ble_eq_true rfl) (by decide) rfl rfl rfl (Nat.le_of_ble_eq_true rfl) ⟨by show kc + 8 ≤ 601024; omega, by show ks + 48 ≤ 7293034; omega⟩ (gs_Ip ?_)
  refine gb_run 1 (pc2 := 2009) (ls2 := [(6, .int w), (5, .int kE), (4, .int (nI i)), (0, .retAddr 3000), (1, .ref 0), (2, .ref 464), (3, .ref 956)]) (st2 := [.int kE, .int (FM_thrown t)]) (M2 := t) hC hqLW rfl ?_
  refine gb_icmp_eq hqLW rfl (fun _ => ?_) (fun q => absurd (show FM_thrown t = kE from k2) q)
  refine gb_run 1 (pc2 := 2016) (ls2 := [(6, .int w), (5, .int kE), (4, .int (nI i)), (0, .retAddr 3000), (1, .ref 0), (2, .ref 464), (3, .ref 956)]) (st2 := [.int kE]) (M2 := t) hC hqLW rfl ?_
  have done : ∀ ls0, ls0 = [(6, .int w), (5, .int kE), (4, .int (nI i)), (0, .retAddr 3000), (1, .ref 0), (2, .ref 464), (3, .ref 956)] → GW l C qLW d Q gN (kc + 8) (ks + 48) 2031 ls0 [] (956, g_S0, t, sz2) := by
    rintro _ rfl
    refine gb_run 1 (pc2 := 2623) (ls2 := [(6, .int w), (5, .int kE), (4, .int (nI i)), (0, .retAddr 3000), (1, .ref 0), (2, .ref 464), (3, .ref 956)]) (st2 := []) (M2 := t) hC hqLW rfl ?_
    refine gw_pick [2, 3, 4, 5, 6] (ls2 := [(4, .int (nI i)), (0, .retAddr 3000), (1, .ref 0), (2, .ref 464), (3, .ref 956)]) rfl ?_
    exact K t _ _ _ (by omega) (by omega) k4 (by rw [k5]; exact g2)
  refine gb_if_ne hqLW rfl (fun _ => done _ rfl) (fun q => ?_)
  have e0 : e = 0 := by
    rw [hk] at q
    by_cases z : e = 0
    · exact z
    · rw [if_neg z] at q
      by_cases z2 : e = 1
      · rw [if_pos z2] at q; exact absurd q (by decide)
      · rw [if_neg z2] at q; exact absurd q (by decide)
  refine gb_run 2 (pc2 := 2021) (ls2 := [(6, .int w), (5, .int kE), (4, .int (nI i)), (0, .retAddr 3000), (1, .ref 0), (2, .ref 464), (3, .ref 956)]) (st2 := [.int 0, .ref 956]) (M2 := t) hC hqLW rfl ?_
  refine gw_laload hC hL (by rw [k5]; exact g2) (g_dec hqLW (q := (.laload, 0, 0, 0)) rfl).1 ?_
  rw [show g_lg (t 956) = w.toInt64 by rw [k5, g3 e0, k3 e0]]
  refine gb_run 3 (pc2 := 2026) (ls2 := [(6, .int w), (5, .int kE), (4, .int (nI i)), (0, .retAddr 3000), (1, .ref 0), (2, .ref 464), (3, .ref 956)]) (st2 := [.int (lg_cmp w.toInt64 w.toInt64)]) (M2 := t) hC hqLW rfl ?_
  exact gb_if_eq hqLW rfl (fun _ => done _ rfl) (fun q => absurd (lg_cmp_self w.toInt64) q)

set_option maxRecDepth 20000 in
theorem lc_29 {l : Launch} {C : gC} {L : Nat} {xs : Nat → Int32} (hC : g_ctx l C) (hL : g_cl C L xs) {Q : Option Value → gX → Prop} {i kc ks sz d : Nat} (hd : 60 ≤ d) (hL4 : L ≤ 4096) (hi : i + 8 ≤ L) (hkc : kc + 8 ≤ 601024) (hks : ks + 48 ≤ 7293034) {M : gM} (hR : RR M M) (h2 : M 956 2 = 1) (K : ∀ (M2 : gM) (sz2 kc2 ks2 : Nat), kc2 ≤ kc + 8 → ks2 ≤ ks + 48 → RR M2 M2 → M2 956 2 = 1 → GW l C qLW d Q gN kc2 ks2 2623 [(4, .int (nI i)), (0, .retAddr 3000), (1, .ref 0), (2, .ref 464), (3, .ref 956)] [] (956, g_S0, M2, sz2)) : GW l C qLW d Q gN kc ks 2034 [(4, .int (nI i)), (0, .retAddr 3000), (1, .ref 0), (2, .ref 464), (3, .ref 956)] [] (956, g_S0, M, sz) := by
  have vj : ∀ j, j < 8 → vp_in (nI i + nI j) L := fun j hj => by rw [nI_add]; exact vp_in_nI (by omega) (by omega)
  obtain ⟨x1, hx1⟩ : ∃ y, y = xs (nI i + 1).toNatClampNeg := ⟨_, rfl⟩
  obtain ⟨x2, hx2⟩ : ∃ y, y = xs (nI i + 2).toNatClampNeg := ⟨_, rfl⟩
  refine gb_run 5 (pc2 := 2040) (ls2 := [(4, .int (nI i)), (0, .retAddr 3000), (1, .ref 0), (2, .ref 464), (3, .ref 956)]) (st2 := [.int (nI i + 1), .retAddr 3000, .ref 0]) (M2 := M) hC hqLW rfl ?_
  refine gw_xld hL (vj 1 (by decide)) (g_dec hqLW (q := (.iaload, 0, 0, 0)) rfl).1 ?_
  rw [← hx1]
  refine gb_run 4 (pc2 := 2046) (ls2 := [(4, .int (nI i)), (0, .retAddr 3000), (1, .ref 0), (2, .ref 464), (3, .ref 956)]) (st2 := [.int (nI i + 2), .retAddr 3000, .int x1, .ref 0]) (M2 := M) hC hqLW rfl ?_
  refine gw_xld hL (vj 2 (by decide)) (g_dec hqLW (q := (.iaload, 0, 0, 0)) rfl).1 ?_
  rw [← hx2]
  refine gb_run 1 (pc2 := 2048) (ls2 := [(4, .int (nI i)), (0, .retAddr 3000), (1, .ref 0), (2, .ref 464), (3, .ref 956)]) (st2 := [.ref 956, .int x2, .int x1, .ref 0]) (M2 := M) hC hqLW rfl ?_
  obtain ⟨e, v, M1, y1, f1, k1⟩ := b_quickest x1 x2 hR
  refine gw_invSH (z := qL_quickest) (hh := [(0, 10, 13, 31), (0, 10, 17, 13)]) (av := [.ref 0, .int x1, .int x2, .ref 956]) (rest := []) hC (k_quickest hC hL x1 x2 M sz (d - 1) (by omega) h2 y1 (f1 956 (by decide))) (g_dec hqLW (q := (.invokestatic 222, 0, 0, 0)) rfl).1 (g_mem_tb (i := 1312) (by decide +kernel)) (g_mem_tb (i := 1313) (by decide +kernel)) (g_mem_tb (i := 0) (by decide +kernel)) (g_mem_tb (i := 1314) (by decide +kernel)) (show qL_quickest.1.cls ≠ "java/lang/invoke/MethodHandle" ∧ qL_quickest.1.cls ≠ "java/lang/invoke/VarHandle" ∧ (parseMethodDescriptor qL_quickest.1.desc).map (fun q => q.parameters.length) = some 4 by decide +kernel) (by omega) (by decide) rfl rfl (Nat.le_of_ble_eq_true rfl) ⟨by show kc + 8 ≤ 601024; omega, by show ks + 48 ≤ 7293034; omega⟩ ?_
  rintro r X' ⟨M2, sz2, rfl, g1, g2, g3, rfl⟩
  obtain ⟨w, t, y2, k2, k3, k4, k5⟩ := k1 M2 g1
  obtain ⟨kE, hk⟩ : ∃ y, y = (if e = 0 then (0 : Int32) else if e = 1 then 1 else 2) := ⟨_, rfl⟩
  rw [← hk] at k2 ⊢
  refine gb_run 6 (pc2 := 2059) (ls2 := [(5, .int kE), (4, .int (nI i)), (0, .retAddr 3000), (1, .ref 0), (2, .ref 464), (3, .ref 956)]) (st2 := [.int (nI i + 1), .retAddr 3000, .ref 464]) (M2 := M2) hC hqLW rfl ?_
  refine gw_xld hL (vj 1 (by decide)) (g_dec hqLW (q := (.iaload, 0, 0, 0)) rfl).1 ?_
  rw [← hx1]
  refine gb_run 4 (pc2 := 2065) (ls2 := [(5, .int kE), (4, .int (nI i)), (0, .retAddr 3000), (1, .ref 0), (2, .ref 464), (3, .ref 956)]) (st2 := [.int (nI i + 2), .retAddr 3000, .int x1, .ref 464]) (M2 := M2) hC hqLW rfl ?_
  refine gw_xld hL (vj 2 (by decide)) (g_dec hqLW (q := (.iaload, 0, 0, 0)) rfl).1 ?_
  rw [← hx2]
  refine gz_cV (z := qX12_quickest) (a := 464) (av := [.int x1, .int x2]) (rest := []) (pl := 1800) hC hqLW rfl kX12_quickest sX12_quickest (by decide +kernel) (c_FM_quickest hC x1 x2 M2 sz2 (d - 1) (by omega) (w, t) y2) (by omega) ⟨rfl, rfl⟩ rfl (Nat.le_of_ble_eq_true rfl) (by decide) rfl rfl rfl (Nat.le_of_ble_eq_true rfl) ⟨by show kc + 8 ≤ 601024; omega, by show ks + 48 ≤ 7293034; omega⟩ (gs_I ?_)
  refine gb_run 2 (pc2 := 2072) (ls2 := [(6, .int w), (5, .int kE), (4, .int (nI i)), (0, .retAddr 3000), (1, .ref 0), (2, .ref 464), (3, .ref 956)]) (st2 := [.ref 464]) (M2 := t) hC hqLW rfl ?_
  refine gz_cV (z := qX12_thrown) (a := 464) (av := []) (rest := []) (pl := 1536) hC hqLW rfl kX12_thrown sX12_thrown (by decide +kernel) (c_FM_thrown hC t sz2 (d - 1) (by omega)) (by omega) ⟨rfl, rfl⟩ rfl (Nat.le_of_ble_eq_true rfl) (by decide) rfl rfl rfl (Nat.le_of_ble_eq_true rfl) ⟨by show kc + 8 ≤ 601024; omega, by show ks + 48 ≤ 7293034; omega⟩ (gs_Ip ?_)
  refine gb_run 1 (pc2 := 2077) (ls2 := [(6, .int w), (5, .int kE), (4, .int (nI i)), (0, .retAddr 3000), (1, .ref 0), (2, .ref 464), (3, .ref 956)]) (st2 := [.int kE, .int (FM_thrown t)]) (M2 := t) hC hqLW rfl ?_
  refine gb_icmp_eq hqLW rfl (fun _ => ?_) (fun q => absurd (show FM_thrown t = kE from k2) q)
  refine gb_run 1 (pc2 := 2084) (ls2 := [(6, .int w), (5, .int kE), (4, .int (nI i)), (0, .retAddr 3000), (1, .ref 0), (2, .ref 464), (3, .ref 956)]) (st2 := [.int kE]) (M2 := t) hC hqLW rfl ?_
  have done : ∀ ls0, ls0 = [(6, .int w), (5, .int kE), (4, .int (nI i)), (0, .retAddr 3000), (1, .ref 0), (2, .ref 464), (3, .ref 956)] → GW l C qLW d Q gN (kc + 8) (ks + 48) 2099 ls0 [] (956, g_S0, t, sz2) := by
    rintro _ rfl
    refine gb_run 1 (pc2 := 2623) (ls2 := [(6, .int w), (5, .int kE), (4, .int (nI i)), (0, .retAddr 3000), (1, .ref 0), (2, .ref 464), (3, .ref 956)]) (st2 := []) (M2 := t) hC hqLW rfl ?_
    refine gw_pick [2, 3, 4, 5, 6] (ls2 := [(4, .int (nI i)), (0, .retAddr 3000), (1, .ref 0), (2, .ref 464), (3, .ref 956)]) rfl ?_
    exact K t _ _ _ (by omega) (by omega) k4 (by rw [k5]; exact g2)
  refine gb_if_ne hqLW rfl (fun _ => done _ rfl) (fun q => ?_)
  have e0 : e = 0 := by
    rw [hk] at q
    by_cases z : e = 0
    · exact z
    · rw [if_neg z] at q
      by_cases z2 : e = 1
      · rw [if_pos z2] at q; exact absurd q (by decide)
      · rw [if_neg z2] at q; exact absurd q (by decide)
  refine gb_run 2 (pc2 := 2089) (ls2 := [(6, .int w), (5, .int kE), (4, .int (nI i)), (0, .retAddr 3000), (1, .ref 0), (2, .ref 464), (3, .ref 956)]) (st2 := [.int 0, .ref 956]) (M2 := t) hC hqLW rfl ?_
  refine gw_laload hC hL (by rw [k5]; exact g2) (g_dec hqLW (q := (.laload, 0, 0, 0)) rfl).1 ?_
  rw [show g_lg (t 956) = w.toInt64 by rw [k5, g3 e0, k3 e0]]
  refine gb_run 3 (pc2 := 2094) (ls2 := [(6, .int w), (5, .int kE), (4, .int (nI i)), (0, .retAddr 3000), (1, .ref 0), (2, .ref 464), (3, .ref 956)]) (st2 := [.int (lg_cmp w.toInt64 w.toInt64)]) (M2 := t) hC hqLW rfl ?_
  exact gb_if_eq hqLW rfl (fun _ => done _ rfl) (fun q => absurd (lg_cmp_self w.toInt64) q)

set_option maxRecDepth 20000 in
theorem lc_30 {l : Launch} {C : gC} {L : Nat} {xs : Nat → Int32} (hC : g_ctx l C) (hL : g_cl C L xs) {Q : Option Value → gX → Prop} {i kc ks sz d : Nat} (hd : 60 ≤ d) (hL4 : L ≤ 4096) (hi : i + 8 ≤ L) (hkc : kc + 8 ≤ 601024) (hks : ks + 48 ≤ 7293034) {M : gM} (hR : RR M M) (h2 : M 956 2 = 1) (K : ∀ (M2 : gM) (sz2 kc2 ks2 : Nat), kc2 ≤ kc + 8 → ks2 ≤ ks + 48 → RR M2 M2 → M2 956 2 = 1 → GW l C qLW d Q gN kc2 ks2 2623 [(4, .int (nI i)), (0, .retAddr 3000), (1, .ref 0), (2, .ref 464), (3, .ref 956)] [] (956, g_S0, M2, sz2)) : GW l C qLW d Q gN kc ks 2102 [(4, .int (nI i)), (0, .retAddr 3000), (1, .ref 0), (2, .ref 464), (3, .ref 956)] [] (956, g_S0, M, sz) := by
  have vj : ∀ j, j < 8 → vp_in (nI i + nI j) L := fun j hj => by rw [nI_add]; exact vp_in_nI (by omega) (by omega)
  obtain ⟨x1, hx1⟩ : ∃ y, y = xs (nI i + 1).toNatClampNeg := ⟨_, rfl⟩
  refine gb_run 5 (pc2 := 2108) (ls2 := [(4, .int (nI i)), (0, .retAddr 3000), (1, .ref 0), (2, .ref 464), (3, .ref 956)]) (st2 := [.int (nI i + 1), .retAddr 3000, .ref 0]) (M2 := M) hC hqLW rfl ?_
  refine gw_xld hL (vj 1 (by decide)) (g_dec hqLW (q := (.iaload, 0, 0, 0)) rfl).1 ?_
  rw [← hx1]
  refine gb_run 1 (pc2 := 2110) (ls2 := [(4, .int (nI i)), (0, .retAddr 3000), (1, .ref 0), (2, .ref 464), (3, .ref 956)]) (st2 := [.ref 956, .int x1, .ref 0]) (M2 := M) hC hqLW rfl ?_
  obtain ⟨e, v, M1, y1, f1, k1⟩ := b_debtor x1 hR
  refine gw_invSH (z := qL_debtor) (hh := [(0, 9, 12, 13)]) (av := [.ref 0, .int x1, .ref 956]) (rest := []) hC (k_debtor hC hL x1 M sz (d - 1) (by omega) h2 y1 (f1 956 (by decide))) (g_dec hqLW (q := (.invokestatic 225, 0, 0, 0)) rfl).1 (g_mem_tb (i := 1319) (by decide +kernel)) (g_mem_tb (i := 1320) (by decide +kernel)) (g_mem_tb (i := 0) (by decide +kernel)) (g_mem_tb (i := 1321) (by decide +kernel)) (show qL_debtor.1.cls ≠ "java/lang/invoke/MethodHandle" ∧ qL_debtor.1.cls ≠ "java/lang/invoke/VarHandle" ∧ (parseMethodDescriptor qL_debtor.1.desc).map (fun q => q.parameters.length) = some 3 by decide +kernel) (by omega) (by decide) rfl rfl (Nat.le_of_ble_eq_true rfl) ⟨by show kc + 8 ≤ 601024; omega, by show ks + 48 ≤ 7293034; omega⟩ ?_
  rintro r X' ⟨M2, sz2, rfl, g1, g2, g3, rfl⟩
  obtain ⟨w, t, y2, k2, k3, k4, k5⟩ := k1 M2 g1
  obtain ⟨kE, hk⟩ : ∃ y, y = (if e = 0 then (0 : Int32) else if e = 1 then 1 else 1) := ⟨_, rfl⟩
  rw [← hk] at k2 ⊢
  refine gb_run 6 (pc2 := 2121) (ls2 := [(5, .int kE), (4, .int (nI i)), (0, .retAddr 3000), (1, .ref 0), (2, .ref 464), (3, .ref 956)]) (st2 := [.int (nI i + 1), .retAddr 3000, .ref 464]) (M2 := M2) hC hqLW rfl ?_
  refine gw_xld hL (vj 1 (by decide)) (g_dec hqLW (q := (.iaload, 0, 0, 0)) rfl).1 ?_
  rw [← hx1]
  refine gz_cV (z := qX12_debtor) (a := 464) (av := [.int x1]) (rest := []) (pl := 1804) hC hqLW rfl kX12_debtor sX12_debtor (by decide +kernel) (c_FM_debtor hC x1 M2 sz2 (d - 1) (by omega) (w, t) y2) (by omega) ⟨rfl, rfl⟩ rfl (Nat.le_of_ble_eq_true rfl) (by decide) rfl rfl rfl (Nat.le_of_ble_eq_true rfl) ⟨by show kc + 8 ≤ 601024; omega, by show ks + 48 ≤ 7293034; omega⟩ (gs_I ?_)
  refine gb_run 2 (pc2 := 2128) (ls2 := [(6, .int w), (5, .int kE), (4, .int (nI i)), (0, .retAddr 3000), (1, .ref 0), (2, .ref 464), (3, .ref 956)]) (st2 := [.ref 464]) (M2 := t) hC hqLW rfl ?_
  refine gz_cV (z := qX12_thrown) (a := 464) (av := []) (rest := []) (pl := 1536) hC hqLW rfl kX12_thrown sX12_thrown (by decide +kernel) (c_FM_thrown hC t sz2 (d - 1) (by omega)) (by omega) ⟨rfl, rfl⟩ rfl (Nat.le_of_ble_eq_true rfl) (by decide) rfl rfl rfl (Nat.le_of_ble_eq_true rfl) ⟨by show kc + 8 ≤ 601024; omega, by show ks + 48 ≤ 7293034; omega⟩ (gs_Ip ?_)
  refine gb_run 1 (pc2 := 2133) (ls2 := [(6, .int w), (5, .int kE), (4, .int (nI i)), (0, .retAddr 3000), (1, .ref 0), (2, .ref 464), (3, .ref 956)]) (st2 := [.int kE, .int (FM_thrown t)]) (M2 := t) hC hqLW rfl ?_
  refine gb_icmp_eq hqLW rfl (fun _ => ?_) (fun q => absurd (show FM_thrown t = kE from k2) q)
  refine gb_run 1 (pc2 := 2140) (ls2 := [(6, .int w), (5, .int kE), (4, .int (nI i)), (0, .retAddr 3000), (1, .ref 0), (2, .ref 464), (3, .ref 956)]) (st2 := [.int kE]) (M2 := t) hC hqLW rfl ?_
  have done : ∀ ls0, ls0 = [(6, .int w), (5, .int kE), (4, .int (nI i)), (0, .retAddr 3000), (1, .ref 0), (2, .ref 464), (3, .ref 956)] → GW l C qLW d Q gN (kc + 8) (ks + 48) 2155 ls0 [] (956, g_S0, t, sz2) := by
    rintro _ rfl
    refine gb_run 1 (pc2 := 2623) (ls2 := [(6, .int w), (5, .int kE), (4, .int (nI i)), (0, .retAddr 3000), (1, .ref 0), (2, .ref 464), (3, .ref 956)]) (st2 := []) (M2 := t) hC hqLW rfl ?_
    refine gw_pick [2, 3, 4, 5, 6] (ls2 := [(4, .int (nI i)), (0, .retAddr 3000), (1, .ref 0), (2, .ref 464), (3, .ref 956)]) rfl ?_
    exact K t _ _ _ (by omega) (by omega) k4 (by rw [k5]; exact g2)
  refine gb_if_ne hqLW rfl (fun _ => done _ rfl) (fun q => ?_)
  have e0 : e = 0 := by
    rw [hk] at q
    by_cases z : e = 0
    · exact z
    · rw [if_neg z] at q
      by_cases z2 : e = 1
      · rw [if_pos z2] at q; exact absurd q (by decide)
      · rw [if_neg z2] at q; exact absurd q (by decide)
  refine gb_run 2 (pc2 := 2145) (ls2 := [(6, .int w), (5, .int kE), (4, .int (nI i)), (0, .retAddr 3000), (1, .ref 0), (2, .ref 464), (3, .ref 956)]) (st2 := [.int 0, .ref 956]) (M2 := t) hC hqLW rfl ?_
  refine gw_laload hC hL (by rw [k5]; exact g2) (g_dec hqLW (q := (.laload, 0, 0, 0)) rfl).1 ?_
  rw [show g_lg (t 956) = w.toInt64 by rw [k5, g3 e0, k3 e0]]
  refine gb_run 3 (pc2 := 2150) (ls2 := [(6, .int w), (5, .int kE), (4, .int (nI i)), (0, .retAddr 3000), (1, .ref 0), (2, .ref 464), (3, .ref 956)]) (st2 := [.int (lg_cmp w.toInt64 w.toInt64)]) (M2 := t) hC hqLW rfl ?_
  exact gb_if_eq hqLW rfl (fun _ => done _ rfl) (fun q => absurd (lg_cmp_self w.toInt64) q)

set_option maxRecDepth 20000 in
theorem lc_31 {l : Launch} {C : gC} {L : Nat} {xs : Nat → Int32} (hC : g_ctx l C) (hL : g_cl C L xs) {Q : Option Value → gX → Prop} {i kc ks sz d : Nat} (hd : 60 ≤ d) (hL4 : L ≤ 4096) (hi : i + 8 ≤ L) (hkc : kc + 8 ≤ 601024) (hks : ks + 48 ≤ 7293034) {M : gM} (hR : RR M M) (h2 : M 956 2 = 1) (K : ∀ (M2 : gM) (sz2 kc2 ks2 : Nat), kc2 ≤ kc + 8 → ks2 ≤ ks + 48 → RR M2 M2 → M2 956 2 = 1 → GW l C qLW d Q gN kc2 ks2 2623 [(4, .int (nI i)), (0, .retAddr 3000), (1, .ref 0), (2, .ref 464), (3, .ref 956)] [] (956, g_S0, M2, sz2)) : GW l C qLW d Q gN kc ks 2158 [(4, .int (nI i)), (0, .retAddr 3000), (1, .ref 0), (2, .ref 464), (3, .ref 956)] [] (956, g_S0, M, sz) := by
  have vj : ∀ j, j < 8 → vp_in (nI i + nI j) L := fun j hj => by rw [nI_add]; exact vp_in_nI (by omega) (by omega)
  refine gb_run 1 (pc2 := 2159) (ls2 := [(4, .int (nI i)), (0, .retAddr 3000), (1, .ref 0), (2, .ref 464), (3, .ref 956)]) (st2 := [.ref 0]) (M2 := M) hC hqLW rfl ?_
  obtain ⟨v, t, y1, y2, k4, k5⟩ := b_idle hR
  refine gz_cV (z := qX11_idle) (a := 0) (av := []) (rest := []) (pl := 617) hC hqLW rfl kX11_idle sX11_idle (by decide +kernel) (c_FX_idle hC M sz (d - 1) (by omega) v y1) (by omega) ⟨rfl, rfl⟩ rfl (Nat.le_of_ble_eq_true rfl) (by decide) rfl rfl rfl (Nat.le_of_ble_eq_true rfl) ⟨by show kc ≤ 601024; omega, by show ks ≤ 7293034; omega⟩ (gs_Ip ?_)
  refine gb_run 1 (pc2 := 2163) (ls2 := [(4, .int (nI i)), (0, .retAddr 3000), (1, .ref 0), (2, .ref 464), (3, .ref 956)]) (st2 := [.ref 464, .int v]) (M2 := M) hC hqLW rfl ?_
  refine gz_cV (z := qX12_idle) (a := 464) (av := []) (rest := [.int v]) (pl := 1808) hC hqLW rfl kX12_idle sX12_idle (by decide +kernel) (c_FM_idle hC M sz (d - 1) (by omega) (v, t) y2) (by omega) ⟨rfl, rfl⟩ rfl (Nat.le_of_ble_eq_true rfl) (by decide) rfl rfl rfl (Nat.le_of_ble_eq_true rfl) ⟨by show kc ≤ 601024; omega, by show ks ≤ 7293034; omega⟩ (gs_I ?_)
  refine gb_icmp_eq hqLW rfl (fun _ => ?_) (fun q => absurd rfl q)
  refine gw_pick [0, 1, 2, 3, 4] (ls2 := [(4, .int (nI i)), (0, .retAddr 3000), (1, .ref 0), (2, .ref 464), (3, .ref 956)]) rfl ?_
  exact K t _ _ _ (by omega) (by omega) k4 (by rw [k5]; exact h2)

set_option maxRecDepth 20000 in
theorem lc_32 {l : Launch} {C : gC} {L : Nat} {xs : Nat → Int32} (hC : g_ctx l C) (hL : g_cl C L xs) {Q : Option Value → gX → Prop} {i kc ks sz d : Nat} (hd : 60 ≤ d) (hL4 : L ≤ 4096) (hi : i + 8 ≤ L) (hkc : kc + 8 ≤ 601024) (hks : ks + 48 ≤ 7293034) {M : gM} (hR : RR M M) (h2 : M 956 2 = 1) (K : ∀ (M2 : gM) (sz2 kc2 ks2 : Nat), kc2 ≤ kc + 8 → ks2 ≤ ks + 48 → RR M2 M2 → M2 956 2 = 1 → GW l C qLW d Q gN kc2 ks2 2623 [(4, .int (nI i)), (0, .retAddr 3000), (1, .ref 0), (2, .ref 464), (3, .ref 956)] [] (956, g_S0, M2, sz2)) : GW l C qLW d Q gN kc ks 2171 [(4, .int (nI i)), (0, .retAddr 3000), (1, .ref 0), (2, .ref 464), (3, .ref 956)] [] (956, g_S0, M, sz) := by
  have vj : ∀ j, j < 8 → vp_in (nI i + nI j) L := fun j hj => by rw [nI_add]; exact vp_in_nI (by omega) (by omega)
  obtain ⟨x1, hx1⟩ : ∃ y, y = xs (nI i + 1).toNatClampNeg := ⟨_, rfl⟩
  obtain ⟨x2, hx2⟩ : ∃ y, y = xs (nI i + 2).toNatClampNeg := ⟨_, rfl⟩
  refine gb_run 5 (pc2 := 2177) (ls2 := [(4, .int (nI i)), (0, .retAddr 3000), (1, .ref 0), (2, .ref 464), (3, .ref 956)]) (st2 := [.int (nI i + 1), .retAddr 3000, .ref 0]) (M2 := M) hC hqLW rfl ?_
  refine gw_xld hL (vj 1 (by decide)) (g_dec hqLW (q := (.iaload, 0, 0, 0)) rfl).1 ?_
  rw [← hx1]
  refine gb_run 4 (pc2 := 2183) (ls2 := [(4, .int (nI i)), (0, .retAddr 3000), (1, .ref 0), (2, .ref 464), (3, .ref 956)]) (st2 := [.int (nI i + 2), .retAddr 3000, .int x1, .ref 0]) (M2 := M) hC hqLW rfl ?_
  refine gw_xld hL (vj 2 (by decide)) (g_dec hqLW (q := (.iaload, 0, 0, 0)) rfl).1 ?_
  rw [← hx2]
  refine gb_run 1 (pc2 := 2185) (ls2 := [(4, .int (nI i)), (0, .retAddr 3000), (1, .ref 0), (2, .ref 464), (3, .ref 956)]) (st2 := [.ref 956, .int x2, .int x1, .ref 0]) (M2 := M) hC hqLW rfl ?_
  obtain ⟨e, v, M1, y1, f1, k1⟩ := b_bowls x1 x2 hR
  refine gw_invSH (z := qL_bowls) (hh := [(0, 10, 13, 31), (0, 10, 17, 13)]) (av := [.ref 0, .int x1, .int x2, .ref 956]) (rest := []) hC (k_bowls hC hL x1 x2 M sz (d - 1) (by omega) h2 y1 (f1 956 (by decide))) (g_dec hqLW (q := (.invokestatic 232, 0, 0, 0)) rfl).1 (g_mem_tb (i := 1326) (by decide +kernel)) (g_mem_tb (i := 1327) (by decide +kernel)) (g_mem_tb (i := 0) (by decide +kernel)) (g_mem_tb (i := 1328) (by decide +kernel)) (show qL_bowls.1.cls ≠ "java/lang/invoke/MethodHandle" ∧ qL_bowls.1.cls ≠ "java/lang/invoke/VarHandle" ∧ (parseMethodDescriptor qL_bowls.1.desc).map (fun q => q.parameters.length) = some 4 by decide +kernel) (by omega) (by decide) rfl rfl (Nat.le_of_ble_eq_true rfl) ⟨by show kc + 8 ≤ 601024; omega, by show ks + 48 ≤ 7293034; omega⟩ ?_
  rintro r X' ⟨M2, sz2, rfl, g1, g2, g3, rfl⟩
  obtain ⟨w, t, y2, k2, k3, k4, k5⟩ := k1 M2 g1
  obtain ⟨kE, hk⟩ : ∃ y, y = (if e = 0 then (0 : Int32) else if e = 1 then 1 else 2) := ⟨_, rfl⟩
  rw [← hk] at k2 ⊢
  refine gb_run 6 (pc2 := 2196) (ls2 := [(5, .int kE), (4, .int (nI i)), (0, .retAddr 3000), (1, .ref 0), (2, .ref 464), (3, .ref 956)]) (st2 := [.int (nI i + 1), .retAddr 3000, .ref 464]) (M2 := M2) hC hqLW rfl ?_
  refine gw_xld hL (vj 1 (by decide)) (g_dec hqLW (q := (.iaload, 0, 0, 0)) rfl).1 ?_
  rw [← hx1]
  refine gb_run 4 (pc2 := 2202) (ls2 := [(5, .int kE), (4, .int (nI i)), (0, .retAddr 3000), (1, .ref 0), (2, .ref 464), (3, .ref 956)]) (st2 := [.int (nI i + 2), .retAddr 3000, .int x1, .ref 464]) (M2 := M2) hC hqLW rfl ?_
  refine gw_xld hL (vj 2 (by decide)) (g_dec hqLW (q := (.iaload, 0, 0, 0)) rfl).1 ?_
  rw [← hx2]
  refine gz_cV (z := qX12_bowls) (a := 464) (av := [.int x1, .int x2]) (rest := []) (pl := 1788) hC hqLW rfl kX12_bowls sX12_bowls (by decide +kernel) (c_FM_bowls hC x1 x2 M2 sz2 (d - 1) (by omega) (w, t) y2) (by omega) ⟨rfl, rfl⟩ rfl (Nat.le_of_ble_eq_true rfl) (by decide) rfl rfl rfl (Nat.le_of_ble_eq_true rfl) ⟨by show kc + 8 ≤ 601024; omega, by show ks + 48 ≤ 7293034; omega⟩ (gs_I ?_)
  refine gb_run 2 (pc2 := 2209) (ls2 := [(6, .int w), (5, .int kE), (4, .int (nI i)), (0, .retAddr 3000), (1, .ref 0), (2, .ref 464), (3, .ref 956)]) (st2 := [.ref 464]) (M2 := t) hC hqLW rfl ?_
  refine gz_cV (z := qX12_thrown) (a := 464) (av := []) (rest := []) (pl := 1536) hC hqLW rfl kX12_thrown sX12_thrown (by decide +kernel) (c_FM_thrown hC t sz2 (d - 1) (by omega)) (by omega) ⟨rfl, rfl⟩ rfl (Nat.le_of_ble_eq_true rfl) (by decide) rfl rfl rfl (Nat.le_of_ble_eq_true rfl) ⟨by show kc + 8 ≤ 601024; omega, by show ks + 48 ≤ 7293034; omega⟩ (gs_Ip ?_)
  refine gb_run 1 (pc2 := 2214) (ls2 := [(6, .int w), (5, .int kE), (4, .int (nI i)), (0, .retAddr 3000), (1, .ref 0), (2, .ref 464), (3, .ref 956)]) (st2 := [.int kE, .int (FM_thrown t)]) (M2 := t) hC hqLW rfl ?_
  refine gb_icmp_eq hqLW rfl (fun _ => ?_) (fun q => absurd (show FM_thrown t = kE from k2) q)
  refine gb_run 1 (pc2 := 2221) (ls2 := [(6, .int w), (5, .int kE), (4, .int (nI i)), (0, .retAddr 3000), (1, .ref 0), (2, .ref 464), (3, .ref 956)]) (st2 := [.int kE]) (M2 := t) hC hqLW rfl ?_
  have done : ∀ ls0, ls0 = [(6, .int w), (5, .int kE), (4, .int (nI i)), (0, .retAddr 3000), (1, .ref 0), (2, .ref 464), (3, .ref 956)] → GW l C qLW d Q gN (kc + 8) (ks + 48) 2236 ls0 [] (956, g_S0, t, sz2) := by
    rintro _ rfl
    refine gb_run 1 (pc2 := 2623) (ls2 := [(6, .int w), (5, .int kE), (4, .int (nI i)), (0, .retAddr 3000), (1, .ref 0), (2, .ref 464), (3, .ref 956)]) (st2 := []) (M2 := t) hC hqLW rfl ?_
    refine gw_pick [2, 3, 4, 5, 6] (ls2 := [(4, .int (nI i)), (0, .retAddr 3000), (1, .ref 0), (2, .ref 464), (3, .ref 956)]) rfl ?_
    exact K t _ _ _ (by omega) (by omega) k4 (by rw [k5]; exact g2)
  refine gb_if_ne hqLW rfl (fun _ => done _ rfl) (fun q => ?_)
  have e0 : e = 0 := by
    rw [hk] at q
    by_cases z : e = 0
    · exact z
    · rw [if_neg z] at q
      by_cases z2 : e = 1
      · rw [if_pos z2] at q; exact absurd q (by decide)
      · rw [if_neg z2] at q; exact absurd q (by decide)
  refine gb_run 2 (pc2 := 2226) (ls2 := [(6, .int w), (5, .int kE), (4, .int (nI i)), (0, .retAddr 3000), (1, .ref 0), (2, .ref 464), (3, .ref 956)]) (st2 := [.int 0, .ref 956]) (M2 := t) hC hqLW rfl ?_
  refine gw_laload hC hL (by rw [k5]; exact g2) (g_dec hqLW (q := (.laload, 0, 0, 0)) rfl).1 ?_
  rw [show g_lg (t 956) = w.toInt64 by rw [k5, g3 e0, k3 e0]]
  refine gb_run 3 (pc2 := 2231) (ls2 := [(6, .int w), (5, .int kE), (4, .int (nI i)), (0, .retAddr 3000), (1, .ref 0), (2, .ref 464), (3, .ref 956)]) (st2 := [.int (lg_cmp w.toInt64 w.toInt64)]) (M2 := t) hC hqLW rfl ?_
  exact gb_if_eq hqLW rfl (fun _ => done _ rfl) (fun q => absurd (lg_cmp_self w.toInt64) q)

set_option maxRecDepth 20000 in
theorem lc_33 {l : Launch} {C : gC} {L : Nat} {xs : Nat → Int32} (hC : g_ctx l C) (hL : g_cl C L xs) {Q : Option Value → gX → Prop} {i kc ks sz d : Nat} (hd : 60 ≤ d) (hL4 : L ≤ 4096) (hi : i + 8 ≤ L) (hkc : kc + 8 ≤ 601024) (hks : ks + 48 ≤ 7293034) {M : gM} (hR : RR M M) (h2 : M 956 2 = 1) (K : ∀ (M2 : gM) (sz2 kc2 ks2 : Nat), kc2 ≤ kc + 8 → ks2 ≤ ks + 48 → RR M2 M2 → M2 956 2 = 1 → GW l C qLW d Q gN kc2 ks2 2623 [(4, .int (nI i)), (0, .retAddr 3000), (1, .ref 0), (2, .ref 464), (3, .ref 956)] [] (956, g_S0, M2, sz2)) : GW l C qLW d Q gN kc ks 2239 [(4, .int (nI i)), (0, .retAddr 3000), (1, .ref 0), (2, .ref 464), (3, .ref 956)] [] (956, g_S0, M, sz) := by
  have vj : ∀ j, j < 8 → vp_in (nI i + nI j) L := fun j hj => by rw [nI_add]; exact vp_in_nI (by omega) (by omega)
  obtain ⟨x1, hx1⟩ : ∃ y, y = xs (nI i + 1).toNatClampNeg := ⟨_, rfl⟩
  refine gb_run 5 (pc2 := 2245) (ls2 := [(4, .int (nI i)), (0, .retAddr 3000), (1, .ref 0), (2, .ref 464), (3, .ref 956)]) (st2 := [.int (nI i + 1), .retAddr 3000, .ref 0]) (M2 := M) hC hqLW rfl ?_
  refine gw_xld hL (vj 1 (by decide)) (g_dec hqLW (q := (.iaload, 0, 0, 0)) rfl).1 ?_
  rw [← hx1]
  refine gb_run 1 (pc2 := 2247) (ls2 := [(4, .int (nI i)), (0, .retAddr 3000), (1, .ref 0), (2, .ref 464), (3, .ref 956)]) (st2 := [.ref 956, .int x1, .ref 0]) (M2 := M) hC hqLW rfl ?_
  obtain ⟨e, v, M1, y1, f1, k1⟩ := b_load x1 hR
  refine gw_invSH (z := qL_load) (hh := [(0, 9, 12, 31)]) (av := [.ref 0, .int x1, .ref 956]) (rest := []) hC (k_load hC hL x1 M sz (d - 1) (by omega) h2 y1 (f1 956 (by decide))) (g_dec hqLW (q := (.invokestatic 235, 0, 0, 0)) rfl).1 (g_mem_tb (i := 1333) (by decide +kernel)) (g_mem_tb (i := 1334) (by decide +kernel)) (g_mem_tb (i := 0) (by decide +kernel)) (g_mem_tb (i := 1335) (by decide +kernel)) (show qL_load.1.cls ≠ "java/lang/invoke/MethodHandle" ∧ qL_load.1.cls ≠ "java/lang/invoke/VarHandle" ∧ (parseMethodDescriptor qL_load.1.desc).map (fun q => q.parameters.length) = some 3 by decide +kernel) (by omega) (by decide) rfl rfl (Nat.le_of_ble_eq_true rfl) ⟨by show kc + 8 ≤ 601024; omega, by show ks + 48 ≤ 7293034; omega⟩ ?_
  rintro r X' ⟨M2, sz2, rfl, g1, g2, g3, rfl⟩
  obtain ⟨w, t, y2, k2, k3, k4, k5⟩ := k1 M2 g1
  obtain ⟨kE, hk⟩ : ∃ y, y = (if e = 0 then (0 : Int32) else if e = 1 then 1 else 1) := ⟨_, rfl⟩
  rw [← hk] at k2 ⊢
  refine gb_run 6 (pc2 := 2258) (ls2 := [(5, .int kE), (4, .int (nI i)), (0, .retAddr 3000), (1, .ref 0), (2, .ref 464), (3, .ref 956)]) (st2 := [.int (nI i + 1), .retAddr 3000, .ref 464]) (M2 := M2) hC hqLW rfl ?_
  refine gw_xld hL (vj 1 (by decide)) (g_dec hqLW (q := (.iaload, 0, 0, 0)) rfl).1 ?_
  rw [← hx1]
  refine gz_cV (z := qX12_load) (a := 464) (av := [.int x1]) (rest := []) (pl := 1792) hC hqLW rfl kX12_load sX12_load (by decide +kernel) (c_FM_load hC x1 M2 sz2 (d - 1) (by omega) (w, t) y2) (by omega) ⟨rfl, rfl⟩ rfl (Nat.le_of_ble_eq_true rfl) (by decide) rfl rfl rfl (Nat.le_of_ble_eq_true rfl) ⟨by show kc + 8 ≤ 601024; omega, by show ks + 48 ≤ 7293034; omega⟩ (gs_I ?_)
  refine gb_run 2 (pc2 := 2265) (ls2 := [(6, .int w), (5, .int kE), (4, .int (nI i)), (0, .retAddr 3000), (1, .ref 0), (2, .ref 464), (3, .ref 956)]) (st2 := [.ref 464]) (M2 := t) hC hqLW rfl ?_
  refine gz_cV (z := qX12_thrown) (a := 464) (av := []) (rest := []) (pl := 1536) hC hqLW rfl kX12_thrown sX12_thrown (by decide +kernel) (c_FM_thrown hC t sz2 (d - 1) (by omega)) (by omega) ⟨rfl, rfl⟩ rfl (Nat.le_of_ble_eq_true rfl) (by decide) rfl rfl rfl (Nat.le_of_ble_eq_true rfl) ⟨by show kc + 8 ≤ 601024; omega, by show ks + 48 ≤ 7293034; omega⟩ (gs_Ip ?_)
  refine gb_run 1 (pc2 := 2270) (ls2 := [(6, .int w), (5, .int kE), (4, .int (nI i)), (0, .retAddr 3000), (1, .ref 0), (2, .ref 464), (3, .ref 956)]) (st2 := [.int kE, .int (FM_thrown t)]) (M2 := t) hC hqLW rfl ?_
  refine gb_icmp_eq hqLW rfl (fun _ => ?_) (fun q => absurd (show FM_thrown t = kE from k2) q)
  refine gb_run 1 (pc2 := 2277) (ls2 := [(6, .int w), (5, .int kE), (4, .int (nI i)), (0, .retAddr 3000), (1, .ref 0), (2, .ref 464), (3, .ref 956)]) (st2 := [.int kE]) (M2 := t) hC hqLW rfl ?_
  have done : ∀ ls0, ls0 = [(6, .int w), (5, .int kE), (4, .int (nI i)), (0, .retAddr 3000), (1, .ref 0), (2, .ref 464), (3, .ref 956)] → GW l C qLW d Q gN (kc + 8) (ks + 48) 2292 ls0 [] (956, g_S0, t, sz2) := by
    rintro _ rfl
    refine gb_run 1 (pc2 := 2623) (ls2 := [(6, .int w), (5, .int kE), (4, .int (nI i)), (0, .retAddr 3000), (1, .ref 0), (2, .ref 464), (3, .ref 956)]) (st2 := []) (M2 := t) hC hqLW rfl ?_
    refine gw_pick [2, 3, 4, 5, 6] (ls2 := [(4, .int (nI i)), (0, .retAddr 3000), (1, .ref 0), (2, .ref 464), (3, .ref 956)]) rfl ?_
    exact K t _ _ _ (by omega) (by omega) k4 (by rw [k5]; exact g2)
  refine gb_if_ne hqLW rfl (fun _ => done _ rfl) (fun q => ?_)
  have e0 : e = 0 := by
    rw [hk] at q
    by_cases z : e = 0
    · exact z
    · rw [if_neg z] at q
      by_cases z2 : e = 1
      · rw [if_pos z2] at q; exact absurd q (by decide)
      · rw [if_neg z2] at q; exact absurd q (by decide)
  refine gb_run 2 (pc2 := 2282) (ls2 := [(6, .int w), (5, .int kE), (4, .int (nI i)), (0, .retAddr 3000), (1, .ref 0), (2, .ref 464), (3, .ref 956)]) (st2 := [.int 0, .ref 956]) (M2 := t) hC hqLW rfl ?_
  refine gw_laload hC hL (by rw [k5]; exact g2) (g_dec hqLW (q := (.laload, 0, 0, 0)) rfl).1 ?_
  rw [show g_lg (t 956) = w.toInt64 by rw [k5, g3 e0, k3 e0]]
  refine gb_run 3 (pc2 := 2287) (ls2 := [(6, .int w), (5, .int kE), (4, .int (nI i)), (0, .retAddr 3000), (1, .ref 0), (2, .ref 464), (3, .ref 956)]) (st2 := [.int (lg_cmp w.toInt64 w.toInt64)]) (M2 := t) hC hqLW rfl ?_
  exact gb_if_eq hqLW rfl (fun _ => done _ rfl) (fun q => absurd (lg_cmp_self w.toInt64) q)

set_option maxRecDepth 20000 in
theorem lc_34 {l : Launch} {C : gC} {L : Nat} {xs : Nat → Int32} (hC : g_ctx l C) (hL : g_cl C L xs) {Q : Option Value → gX → Prop} {i kc ks sz d : Nat} (hd : 60 ≤ d) (hL4 : L ≤ 4096) (hi : i + 8 ≤ L) (hkc : kc + 8 ≤ 601024) (hks : ks + 48 ≤ 7293034) {M : gM} (hR : RR M M) (h2 : M 956 2 = 1) (K : ∀ (M2 : gM) (sz2 kc2 ks2 : Nat), kc2 ≤ kc + 8 → ks2 ≤ ks + 48 → RR M2 M2 → M2 956 2 = 1 → GW l C qLW d Q gN kc2 ks2 2623 [(4, .int (nI i)), (0, .retAddr 3000), (1, .ref 0), (2, .ref 464), (3, .ref 956)] [] (956, g_S0, M2, sz2)) : GW l C qLW d Q gN kc ks 2295 [(4, .int (nI i)), (0, .retAddr 3000), (1, .ref 0), (2, .ref 464), (3, .ref 956)] [] (956, g_S0, M, sz) := by
  have vj : ∀ j, j < 8 → vp_in (nI i + nI j) L := fun j hj => by rw [nI_add]; exact vp_in_nI (by omega) (by omega)
  obtain ⟨x1, hx1⟩ : ∃ y, y = xs (nI i + 1).toNatClampNeg := ⟨_, rfl⟩
  refine gb_run 5 (pc2 := 2301) (ls2 := [(4, .int (nI i)), (0, .retAddr 3000), (1, .ref 0), (2, .ref 464), (3, .ref 956)]) (st2 := [.int (nI i + 1), .retAddr 3000, .ref 0]) (M2 := M) hC hqLW rfl ?_
  refine gw_xld hL (vj 1 (by decide)) (g_dec hqLW (q := (.iaload, 0, 0, 0)) rfl).1 ?_
  rw [← hx1]
  refine gb_run 1 (pc2 := 2303) (ls2 := [(4, .int (nI i)), (0, .retAddr 3000), (1, .ref 0), (2, .ref 464), (3, .ref 956)]) (st2 := [.ref 956, .int x1, .ref 0]) (M2 := M) hC hqLW rfl ?_
  obtain ⟨e, v, M1, y1, f1, k1⟩ := b_slowest x1 hR
  refine gw_invSH (z := qL_slowest) (hh := [(0, 9, 12, 13)]) (av := [.ref 0, .int x1, .ref 956]) (rest := []) hC (k_slowest hC hL x1 M sz (d - 1) (by omega) h2 y1 (f1 956 (by decide))) (g_dec hqLW (q := (.invokestatic 238, 0, 0, 0)) rfl).1 (g_mem_tb (i := 1340) (by decide +kernel)) (g_mem_tb (i := 1341) (by decide +kernel)) (g_mem_tb (i := 0) (by decide +kernel)) (g_mem_tb (i := 1342) (by decide +kernel)) (show qL_slowest.1.cls ≠ "java/lang/invoke/MethodHandle" ∧ qL_slowest.1.cls ≠ "java/lang/invoke/VarHandle" ∧ (parseMethodDescriptor qL_slowest.1.desc).map (fun q => q.parameters.length) = some 3 by decide +kernel) (by omega) (by decide) rfl rfl (Nat.le_of_ble_eq_true rfl) ⟨by show kc + 8 ≤ 601024; omega, by show ks + 48 ≤ 7293034; omega⟩ ?_
  rintro r X' ⟨M2, sz2, rfl, g1, g2, g3, rfl⟩
  obtain ⟨w, t, y2, k2, k3, k4, k5⟩ := k1 M2 g1
  obtain ⟨kE, hk⟩ : ∃ y, y = (if e = 0 then (0 : Int32) else if e = 1 then 1 else 1) := ⟨_, rfl⟩
  rw [← hk] at k2 ⊢
  refine gb_run 6 (pc2 := 2314) (ls2 := [(5, .int kE), (4, .int (nI i)), (0, .retAddr 3000), (1, .ref 0), (2, .ref 464), (3, .ref 956)]) (st2 := [.int (nI i + 1), .retAddr 3000, .ref 464]) (M2 := M2) hC hqLW rfl ?_
  refine gw_xld hL (vj 1 (by decide)) (g_dec hqLW (q := (.iaload, 0, 0, 0)) rfl).1 ?_
  rw [← hx1]
  refine gz_cV (z := qX12_slowest) (a := 464) (av := [.int x1]) (rest := []) (pl := 1796) hC hqLW rfl kX12_slowest sX12_slowest (by decide +kernel) (c_FM_slowest hC x1 M2 sz2 (d - 1) (by omega) (w, t) y2) (by omega) ⟨rfl, rfl⟩ rfl (Nat.le_of_ble_eq_true rfl) (by decide) rfl rfl rfl (Nat.le_of_ble_eq_true rfl) ⟨by show kc + 8 ≤ 601024; omega, by show ks + 48 ≤ 7293034; omega⟩ (gs_I ?_)
  refine gb_run 2 (pc2 := 2321) (ls2 := [(6, .int w), (5, .int kE), (4, .int (nI i)), (0, .retAddr 3000), (1, .ref 0), (2, .ref 464), (3, .ref 956)]) (st2 := [.ref 464]) (M2 := t) hC hqLW rfl ?_
  refine gz_cV (z := qX12_thrown) (a := 464) (av := []) (rest := []) (pl := 1536) hC hqLW rfl kX12_thrown sX12_thrown (by decide +kernel) (c_FM_thrown hC t sz2 (d - 1) (by omega)) (by omega) ⟨rfl, rfl⟩ rfl (Nat.le_of_ble_eq_true rfl) (by decide) rfl rfl rfl (Nat.le_of_ble_eq_true rfl) ⟨by show kc + 8 ≤ 601024; omega, by show ks + 48 ≤ 7293034; omega⟩ (gs_Ip ?_)
  refine gb_run 1 (pc2 := 2326) (ls2 := [(6, .int w), (5, .int kE), (4, .int (nI i)), (0, .retAddr 3000), (1, .ref 0), (2, .ref 464), (3, .ref 956)]) (st2 := [.int kE, .int (FM_thrown t)]) (M2 := t) hC hqLW rfl ?_
  refine gb_icmp_eq hqLW rfl (fun _ => ?_) (fun q => absurd (show FM_thrown t = kE from k2) q)
  refine gb_run 1 (pc2 := 2333) (ls2 := [(6, .int w), (5, .int kE), (4, .int (nI i)), (0, .retAddr 3000), (1, .ref 0), (2, .ref 464), (3, .ref 956)]) (st2 := [.int kE]) (M2 := t) hC hqLW rfl ?_
  have done : ∀ ls0, ls0 = [(6, .int w), (5, .int kE), (4, .int (nI i)), (0, .retAddr 3000), (1, .ref 0), (2, .ref 464), (3, .ref 956)] → GW l C qLW d Q gN (kc + 8) (ks + 48) 2348 ls0 [] (956, g_S0, t, sz2) := by
    rintro _ rfl
    refine gb_run 1 (pc2 := 2623) (ls2 := [(6, .int w), (5, .int kE), (4, .int (nI i)), (0, .retAddr 3000), (1, .ref 0), (2, .ref 464), (3, .ref 956)]) (st2 := []) (M2 := t) hC hqLW rfl ?_
    refine gw_pick [2, 3, 4, 5, 6] (ls2 := [(4, .int (nI i)), (0, .retAddr 3000), (1, .ref 0), (2, .ref 464), (3, .ref 956)]) rfl ?_
    exact K t _ _ _ (by omega) (by omega) k4 (by rw [k5]; exact g2)
  refine gb_if_ne hqLW rfl (fun _ => done _ rfl) (fun q => ?_)
  have e0 : e = 0 := by
    rw [hk] at q
    by_cases z : e = 0
    · exact z
    · rw [if_neg z] at q
      by_cases z2 : e = 1
      · rw [if_pos z2] at q; exact absurd q (by decide)
      · rw [if_neg z2] at q; exact absurd q (by decide)
  refine gb_run 2 (pc2 := 2338) (ls2 := [(6, .int w), (5, .int kE), (4, .int (nI i)), (0, .retAddr 3000), (1, .ref 0), (2, .ref 464), (3, .ref 956)]) (st2 := [.int 0, .ref 956]) (M2 := t) hC hqLW rfl ?_
  refine gw_laload hC hL (by rw [k5]; exact g2) (g_dec hqLW (q := (.laload, 0, 0, 0)) rfl).1 ?_
  rw [show g_lg (t 956) = w.toInt64 by rw [k5, g3 e0, k3 e0]]
  refine gb_run 3 (pc2 := 2343) (ls2 := [(6, .int w), (5, .int kE), (4, .int (nI i)), (0, .retAddr 3000), (1, .ref 0), (2, .ref 464), (3, .ref 956)]) (st2 := [.int (lg_cmp w.toInt64 w.toInt64)]) (M2 := t) hC hqLW rfl ?_
  exact gb_if_eq hqLW rfl (fun _ => done _ rfl) (fun q => absurd (lg_cmp_self w.toInt64) q)

set_option maxRecDepth 20000 in
theorem lc_35 {l : Launch} {C : gC} {L : Nat} {xs : Nat → Int32} (hC : g_ctx l C) (hL : g_cl C L xs) {Q : Option Value → gX → Prop} {i kc ks sz d : Nat} (hd : 60 ≤ d) (hL4 : L ≤ 4096) (hi : i + 8 ≤ L) (hkc : kc + 8 ≤ 601024) (hks : ks + 48 ≤ 7293034) {M : gM} (hR : RR M M) (h2 : M 956 2 = 1) (K : ∀ (M2 : gM) (sz2 kc2 ks2 : Nat), kc2 ≤ kc + 8 → ks2 ≤ ks + 48 → RR M2 M2 → M2 956 2 = 1 → GW l C qLW d Q gN kc2 ks2 2623 [(4, .int (nI i)), (0, .retAddr 3000), (1, .ref 0), (2, .ref 464), (3, .ref 956)] [] (956, g_S0, M2, sz2)) : GW l C qLW d Q gN kc ks 2351 [(4, .int (nI i)), (0, .retAddr 3000), (1, .ref 0), (2, .ref 464), (3, .ref 956)] [] (956, g_S0, M, sz) := by
  have vj : ∀ j, j < 8 → vp_in (nI i + nI j) L := fun j hj => by rw [nI_add]; exact vp_in_nI (by omega) (by omega)
  obtain ⟨x1, hx1⟩ : ∃ y, y = xs (nI i + 1).toNatClampNeg := ⟨_, rfl⟩
  obtain ⟨x2, hx2⟩ : ∃ y, y = xs (nI i + 2).toNatClampNeg := ⟨_, rfl⟩
  obtain ⟨x3, hx3⟩ : ∃ y, y = xs (nI i + 3).toNatClampNeg := ⟨_, rfl⟩
  obtain ⟨x4, hx4⟩ : ∃ y, y = xs (nI i + 4).toNatClampNeg := ⟨_, rfl⟩
  refine gb_run 5 (pc2 := 2357) (ls2 := [(4, .int (nI i)), (0, .retAddr 3000), (1, .ref 0), (2, .ref 464), (3, .ref 956)]) (st2 := [.int (nI i + 1), .retAddr 3000, .ref 0]) (M2 := M) hC hqLW rfl ?_
  refine gw_xld hL (vj 1 (by decide)) (g_dec hqLW (q := (.iaload, 0, 0, 0)) rfl).1 ?_
  rw [← hx1]
  refine gb_run 4 (pc2 := 2363) (ls2 := [(4, .int (nI i)), (0, .retAddr 3000), (1, .ref 0), (2, .ref 464), (3, .ref 956)]) (st2 := [.int (nI i + 2), .retAddr 3000, .int x1, .ref 0]) (M2 := M) hC hqLW rfl ?_
  refine gw_xld hL (vj 2 (by decide)) (g_dec hqLW (q := (.iaload, 0, 0, 0)) rfl).1 ?_
  rw [← hx2]
  refine gb_run 4 (pc2 := 2369) (ls2 := [(4, .int (nI i)), (0, .retAddr 3000), (1, .ref 0), (2, .ref 464), (3, .ref 956)]) (st2 := [.int (nI i + 3), .retAddr 3000, .int x2, .int x1, .ref 0]) (M2 := M) hC hqLW rfl ?_
  refine gw_xld hL (vj 3 (by decide)) (g_dec hqLW (q := (.iaload, 0, 0, 0)) rfl).1 ?_
  rw [← hx3]
  refine gb_run 4 (pc2 := 2375) (ls2 := [(4, .int (nI i)), (0, .retAddr 3000), (1, .ref 0), (2, .ref 464), (3, .ref 956)]) (st2 := [.int (nI i + 4), .retAddr 3000, .int x3, .int x2, .int x1, .ref 0]) (M2 := M) hC hqLW rfl ?_
  refine gw_xld hL (vj 4 (by decide)) (g_dec hqLW (q := (.iaload, 0, 0, 0)) rfl).1 ?_
  rw [← hx4]
  refine gb_run 1 (pc2 := 2377) (ls2 := [(4, .int (nI i)), (0, .retAddr 3000), (1, .ref 0), (2, .ref 464), (3, .ref 956)]) (st2 := [.ref 956, .int x4, .int x3, .int x2, .int x1, .ref 0]) (M2 := M) hC hqLW rfl ?_
  obtain ⟨e, v, M1, y1, f1, k1⟩ := b_days x1 x2 x3 x4 hR
  refine gw_invSH (z := qL_days) (hh := [(0, 14, 17, 13)]) (av := [.ref 0, .int x1, .int x2, .int x3, .int x4, .ref 956]) (rest := []) hC (k_days hC hL x1 x2 x3 x4 M sz (d - 1) (by omega) h2 y1 (f1 956 (by decide))) (g_dec hqLW (q := (.invokestatic 241, 0, 0, 0)) rfl).1 (g_mem_tb (i := 1347) (by decide +kernel)) (g_mem_tb (i := 1348) (by decide +kernel)) (g_mem_tb (i := 0) (by decide +kernel)) (g_mem_tb (i := 1349) (by decide +kernel)) (show qL_days.1.cls ≠ "java/lang/invoke/MethodHandle" ∧ qL_days.1.cls ≠ "java/lang/invoke/VarHandle" ∧ (parseMethodDescriptor qL_days.1.desc).map (fun q => q.parameters.length) = some 6 by decide +kernel) (by omega) (by decide) rfl rfl (Nat.le_of_ble_eq_true rfl) ⟨by show kc + 8 ≤ 601024; omega, by show ks + 48 ≤ 7293034; omega⟩ ?_
  rintro r X' ⟨M2, sz2, rfl, g1, g2, g3, rfl⟩
  obtain ⟨w, t, y2, k2, k3, k4, k5⟩ := k1 M2 g1
  obtain ⟨kE, hk⟩ : ∃ y, y = (if e = 0 then (0 : Int32) else if e = 1 then 1 else 1) := ⟨_, rfl⟩
  rw [← hk] at k2 ⊢
  refine gb_run 6 (pc2 := 2388) (ls2 := [(5, .int kE), (4, .int (nI i)), (0, .retAddr 3000), (1, .ref 0), (2, .ref 464), (3, .ref 956)]) (st2 := [.int (nI i + 1), .retAddr 3000, .ref 464]) (M2 := M2) hC hqLW rfl ?_
  refine gw_xld hL (vj 1 (by decide)) (g_dec hqLW (q := (.iaload, 0, 0, 0)) rfl).1 ?_
  rw [← hx1]
  refine gb_run 4 (pc2 := 2394) (ls2 := [(5, .int kE), (4, .int (nI i)), (0, .retAddr 3000), (1, .ref 0), (2, .ref 464), (3, .ref 956)]) (st2 := [.int (nI i + 2), .retAddr 3000, .int x1, .ref 464]) (M2 := M2) hC hqLW rfl ?_
  refine gw_xld hL (vj 2 (by decide)) (g_dec hqLW (q := (.iaload, 0, 0, 0)) rfl).1 ?_
  rw [← hx2]
  refine gb_run 4 (pc2 := 2400) (ls2 := [(5, .int kE), (4, .int (nI i)), (0, .retAddr 3000), (1, .ref 0), (2, .ref 464), (3, .ref 956)]) (st2 := [.int (nI i + 3), .retAddr 3000, .int x2, .int x1, .ref 464]) (M2 := M2) hC hqLW rfl ?_
  refine gw_xld hL (vj 3 (by decide)) (g_dec hqLW (q := (.iaload, 0, 0, 0)) rfl).1 ?_
  rw [← hx3]
  refine gb_run 4 (pc2 := 2406) (ls2 := [(5, .int kE), (4, .int (nI i)), (0, .retAddr 3000), (1, .ref 0), (2, .ref 464), (3, .ref 956)]) (st2 := [.int (nI i + 4), .retAddr 3000, .int x3, .int x2, .int x1, .ref 464]) (M2 := M2) hC hqLW rfl ?_
  refine gw_xld hL (vj 4 (by decide)) (g_dec hqLW (q := (.iaload, 0, 0, 0)) rfl).1 ?_
  rw [← hx4]
  refine gz_cV (z := qX12_days) (a := 464) (av := [.int x1, .int x2, .int x3, .int x4]) (rest := []) (pl := 1916) hC hqLW rfl kX12_days sX12_days (by decide +kernel) (c_FM_days hC x1 x2 x3 x4 M2 sz2 (d - 1) (by omega) (w, t) y2) (by omega) ⟨rfl, rfl⟩ rfl (Nat.le_of_ble_eq_true rfl) (by decide) rfl rfl rfl (Nat.le_of_ble_eq_true rfl) ⟨by show kc + 8 ≤ 601024; omega, by show ks + 48 ≤ 7293034; omega⟩ (gs_I ?_)
  refine gb_run 2 (pc2 := 2413) (ls2 := [(6, .int w), (5, .int kE), (4, .int (nI i)), (0, .retAddr 3000), (1, .ref 0), (2, .ref 464), (3, .ref 956)]) (st2 := [.ref 464]) (M2 := t) hC hqLW rfl ?_
  refine gz_cV (z := qX12_thrown) (a := 464) (av := []) (rest := []) (pl := 1536) hC hqLW rfl kX12_thrown sX12_thrown (by decide +kernel) (c_FM_thrown hC t sz2 (d - 1) (by omega)) (by omega) ⟨rfl, rfl⟩ rfl (Nat.le_of_ble_eq_true rfl) (by decide) rfl rfl rfl (Nat.le_of_ble_eq_true rfl) ⟨by show kc + 8 ≤ 601024; omega, by show ks + 48 ≤ 7293034; omega⟩ (gs_Ip ?_)
  refine gb_run 1 (pc2 := 2418) (ls2 := [(6, .int w), (5, .int kE), (4, .int (nI i)), (0, .retAddr 3000), (1, .ref 0), (2, .ref 464), (3, .ref 956)]) (st2 := [.int kE, .int (FM_thrown t)]) (M2 := t) hC hqLW rfl ?_
  refine gb_icmp_eq hqLW rfl (fun _ => ?_) (fun q => absurd (show FM_thrown t = kE from k2) q)
  refine gb_run 1 (pc2 := 2425) (ls2 := [(6, .int w), (5, .int kE), (4, .int (nI i)), (0, .retAddr 3000), (1, .ref 0), (2, .ref 464), (3, .ref 956)]) (st2 := [.int kE]) (M2 := t) hC hqLW rfl ?_
  have done : ∀ ls0, ls0 = [(6, .int w), (5, .int kE), (4, .int (nI i)), (0, .retAddr 3000), (1, .ref 0), (2, .ref 464), (3, .ref 956)] → GW l C qLW d Q gN (kc + 8) (ks + 48) 2440 ls0 [] (956, g_S0, t, sz2) := by
    rintro _ rfl
    refine gb_run 1 (pc2 := 2623) (ls2 := [(6, .int w), (5, .int kE), (4, .int (nI i)), (0, .retAddr 3000), (1, .ref 0), (2, .ref 464), (3, .ref 956)]) (st2 := []) (M2 := t) hC hqLW rfl ?_
    refine gw_pick [2, 3, 4, 5, 6] (ls2 := [(4, .int (nI i)), (0, .retAddr 3000), (1, .ref 0), (2, .ref 464), (3, .ref 956)]) rfl ?_
    exact K t _ _ _ (by omega) (by omega) k4 (by rw [k5]; exact g2)
  refine gb_if_ne hqLW rfl (fun _ => done _ rfl) (fun q => ?_)
  have e0 : e = 0 := by
    rw [hk] at q
    by_cases z : e = 0
    · exact z
    · rw [if_neg z] at q
      by_cases z2 : e = 1
      · rw [if_pos z2] at q; exact absurd q (by decide)
      · rw [if_neg z2] at q; exact absurd q (by decide)
  refine gb_run 2 (pc2 := 2430) (ls2 := [(6, .int w), (5, .int kE), (4, .int (nI i)), (0, .retAddr 3000), (1, .ref 0), (2, .ref 464), (3, .ref 956)]) (st2 := [.int 0, .ref 956]) (M2 := t) hC hqLW rfl ?_
  refine gw_laload hC hL (by rw [k5]; exact g2) (g_dec hqLW (q := (.laload, 0, 0, 0)) rfl).1 ?_
  rw [show g_lg (t 956) = w.toInt64 by rw [k5, g3 e0, k3 e0]]
  refine gb_run 3 (pc2 := 2435) (ls2 := [(6, .int w), (5, .int kE), (4, .int (nI i)), (0, .retAddr 3000), (1, .ref 0), (2, .ref 464), (3, .ref 956)]) (st2 := [.int (lg_cmp w.toInt64 w.toInt64)]) (M2 := t) hC hqLW rfl ?_
  exact gb_if_eq hqLW rfl (fun _ => done _ rfl) (fun q => absurd (lg_cmp_self w.toInt64) q)

set_option maxRecDepth 20000 in
theorem lc_36 {l : Launch} {C : gC} {L : Nat} {xs : Nat → Int32} (hC : g_ctx l C) (hL : g_cl C L xs) {Q : Option Value → gX → Prop} {i kc ks sz d : Nat} (hd : 60 ≤ d) (hL4 : L ≤ 4096) (hi : i + 8 ≤ L) (hkc : kc + 8 ≤ 601024) (hks : ks + 48 ≤ 7293034) {M : gM} (hR : RR M M) (h2 : M 956 2 = 1) (K : ∀ (M2 : gM) (sz2 kc2 ks2 : Nat), kc2 ≤ kc + 8 → ks2 ≤ ks + 48 → RR M2 M2 → M2 956 2 = 1 → GW l C qLW d Q gN kc2 ks2 2623 [(4, .int (nI i)), (0, .retAddr 3000), (1, .ref 0), (2, .ref 464), (3, .ref 956)] [] (956, g_S0, M2, sz2)) : GW l C qLW d Q gN kc ks 2443 [(4, .int (nI i)), (0, .retAddr 3000), (1, .ref 0), (2, .ref 464), (3, .ref 956)] [] (956, g_S0, M, sz) := by
  have vj : ∀ j, j < 8 → vp_in (nI i + nI j) L := fun j hj => by rw [nI_add]; exact vp_in_nI (by omega) (by omega)
  obtain ⟨x1, hx1⟩ : ∃ y, y = xs (nI i + 1).toNatClampNeg := ⟨_, rfl⟩
  obtain ⟨x2, hx2⟩ : ∃ y, y = xs (nI i + 2).toNatClampNeg := ⟨_, rfl⟩
  obtain ⟨x3, hx3⟩ : ∃ y, y = xs (nI i + 3).toNatClampNeg := ⟨_, rfl⟩
  obtain ⟨x4, hx4⟩ : ∃ y, y = xs (nI i + 4).toNatClampNeg := ⟨_, rfl⟩
  obtain ⟨x5, hx5⟩ : ∃ y, y = xs (nI i + 5).toNatClampNeg := ⟨_, rfl⟩
  refine gb_run 5 (pc2 := 2449) (ls2 := [(4, .int (nI i)), (0, .retAddr 3000), (1, .ref 0), (2, .ref 464), (3, .ref 956)]) (st2 := [.int (nI i + 1), .retAddr 3000, .ref 0]) (M2 := M) hC hqLW rfl ?_
  refine gw_xld hL (vj 1 (by decide)) (g_dec hqLW (q := (.iaload, 0, 0, 0)) rfl).1 ?_
  rw [← hx1]
  refine gb_run 4 (pc2 := 2455) (ls2 := [(4, .int (nI i)), (0, .retAddr 3000), (1, .ref 0), (2, .ref 464), (3, .ref 956)]) (st2 := [.int (nI i + 2), .retAddr 3000, .int x1, .ref 0]) (M2 := M) hC hqLW rfl ?_
  refine gw_xld hL (vj 2 (by decide)) (g_dec hqLW (q := (.iaload, 0, 0, 0)) rfl).1 ?_
  rw [← hx2]
  refine gb_run 4 (pc2 := 2461) (ls2 := [(4, .int (nI i)), (0, .retAddr 3000), (1, .ref 0), (2, .ref 464), (3, .ref 956)]) (st2 := [.int (nI i + 3), .retAddr 3000, .int x2, .int x1, .ref 0]) (M2 := M) hC hqLW rfl ?_
  refine gw_xld hL (vj 3 (by decide)) (g_dec hqLW (q := (.iaload, 0, 0, 0)) rfl).1 ?_
  rw [← hx3]
  refine gb_run 4 (pc2 := 2467) (ls2 := [(4, .int (nI i)), (0, .retAddr 3000), (1, .ref 0), (2, .ref 464), (3, .ref 956)]) (st2 := [.int (nI i + 4), .retAddr 3000, .int x3, .int x2, .int x1, .ref 0]) (M2 := M) hC hqLW rfl ?_
  refine gw_xld hL (vj 4 (by decide)) (g_dec hqLW (q := (.iaload, 0, 0, 0)) rfl).1 ?_
  rw [← hx4]
  refine gb_run 4 (pc2 := 2473) (ls2 := [(4, .int (nI i)), (0, .retAddr 3000), (1, .ref 0), (2, .ref 464), (3, .ref 956)]) (st2 := [.int (nI i + 5), .retAddr 3000, .int x4, .int x3, .int x2, .int x1, .ref 0]) (M2 := M) hC hqLW rfl ?_
  refine gw_xld hL (vj 5 (by decide)) (g_dec hqLW (q := (.iaload, 0, 0, 0)) rfl).1 ?_
  rw [← hx5]
  refine gb_run 1 (pc2 := 2475) (ls2 := [(4, .int (nI i)), (0, .retAddr 3000), (1, .ref 0), (2, .ref 464), (3, .ref 956)]) (st2 := [.ref 956, .int x5, .int x4, .int x3, .int x2, .int x1, .ref 0]) (M2 := M) hC hqLW rfl ?_
  obtain ⟨e, v, M1, y1, f1, k1⟩ := b_span x1 x2 x3 x4 x5 hR
  refine gw_invSH (z := qL_span) (hh := [(0, 16, 19, 13)]) (av := [.ref 0, .int x1, .int x2, .int x3, .int x4, .int x5, .ref 956]) (rest := []) hC (k_span hC hL x1 x2 x3 x4 x5 M sz (d - 1) (by omega) h2 y1 (f1 956 (by decide))) (g_dec hqLW (q := (.invokestatic 245, 0, 0, 0)) rfl).1 (g_mem_tb (i := 1366) (by decide +kernel)) (g_mem_tb (i := 1367) (by decide +kernel)) (g_mem_tb (i := 0) (by decide +kernel)) (g_mem_tb (i := 1368) (by decide +kernel)) (show qL_span.1.cls ≠ "java/lang/invoke/MethodHandle" ∧ qL_span.1.cls ≠ "java/lang/invoke/VarHandle" ∧ (parseMethodDescriptor qL_span.1.desc).map (fun q => q.parameters.length) = some 7 by decide +kernel) (by omega) (by decide) rfl rfl (Nat.le_of_ble_eq_true rfl) ⟨by show kc + 8 ≤ 601024; omega, by show ks + 48 ≤ 7293034; omega⟩ ?_
  rintro r X' ⟨M2, sz2, rfl, g1, g2, g3, rfl⟩
  obtain ⟨w, t, y2, k2, k3, k4, k5⟩ := k1 M2 g1
  obtain ⟨kE, hk⟩ : ∃ y, y = (if e = 0 then (0 : Int32) else if e = 1 then 1 else 1) := ⟨_, rfl⟩
  rw [← hk] at k2 ⊢
  refine gb_run 6 (pc2 := 2486) (ls2 := [(5, .int kE), (4, .int (nI i)), (0, .retAddr 3000), (1, .ref 0), (2, .ref 464), (3, .ref 956)]) (st2 := [.int (nI i + 1), .retAddr 3000, .ref 464]) (M2 := M2) hC hqLW rfl ?_
  refine gw_xld hL (vj 1 (by decide)) (g_dec hqLW (q := (.iaload, 0, 0, 0)) rfl).1 ?_
  rw [← hx1]
  refine gb_run 4 (pc2 := 2492) (ls2 := [(5, .int kE), (4, .int (nI i)), (0, .retAddr 3000), (1, .ref 0), (2, .ref 464), (3, .ref 956)]) (st2 := [.int (nI i + 2), .retAddr 3000, .int x1, .ref 464]) (M2 := M2) hC hqLW rfl ?_
  refine gw_xld hL (vj 2 (by decide)) (g_dec hqLW (q := (.iaload, 0, 0, 0)) rfl).1 ?_
  rw [← hx2]
  refine gb_run 4 (pc2 := 2498) (ls2 := [(5, .int kE), (4, .int (nI i)), (0, .retAddr 3000), (1, .ref 0), (2, .ref 464), (3, .ref 956)]) (st2 := [.int (nI i + 3), .retAddr 3000, .int x2, .int x1, .ref 464]) (M2 := M2) hC hqLW rfl ?_
  refine gw_xld hL (vj 3 (by decide)) (g_dec hqLW (q := (.iaload, 0, 0, 0)) rfl).1 ?_
  rw [← hx3]
  refine gb_run 4 (pc2 := 2504) (ls2 := [(5, .int kE), (4, .int (nI i)), (0, .retAddr 3000), (1, .ref 0), (2, .ref 464), (3, .ref 956)]) (st2 := [.int (nI i + 4), .retAddr 3000, .int x3, .int x2, .int x1, .ref 464]) (M2 := M2) hC hqLW rfl ?_
  refine gw_xld hL (vj 4 (by decide)) (g_dec hqLW (q := (.iaload, 0, 0, 0)) rfl).1 ?_
  rw [← hx4]
  refine gb_run 4 (pc2 := 2510) (ls2 := [(5, .int kE), (4, .int (nI i)), (0, .retAddr 3000), (1, .ref 0), (2, .ref 464), (3, .ref 956)]) (st2 := [.int (nI i + 5), .retAddr 3000, .int x4, .int x3, .int x2, .int x1, .ref 464]) (M2 := M2) hC hqLW rfl ?_
  refine gw_xld hL (vj 5 (by decide)) (g_dec hqLW (q := (.iaload, 0, 0, 0)) rfl).1 ?_
  rw [← hx5]
  refine gz_cV (z := qX12_span) (a := 464) (av := [.int x1, .int x2, .int x3, .int x4, .int x5]) (rest := []) (pl := 1932) hC hqLW rfl kX12_span sX12_span (by decide +kernel) (c_FM_span hC x1 x2 x3 x4 x5 M2 sz2 (d - 1) (by omega) (w, t) y2) (by omega) ⟨rfl, rfl⟩ rfl (Nat.le_of_ble_eq_true rfl) (by decide) rfl rfl rfl (Nat.le_of_ble_eq_true rfl) ⟨by show kc + 8 ≤ 601024; omega, by show ks + 48 ≤ 7293034; omega⟩ (gs_I ?_)
  refine gb_run 2 (pc2 := 2517) (ls2 := [(6, .int w), (5, .int kE), (4, .int (nI i)), (0, .retAddr 3000), (1, .ref 0), (2, .ref 464), (3, .ref 956)]) (st2 := [.ref 464]) (M2 := t) hC hqLW rfl ?_
  refine gz_cV (z := qX12_thrown) (a := 464) (av := []) (rest := []) (pl := 1536) hC hqLW rfl kX12_thrown sX12_thrown (by decide +kernel) (c_FM_thrown hC t sz2 (d - 1) (by omega)) (by omega) ⟨rfl, rfl⟩ rfl (Nat.le_of_ble_eq_true rfl) (by decide) rfl rfl rfl (Nat.le_of_ble_eq_true rfl) ⟨by show kc + 8 ≤ 601024; omega, by show ks + 48 ≤ 7293034; omega⟩ (gs_Ip ?_)
  refine gb_run 1 (pc2 := 2522) (ls2 := [(6, .int w), (5, .int kE), (4, .int (nI i)), (0, .retAddr 3000), (1, .ref 0), (2, .ref 464), (3, .ref 956)]) (st2 := [.int kE, .int (FM_thrown t)]) (M2 := t) hC hqLW rfl ?_
  refine gb_icmp_eq hqLW rfl (fun _ => ?_) (fun q => absurd (show FM_thrown t = kE from k2) q)
  refine gb_run 1 (pc2 := 2529) (ls2 := [(6, .int w), (5, .int kE), (4, .int (nI i)), (0, .retAddr 3000), (1, .ref 0), (2, .ref 464), (3, .ref 956)]) (st2 := [.int kE]) (M2 := t) hC hqLW rfl ?_
  have done : ∀ ls0, ls0 = [(6, .int w), (5, .int kE), (4, .int (nI i)), (0, .retAddr 3000), (1, .ref 0), (2, .ref 464), (3, .ref 956)] → GW l C qLW d Q gN (kc + 8) (ks + 48) 2544 ls0 [] (956, g_S0, t, sz2) := by
    rintro _ rfl
    refine gb_run 1 (pc2 := 2623) (ls2 := [(6, .int w), (5, .int kE), (4, .int (nI i)), (0, .retAddr 3000), (1, .ref 0), (2, .ref 464), (3, .ref 956)]) (st2 := []) (M2 := t) hC hqLW rfl ?_
    refine gw_pick [2, 3, 4, 5, 6] (ls2 := [(4, .int (nI i)), (0, .retAddr 3000), (1, .ref 0), (2, .ref 464), (3, .ref 956)]) rfl ?_
    exact K t _ _ _ (by omega) (by omega) k4 (by rw [k5]; exact g2)
  refine gb_if_ne hqLW rfl (fun _ => done _ rfl) (fun q => ?_)
  have e0 : e = 0 := by
    rw [hk] at q
    by_cases z : e = 0
    · exact z
    · rw [if_neg z] at q
      by_cases z2 : e = 1
      · rw [if_pos z2] at q; exact absurd q (by decide)
      · rw [if_neg z2] at q; exact absurd q (by decide)
  refine gb_run 2 (pc2 := 2534) (ls2 := [(6, .int w), (5, .int kE), (4, .int (nI i)), (0, .retAddr 3000), (1, .ref 0), (2, .ref 464), (3, .ref 956)]) (st2 := [.int 0, .ref 956]) (M2 := t) hC hqLW rfl ?_
  refine gw_laload hC hL (by rw [k5]; exact g2) (g_dec hqLW (q := (.laload, 0, 0, 0)) rfl).1 ?_
  rw [show g_lg (t 956) = w.toInt64 by rw [k5, g3 e0, k3 e0]]
  refine gb_run 3 (pc2 := 2539) (ls2 := [(6, .int w), (5, .int kE), (4, .int (nI i)), (0, .retAddr 3000), (1, .ref 0), (2, .ref 464), (3, .ref 956)]) (st2 := [.int (lg_cmp w.toInt64 w.toInt64)]) (M2 := t) hC hqLW rfl ?_
  exact gb_if_eq hqLW rfl (fun _ => done _ rfl) (fun q => absurd (lg_cmp_self w.toInt64) q)

set_option maxRecDepth 20000 in
theorem lc_37 {l : Launch} {C : gC} {L : Nat} {xs : Nat → Int32} (hC : g_ctx l C) (hL : g_cl C L xs) {Q : Option Value → gX → Prop} {i kc ks sz d : Nat} (hd : 60 ≤ d) (hL4 : L ≤ 4096) (hi : i + 8 ≤ L) (hkc : kc + 8 ≤ 601024) (hks : ks + 48 ≤ 7293034) {M : gM} (hR : RR M M) (h2 : M 956 2 = 1) (K : ∀ (M2 : gM) (sz2 kc2 ks2 : Nat), kc2 ≤ kc + 8 → ks2 ≤ ks + 48 → RR M2 M2 → M2 956 2 = 1 → GW l C qLW d Q gN kc2 ks2 2623 [(4, .int (nI i)), (0, .retAddr 3000), (1, .ref 0), (2, .ref 464), (3, .ref 956)] [] (956, g_S0, M2, sz2)) : GW l C qLW d Q gN kc ks 2547 [(4, .int (nI i)), (0, .retAddr 3000), (1, .ref 0), (2, .ref 464), (3, .ref 956)] [] (956, g_S0, M, sz) := by
  have vj : ∀ j, j < 8 → vp_in (nI i + nI j) L := fun j hj => by rw [nI_add]; exact vp_in_nI (by omega) (by omega)
  refine gb_run 1 (pc2 := 2548) (ls2 := [(4, .int (nI i)), (0, .retAddr 3000), (1, .ref 0), (2, .ref 464), (3, .ref 956)]) (st2 := [.ref 0]) (M2 := M) hC hqLW rfl ?_
  obtain ⟨v, M1, t, y1, y2, k4, k5⟩ := b_image hR
  refine gz_cV (z := qX11_image) (a := 0) (av := []) (rest := []) (pl := 625) hC hqLW rfl kX11_image sX11_image (by decide +kernel) (c_FX_image hC M sz (d - 1) (by omega) (v, M1) y1) (by omega) ⟨rfl, rfl⟩ rfl (Nat.le_of_ble_eq_true rfl) (by decide) rfl rfl rfl (Nat.le_of_ble_eq_true rfl) ⟨by show kc ≤ 601024; omega, by show ks ≤ 7293034; omega⟩ (gs_I ?_)
  refine gb_run 1 (pc2 := 2552) (ls2 := [(4, .int (nI i)), (0, .retAddr 3000), (1, .ref 0), (2, .ref 464), (3, .ref 956)]) (st2 := [.ref 464, .int v]) (M2 := M1) hC hqLW rfl ?_
  refine gz_cV (z := qX12_image) (a := 464) (av := []) (rest := [.int v]) (pl := 1936) hC hqLW rfl kX12_image sX12_image (by decide +kernel) (c_FM_image hC M1 sz (d - 1) (by omega) (v, t) y2) (by omega) ⟨rfl, rfl⟩ rfl (Nat.le_of_ble_eq_true rfl) (by decide) rfl rfl rfl (Nat.le_of_ble_eq_true rfl) ⟨by show kc ≤ 601024; omega, by show ks ≤ 7293034; omega⟩ (gs_I ?_)
  refine gb_icmp_eq hqLW rfl (fun _ => ?_) (fun q => absurd rfl q)
  refine gw_pick [0, 1, 2, 3, 4] (ls2 := [(4, .int (nI i)), (0, .retAddr 3000), (1, .ref 0), (2, .ref 464), (3, .ref 956)]) rfl ?_
  exact K t _ _ _ (by omega) (by omega) k4 (by rw [k5]; exact h2)

set_option maxRecDepth 20000 in
theorem lc_38 {l : Launch} {C : gC} {L : Nat} {xs : Nat → Int32} (hC : g_ctx l C) (hL : g_cl C L xs) {Q : Option Value → gX → Prop} {i kc ks sz d : Nat} (hd : 60 ≤ d) (hL4 : L ≤ 4096) (hi : i + 8 ≤ L) (hkc : kc + 8 ≤ 601024) (hks : ks + 48 ≤ 7293034) {M : gM} (hR : RR M M) (h2 : M 956 2 = 1) (K : ∀ (M2 : gM) (sz2 kc2 ks2 : Nat), kc2 ≤ kc + 8 → ks2 ≤ ks + 48 → RR M2 M2 → M2 956 2 = 1 → GW l C qLW d Q gN kc2 ks2 2623 [(4, .int (nI i)), (0, .retAddr 3000), (1, .ref 0), (2, .ref 464), (3, .ref 956)] [] (956, g_S0, M2, sz2)) : GW l C qLW d Q gN kc ks 2560 [(4, .int (nI i)), (0, .retAddr 3000), (1, .ref 0), (2, .ref 464), (3, .ref 956)] [] (956, g_S0, M, sz) := by
  have vj : ∀ j, j < 8 → vp_in (nI i + nI j) L := fun j hj => by rw [nI_add]; exact vp_in_nI (by omega) (by omega)
  refine gb_run 1 (pc2 := 2561) (ls2 := [(4, .int (nI i)), (0, .retAddr 3000), (1, .ref 0), (2, .ref 464), (3, .ref 956)]) (st2 := [.ref 0]) (M2 := M) hC hqLW rfl ?_
  obtain ⟨v, M1, t, y1, y2, k4, k5⟩ := b_restore hR
  refine gz_cV (z := qX11_restore) (a := 0) (av := []) (rest := []) (pl := 633) hC hqLW rfl kX11_restore sX11_restore (by decide +kernel) (c_FX_restore hC M sz (d - 1) (by omega) (v, M1) y1) (by omega) ⟨rfl, rfl⟩ rfl (Nat.le_of_ble_eq_true rfl) (by decide) rfl rfl rfl (Nat.le_of_ble_eq_true rfl) ⟨by show kc ≤ 601024; omega, by show ks ≤ 7293034; omega⟩ (gs_I ?_)
  refine gb_run 1 (pc2 := 2565) (ls2 := [(4, .int (nI i)), (0, .retAddr 3000), (1, .ref 0), (2, .ref 464), (3, .ref 956)]) (st2 := [.ref 464, .int v]) (M2 := M1) hC hqLW rfl ?_
  refine gz_cV (z := qX12_restore) (a := 464) (av := []) (rest := [.int v]) (pl := 1948) hC hqLW rfl kX12_restore sX12_restore (by decide +kernel) (c_FM_restore hC M1 sz (d - 1) (by omega) (v, t) y2) (by omega) ⟨rfl, rfl⟩ rfl (Nat.le_of_ble_eq_true rfl) (by decide) rfl rfl rfl (Nat.le_of_ble_eq_true rfl) ⟨by show kc ≤ 601024; omega, by show ks ≤ 7293034; omega⟩ (gs_I ?_)
  refine gb_icmp_eq hqLW rfl (fun _ => ?_) (fun q => absurd rfl q)
  refine gw_pick [0, 1, 2, 3, 4] (ls2 := [(4, .int (nI i)), (0, .retAddr 3000), (1, .ref 0), (2, .ref 464), (3, .ref 956)]) rfl ?_
  exact K t _ _ _ (by omega) (by omega) k4 (by rw [k5]; exact h2)

set_option maxRecDepth 20000 in
theorem lc_39 {l : Launch} {C : gC} {L : Nat} {xs : Nat → Int32} (hC : g_ctx l C) (hL : g_cl C L xs) {Q : Option Value → gX → Prop} {i kc ks sz d : Nat} (hd : 60 ≤ d) (hL4 : L ≤ 4096) (hi : i + 8 ≤ L) (hkc : kc + 8 ≤ 601024) (hks : ks + 48 ≤ 7293034) {M : gM} (hR : RR M M) (h2 : M 956 2 = 1) (K : ∀ (M2 : gM) (sz2 kc2 ks2 : Nat), kc2 ≤ kc + 8 → ks2 ≤ ks + 48 → RR M2 M2 → M2 956 2 = 1 → GW l C qLW d Q gN kc2 ks2 2623 [(4, .int (nI i)), (0, .retAddr 3000), (1, .ref 0), (2, .ref 464), (3, .ref 956)] [] (956, g_S0, M2, sz2)) : GW l C qLW d Q gN kc ks 2573 [(4, .int (nI i)), (0, .retAddr 3000), (1, .ref 0), (2, .ref 464), (3, .ref 956)] [] (956, g_S0, M, sz) := by
  have vj : ∀ j, j < 8 → vp_in (nI i + nI j) L := fun j hj => by rw [nI_add]; exact vp_in_nI (by omega) (by omega)
  obtain ⟨x1, hx1⟩ : ∃ y, y = xs (nI i + 1).toNatClampNeg := ⟨_, rfl⟩
  refine gb_run 5 (pc2 := 2579) (ls2 := [(4, .int (nI i)), (0, .retAddr 3000), (1, .ref 0), (2, .ref 464), (3, .ref 956)]) (st2 := [.int (nI i + 1), .retAddr 3000, .ref 0]) (M2 := M) hC hqLW rfl ?_
  refine gw_xld hL (vj 1 (by decide)) (g_dec hqLW (q := (.iaload, 0, 0, 0)) rfl).1 ?_
  rw [← hx1]
  obtain ⟨v, t, y1, y2, k4, k5⟩ := b_status x1 hR
  have y1 : FX_status x1 M = v := Option.some.inj y1
  refine gz_cV (z := qX11_status) (a := 0) (av := [.int x1]) (rest := []) (pl := 637) hC hqLW rfl kX11_status sX11_status (by decide +kernel) (c_FX_status hC x1 M sz (d - 1) (by omega)) (by omega) ⟨rfl, rfl⟩ rfl (Nat.le_of_ble_eq_true rfl) (by decide) rfl rfl rfl (Nat.le_of_ble_eq_true rfl) ⟨by show kc ≤ 601024; omega, by show ks ≤ 7293034; omega⟩ (gs_Ip ?_)
  rw [y1]
  refine gb_run 5 (pc2 := 2589) (ls2 := [(4, .int (nI i)), (0, .retAddr 3000), (1, .ref 0), (2, .ref 464), (3, .ref 956)]) (st2 := [.int (nI i + 1), .retAddr 3000, .ref 464, .int v]) (M2 := M) hC hqLW rfl ?_
  refine gw_xld hL (vj 1 (by decide)) (g_dec hqLW (q := (.iaload, 0, 0, 0)) rfl).1 ?_
  rw [← hx1]
  refine gz_cV (z := qX12_status) (a := 464) (av := [.int x1]) (rest := [.int v]) (pl := 1952) hC hqLW rfl kX12_status sX12_status (by decide +kernel) (c_FM_status hC x1 M sz (d - 1) (by omega) (v, t) y2) (by omega) ⟨rfl, rfl⟩ rfl (Nat.le_of_ble_eq_true rfl) (by decide) rfl rfl rfl (Nat.le_of_ble_eq_true rfl) ⟨by show kc ≤ 601024; omega, by show ks ≤ 7293034; omega⟩ (gs_I ?_)
  refine gb_icmp_eq hqLW rfl (fun _ => ?_) (fun q => absurd rfl q)
  refine gw_pick [0, 1, 2, 3, 4] (ls2 := [(4, .int (nI i)), (0, .retAddr 3000), (1, .ref 0), (2, .ref 464), (3, .ref 956)]) rfl ?_
  exact K t _ _ _ (by omega) (by omega) k4 (by rw [k5]; exact h2)

set_option maxRecDepth 20000 in
theorem lc_40 {l : Launch} {C : gC} {L : Nat} {xs : Nat → Int32} (hC : g_ctx l C) (hL : g_cl C L xs) {Q : Option Value → gX → Prop} {i kc ks sz d : Nat} (hd : 60 ≤ d) (hL4 : L ≤ 4096) (hi : i + 8 ≤ L) (hkc : kc + 8 ≤ 601024) (hks : ks + 48 ≤ 7293034) {M : gM} (hR : RR M M) (h2 : M 956 2 = 1) (K : ∀ (M2 : gM) (sz2 kc2 ks2 : Nat), kc2 ≤ kc + 8 → ks2 ≤ ks + 48 → RR M2 M2 → M2 956 2 = 1 → GW l C qLW d Q gN kc2 ks2 2623 [(4, .int (nI i)), (0, .retAddr 3000), (1, .ref 0), (2, .ref 464), (3, .ref 956)] [] (956, g_S0, M2, sz2)) : GW l C qLW d Q gN kc ks 2598 [(4, .int (nI i)), (0, .retAddr 3000), (1, .ref 0), (2, .ref 464), (3, .ref 956)] [] (956, g_S0, M, sz) := by
  have vj : ∀ j, j < 8 → vp_in (nI i + nI j) L := fun j hj => by rw [nI_add]; exact vp_in_nI (by omega) (by omega)
  obtain ⟨x1, hx1⟩ : ∃ y, y = xs (nI i + 1).toNatClampNeg := ⟨_, rfl⟩
  refine gb_run 5 (pc2 := 2604) (ls2 := [(4, .int (nI i)), (0, .retAddr 3000), (1, .ref 0), (2, .ref 464), (3, .ref 956)]) (st2 := [.int (nI i + 1), .retAddr 3000, .ref 0]) (M2 := M) hC hqLW rfl ?_
  refine gw_xld hL (vj 1 (by decide)) (g_dec hqLW (q := (.iaload, 0, 0, 0)) rfl).1 ?_
  rw [← hx1]
  obtain ⟨v, t, y1, y2, k4, k5⟩ := b_count x1 hR
  have y1 : FX_count x1 M = v := Option.some.inj y1
  refine gz_cV (z := qX11_count) (a := 0) (av := [.int x1]) (rest := []) (pl := 641) hC hqLW rfl kX11_count sX11_count (by decide +kernel) (c_FX_count hC x1 M sz (d - 1) (by omega)) (by omega) ⟨rfl, rfl⟩ rfl (Nat.le_of_ble_eq_true rfl) (by decide) rfl rfl rfl (Nat.le_of_ble_eq_true rfl) ⟨by show kc ≤ 601024; omega, by show ks ≤ 7293034; omega⟩ (gs_Ip ?_)
  rw [y1]
  refine gb_run 5 (pc2 := 2614) (ls2 := [(4, .int (nI i)), (0, .retAddr 3000), (1, .ref 0), (2, .ref 464), (3, .ref 956)]) (st2 := [.int (nI i + 1), .retAddr 3000, .ref 464, .int v]) (M2 := M) hC hqLW rfl ?_
  refine gw_xld hL (vj 1 (by decide)) (g_dec hqLW (q := (.iaload, 0, 0, 0)) rfl).1 ?_
  rw [← hx1]
  refine gz_cV (z := qX12_count) (a := 464) (av := [.int x1]) (rest := [.int v]) (pl := 1956) hC hqLW rfl kX12_count sX12_count (by decide +kernel) (c_FM_count hC x1 M sz (d - 1) (by omega) (v, t) y2) (by omega) ⟨rfl, rfl⟩ rfl (Nat.le_of_ble_eq_true rfl) (by decide) rfl rfl rfl (Nat.le_of_ble_eq_true rfl) ⟨by show kc ≤ 601024; omega, by show ks ≤ 7293034; omega⟩ (gs_I ?_)
  refine gb_icmp_eq hqLW rfl (fun _ => ?_) (fun q => absurd rfl q)
  refine gw_pick [0, 1, 2, 3, 4] (ls2 := [(4, .int (nI i)), (0, .retAddr 3000), (1, .ref 0), (2, .ref 464), (3, .ref 956)]) rfl ?_
  exact K t _ _ _ (by omega) (by omega) k4 (by rw [k5]; exact h2)
