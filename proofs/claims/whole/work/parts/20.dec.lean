/-! What the decompiled functions need: taking a result apart, calls without cost, shapes of symbolic references. -/
theorem g_if1 {α : Type} {c : Prop} [Decidable c] {A B R : α} (h : c) (hr : (if c then A else B) = R) : A = R := (if_pos h).symm.trans hr
theorem g_if0 {α : Type} {c : Prop} [Decidable c] {A B R : α} (h : ¬ c) (hr : (if c then A else B) = R) : B = R := (if_neg h).symm.trans hr
def g_ix {α : Type} (i : Int32) (n : Nat) (f : Nat → Option α) : Option α := if i < 0 ∨ n ≤ i.toNatClampNeg then none else f i.toNatClampNeg
theorem g_ixo {α : Type} {i : Int32} {n : Nat} {f : Nat → Option α} {R : α} (hr : g_ix i n f = some R) : ∃ j, i.toNatClampNeg = j ∧ vp_in i n ∧ j < n ∧ f j = some R := by
  unfold g_ix at hr
  by_cases h : i < 0 ∨ n ≤ i.toNatClampNeg
  · rw [if_pos h] at hr; exact nomatch hr
  · rw [if_neg h] at hr; exact ⟨_, rfl, h, Nat.not_le.mp fun q => h (Or.inr q), hr⟩
theorem g_bd {α β : Type} {o : Option α} {f : α → Option β} {R : β} (hr : o.bind f = some R) : ∃ s, o = some s ∧ f s = some R := by
  cases o with
  | none => exact nomatch hr
  | some s => exact ⟨s, rfl, hr⟩
theorem g_nz {α : Type} {c : Prop} [Decidable c] {A : Option α} {R : α} (hr : (if c then none else A) = some R) : ¬ c ∧ A = some R := by
  by_cases h : c
  · rw [if_pos h] at hr; exact nomatch hr
  · rw [if_neg h] at hr; exact ⟨h, hr⟩
theorem g_zo {α : Type} {c : Prop} [Decidable c] {A : Option α} {R : α} (hr : (if c then A else none) = some R) : c ∧ A = some R := by
  by_cases h : c
  · rw [if_pos h] at hr; exact ⟨h, hr⟩
  · rw [if_neg h] at hr; exact nomatch hr
theorem gd_ne {x c : Int32} {z : Int} (hc : c.toInt = z) (h : ¬ x = c) : x.toInt ≠ z := fun q => h (Int32.toInt_inj.mp (q.trans hc.symm))
def g_let {α β : Type} (x : α) (f : α → β) : β := f x
theorem g_letP {α : Type} {x : gM} {f : gM → α} {R : α} {P : gM → Prop} (hr : g_let x f = R) (k : ∀ y, f y = R → P y) : P x := k x hr
def qI (R : Int32 × gM) : Option Value → gM → Prop := fun r M2 => r = some (.int R.1) ∧ M2 = R.2
def qZ (R : Int32 × gM) : Option Value → gM → Prop := fun r M2 => r = some (.int R.1) ∧ (R.1 = 0 ∨ R.1 = 1) ∧ M2 = R.2
def qJ (R : Int64 × gM) : Option Value → gM → Prop := fun r M2 => r = some (.long R.1) ∧ M2 = R.2
def qV (R : gM) : Option Value → gM → Prop := fun r M2 => r = none ∧ M2 = R
def qIp (M : gM) (x : Int32) : Option Value → gM → Prop := fun r M2 => r = some (.int x) ∧ M2 = M
def qZp (M : gM) (x : Int32) : Option Value → gM → Prop := fun r M2 => r = some (.int x) ∧ (x = 0 ∨ x = 1) ∧ M2 = M
def qJp (M : gM) (x : Int64) : Option Value → gM → Prop := fun r M2 => r = some (.long x) ∧ M2 = M
section GZ
variable {l : Launch} {C : gC} {y z : gY} {d d2 : Nat} {Q : Option Value → gX → Prop} {QX : String → gX → Prop} {kc ks pc : Nat} {ls ls2 : gL} {st : List Value} {n sz : Nat} {S : Nat → gT} {M : gM} {X : gX} {a1 a2 a3 : Nat}
theorem gs_I {R : Int32 × gM} (k : GW l C y d Q QX kc ks pc ls (.int R.1 :: st) (n, S, R.2, sz)) : ∀ r M2, qI R r M2 → GW l C y d Q QX kc ks pc ls (r.toList ++ st) (n, S, M2, sz) := by rintro r M2 ⟨rfl, rfl⟩; exact k
theorem gs_Z {R : Int32 × gM} (k : (R.1 = 0 ∨ R.1 = 1) → GW l C y d Q QX kc ks pc ls (.int R.1 :: st) (n, S, R.2, sz)) : ∀ r M2, qZ R r M2 → GW l C y d Q QX kc ks pc ls (r.toList ++ st) (n, S, M2, sz) := by rintro r M2 ⟨rfl, h, rfl⟩; exact k h
theorem gs_J {R : Int64 × gM} (k : GW l C y d Q QX kc ks pc ls (.long R.1 :: st) (n, S, R.2, sz)) : ∀ r M2, qJ R r M2 → GW l C y d Q QX kc ks pc ls (r.toList ++ st) (n, S, M2, sz) := by rintro r M2 ⟨rfl, rfl⟩; exact k
theorem gs_V {R : gM} (k : GW l C y d Q QX kc ks pc ls st (n, S, R, sz)) : ∀ r M2, qV R r M2 → GW l C y d Q QX kc ks pc ls (r.toList ++ st) (n, S, M2, sz) := by rintro r M2 ⟨rfl, rfl⟩; exact k
theorem gs_Ip {x : Int32} (k : GW l C y d Q QX kc ks pc ls (.int x :: st) (n, S, M, sz)) : ∀ r M2, qIp M x r M2 → GW l C y d Q QX kc ks pc ls (r.toList ++ st) (n, S, M2, sz) := by rintro r M2 ⟨rfl, rfl⟩; exact k
theorem gs_Zp {x : Int32} (k : (x = 0 ∨ x = 1) → GW l C y d Q QX kc ks pc ls (.int x :: st) (n, S, M, sz)) : ∀ r M2, qZp M x r M2 → GW l C y d Q QX kc ks pc ls (r.toList ++ st) (n, S, M2, sz) := by rintro r M2 ⟨rfl, h, rfl⟩; exact k h
theorem gs_Jp {x : Int64} (k : GW l C y d Q QX kc ks pc ls (.long x :: st) (n, S, M, sz)) : ∀ r M2, qJp M x r M2 → GW l C y d Q QX kc ks pc ls (r.toList ++ st) (n, S, M2, sz) := by rintro r M2 ⟨rfl, rfl⟩; exact k
theorem gl_I {v : Int32} {R : Int32 × gM} (hr : some (v, M) = some R) : gQg n S (qI R) sz (some (.int v)) (n, S, M, sz) := by cases hr; exact ⟨_, rfl, rfl, rfl⟩
theorem gl_Z {v : Int32} {R : Int32 × gM} (h : v = 0 ∨ v = 1) (hr : some (v, M) = some R) : gQg n S (qZ R) sz (some (.int v)) (n, S, M, sz) := by cases hr; exact ⟨_, rfl, rfl, h, rfl⟩
theorem gl_J {v : Int64} {R : Int64 × gM} (hr : some (v, M) = some R) : gQg n S (qJ R) sz (some (.long v)) (n, S, M, sz) := by cases hr; exact ⟨_, rfl, rfl, rfl⟩
theorem gl_V {R : gM} (hr : some M = some R) : gQg n S (qV R) sz none (n, S, M, sz) := by cases hr; exact ⟨_, rfl, rfl, rfl⟩
theorem gl_Ip {v R : Int32} (hr : some v = some R) : gQg n S (qIp M R) sz (some (.int v)) (n, S, M, sz) := by cases hr; exact ⟨_, rfl, rfl, rfl⟩
theorem gl_Zp {v R : Int32} (h : v = 0 ∨ v = 1) (hr : some v = some R) : gQg n S (qZp M R) sz (some (.int v)) (n, S, M, sz) := by cases hr; exact ⟨_, rfl, rfl, h, rfl⟩
theorem gl_Jp {v R : Int64} (hr : some v = some R) : gQg n S (qJp M R) sz (some (.long v)) (n, S, M, sz) := by cases hr; exact ⟨_, rfl, rfl, rfl⟩
theorem gl_It {v R : Int32} (hr : v = R) : gQg n S (qIp M R) sz (some (.int v)) (n, S, M, sz) := by cases hr; exact ⟨_, rfl, rfl, rfl⟩
theorem gl_Zt {v R : Int32} (h : v = 0 ∨ v = 1) (hr : v = R) : gQg n S (qZp M R) sz (some (.int v)) (n, S, M, sz) := by cases hr; exact ⟨_, rfl, rfl, h, rfl⟩
theorem gl_Jt {v R : Int64} (hr : v = R) : gQg n S (qJp M R) sz (some (.long v)) (n, S, M, sz) := by cases hr; exact ⟨_, rfl, rfl, rfl⟩
theorem gw_drop (h : ∀ q ∈ ls2, q ∈ ls) (k : GW l C y d Q QX kc ks pc ls2 st X) : GW l C y d Q QX kc ks pc ls st X := by
  intro p e s m args below meth c H locs la hc
  refine k p e s m args below meth c H locs la (hc.setL ?_)
  refine ⟨hc.lv.1, hc.lv.2.1, fun q hq => ?_⟩
  obtain ⟨q0, h0, rfl⟩ := List.mem_map.mp hq
  exact hc.lv.2.2 _ (List.mem_map.mpr ⟨q0, h q0 h0, rfl⟩)
/-- the locals that live on, by their places in the list -/
theorem gw_pick (is : List Nat) (h : is.filterMap (fun i => ls[i]?) = ls2) (k : GW l C y d Q QX kc ks pc ls2 st X) : GW l C y d Q QX kc ks pc ls st X :=
  gw_drop (fun q hq => by rw [← h] at hq; obtain ⟨i, -, hi⟩ := List.mem_filterMap.mp hq; exact List.mem_of_getElem? hi) k
theorem gz_iaload {a nn j : Nat} {rf : Nat → Nat} {i : Int32} (hC : g_ctx l C) (hy : g_yok y) (hq : g_cd y.2.2.2.2.2.2 pc = some (.iaload, a1, a2, a3)) (ha : a < n) (hS : S a = (20, nn, rf)) (hin : vp_in i nn) (hj : i.toNatClampNeg = j) (k : GW l C y d Q QX kc ks (pc + 1) ls (.int (M a j) :: st) (n, S, M, sz)) : GW l C y d Q QX kc ks pc ls (.int i :: .ref a :: st) (n, S, M, sz) := by
  subst hj; exact gb_iaload hC hy hq ha hS hin k
theorem gz_iastore {a nn j : Nat} {rf : Nat → Nat} {i x : Int32} (hC : g_ctx l C) (hy : g_yok y) (hq : g_cd y.2.2.2.2.2.2 pc = some (.iastore, a1, a2, a3)) (ha : a < n) (hS : S a = (20, nn, rf)) (hin : vp_in i nn) (hj : i.toNatClampNeg = j) (k : GW l C y d Q QX kc ks (pc + 1) ls st (n, S, g_set M a j x, sz)) : GW l C y d Q QX kc ks pc ls (.int x :: .int i :: .ref a :: st) (n, S, M, sz) := by
  subst hj; exact gb_iastore hC hy hq ha hS hin k
theorem gz_aaload {a nn k0 q j : Nat} {rf : Nat → Nat} {i : Int32} (hC : g_ctx l C) (hy : g_yok y) (hq : g_cd y.2.2.2.2.2.2 pc = some (.aaload, a1, a2, a3)) (ha : a < n) (hS : S a = (21 + k0, nn, rf)) (hk : k0 < 3) (hin : vp_in i nn) (hj : i.toNatClampNeg = j) (hr : rf j = q + 2) (k : GW l C y d Q QX kc ks (pc + 1) ls (.ref q :: st) (n, S, M, sz)) : GW l C y d Q QX kc ks pc ls (.int i :: .ref a :: st) (n, S, M, sz) := by
  subst hj; exact gb_aaload hC hy hq ha hS hk hin hr k
theorem gz_getr {a x N q : Nat} {rf : Nat → Nat} (hC : g_ctx l C) (hy : g_yok y) (hq : g_cd y.2.2.2.2.2.2 pc = some (.getfield x, a1, a2, a3)) (ha : a < n) (hS : S a = (a1, N, rf)) (hN : N = g_num a1) (hr : rf a2 = q + 2) (k : GW l C y d Q QX kc ks (pc + 3) ls (.ref q :: st) (n, S, M, sz)) : GW l C y d Q QX kc ks pc ls (.ref a :: st) (n, S, M, sz) :=
  gb_getf hC hy hq ha hS hN (by rw [hr]; exact k)
theorem gz_geti {a x N : Nat} {rf : Nat → Nat} (hC : g_ctx l C) (hy : g_yok y) (hq : g_cd y.2.2.2.2.2.2 pc = some (.getfield x, a1, a2, a3)) (ha : a < n) (hS : S a = (a1, N, rf)) (hN : N = g_num a1) (hr : rf a2 = 0) (k : GW l C y d Q QX kc ks (pc + 3) ls (.int (M a a2) :: st) (n, S, M, sz)) : GW l C y d Q QX kc ks pc ls (.ref a :: st) (n, S, M, sz) :=
  gb_getf hC hy hq ha hS hN (by rw [hr]; exact k)
theorem gz_putz {a x N : Nat} {rf : Nat → Nat} {v : Int32} (hC : g_ctx l C) (hy : g_yok y) (hq : g_cd y.2.2.2.2.2.2 pc = some (.putfield x, a1, a2, a3)) (ha : a < n) (hS : S a = (a1, N, rf)) (hN : N = g_num a1) (hr : rf a2 = 0) (h3 : a3 % 4 = 1) (hv : v = 0 ∨ v = 1) (k : GW l C y d Q QX kc ks (pc + 3) ls st (n, S, g_set M a a2 v, sz)) : GW l C y d Q QX kc ks pc ls (.int v :: .ref a :: st) (n, S, M, sz) := by
  obtain ⟨Cn, T, N2, h1, h2, h3', h4, h5, -, h7⟩ := g_okF_out (g_dec hy hq).2
  exact gw_putfield hC (g_dec hy hq).1 h1 h2 h3' h5 (h7 h3).2 (h7 h3).1 (by rcases hv with rfl | rfl <;> rfl) (by rcases hv with rfl | rfl <;> rfl) ha (by rw [hS, hN, ← h4]) hr k
theorem nI_back {i : Int32} {m j : Nat} (h : vp_in i m) (hj : i.toNatClampNeg = j) : nI j = i := by
  obtain ⟨q, hq, rfl⟩ := nI_of (fun q => h (Or.inl q))
  rw [nI_clamp hq] at hj; rw [hj]
theorem gz_char {rest : List Value} {idx pl j : Nat} {i : Int32} (hC : g_ctx l C) (k : Nat) (hk : k < 20) (hj : i.toNatClampNeg = j) (hi : vp_in i (g_len.getD k 0)) (hy : g_yok y) (hq : g_cd y.2.2.2.2.2.2 pc = some (.invokevirtual idx, a1, a2, a3)) (hlk : tables_1[pl]? = some (.methodLink y.1.cls idx yJ0_charAt_5068e)) (hrest : (rest.map fun v => v.category).sum ≤ 8) (hd : 5 ≤ d) (hc : kc ≤ y.2.2.2.2.1) (hs : ks ≤ y.2.2.2.2.2.1)
    (kk : GW l C y d Q QX kc ks (pc + 3) ls (.int (g_ch k j) :: rest) X) : GW l C y d Q QX kc ks pc ls (.int i :: .retAddr k :: rest) X := by
  rw [← nI_back hi hj]
  exact gb_char hC k j hk (by rw [← hj]; exact Nat.not_le.mp fun q => hi (Or.inr q)) hy hq hlk hrest hd hc hs kk
theorem gz_cV {a ci N idx na pl i j k0 : Nat} {T : u_T} {rf : Nat → Nat} {av rest : List Value} {Qz : Option Value → gM → Prop} (hC : g_ctx l C) (hy : g_yok y) (hq : g_cd y.2.2.2.2.2.2 pc = some (.invokevirtual idx, a1, a2, a3)) (hk : g_kI z i j k0 na) (hse : g_sel z) (hlk : tables_1[pl]? = some (.methodLink y.1.cls idx z.1)) (hM : gPg l C z d2 (.ref a :: av) n S M sz Qz) (hdd : d2 + 1 ≤ d) (hz : z.2.2.2.2.1 = 0 ∧ z.2.2.2.2.2.1 = 0)
    (hcl : vwCl[ci]? = some (z.1.cls, T, N)) (hci : ci < 20) (ha : a < n) (hS : S a = (ci, N, rf)) (hlen : av.length = na) (hst : st = av.reverse ++ .ref a :: rest) (hrest : (rest.map fun v => v.category).sum ≤ 8) (hcost : kc ≤ y.2.2.2.2.1 ∧ ks ≤ y.2.2.2.2.2.1)
    (kk : ∀ r M2, Qz r M2 → GW l C y d Q QX kc ks (pc + 3) ls (r.toList ++ rest) (n, S, M2, sz)) : GW l C y d Q QX kc ks pc ls st (n, S, M, sz) := by
  refine gb_cV hC hy hq hk hse hlk hM hdd hcl hci ha hS hlen hst hrest (by rw [hz.1, hz.2]; exact hcost) (fun _ _ q => q.elim) ?_
  rintro r X ⟨M2, rfl, h⟩
  rw [hz.1, hz.2]
  exact kk r M2 h
theorem gz_cVN {a ci N idx na pl i j k0 : Nat} {host : String} {T : u_T} {rf : Nat → Nat} {av rest : List Value} {Qz : Option Value → gM → Prop} (hC : g_ctx l C) (hy : g_yok y) (hq : g_cd y.2.2.2.2.2.2 pc = some (.invokevirtual idx, a1, a2, a3)) (hk : g_kI z i j k0 na) (hse : g_sel z) (hlk : tables_1[pl]? = some (.methodLinkNest y.1.cls idx z.1 host)) (hM : gPg l C z d2 (.ref a :: av) n S M sz Qz) (hdd : d2 + 1 ≤ d) (hz : z.2.2.2.2.1 = 0 ∧ z.2.2.2.2.2.1 = 0)
    (hcl : vwCl[ci]? = some (z.1.cls, T, N)) (hci : ci < 20) (ha : a < n) (hS : S a = (ci, N, rf)) (hlen : av.length = na) (hst : st = av.reverse ++ .ref a :: rest) (hrest : (rest.map fun v => v.category).sum ≤ 8) (hcost : kc ≤ y.2.2.2.2.1 ∧ ks ≤ y.2.2.2.2.2.1)
    (kk : ∀ r M2, Qz r M2 → GW l C y d Q QX kc ks (pc + 3) ls (r.toList ++ rest) (n, S, M2, sz)) : GW l C y d Q QX kc ks pc ls st (n, S, M, sz) := by
  refine gb_cVN hC hy hq hk hse hlk hM hdd hcl hci ha hS hlen hst hrest (by rw [hz.1, hz.2]; exact hcost) ?_
  rintro r X ⟨M2, rfl, h⟩
  rw [hz.1, hz.2]
  exact kk r M2 h
theorem gz_cS {idx na pl i j k0 : Nat} {av rest : List Value} {Qz : Option Value → gM → Prop} (hC : g_ctx l C) (hy : g_yok y) (hq : g_cd y.2.2.2.2.2.2 pc = some (.invokestatic idx, a1, a2, a3)) (hk : g_kS z i j k0 na) (hlk : tables_1[pl]? = some (.methodLink y.1.cls idx z.1)) (hM : gPg l C z d2 av n S M sz Qz) (hdd : d2 + 1 ≤ d) (hz : z.2.2.2.2.1 = 0 ∧ z.2.2.2.2.2.1 = 0)
    (hlen : av.length = na) (hst : st = av.reverse ++ rest) (hrest : (rest.map fun v => v.category).sum ≤ 8) (hcost : kc ≤ y.2.2.2.2.1 ∧ ks ≤ y.2.2.2.2.2.1)
    (kk : ∀ r M2, Qz r M2 → GW l C y d Q QX kc ks (pc + 3) ls (r.toList ++ rest) (n, S, M2, sz)) : GW l C y d Q QX kc ks pc ls st (n, S, M, sz) := by
  refine gb_cS hC hy hq hk hlk hM hdd hlen hst hrest (by rw [hz.1, hz.2]; exact hcost) (fun _ _ q => q.elim) ?_
  rintro r X ⟨M2, rfl, h⟩
  rw [hz.1, hz.2]
  exact kk r M2 h
theorem gz_cSN {idx na pl i j k0 : Nat} {host : String} {av rest : List Value} {Qz : Option Value → gM → Prop} (hC : g_ctx l C) (hy : g_yok y) (hq : g_cd y.2.2.2.2.2.2 pc = some (.invokestatic idx, a1, a2, a3)) (hk : g_kS z i j k0 na) (hlk : tables_1[pl]? = some (.methodLinkNest y.1.cls idx z.1 host)) (hM : gPg l C z d2 av n S M sz Qz) (hdd : d2 + 1 ≤ d) (hz : z.2.2.2.2.1 = 0 ∧ z.2.2.2.2.2.1 = 0)
    (hlen : av.length = na) (hst : st = av.reverse ++ rest) (hrest : (rest.map fun v => v.category).sum ≤ 8) (hcost : kc ≤ y.2.2.2.2.1 ∧ ks ≤ y.2.2.2.2.2.1)
    (kk : ∀ r M2, Qz r M2 → GW l C y d Q QX kc ks (pc + 3) ls (r.toList ++ rest) (n, S, M2, sz)) : GW l C y d Q QX kc ks pc ls st (n, S, M, sz) := by
  refine gb_cSN hC hy hq hk hlk hM hdd hlen hst hrest (by rw [hz.1, hz.2]; exact hcost) ?_
  rintro r X ⟨M2, rfl, h⟩
  rw [hz.1, hz.2]
  exact kk r M2 h
end GZ
abbrev g_ia (n : Nat) (S : Nat → gT) (a k : Nat) : Prop := a < n ∧ (S a).1 = 20 ∧ (S a).2.1 = k
abbrev g_St (n : Nat) (S : Nat → gT) (a : Nat) : Prop := (a < n ∧ (S a).1 = 8 ∧ (S a).2.1 = 12) ∧ (∀ k, k < 12 → (S a).2.2 k = if k < 5 then a + (1 + k) + 2 else 0) ∧ ∀ k, k < 5 → g_ia n S (a + (1 + k)) 8
abbrev g_Hi (n : Nat) (S : Nat → gT) (a : Nat) : Prop := (a < n ∧ (S a).1 = 3 ∧ (S a).2.1 = 3) ∧ ((S a).2.2 0 = a + 1 + 2 ∧ (S a).2.2 1 = a + 7 + 2 ∧ (S a).2.2 2 = 0) ∧ g_St n S (a + 1) ∧ (a + 7 < n ∧ (S (a + 7)).1 = 22 ∧ (S (a + 7)).2.1 = 16) ∧ ∀ j, j < 16 → (S (a + 7)).2.2 j = a + 8 + 6 * j + 2 ∧ g_St n S (a + 8 + 6 * j)
set_option maxRecDepth 20000 in
theorem g_t54 : ∀ j, j < 16 → (g_S0 54).2.2 j = 55 + 6 * j + 2 ∧ g_St 956 g_S0 (55 + 6 * j) := by decide +kernel
set_option maxRecDepth 20000 in
theorem g_t151 : ∀ j, j < 3 → (g_S0 151).2.2 j = 152 + 104 * j + 2 ∧ g_Hi 956 g_S0 (152 + 104 * j) := by
  intro j hj
  rcases (show j = 0 ∨ j = 1 ∨ j = 2 by omega) with rfl | rfl | rfl
  · exact ⟨by decide +kernel, by decide +kernel, by decide +kernel, by decide +kernel, by decide +kernel, by decide +kernel⟩
  · exact ⟨by decide +kernel, by decide +kernel, by decide +kernel, by decide +kernel, by decide +kernel, by decide +kernel⟩
  · exact ⟨by decide +kernel, by decide +kernel, by decide +kernel, by decide +kernel, by decide +kernel, by decide +kernel⟩
set_option maxRecDepth 20000 in
theorem g_h47 : g_Hi 956 g_S0 47 := ⟨by decide +kernel, by decide +kernel, by decide +kernel, by decide +kernel, by decide +kernel⟩
set_option maxRecDepth 20000 in
theorem g_t159 : ∀ j, j < 16 → (g_S0 159).2.2 j = 160 + 6 * j + 2 ∧ g_St 956 g_S0 (160 + 6 * j) := by decide +kernel
set_option maxRecDepth 20000 in
theorem g_t263 : ∀ j, j < 16 → (g_S0 263).2.2 j = 264 + 6 * j + 2 ∧ g_St 956 g_S0 (264 + 6 * j) := by decide +kernel
set_option maxRecDepth 20000 in
theorem g_t367 : ∀ j, j < 16 → (g_S0 367).2.2 j = 368 + 6 * j + 2 ∧ g_St 956 g_S0 (368 + 6 * j) := by decide +kernel
set_option maxRecDepth 20000 in
theorem g_t471 : ∀ j, j < 8 → (g_S0 471).2.2 j = 472 + j + 2 ∧ g_ia 956 g_S0 (472 + j) 2 := by decide +kernel
set_option maxRecDepth 20000 in
theorem g_t480 : ∀ j, j < 8 → (g_S0 480).2.2 j = 481 + j + 2 ∧ g_ia 956 g_S0 (481 + j) 2 := by decide +kernel
set_option maxRecDepth 20000 in
theorem g_t489 : ∀ j, j < 8 → (g_S0 489).2.2 j = 490 + j + 2 ∧ g_ia 956 g_S0 (490 + j) 2 := by decide +kernel
set_option maxRecDepth 20000 in
theorem g_t498 : ∀ j, j < 8 → (g_S0 498).2.2 j = 499 + j + 2 ∧ g_ia 956 g_S0 (499 + j) 2 := by decide +kernel
set_option maxRecDepth 20000 in
theorem g_t507 : ∀ j, j < 160 → (g_S0 507).2.2 j = 508 + j + 2 ∧ g_ia 956 g_S0 (508 + j) 2 := by decide +kernel
set_option maxRecDepth 20000 in
theorem g_t668 : ∀ j, j < 160 → (g_S0 668).2.2 j = 669 + j + 2 ∧ g_ia 956 g_S0 (669 + j) 2 := by decide +kernel
set_option maxRecDepth 20000 in
theorem g_t829 : ∀ j, j < 8 → (g_S0 829).2.2 j = 830 + j + 2 ∧ g_ia 956 g_S0 (830 + j) 2 := by decide +kernel
set_option maxRecDepth 20000 in
theorem g_t838 : ∀ j, j < 8 → (g_S0 838).2.2 j = 839 + j + 2 ∧ g_ia 956 g_S0 (839 + j) 2 := by decide +kernel
set_option maxRecDepth 20000 in
theorem g_t849 : ∀ j, j < 80 → (g_S0 849).2.2 j = 850 + j + 2 ∧ g_ia 956 g_S0 (850 + j) 4 := by decide +kernel
set_option maxRecDepth 20000 in
theorem g_t932 : ∀ j, j < 16 → (g_S0 932).2.2 j = 933 + j + 2 ∧ g_ia 956 g_S0 (933 + j) 48 := by decide +kernel
set_option maxRecDepth 20000 in
theorem g_t949 : ∀ j, j < 3 → (g_S0 949).2.2 j = 950 + j + 2 ∧ g_ia 956 g_S0 (950 + j) 817 := by decide +kernel
