/-! Who bowled which hoop, by what was heard; where to listen next. -/
/-- the minute in which a hoop comes to gate g -/
def ls (m : gM) (c h g : Nat) : Int32 := a_lasts m g c h 0 (m 930 45) (m 930 (16 + c))
/-- the first lines fit -/
def sg (m : gM) (c h : Nat) : Nat → Bool
  | 0 => true
  | k + 1 => sg m c h k && (ls m c h (m (830 + k) 0).toNatClampNeg == m (830 + k) 1)
theorem sg_mono {m : gM} {c h k : Nat} : ∀ n, k ≤ n → sg m c h n = true → sg m c h k = true := by
  intro n
  induction n with
  | zero => intro hk hs; rw [show k = 0 by omega]; exact hs
  | succ n ih =>
    intro hk hs
    by_cases e : k = n + 1
    · rw [e]; exact hs
    · exact ih (by omega) (Bool.and_eq_true_iff.mp hs).1
theorem eM_lasts {m M : gM} (h : eM m M) (hv : v_law m) {c k n : Nat} (hc : c < 8) (hn : n ≤ 8) (t r s : Int32) : a_lasts M n c k t r s = a_lasts m n c k t r s := a_sum_congr (fun w hw => eM_min h hv (by omega) hc _ _ _)
/-- the lines heard, on the model's side -/
def Ln (m : gM) (n : Nat) : Prop := n ≤ 8 ∧ m 464 33 = nI n ∧ ∀ k, k < n → ∃ g t, 1 ≤ g ∧ g < nW m ∧ t ≤ 999 ∧ m (830 + k) 0 = nI g ∧ m (830 + k) 1 = nI t
theorem m_isSung {m : gM} (hg : v_g m) (hl : v_law m) {n : Nat} (hn : Ln m n) {c h : Nat} (hc : c < nC m) (hh : h < nH m) : ∃ M2, FM_isSung (nI c) (nI h) m = some (if sg m c h n = true then 1 else 0, M2) ∧ eM0 m M2 := by
  obtain ⟨b1, b2, b3⟩ := hg.2.1
  obtain ⟨n8, n1, n2⟩ := hn
  have L : ∀ (q k : Nat), k + q = n → ∀ f, q < f → ∀ M, eM0 m M → sg m c h k = true → ∃ M2, FM_isSung_L2 (nI c) (nI h) f (nI k) M = some (if sg m c h n = true then 1 else 0, M2) ∧ eM0 m M2 := by
    intro q
    induction q with
    | zero =>
      intro k hk f hf M e hs
      obtain ⟨f, rfl⟩ : ∃ g, f = g + 1 := ⟨f - 1, by omega⟩
      have : k = n := by omega
      subst this
      rw [FM_isSung_L2, e 464 (by omega), n1, if_pos (Int32.le_refl _), if_pos hs]
      exact ⟨M, rfl, e⟩
    | succ q ih =>
      intro k hk f hf M e hs
      obtain ⟨f, rfl⟩ : ∃ g, f = g + 1 := ⟨f - 1, by omega⟩
      obtain ⟨g, t, g1, g2, t1, e1, e2⟩ := n2 k (by omega)
      rw [FM_isSung_L2, e 464 (by omega), n1, if_neg (nI_ge (show k < n by omega) (by omega)), ix_in (show k < 8 by omega) (by decide), e (830 + k) (by omega), e1]
      obtain ⟨M2, x1, x2⟩ := m_lastsBy (m := M) (eM_g e.eM hg) (eM_law e.eM hl) (n := g) (c := c) (h := h) (by rw [eM_W e.eM]; omega) (by rw [eM_C e.eM]; exact hc) (by rw [eM_H e.eM]; exact hh) 0
      have ev : a_lasts M g c h 0 (M 930 45) (M 930 (16 + c)) = ls m c h g := by
        rw [eM_lasts e.eM hl (by omega) (by omega), e 930 (by omega)]
        rfl
      rw [ev] at x1
      have e12 := e.trans x2
      rw [x1, Option.bind_some, ix_in (show k < 8 by omega) (by decide), nI_1]
      dsimp only
      have e30 : M2 (830 + k) 1 = m (830 + k) 1 := congrFun (e12 (830 + k) (by omega)) 1
      have sk : sg m c h (k + 1) = (ls m c h g == m (830 + k) 1) := by
        show (sg m c h k && (ls m c h (m (830 + k) 0).toNatClampNeg == m (830 + k) 1)) = _
        rw [hs, e1, nI_clamp (by omega), Bool.true_and]
      by_cases q0 : ls m c h g = m (830 + k) 1
      · rw [if_pos (by rw [e30]; exact q0)]
        exact ih (k + 1) (by omega) f (by omega) M2 e12 (by rw [sk, q0]; exact beq_self_eq_true _)
      · rw [if_neg (by rw [e30]; exact q0), if_neg]
        · exact ⟨M2, rfl, e12⟩
        · intro w
          have := sg_mono (k := k + 1) n (by omega) w
          rw [sk] at this
          exact q0 (eq_of_beq this)
  exact L n 0 (by omega) 1000 (by omega) m (eM0.rfl' m) rfl
theorem sg_iff {c m : gM} (hs : R_songs c m) (a h : Nat) {n : Nat} (hn : m 464 33 = nI n) (hn8 : n ≤ 8) (hW : nW m ≤ 8) : sg m a h n = true ↔ ∀ g, g < nW m → c 24 g = -1 ∨ c 24 g = ls m a h g := by
  obtain ⟨n2, q1, q2, q3, q4, q5⟩ := hs
  have : n2 = n := by
    rw [q2] at hn
    exact (nI_eq (by omega) (by omega)).mp hn
  subst this
  constructor
  · intro w g hg
    rcases q5 g (by omega) with e | ⟨k, k1, k2⟩
    · exact Or.inl e
    · right
      have h1 := sg_mono (k := k + 1) n2 (by omega) w
      have h2 : (ls m a h (m (830 + k) 0).toNatClampNeg == m (830 + k) 1) = true := (Bool.and_eq_true_iff.mp h1).2
      obtain ⟨g2, t, g3, g4, g5, g6, g7, g8⟩ := q4 k k1
      have eg : g2 = g := by
        rw [g6] at k2
        exact (nI_eq (by omega) (by omega)).mp k2
      subst eg
      have h3 := eq_of_beq h2
      rw [g6, nI_clamp (by omega), g7] at h3
      rw [g8, h3]
  · intro w
    have L : ∀ k, k ≤ n2 → sg m a h k = true := by
      intro k
      induction k with
      | zero => intro _; rfl
      | succ k ih =>
        intro hk
        obtain ⟨g2, t, g3, g4, g5, g6, g7, g8⟩ := q4 k (by omega)
        show (sg m a h k && (ls m a h (m (830 + k) 0).toNatClampNeg == m (830 + k) 1)) = true
        rw [ih (by omega), Bool.true_and, g6, nI_clamp (by omega), g7]
        rcases w g2 g4 with e | e
        · rw [g8] at e
          exact absurd e (nI_nm1 (by omega))
        · rw [← e, g8]
          exact beq_self_eq_true _
    exact L n2 (Nat.le_refl _)
theorem c_isRight {c m : gM} (hg : v_g m) (rg : r_g c m) (rl : r_law c m) (hs : R_songs c m) (rs : r_st c 48 (m 930)) {n : Nat} (hn : Ln m n) {a h : Nat} (ha : a < nC m) (hh : h < nH m) : ∃ M2, FU_isRight (nI a) (nI h) c = some (if sg m a h n = true then 1 else 0, M2) ∧ eC0 c M2 := by
  obtain ⟨b1, b2, b3⟩ := hg.2.1
  have key := sg_iff hs a h hn.2.1 hn.1 b1
  have ka := rs.1 a (by omega)
  have L : ∀ (q w : Nat), w + q = nW m → ∀ f, q < f → ∀ M, eC0 c M → (∀ g, g < w → c 24 g = -1 ∨ c 24 g = ls m a h g) → ∃ M2, FU_isRight_L6 (nI a) (nI h) f (ls m a h w) (nI w) M = some (if sg m a h n = true then 1 else 0, M2) ∧ eC0 c M2 := by
    intro q
    induction q with
    | zero =>
      intro w hw f hf M e hk
      obtain ⟨f, rfl⟩ : ∃ g, f = g + 1 := ⟨f - 1, by omega⟩
      have : w = nW m := by omega
      subst this
      rw [FU_isRight_L6, e.1 3 (by omega), rg.1.1, hg.1.1, if_pos (Int32.le_refl _), if_pos (key.mpr hk)]
      exact ⟨M, rfl, e⟩
    | succ q ih =>
      intro w hw f hf M e hk
      obtain ⟨f, rfl⟩ : ∃ g, f = g + 1 := ⟨f - 1, by omega⟩
      have J : (c 24 w = -1 ∨ c 24 w = ls m a h w) → ∃ M2, FU_isRight_J49 (nI a) (nI h) (FU_isRight_L6 (nI a) (nI h) f) (ls m a h w) (nI w) M = some (if sg m a h n = true then 1 else 0, M2) ∧ eC0 c M2 := by
        intro hx
        unfold FU_isRight_J49
        obtain ⟨M2, x1, x2⟩ := c_minutesOf hg (eC_g e.eC rg) (eC_law e.eC rl) (a := 48) (by decide) (by decide) (w := w) (by omega) ha hh (nI w)
        rw [x1, Option.bind_some, nI_1]
        dsimp only
        have ev : ls m a h w + a_min m w a h (FM_less 99 (nI w)) (M 48 10) (M (48 + 2) a) = ls m a h (w + 1) := by
          show _ = a_lasts m (w + 1) a h 0 (m 930 45) (m 930 (16 + a))
          rw [e.1 48 (by omega), e.1 (48 + 2) (by omega), rs.2.2.2.2.2.2.1, ka.2.2.1]
          show _ = a_sum _ w + a_min m w a h (FM_less 99 (0 + nI w)) (m 930 45) (m 930 (16 + a))
          rw [nI_00]
          rfl
        rw [ev]
        exact ih (w + 1) (by omega) f (by omega) M2 (e.trans x2) (fun g hg2 => by
          by_cases eg : g = w
          · rw [eg]; exact hx
          · exact hk g (by omega))
      rw [FU_isRight_L6, e.1 3 (by omega), rg.1.1, hg.1.1, if_neg (nI_ge (by omega) (by omega))]
      unfold FS_hasGate
      rw [e.1 24 (by omega), r_at_in _ (show w < 8 by omega) (by decide)]
      by_cases e1 : c 24 w = -1
      · rw [if_pos e1, if_pos rfl]
        exact J (Or.inl e1)
      · rw [if_neg e1, if_neg i10]
        by_cases e2 : c 24 w = ls m a h w
        · rw [if_pos e2]
          exact J (Or.inr e2)
        · rw [if_neg e2, if_neg]
          · exact ⟨M, rfl, e⟩
          · intro q0
            rcases key.mp q0 w (by omega) with e3 | e3
            · exact e1 e3
            · exact e2 e3
  exact L (nW m) 0 (by omega) 1000 (by omega) c (eC0.rfl' c) (fun g hg => absurd hg (by omega))
/-- the fitting pairs, in their order -/
def inn (P : Nat → Nat → Bool) (c : Nat) : Nat → List (Nat × Nat)
  | 0 => []
  | h + 1 => inn P c h ++ (if P c h = true then [(c, h)] else [])
def oul (P : Nat → Nat → Bool) (H : Nat) : Nat → List (Nat × Nat)
  | 0 => []
  | c + 1 => oul P H c ++ inn P c H
def nth (L : List (Nat × Nat)) (i : Nat) : Nat × Nat := L.getD i (0, 0)
theorem nth_app {L : List (Nat × Nat)} {l : List (Nat × Nat)} {i : Nat} (h : i < L.length) : nth (L ++ l) i = nth L i := by
  unfold nth
  rw [List.getD_eq_getElem?_getD, List.getD_eq_getElem?_getD, List.getElem?_append_left h]
theorem nth_last (L : List (Nat × Nat)) (x : Nat × Nat) : nth (L ++ [x]) L.length = x := by
  unfold nth
  rw [List.getD_eq_getElem?_getD, List.getElem?_append_right (Nat.le_refl _), Nat.sub_self]
  rfl
theorem inn_in {P : Nat → Nat → Bool} {c : Nat} : ∀ H, ∀ x ∈ inn P c H, x.1 = c ∧ x.2 < H := by
  intro H
  induction H with
  | zero => intro x hx; cases hx
  | succ H ih =>
    intro x hx
    rcases List.mem_append.mp hx with h | h
    · have := ih x h; exact ⟨this.1, by omega⟩
    · by_cases e : P c H = true
      · rw [if_pos e] at h
        have : x = (c, H) := List.mem_singleton.mp h
        rw [this]; exact ⟨rfl, by show H < H + 1; omega⟩
      · rw [if_neg e] at h; cases h
theorem oul_in {P : Nat → Nat → Bool} {H : Nat} : ∀ C, ∀ x ∈ oul P H C, x.1 < C ∧ x.2 < H := by
  intro C
  induction C with
  | zero => intro x hx; cases hx
  | succ C ih =>
    intro x hx
    rcases List.mem_append.mp hx with h | h
    · have := ih x h; exact ⟨by omega, this.2⟩
    · have := inn_in H x h; exact ⟨by omega, this.2⟩
theorem inn_len {P : Nat → Nat → Bool} {c : Nat} : ∀ H, (inn P c H).length ≤ H := by
  intro H
  induction H with
  | zero => exact Nat.le_refl _
  | succ H ih =>
    show (inn P c H ++ _).length ≤ H + 1
    rw [List.length_append]
    by_cases e : P c H = true
    · rw [if_pos e]; show _ + 1 ≤ _; omega
    · rw [if_neg e]; show _ + 0 ≤ _; omega
theorem oul_len {P : Nat → Nat → Bool} {H : Nat} : ∀ C, (oul P H C).length ≤ H * C := by
  intro C
  induction C with
  | zero => exact Nat.le_refl _
  | succ C ih =>
    show (oul P H C ++ inn P C H).length ≤ H * (C + 1)
    rw [List.length_append, Nat.mul_succ]
    have := inn_len (P := P) (c := C) H
    omega
theorem nth_mem {L : List (Nat × Nat)} {i : Nat} (h : i < L.length) : nth L i ∈ L := by
  unfold nth
  rw [List.getD_eq_getElem?_getD, List.getElem?_eq_getElem h]
  exact List.getElem_mem h
/-- the class's memory in its guessing -/
def eCg (c M : gM) : Prop := (∀ b, ¬ (b = 15 ∨ b = 18 ∨ (44 ≤ b ∧ b ≤ 46)) → M b = c b) ∧ M 15 3 = c 15 3 ∧ M 15 4 = c 15 4
theorem eCg.eC {c M : gM} (h : eCg c M) : eC c M := ⟨fun b hb => h.1 b (by omega), h.2⟩
theorem eCg_0 {c M M2 : gM} (h : eCg c M) (h2 : eC0 M M2) : eCg c M2 := ⟨fun b hb => (h2.1 b (by omega)).trans (h.1 b hb), h2.2.1.trans h.2.1, h2.2.2.trans h.2.2⟩
theorem eCg_set {c M : gM} (h : eCg c M) {a k : Nat} {x : Int32} (ha : 44 ≤ a ∧ a ≤ 46) : eCg c (g_set M a k x) := ⟨fun b hb => by rw [g_set_ne (by omega)]; exact h.1 b hb, by rw [g_set_ne (by omega)]; exact h.2.1, by rw [g_set_ne (by omega)]; exact h.2.2⟩
/-- the pairs of L are written -/
def FF (L : List (Nat × Nat)) (M : gM) : Prop := M 44 5 = nI L.length ∧ ∀ i, i < L.length → M 45 i = nI (10 * (nth L i).1 + (nth L i).2)
theorem R_songs_c {c M m : gM} (h : R_songs c m) (h1 : M 23 = c 23) (h2 : M 24 = c 24) : R_songs M m := R_songs_e h rfl rfl (fun _ _ => rfl) (by rw [h1]) h2
theorem c_findFits {c m : gM} (h0 : RR c m) {n : Nat} (hn : Ln m n) : okk (FU_findFits c) (fun s => eCg c s ∧ FF (oul (fun a h => sg m a h n) (nH m) (nC m)) s ∧ s 44 6 = if (oul (fun a h => sg m a h n) (nH m) (nC m)).length = 0 then -1 else nI (10 * (nth (oul (fun a h => sg m a h n) (nH m) (nC m)) 0).1 + (nth (oul (fun a h => sg m a h n) (nH m) (nC m)) 0).2)) := by
  obtain ⟨t1, t2, ⟨hg, rg⟩, ⟨hl, rl⟩, t7, t8, t9, t10⟩ := h0
  obtain ⟨b1, b2, b3⟩ := hg.2.1
  obtain ⟨P, eP⟩ : ∃ P : Nat → Nat → Bool, P = fun a h => sg m a h n := ⟨_, rfl⟩
  rw [← eP]
  have In : ∀ (c7 : Int32 → gM → Option gM) (a : Nat), a < nC m → (∀ M, eCg c M → FF (oul P (nH m) (a + 1)) M → okk (c7 (nI a + 1) M) (fun s => eCg c s ∧ FF (oul P (nH m) (nC m)) s ∧ s 44 6 = if (oul P (nH m) (nC m)).length = 0 then -1 else nI (10 * (nth (oul P (nH m) (nC m)) 0).1 + (nth (oul P (nH m) (nC m)) 0).2))) → ∀ (q h : Nat), h + q = nH m → ∀ f, q < f → ∀ M, eCg c M → FF (oul P (nH m) a ++ inn P a h) M → okk (FU_findFits_L20 c7 f (nI a) (nI h) M) (fun s => eCg c s ∧ FF (oul P (nH m) (nC m)) s ∧ s 44 6 = if (oul P (nH m) (nC m)).length = 0 then -1 else nI (10 * (nth (oul P (nH m) (nC m)) 0).1 + (nth (oul P (nH m) (nC m)) 0).2)) := by
    intro c7 a ha K q
    induction q with
    | zero =>
      intro h hh f hf M e hF
      obtain ⟨f, rfl⟩ : ∃ g, f = g + 1 := ⟨f - 1, by omega⟩
      have : h = nH m := by omega
      subst this
      rw [FU_findFits_L20, e.1 3 (by omega), rg.1.2.2.1, hg.1.2.2, if_pos (Int32.le_refl _)]
      exact K M e hF
    | succ q ih =>
      intro h hh f hf M e hF
      obtain ⟨f, rfl⟩ : ∃ g, f = g + 1 := ⟨f - 1, by omega⟩
      rw [FU_findFits_L20, e.1 3 (by omega), rg.1.2.2.1, hg.1.2.2, if_neg (nI_ge (by omega) (by omega)), nI_1]
      obtain ⟨M2, x1, x2⟩ := c_isRight (c := M) hg (eC_g e.eC rg) (eC_law e.eC rl) (R_songs_c t7 (e.1 23 (by omega)) (e.1 24 (by omega))) (r_st_m t8.2 (fun b u1 u2 => e.1 b (by omega))) hn (a := a) (h := h) ha (by omega)
      have eP2 : sg m a h n = P a h := by rw [eP]
      rw [eP2] at x1
      have e2 := eCg_0 e x2
      have hF2 : FF (oul P (nH m) a ++ inn P a h) M2 := ⟨by rw [x2.1 44 (by omega)]; exact hF.1, fun i hi => by rw [x2.1 45 (by omega)]; exact hF.2 i hi⟩
      rw [x1, Option.bind_some]
      dsimp only
      by_cases hp : P a h = true
      · have el : (oul P (nH m) a ++ inn P a h).length < 64 := by
          have h1 := oul_len (P := P) (H := nH m) a
          have h2 := inn_len (P := P) (c := a) h
          have h3 : nH m * a ≤ nH m * 7 := Nat.mul_le_mul_left _ (by omega)
          rw [List.length_append]
          omega
        have e3 : inn P a (h + 1) = inn P a h ++ [(a, h)] := by
          show inn P a h ++ (if P a h = true then [(a, h)] else []) = _
          rw [if_pos hp]
        rw [if_pos hp, if_neg i10, hF2.1, show (10 : Int32) = nI 10 from rfl, pk_mul, nI_add, r_put_in _ _ _ el (by decide)]
        refine okk_let (fun M5 e5 => ih (h + 1) (by omega) f (by omega) _ ?_ ?_)
        · rw [e5]; exact eCg_set (eCg_set e2 (by omega)) (by omega)
        · rw [e3, ← List.append_assoc]
          refine ⟨?_, fun i hi => ?_⟩
          · have l1 : (oul P (nH m) a ++ inn P a h ++ [(a, h)]).length = (oul P (nH m) a ++ inn P a h).length + 1 := by rw [List.length_append]; rfl
            rw [g_set_eq, e5, g_set_ne (by decide), hF2.1, nI_1, l1]
          · rw [g_set_ne (by decide), e5]
            by_cases ei : i = (oul P (nH m) a ++ inn P a h).length
            · rw [ei, g_set_eq, nth_last]
            · have : i < (oul P (nH m) a ++ inn P a h).length := by
                rw [List.length_append] at hi
                have : ([(a, h)] : List (Nat × Nat)).length = 1 := rfl
                omega
              rw [g_set_k ei, nth_app this]; exact hF2.2 i this
      · have e3 : inn P a (h + 1) = inn P a h := by
          show inn P a h ++ (if P a h = true then [(a, h)] else []) = _
          rw [if_neg hp, List.append_nil]
        rw [if_neg hp, if_pos rfl]
        exact ih (h + 1) (by omega) f (by omega) M2 e2 (by rw [e3]; exact hF2)
  have Out : ∀ (q a : Nat), a + q = nC m → ∀ f, q < f → ∀ M, eCg c M → FF (oul P (nH m) a) M → okk (FU_findFits_L7 f (nI a) M) (fun s => eCg c s ∧ FF (oul P (nH m) (nC m)) s ∧ s 44 6 = if (oul P (nH m) (nC m)).length = 0 then -1 else nI (10 * (nth (oul P (nH m) (nC m)) 0).1 + (nth (oul P (nH m) (nC m)) 0).2)) := by
    intro q
    induction q with
    | zero =>
      intro a ha f hf M e hF
      obtain ⟨f, rfl⟩ : ∃ g, f = g + 1 := ⟨f - 1, by omega⟩
      have : a = nC m := by omega
      subst this
      have h1 := oul_len (P := P) (H := nH m) (nC m)
      have h3 : nH m * nC m ≤ 8 * 8 := Nat.mul_le_mul b3 b2
      rw [FU_findFits_L7, e.1 3 (by omega), rg.1.2.1, hg.1.2.1, if_pos (Int32.le_refl _), hF.1]
      by_cases e0 : (oul P (nH m) (nC m)).length = 0
      · rw [if_pos (by rw [e0]; rfl)]
        refine okk_some ⟨eCg_set e (by omega), ⟨by rw [g_set_k (by decide)]; exact hF.1, fun i hi => by rw [g_set_ne (by decide)]; exact hF.2 i hi⟩, ?_⟩
        rw [g_set_eq, if_pos e0]
      · rw [if_neg (nI_ne0 (by omega) (by omega))]
        refine okk_some ⟨eCg_set e (by omega), ⟨by rw [g_set_k (by decide)]; exact hF.1, fun i hi => by rw [g_set_ne (by decide)]; exact hF.2 i hi⟩, ?_⟩
        rw [g_set_eq, if_neg e0, show (0 : Int32) = nI 0 from rfl, r_at_in _ (by decide) (by decide), hF.2 0 (by omega)]
    | succ q ih =>
      intro a ha f hf M e hF
      obtain ⟨f, rfl⟩ : ∃ g, f = g + 1 := ⟨f - 1, by omega⟩
      rw [FU_findFits_L7, e.1 3 (by omega), rg.1.2.1, hg.1.2.1, if_neg (nI_ge (by omega) (by omega))]
      exact In _ a (by omega) (fun M e hF => by rw [nI_1]; exact ih (a + 1) (by omega) f (by omega) M e hF) (nH m) 0 (by omega) 1000 (by omega) M e (by rw [show inn P a 0 = [] from rfl, List.append_nil]; exact hF)
  unfold FU_findFits
  exact Out (nC m) 0 (by omega) 1000 (by omega) _ (eCg_set ⟨fun _ _ => rfl, rfl, rfl⟩ (by omega)) ⟨by rw [g_set_eq]; rfl, fun i hi => absurd hi (by show ¬ i < 0; omega)⟩
theorem m_fits_L {m0 : gM} (hg : v_g m0) (hl : v_law m0) {n : Nat} (hn : Ln m0 n) (what : Int32) : ∀ (q a : Nat), a + q = nC m0 → ∀ f, q < f → ∀ M, eM0 m0 M → ∃ M2, FM_fits_L37 what f (nI (oul (fun a h => sg m0 a h n) (nH m0) a).length) (if (oul (fun a h => sg m0 a h n) (nH m0) a).length = 0 then -1 else nI (10 * (nth (oul (fun a h => sg m0 a h n) (nH m0) a) 0).1 + (nth (oul (fun a h => sg m0 a h n) (nH m0) a) 0).2)) (nI a) M = some (if what = 0 then nI (oul (fun a h => sg m0 a h n) (nH m0) (nC m0)).length else if (oul (fun a h => sg m0 a h n) (nH m0) (nC m0)).length = 0 then -1 else nI (10 * (nth (oul (fun a h => sg m0 a h n) (nH m0) (nC m0)) 0).1 + (nth (oul (fun a h => sg m0 a h n) (nH m0) (nC m0)) 0).2), M2) ∧ eM0 m0 M2 := by
  obtain ⟨b1, b2, b3⟩ := hg.2.1
  obtain ⟨P, eP⟩ : ∃ P : Nat → Nat → Bool, P = fun a h => sg m0 a h n := ⟨_, rfl⟩
  rw [← eP]
  obtain ⟨fst, efst⟩ : ∃ fst : List (Nat × Nat) → Int32, fst = fun L => if L.length = 0 then -1 else nI (10 * (nth L 0).1 + (nth L 0).2) := ⟨_, rfl⟩
  have efs : ∀ L : List (Nat × Nat), (if L.length = 0 then -1 else nI (10 * (nth L 0).1 + (nth L 0).2)) = fst L := fun L => by rw [efst]
  simp only [efs]
  intro q
  induction q with
  | zero =>
    intro a ha f hf M e
    obtain ⟨f, rfl⟩ : ∃ g, f = g + 1 := ⟨f - 1, by omega⟩
    have : a = nC m0 := by omega
    subst this
    rw [FM_fits_L37, e 468 (by omega), hg.1.2.1, if_pos (Int32.le_refl _)]
    by_cases e0 : what = 0
    · rw [if_pos e0, if_pos e0]; exact ⟨M, rfl, e⟩
    · rw [if_neg e0, if_neg e0]; exact ⟨M, rfl, e⟩
  | succ q ih =>
    intro a ha f hf M e
    obtain ⟨f, rfl⟩ : ∃ g, f = g + 1 := ⟨f - 1, by omega⟩
    rw [FM_fits_L37, e 468 (by omega), hg.1.2.1, if_neg (nI_ge (by omega) (by omega))]
    have In : ∀ (r h : Nat), h + r = nH m0 → ∀ fl, r < fl → ∀ M, eM0 m0 M → ∃ M2, FM_fits_L51 what (FM_fits_L37 what f) fl (nI (oul P (nH m0) a ++ inn P a h).length) (fst (oul P (nH m0) a ++ inn P a h)) (nI a) (nI h) M = some (if what = 0 then nI (oul P (nH m0) (nC m0)).length else fst (oul P (nH m0) (nC m0)), M2) ∧ eM0 m0 M2 := by
      intro r
      induction r with
      | zero =>
        intro h hh fl hfl M e
        obtain ⟨fl, rfl⟩ : ∃ g, fl = g + 1 := ⟨fl - 1, by omega⟩
        have : h = nH m0 := by omega
        subst this
        rw [FM_fits_L51, e 468 (by omega), hg.1.2.2, if_pos (Int32.le_refl _), nI_1]
        exact ih (a + 1) (by omega) f (by omega) M e
      | succ r ihr =>
        intro h hh fl hfl M e
        obtain ⟨fl, rfl⟩ : ∃ g, fl = g + 1 := ⟨fl - 1, by omega⟩
        rw [FM_fits_L51, e 468 (by omega), hg.1.2.2, if_neg (nI_ge (by omega) (by omega))]
        have hn2 : Ln M n := by
          obtain ⟨n1, n2, n3⟩ := hn
          refine ⟨n1, by rw [e 464 (by omega)]; exact n2, fun k hk => ?_⟩
          rw [e (830 + k) (by omega), eM_W e.eM]
          exact n3 k hk
        obtain ⟨M2, x1, x2⟩ := m_isSung (m := M) (eM_g e.eM hg) (eM_law e.eM hl) hn2 (c := a) (h := h) (by rw [eM_C e.eM]; omega) (by rw [eM_H e.eM]; omega)
        have es : sg M a h n = P a h := by
          rw [eP]
          have L : ∀ k, k ≤ n → sg M a h k = sg m0 a h k := by
            intro k
            induction k with
            | zero => intro _; rfl
            | succ k ihk =>
              intro hk
              obtain ⟨g, t, g1, g2, g3, g4, g5⟩ := hn.2.2 k (by omega)
              show (sg M a h k && (ls M a h (M (830 + k) 0).toNatClampNeg == M (830 + k) 1)) = (sg m0 a h k && (ls m0 a h (m0 (830 + k) 0).toNatClampNeg == m0 (830 + k) 1))
              have h8 := hn.1
              rw [ihk (by omega), e (830 + k) (by omega), g4, nI_clamp (by omega)]
              unfold ls
              rw [eM_lasts e.eM hl (by omega) (by omega), e 930 (by omega)]
          exact L n (Nat.le_refl _)
        rw [es] at x1
        have e2 := e.trans x2
        rw [x1, Option.bind_some]
        dsimp only
        by_cases hp : P a h = true
        · have e3 : inn P a (h + 1) = inn P a h ++ [(a, h)] := by
            show inn P a h ++ (if P a h = true then [(a, h)] else []) = _
            rw [if_pos hp]
          have el : (oul P (nH m0) a ++ inn P a h).length < 64 := by
            have h1 := oul_len (P := P) (H := nH m0) a
            have h2 := inn_len (P := P) (c := a) h
            have h3 : nH m0 * a ≤ nH m0 * 7 := Nat.mul_le_mul_left _ (by omega)
            rw [List.length_append]
            omega
          have I := ihr (h + 1) (by omega) fl (by omega) M2 e2
          rw [e3, ← List.append_assoc] at I
          rw [if_pos hp, if_neg i10, nI_1, nI_1]
          have l1 : (oul P (nH m0) a ++ inn P a h ++ [(a, h)]).length = (oul P (nH m0) a ++ inn P a h).length + 1 := by rw [List.length_append]; rfl
          rw [l1] at I
          by_cases e0 : (oul P (nH m0) a ++ inn P a h).length = 0
          · rw [if_pos (by rw [e0]; rfl), show (10 : Int32) = nI 10 from rfl, pk_mul, nI_add]
            have f1 : fst (oul P (nH m0) a ++ inn P a h ++ [(a, h)]) = nI (10 * a + h) := by
              rw [efst]
              show (if (oul P (nH m0) a ++ inn P a h ++ [(a, h)]).length = 0 then (-1 : Int32) else _) = _
              rw [if_neg (by omega)]
              have := nth_last (oul P (nH m0) a ++ inn P a h) (a, h)
              rw [e0] at this
              rw [this]
            rw [f1] at I
            exact I
          · rw [if_neg (nI_ne0 (by omega) (by omega))]
            have f1 : fst (oul P (nH m0) a ++ inn P a h ++ [(a, h)]) = fst (oul P (nH m0) a ++ inn P a h) := by
              rw [efst]
              show (if (oul P (nH m0) a ++ inn P a h ++ [(a, h)]).length = 0 then (-1 : Int32) else _) = (if (oul P (nH m0) a ++ inn P a h).length = 0 then (-1 : Int32) else _)
              rw [if_neg (by omega), if_neg e0, nth_app (by omega)]
            rw [f1] at I
            exact I
        · have e3 : inn P a (h + 1) = inn P a h := by
            show inn P a h ++ (if P a h = true then [(a, h)] else []) = _
            rw [if_neg hp, List.append_nil]
          have I := ihr (h + 1) (by omega) fl (by omega) M2 e2
          rw [e3] at I
          rw [if_neg hp, if_pos rfl, nI_1]
          exact I
    have I := In (nH m0) 0 (by omega) 1000 (by omega) M e
    rw [show inn P a 0 = [] from rfl, List.append_nil] at I
    exact I

theorem q_fits {c m : gM} (h : RR c m) (what : Int32) : qq 1 (FX_fits what c) (FM_fits what m) := by
  have h0 := RR_t h 0
  obtain ⟨m0, e0⟩ : ∃ y, y = g_set m 464 0 0 := ⟨_, rfl⟩
  rw [← e0] at h0
  have z0 : m0 464 0 = 0 := by rw [e0, g_set_eq]
  have hb := h0
  obtain ⟨t1, t2, ⟨hg, rg⟩, ⟨hl, rl⟩, t7, t8, t9, t10⟩ := hb
  have rs := t8.2
  have hv := t8.1.1
  unfold FX_fits FM_fits
  rw [← e0]
  rcases c_needIn c what 0 1 with ⟨f1, awhat, bwhat, x1⟩ | ⟨f1, x1⟩
  · refine qq_bX x1 (qq_tX rfl (qq_fM (by rw [f1]; decide) ?_))
    unfold FM_fits_J20
    refine qq_bM (m_bad0 z0 _ _) (qq_tM rfl ?_)
    dsimp only
    obtain ⟨n, n8, q2, q3, q4, q5⟩ := id t7
    have hn : Ln m0 n := ⟨n8, q2, fun k hk => by obtain ⟨g, t, g1, g2, g3, g4, g5, g6⟩ := q4 k hk; exact ⟨g, t, g1, g2, g3, g4, g5⟩⟩
    obtain ⟨c1, e1, f1, f2, f3⟩ := c_findFits h0 hn
    obtain ⟨m1, e2, g2⟩ := m_fits_L hg hl hn what (nC m0) 0 (by omega) 1000 (by have := hg.2.1.2.1; omega) m0 (eM0.rfl' m0)
    have e3 : FM_fits_L37 what 1000 (0 : Int32) (-1 : Int32) (0 : Int32) m0 = some _ := e2
    rw [e3]
    refine qq_bX e1 ?_
    have z1 : m1 464 0 = 0 := by rw [g2 464 (by omega)]; exact z0
    have r1 := RR_e h0 f1.eC g2.eM
    by_cases e0 : what = 0
    · rw [if_pos e0, if_pos e0]
      exact qq_v z1 r1 f2.1
    · rw [if_neg e0, if_neg e0]
      exact qq_v z1 r1 f3
  · refine qq_bX x1 (qq_fX n20 (qq_tM f1 ?_))
    unfold FM_fits_J20
    refine qq_bM (m_bad_il z0 (by decide)) (qq_fM i10 ?_)
    exact qq_il h0
