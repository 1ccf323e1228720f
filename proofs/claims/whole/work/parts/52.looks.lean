/-! Calls that only look: what the class answers and what the model answers. -/
theorem qq_bX {α β : Type} {ill : Int32} {o : Option β} {s : β} {f : β → Option (Nat × α × gM)} {fm : Option (α × gM)} (e : o = some s) (h : qq ill (f s) fm) : qq ill (o.bind f) fm := by rw [e]; exact h
theorem qq_bM {α β : Type} {ill : Int32} {o : Option β} {s : β} {f : β → Option (α × gM)} {fx : Option (Nat × α × gM)} (e : o = some s) (h : qq ill fx (f s)) : qq ill fx (o.bind f) := by rw [e]; exact h
theorem qq_tX {α : Type} {ill : Int32} {p : Prop} [Decidable p] {A B : Option (Nat × α × gM)} {fm : Option (α × gM)} (e : p) (h : qq ill A fm) : qq ill (if p then A else B) fm := by rw [if_pos e]; exact h
theorem qq_fX {α : Type} {ill : Int32} {p : Prop} [Decidable p] {A B : Option (Nat × α × gM)} {fm : Option (α × gM)} (e : ¬ p) (h : qq ill B fm) : qq ill (if p then A else B) fm := by rw [if_neg e]; exact h
theorem qq_tM {α : Type} {ill : Int32} {p : Prop} [Decidable p] {A B : Option (α × gM)} {fx : Option (Nat × α × gM)} (e : p) (h : qq ill fx A) : qq ill fx (if p then A else B) := by rw [if_pos e]; exact h
theorem qq_fM {α : Type} {ill : Int32} {p : Prop} [Decidable p] {A B : Option (α × gM)} {fx : Option (Nat × α × gM)} (e : ¬ p) (h : qq ill fx B) : qq ill fx (if p then A else B) := by rw [if_neg e]; exact h
theorem n10 : ¬ (1 : Nat) = 0 := by decide
theorem n20 : ¬ (2 : Nat) = 0 := by decide
theorem i10 : ¬ (1 : Int32) = 0 := by decide
theorem nd_W {c m : gM} (hg : v_g m) (rg : r_g c m) (v : Int32) : (FM_isWalk v m = 1 ∧ (∃ j, j < nW m ∧ v = nI j) ∧ FX_needOne v (c 3 5) c = some (0, c)) ∨ (FM_isWalk v m = 0 ∧ FX_needOne v (c 3 5) c = some (1, g_set c 0 16 (c 0 16 + 1))) := by
  unfold FM_isWalk
  rw [rg.1.1, hg.1.1]
  exact c_needOne c v hg.2.1.1
theorem nd_C {c m : gM} (hg : v_g m) (rg : r_g c m) (v : Int32) : (FM_isChild v m = 1 ∧ (∃ j, j < nC m ∧ v = nI j) ∧ FX_needOne v (c 3 6) c = some (0, c)) ∨ (FM_isChild v m = 0 ∧ FX_needOne v (c 3 6) c = some (1, g_set c 0 16 (c 0 16 + 1))) := by
  unfold FM_isChild
  rw [rg.1.2.1, hg.1.2.1]
  exact c_needOne c v hg.2.1.2.1
theorem nd_H {c m : gM} (hg : v_g m) (rg : r_g c m) (v : Int32) : (FM_isHoop v m = 1 ∧ (∃ j, j < nH m ∧ v = nI j) ∧ FX_needOne v (c 3 7) c = some (0, c)) ∨ (FM_isHoop v m = 0 ∧ FX_needOne v (c 3 7) c = some (1, g_set c 0 16 (c 0 16 + 1))) := by
  unfold FM_isHoop
  rw [rg.1.2.2.1, hg.1.2.2]
  exact c_needOne c v hg.2.1.2.2
theorem nd_bW {c m : gM} (rg : r_g c m) (v : Int32) : (FM_areWalks v m = 1 ∧ ¬ v < 0 ∧ v ≤ F_allOf (m 468 0) ∧ FX_needBits v (c 3 5) c = some (0, c)) ∨ (FM_areWalks v m = 0 ∧ FX_needBits v (c 3 5) c = some (2, g_set c 0 17 (c 0 17 + 1))) := by
  unfold FM_areWalks
  rw [rg.1.1]
  exact c_needBits c v _
theorem nd_bC {c m : gM} (rg : r_g c m) (v : Int32) : (FM_in v 0 (((1 : Int32) <<< ((m 468 1) &&& 31)) - (1 : Int32)) = 1 ∧ ¬ v < 0 ∧ v ≤ F_allOf (m 468 1) ∧ FX_needBits v (c 3 6) c = some (0, c)) ∨ (FM_in v 0 (((1 : Int32) <<< ((m 468 1) &&& 31)) - (1 : Int32)) = 0 ∧ FX_needBits v (c 3 6) c = some (2, g_set c 0 17 (c 0 17 + 1))) := by
  rw [rg.1.2.1]
  exact c_needBits c v _
theorem nd_bH {c m : gM} (rg : r_g c m) (v : Int32) : (FM_areHoops v m = 1 ∧ ¬ v < 0 ∧ v ≤ F_allOf (m 468 2) ∧ FX_needBits v (c 3 7) c = some (0, c)) ∨ (FM_areHoops v m = 0 ∧ FX_needBits v (c 3 7) c = some (2, g_set c 0 17 (c 0 17 + 1))) := by
  unfold FM_areHoops
  rw [rg.1.2.2.1]
  exact c_needBits c v _
theorem a_sum_0 {f : Nat → Int32} {n : Nat} : ∀ k, (∀ j, n ≤ j → j < n + k → f j = 0) → a_sum f (n + k) = a_sum f n := by
  intro k
  induction k with
  | zero => intro _; rfl
  | succ k ih =>
    intro h
    show a_sum f (n + k) + f (n + k) = a_sum f n
    rw [ih (fun j h1 h2 => h j h1 (by omega)), h (n + k) (by omega) (by omega), Int32.add_zero]
theorem c_fines {c : gM} {a : Nat} {r : Nat → Int32} (rs : r_st c a r) : FZ_fines a c = some (a_sum (fun k => r (24 + k)) 8) := by
  have L : ∀ (q i : Nat), i + q = 8 → ∀ f, q < f → FZ_fines_L4 a c f (a_sum (fun k => r (24 + k)) i) (nI i) = some (a_sum (fun k => r (24 + k)) 8) := by
    intro q
    induction q with
    | zero =>
      intro i hi f hf
      obtain ⟨f, rfl⟩ : ∃ g, f = g + 1 := ⟨f - 1, by omega⟩
      have : i = 8 := by omega
      subst this
      unfold FZ_fines_L4
      rw [if_pos (Int32.le_refl _)]
    | succ q ih =>
      intro i hi f hf
      obtain ⟨f, rfl⟩ : ∃ g, f = g + 1 := ⟨f - 1, by omega⟩
      unfold FZ_fines_L4
      rw [if_neg (nI_ge (by omega) (by omega)), ix_in (by omega) (by omega), nI_1, (rs.1 i (by omega)).2.2.2.1]
      exact ih (i + 1) (by omega) f (by omega)
  exact L 8 0 (by omega) 1000 (by omega)
theorem m_fines {m : gM} (hg : v_g m) {b : Nat} (hz : ∀ k, nC m ≤ k → k < 8 → m b (24 + k) = 0) : FM_finesIn b m = some (a_sum (fun k => m b (24 + k)) 8) := by
  obtain ⟨b1, b2, b3⟩ := hg.2.1
  have L : ∀ (q i : Nat), i + q = nC m → ∀ f, q < f → FM_finesIn_L4 b m f (a_sum (fun k => m b (24 + k)) i) (nI i) = some (a_sum (fun k => m b (24 + k)) (nC m)) := by
    intro q
    induction q with
    | zero =>
      intro i hi f hf
      obtain ⟨f, rfl⟩ : ∃ g, f = g + 1 := ⟨f - 1, by omega⟩
      have : i = nC m := by omega
      subst this
      unfold FM_finesIn_L4
      rw [if_pos (by rw [hg.1.2.1]; exact Int32.le_refl _)]
    | succ q ih =>
      intro i hi f hf
      obtain ⟨f, rfl⟩ : ∃ g, f = g + 1 := ⟨f - 1, by omega⟩
      unfold FM_finesIn_L4
      rw [if_neg (by rw [hg.1.2.1]; exact nI_ge (by omega) (by omega)), nI_24, ix_in (by omega) (by omega), nI_1]
      exact ih (i + 1) (by omega) f (by omega)
  unfold FM_finesIn
  rw [show (0 : Int32) = a_sum (fun k => m b (24 + k)) 0 from rfl, show a_sum (fun k => m b (24 + k)) 0 = nI 0 from rfl]
  have := L (nC m) 0 (by omega) 1000 (by omega)
  rw [show a_sum (fun k => m b (24 + k)) 0 = nI 0 from rfl] at this
  rw [this]
  obtain ⟨k, hk⟩ : ∃ k, nC m + k = 8 := ⟨8 - nC m, by omega⟩
  rw [← a_sum_0 (f := fun k => m b (24 + k)) k (fun j h1 h2 => hz j h1 (by omega)), hk]
/-- an or of numbers -/
def a_ors (f : Nat → Int32) : Nat → Int32
  | 0 => 0
  | n + 1 => a_ors f n ||| f n
theorem a_ors_0 {f : Nat → Int32} {n : Nat} : ∀ k, (∀ j, n ≤ j → j < n + k → f j = 0) → a_ors f (n + k) = a_ors f n := by
  intro k
  induction k with
  | zero => intro _; rfl
  | succ k ih =>
    intro h
    show a_ors f (n + k) ||| f (n + k) = a_ors f n
    rw [ih (fun j h1 h2 => h j h1 (by omega)), h (n + k) (by omega) (by omega), Int32.or_zero]
def a_his (r : Nat → Int32) (x : Int32) (k : Nat) : Int32 := if r k = x then (1 : Int32) <<< (nI k &&& 31) else 0
theorem c_hoopsOf {c : gM} {a : Nat} {r : Nat → Int32} (rs : r_st c a r) (x : Int32) : FZ_hoopsOf a x c = some (a_ors (a_his r x) 8) := by
  have L : ∀ (q i : Nat), i + q = 8 → ∀ f, q < f → FZ_hoopsOf_L4 a x c f (a_ors (a_his r x) i) (nI i) = some (a_ors (a_his r x) 8) := by
    intro q
    induction q with
    | zero =>
      intro i hi f hf
      obtain ⟨f, rfl⟩ : ∃ g, f = g + 1 := ⟨f - 1, by omega⟩
      have : i = 8 := by omega
      subst this
      unfold FZ_hoopsOf_L4
      rw [if_pos (Int32.le_refl _)]
    | succ q ih =>
      intro i hi f hf
      obtain ⟨f, rfl⟩ : ∃ g, f = g + 1 := ⟨f - 1, by omega⟩
      have hh := ih (i + 1) (by omega) f (by omega)
      rw [show a_ors (a_his r x) (i + 1) = a_ors (a_his r x) i ||| a_his r x i from rfl] at hh
      unfold FZ_hoopsOf_L4
      rw [if_neg (nI_ge (by omega) (by omega)), ix_in (by omega) (by omega), nI_1, (rs.1 i (by omega)).1]
      by_cases e : r i = x
      · rw [if_pos e]
        unfold a_his at hh
        rw [if_pos e] at hh
        exact hh
      · rw [if_neg e]
        rw [show a_his r x i = 0 from if_neg e, Int32.or_zero] at hh
        exact hh
  exact L 8 0 (by omega) 1000 (by omega)
theorem m_child_L {m : gM} (hg : v_g m) (x what : Int32) : ∀ (q i : Nat), i + q = nH m → ∀ f, q < f → FM_child_L57 x what f (a_ors (a_his (m 930) x) i) (nI i) m = FM_child_L57 x what 1 (a_ors (a_his (m 930) x) (nH m)) (nI (nH m)) m := by
  obtain ⟨b1, b2, b3⟩ := hg.2.1
  intro q
  induction q with
  | zero =>
    intro i hi f hf
    obtain ⟨f, rfl⟩ : ∃ g, f = g + 1 := ⟨f - 1, by omega⟩
    have : i = nH m := by omega
    subst this
    have e : m 468 2 ≤ nI (nH m) := by rw [hg.1.2.2]; exact Int32.le_refl _
    unfold FM_child_L57
    rw [if_pos e, if_pos e]
  | succ q ih =>
    intro i hi f hf
    obtain ⟨f, rfl⟩ : ∃ g, f = g + 1 := ⟨f - 1, by omega⟩
    rw [← ih (i + 1) (by omega) f (by omega)]
    rw [FM_child_L57, if_neg (by rw [hg.1.2.2]; exact nI_ge (by omega) (by omega)), nI_00, ix_in (by omega) (by omega), nI_1, show a_ors (a_his (m 930) x) (i + 1) = a_ors (a_his (m 930) x) i ||| a_his (m 930) x i from rfl]
    by_cases e : m 930 i = x
    · rw [if_pos e, show a_his (m 930) x i = (1 : Int32) <<< (nI i &&& 31) from if_pos e]
    · rw [if_neg e, show a_his (m 930) x i = 0 from if_neg e]
theorem nI_m1ne {k : Nat} (h : k < 8) : ¬ (-1 : Int32) = nI k := by
  rcases (show k = 0 ∨ k = 1 ∨ k = 2 ∨ k = 3 ∨ k = 4 ∨ k = 5 ∨ k = 6 ∨ k = 7 by omega) with rfl | rfl | rfl | rfl | rfl | rfl | rfl | rfl <;> decide
theorem a_ors_H {W C H : Nat} {r : Nat → Int32} (hv : v_row W C H r) (h8 : H ≤ 8) {k : Nat} (hk : k < 8) : a_ors (a_his r (nI k)) 8 = a_ors (a_his r (nI k)) H := by
  obtain ⟨q, hq⟩ : ∃ q, H + q = 8 := ⟨8 - H, by omega⟩
  rw [← hq]
  refine a_ors_0 q (fun j h1 h2 => ?_)
  unfold a_his
  rw [if_neg]
  rcases hv.1 j (by omega) with e | ⟨e, -⟩
  · rw [e]; exact nI_m1ne hk
  · omega

theorem q_told {c m : gM} (h : RR c m) (what : Int32) : qq 1 (FX_told what c) (FM_told what m) := by
  have h0 := RR_t h 0
  obtain ⟨m0, e0⟩ : ∃ y, y = g_set m 464 0 0 := ⟨_, rfl⟩
  rw [← e0] at h0
  have z0 : m0 464 0 = 0 := by rw [e0, g_set_eq]
  have hb := h0
  obtain ⟨t1, t2, ⟨hg, rg⟩, ⟨hl, rl⟩, t7, t8, t9, t10⟩ := hb
  have rs := t8.2
  have hv := t8.1.1
  unfold FX_told FM_told
  rw [← e0]
  rcases c_needIn c what 0 12 with ⟨f1, awhat, bwhat, x1⟩ | ⟨f1, x1⟩
  · refine qq_bX x1 (qq_tX rfl (qq_fM (by rw [f1]; decide) ?_))
    unfold FM_told_J21
    refine qq_bM (m_bad0 z0 _ _) (qq_tM rfl ?_)
    dsimp only
    obtain ⟨k, hk, rfl⟩ := nI_of2 (n := 12) (by decide) awhat bwhat
    rcases (show k = 0 ∨ k = 1 ∨ k = 2 ∨ k = 3 ∨ k = 4 ∨ k = 5 ∨ k = 6 ∨ k = 7 ∨ k = 8 ∨ k = 9 ∨ k = 10 ∨ k = 11 ∨ k = 12 by omega) with rfl | rfl | rfl | rfl | rfl | rfl | rfl | rfl | rfl | rfl | rfl | rfl | rfl
    · simp only [show ¬ nI 0 = (1 : Int32) from by decide, show ¬ nI 0 = (2 : Int32) from by decide, show ¬ nI 0 = (3 : Int32) from by decide, show ¬ nI 0 = (4 : Int32) from by decide, show ¬ nI 0 = (5 : Int32) from by decide, show ¬ nI 0 = (6 : Int32) from by decide, show ¬ nI 0 = (7 : Int32) from by decide, show ¬ nI 0 = (8 : Int32) from by decide, show ¬ nI 0 = (9 : Int32) from by decide, show ¬ nI 0 = (10 : Int32) from by decide, show ¬ nI 0 = (11 : Int32) from by decide, show ¬ nI 0 = (12 : Int32) from by decide, show (nI 0 = (0 : Int32)) = True from eq_true rfl, ↓reduceIte]
      rw [ix_in (by omega) (by omega)]
      exact qq_v z0 h0 rg.1.1
    · simp only [show ¬ nI 1 = (0 : Int32) from by decide, show ¬ nI 1 = (2 : Int32) from by decide, show ¬ nI 1 = (3 : Int32) from by decide, show ¬ nI 1 = (4 : Int32) from by decide, show ¬ nI 1 = (5 : Int32) from by decide, show ¬ nI 1 = (6 : Int32) from by decide, show ¬ nI 1 = (7 : Int32) from by decide, show ¬ nI 1 = (8 : Int32) from by decide, show ¬ nI 1 = (9 : Int32) from by decide, show ¬ nI 1 = (10 : Int32) from by decide, show ¬ nI 1 = (11 : Int32) from by decide, show ¬ nI 1 = (12 : Int32) from by decide, show (nI 1 = (1 : Int32)) = True from eq_true rfl, ↓reduceIte]
      rw [ix_in (by omega) (by omega)]
      exact qq_v z0 h0 rg.1.2.1
    · simp only [show ¬ nI 2 = (0 : Int32) from by decide, show ¬ nI 2 = (1 : Int32) from by decide, show ¬ nI 2 = (3 : Int32) from by decide, show ¬ nI 2 = (4 : Int32) from by decide, show ¬ nI 2 = (5 : Int32) from by decide, show ¬ nI 2 = (6 : Int32) from by decide, show ¬ nI 2 = (7 : Int32) from by decide, show ¬ nI 2 = (8 : Int32) from by decide, show ¬ nI 2 = (9 : Int32) from by decide, show ¬ nI 2 = (10 : Int32) from by decide, show ¬ nI 2 = (11 : Int32) from by decide, show ¬ nI 2 = (12 : Int32) from by decide, show (nI 2 = (2 : Int32)) = True from eq_true rfl, ↓reduceIte]
      rw [ix_in (by omega) (by omega)]
      exact qq_v z0 h0 rg.1.2.2.1
    · simp only [show ¬ nI 3 = (0 : Int32) from by decide, show ¬ nI 3 = (1 : Int32) from by decide, show ¬ nI 3 = (2 : Int32) from by decide, show ¬ nI 3 = (4 : Int32) from by decide, show ¬ nI 3 = (5 : Int32) from by decide, show ¬ nI 3 = (6 : Int32) from by decide, show ¬ nI 3 = (7 : Int32) from by decide, show ¬ nI 3 = (8 : Int32) from by decide, show ¬ nI 3 = (9 : Int32) from by decide, show ¬ nI 3 = (10 : Int32) from by decide, show ¬ nI 3 = (11 : Int32) from by decide, show ¬ nI 3 = (12 : Int32) from by decide, show (nI 3 = (3 : Int32)) = True from eq_true rfl, ↓reduceIte]
      exact qq_v z0 h0 rs.2.1
    · simp only [show ¬ nI 4 = (0 : Int32) from by decide, show ¬ nI 4 = (1 : Int32) from by decide, show ¬ nI 4 = (2 : Int32) from by decide, show ¬ nI 4 = (3 : Int32) from by decide, show ¬ nI 4 = (5 : Int32) from by decide, show ¬ nI 4 = (6 : Int32) from by decide, show ¬ nI 4 = (7 : Int32) from by decide, show ¬ nI 4 = (8 : Int32) from by decide, show ¬ nI 4 = (9 : Int32) from by decide, show ¬ nI 4 = (10 : Int32) from by decide, show ¬ nI 4 = (11 : Int32) from by decide, show ¬ nI 4 = (12 : Int32) from by decide, show (nI 4 = (4 : Int32)) = True from eq_true rfl, ↓reduceIte]
      exact qq_v z0 h0 rs.2.2.1
    · simp only [show ¬ nI 5 = (0 : Int32) from by decide, show ¬ nI 5 = (1 : Int32) from by decide, show ¬ nI 5 = (2 : Int32) from by decide, show ¬ nI 5 = (3 : Int32) from by decide, show ¬ nI 5 = (4 : Int32) from by decide, show ¬ nI 5 = (6 : Int32) from by decide, show ¬ nI 5 = (7 : Int32) from by decide, show ¬ nI 5 = (8 : Int32) from by decide, show ¬ nI 5 = (9 : Int32) from by decide, show ¬ nI 5 = (10 : Int32) from by decide, show ¬ nI 5 = (11 : Int32) from by decide, show ¬ nI 5 = (12 : Int32) from by decide, show (nI 5 = (5 : Int32)) = True from eq_true rfl, ↓reduceIte]
      exact qq_v z0 h0 rs.2.2.2.1
    · simp only [show ¬ nI 6 = (0 : Int32) from by decide, show ¬ nI 6 = (1 : Int32) from by decide, show ¬ nI 6 = (2 : Int32) from by decide, show ¬ nI 6 = (3 : Int32) from by decide, show ¬ nI 6 = (4 : Int32) from by decide, show ¬ nI 6 = (5 : Int32) from by decide, show ¬ nI 6 = (7 : Int32) from by decide, show ¬ nI 6 = (8 : Int32) from by decide, show ¬ nI 6 = (9 : Int32) from by decide, show ¬ nI 6 = (10 : Int32) from by decide, show ¬ nI 6 = (11 : Int32) from by decide, show ¬ nI 6 = (12 : Int32) from by decide, show (nI 6 = (6 : Int32)) = True from eq_true rfl, ↓reduceIte]
      exact qq_v z0 h0 rs.2.2.2.2.1
    · simp only [show ¬ nI 7 = (0 : Int32) from by decide, show ¬ nI 7 = (1 : Int32) from by decide, show ¬ nI 7 = (2 : Int32) from by decide, show ¬ nI 7 = (3 : Int32) from by decide, show ¬ nI 7 = (4 : Int32) from by decide, show ¬ nI 7 = (5 : Int32) from by decide, show ¬ nI 7 = (6 : Int32) from by decide, show ¬ nI 7 = (8 : Int32) from by decide, show ¬ nI 7 = (9 : Int32) from by decide, show ¬ nI 7 = (10 : Int32) from by decide, show ¬ nI 7 = (11 : Int32) from by decide, show ¬ nI 7 = (12 : Int32) from by decide, show (nI 7 = (7 : Int32)) = True from eq_true rfl, ↓reduceIte]
      exact qq_v z0 h0 rs.2.2.2.2.2.1
    · simp only [show ¬ nI 8 = (0 : Int32) from by decide, show ¬ nI 8 = (1 : Int32) from by decide, show ¬ nI 8 = (2 : Int32) from by decide, show ¬ nI 8 = (3 : Int32) from by decide, show ¬ nI 8 = (4 : Int32) from by decide, show ¬ nI 8 = (5 : Int32) from by decide, show ¬ nI 8 = (6 : Int32) from by decide, show ¬ nI 8 = (7 : Int32) from by decide, show ¬ nI 8 = (9 : Int32) from by decide, show ¬ nI 8 = (10 : Int32) from by decide, show ¬ nI 8 = (11 : Int32) from by decide, show ¬ nI 8 = (12 : Int32) from by decide, show (nI 8 = (8 : Int32)) = True from eq_true rfl, ↓reduceIte]
      exact qq_v z0 h0 rs.2.2.2.2.2.2.1
    · simp only [show ¬ nI 9 = (0 : Int32) from by decide, show ¬ nI 9 = (1 : Int32) from by decide, show ¬ nI 9 = (2 : Int32) from by decide, show ¬ nI 9 = (3 : Int32) from by decide, show ¬ nI 9 = (4 : Int32) from by decide, show ¬ nI 9 = (5 : Int32) from by decide, show ¬ nI 9 = (6 : Int32) from by decide, show ¬ nI 9 = (7 : Int32) from by decide, show ¬ nI 9 = (8 : Int32) from by decide, show ¬ nI 9 = (10 : Int32) from by decide, show ¬ nI 9 = (11 : Int32) from by decide, show ¬ nI 9 = (12 : Int32) from by decide, show (nI 9 = (9 : Int32)) = True from eq_true rfl, ↓reduceIte]
      rw [c_fines rs, m_fines hg hv.2.2.2.1]
      exact qq_ok z0 h0
    · simp only [show ¬ nI 10 = (0 : Int32) from by decide, show ¬ nI 10 = (1 : Int32) from by decide, show ¬ nI 10 = (2 : Int32) from by decide, show ¬ nI 10 = (3 : Int32) from by decide, show ¬ nI 10 = (4 : Int32) from by decide, show ¬ nI 10 = (5 : Int32) from by decide, show ¬ nI 10 = (6 : Int32) from by decide, show ¬ nI 10 = (7 : Int32) from by decide, show ¬ nI 10 = (8 : Int32) from by decide, show ¬ nI 10 = (9 : Int32) from by decide, show ¬ nI 10 = (11 : Int32) from by decide, show ¬ nI 10 = (12 : Int32) from by decide, show (nI 10 = (10 : Int32)) = True from eq_true rfl, ↓reduceIte]
      obtain ⟨n, n8, e1, e2, -⟩ := t7
      exact qq_v z0 h0 (e2.trans e1.symm)
    · simp only [show ¬ nI 11 = (0 : Int32) from by decide, show ¬ nI 11 = (1 : Int32) from by decide, show ¬ nI 11 = (2 : Int32) from by decide, show ¬ nI 11 = (3 : Int32) from by decide, show ¬ nI 11 = (4 : Int32) from by decide, show ¬ nI 11 = (5 : Int32) from by decide, show ¬ nI 11 = (6 : Int32) from by decide, show ¬ nI 11 = (7 : Int32) from by decide, show ¬ nI 11 = (8 : Int32) from by decide, show ¬ nI 11 = (9 : Int32) from by decide, show ¬ nI 11 = (10 : Int32) from by decide, show ¬ nI 11 = (12 : Int32) from by decide, show (nI 11 = (11 : Int32)) = True from eq_true rfl, ↓reduceIte]
      exact qq_v z0 h0 t2.2.1
    · simp only [show ¬ nI 12 = (0 : Int32) from by decide, show ¬ nI 12 = (1 : Int32) from by decide, show ¬ nI 12 = (2 : Int32) from by decide, show ¬ nI 12 = (3 : Int32) from by decide, show ¬ nI 12 = (4 : Int32) from by decide, show ¬ nI 12 = (5 : Int32) from by decide, show ¬ nI 12 = (6 : Int32) from by decide, show ¬ nI 12 = (7 : Int32) from by decide, show ¬ nI 12 = (8 : Int32) from by decide, show ¬ nI 12 = (9 : Int32) from by decide, show ¬ nI 12 = (10 : Int32) from by decide, show ¬ nI 12 = (11 : Int32) from by decide, show (nI 12 = (12 : Int32)) = True from eq_true rfl, ↓reduceIte]
      exact qq_v z0 h0 rs.2.2.2.2.2.2.2
  · refine qq_bX x1 (qq_fX n20 (qq_tM f1 ?_))
    unfold FM_told_J21
    refine qq_bM (m_bad_il z0 (by decide)) (qq_fM i10 ?_)
    exact qq_il h0

theorem q_walk {c m : gM} (h : RR c m) (w what : Int32) : qq 2 (FX_walk w what c) (FM_walk w what m) := by
  have h0 := RR_t h 0
  obtain ⟨m0, e0⟩ : ∃ y, y = g_set m 464 0 0 := ⟨_, rfl⟩
  rw [← e0] at h0
  have z0 : m0 464 0 = 0 := by rw [e0, g_set_eq]
  have hb := h0
  obtain ⟨t1, t2, ⟨hg, rg⟩, ⟨hl, rl⟩, t7, t8, t9, t10⟩ := hb
  have rs := t8.2
  have hv := t8.1.1
  unfold FX_walk FM_walk
  rw [← e0]
  rcases nd_W hg rg w with ⟨f1, ⟨jw, hw, rfl⟩, x1⟩ | ⟨f1, x1⟩
  · refine qq_bX x1 (qq_tX rfl (qq_fM (by rw [f1]; decide) ?_))
    unfold FM_walk_J19
    refine qq_bM (m_bad0 z0 _ _) (qq_tM rfl ?_)
    rcases c_needIn c what 0 1 with ⟨f2, awhat, bwhat, x2⟩ | ⟨f2, x2⟩
    · refine qq_bX x2 (qq_tX rfl (qq_fM (by rw [f2]; decide) ?_))
      unfold FM_walk_J42
      refine qq_bM (m_bad0 z0 _ _) (qq_tM rfl ?_)
      dsimp only
      obtain ⟨k, hk, rfl⟩ := nI_of2 (n := 1) (by decide) awhat bwhat
      rcases (show k = 0 ∨ k = 1 by omega) with rfl | rfl
      · simp only [show ¬ nI 0 = (1 : Int32) from by decide, show (nI 0 = (0 : Int32)) = True from eq_true rfl, ↓reduceIte]
        rw [r_at_in _ (show jw < 8 by have := hg.2.1.1; omega) (by decide), ix_in (show jw < 8 by have := hg.2.1.1; omega) (by decide), ix_in (by decide) (by decide)]
        exact qq_v z0 h0 (rg.2.1 jw hw).1
      · simp only [show ¬ nI 1 = (0 : Int32) from by decide, show (nI 1 = (1 : Int32)) = True from eq_true rfl, ↓reduceIte]
        rw [r_at_in _ (show jw < 8 by have := hg.2.1.1; omega) (by decide), ix_in (show jw < 8 by have := hg.2.1.1; omega) (by decide), ix_in (by decide) (by decide)]
        exact qq_v z0 h0 (rg.2.1 jw hw).2
    · refine qq_bX x2 (qq_fX n20 (qq_tM f2 ?_))
      unfold FM_walk_J42
      refine qq_bM (m_bad_il z0 (by decide)) (qq_fM i10 ?_)
      exact qq_il h0
  · refine qq_bX x1 (qq_fX n10 (qq_tM f1 ?_))
    unfold FM_walk_J19
    refine qq_bM (m_bad_no z0 (by decide)) (qq_fM i10 ?_)
    exact qq_no h0

theorem q_child {c m : gM} (h : RR c m) (cc what : Int32) : qq 2 (FX_child cc what c) (FM_child cc what m) := by
  have h0 := RR_t h 0
  obtain ⟨m0, e0⟩ : ∃ y, y = g_set m 464 0 0 := ⟨_, rfl⟩
  rw [← e0] at h0
  have z0 : m0 464 0 = 0 := by rw [e0, g_set_eq]
  have hb := h0
  obtain ⟨t1, t2, ⟨hg, rg⟩, ⟨hl, rl⟩, t7, t8, t9, t10⟩ := hb
  have rs := t8.2
  have hv := t8.1.1
  unfold FX_child FM_child
  rw [← e0]
  rcases nd_C hg rg cc with ⟨f1, ⟨jcc, hcc, rfl⟩, x1⟩ | ⟨f1, x1⟩
  · refine qq_bX x1 (qq_tX rfl (qq_fM (by rw [f1]; decide) ?_))
    unfold FM_child_J19
    refine qq_bM (m_bad0 z0 _ _) (qq_tM rfl ?_)
    rcases c_needIn c what 0 5 with ⟨f2, awhat, bwhat, x2⟩ | ⟨f2, x2⟩
    · refine qq_bX x2 (qq_tX rfl (qq_fM (by rw [f2]; decide) ?_))
      unfold FM_child_J42
      refine qq_bM (m_bad0 z0 _ _) (qq_tM rfl ?_)
      dsimp only
      have c8 : jcc < 8 := by have := hg.2.1.2.1; omega
      have kk := rs.1 jcc c8
      have hL := fun what => m_child_L hg (nI jcc) what (nH m0) 0 (by omega) 1000 (by have := hg.2.1.2.2; omega)
      refine qq_e rfl (hL what) ?_
      rw [FM_child_L57, if_pos (show m0 468 2 ≤ nI (nH m0) by rw [hg.1.2.2]; exact Int32.le_refl _)]
      obtain ⟨k, hk, rfl⟩ := nI_of2 (n := 5) (by decide) awhat bwhat
      rcases (show k = 0 ∨ k = 1 ∨ k = 2 ∨ k = 3 ∨ k = 4 ∨ k = 5 by omega) with rfl | rfl | rfl | rfl | rfl | rfl
      · simp only [show ¬ nI 0 = (1 : Int32) from by decide, show ¬ nI 0 = (2 : Int32) from by decide, show ¬ nI 0 = (3 : Int32) from by decide, show ¬ nI 0 = (4 : Int32) from by decide, show ¬ nI 0 = (5 : Int32) from by decide, show (nI 0 = (0 : Int32)) = True from eq_true rfl, ↓reduceIte]
        rw [r_at_in _ c8 (by decide), ix_in c8 (by decide), ix_in (by decide) (by decide)]
        exact qq_v z0 h0 (rg.2.2.1 jcc hcc).1
      · simp only [show ¬ nI 1 = (0 : Int32) from by decide, show ¬ nI 1 = (2 : Int32) from by decide, show ¬ nI 1 = (3 : Int32) from by decide, show ¬ nI 1 = (4 : Int32) from by decide, show ¬ nI 1 = (5 : Int32) from by decide, show (nI 1 = (1 : Int32)) = True from eq_true rfl, ↓reduceIte]
        rw [r_at_in _ c8 (by decide), ix_in c8 (by decide), ix_in (by decide) (by decide)]
        exact qq_v z0 h0 (rg.2.2.1 jcc hcc).2
      · simp only [show ¬ nI 2 = (0 : Int32) from by decide, show ¬ nI 2 = (1 : Int32) from by decide, show ¬ nI 2 = (3 : Int32) from by decide, show ¬ nI 2 = (4 : Int32) from by decide, show ¬ nI 2 = (5 : Int32) from by decide, show (nI 2 = (2 : Int32)) = True from eq_true rfl, ↓reduceIte]
        rw [r_at_in _ c8 (by decide), nI_8, ix_in (by omega) (by decide)]
        exact qq_v z0 h0 kk.2.1
      · simp only [show ¬ nI 3 = (0 : Int32) from by decide, show ¬ nI 3 = (1 : Int32) from by decide, show ¬ nI 3 = (2 : Int32) from by decide, show ¬ nI 3 = (4 : Int32) from by decide, show ¬ nI 3 = (5 : Int32) from by decide, show (nI 3 = (3 : Int32)) = True from eq_true rfl, ↓reduceIte]
        rw [r_at_in _ c8 (by decide), nI_16, ix_in (by omega) (by decide)]
        exact qq_v z0 h0 kk.2.2.1
      · simp only [show ¬ nI 4 = (0 : Int32) from by decide, show ¬ nI 4 = (1 : Int32) from by decide, show ¬ nI 4 = (2 : Int32) from by decide, show ¬ nI 4 = (3 : Int32) from by decide, show ¬ nI 4 = (5 : Int32) from by decide, show (nI 4 = (4 : Int32)) = True from eq_true rfl, ↓reduceIte]
        rw [r_at_in _ c8 (by decide), nI_24, ix_in (by omega) (by decide)]
        exact qq_v z0 h0 kk.2.2.2.1
      · simp only [show ¬ nI 5 = (0 : Int32) from by decide, show ¬ nI 5 = (1 : Int32) from by decide, show ¬ nI 5 = (2 : Int32) from by decide, show ¬ nI 5 = (3 : Int32) from by decide, show ¬ nI 5 = (4 : Int32) from by decide, show (nI 5 = (5 : Int32)) = True from eq_true rfl, ↓reduceIte]
        rw [c_hoopsOf rs, a_ors_H hv hg.2.1.2.2 c8]
        exact qq_ok z0 h0
    · refine qq_bX x2 (qq_fX n20 (qq_tM f2 ?_))
      unfold FM_child_J42
      refine qq_bM (m_bad_il z0 (by decide)) (qq_fM i10 ?_)
      exact qq_il h0
  · refine qq_bX x1 (qq_fX n10 (qq_tM f1 ?_))
    unfold FM_child_J19
    refine qq_bM (m_bad_no z0 (by decide)) (qq_fM i10 ?_)
    exact qq_no h0

theorem q_hoop {c m : gM} (h : RR c m) (hh what : Int32) : qq 2 (FX_hoop hh what c) (FM_hoop hh what m) := by
  have h0 := RR_t h 0
  obtain ⟨m0, e0⟩ : ∃ y, y = g_set m 464 0 0 := ⟨_, rfl⟩
  rw [← e0] at h0
  have z0 : m0 464 0 = 0 := by rw [e0, g_set_eq]
  have hb := h0
  obtain ⟨t1, t2, ⟨hg, rg⟩, ⟨hl, rl⟩, t7, t8, t9, t10⟩ := hb
  have rs := t8.2
  have hv := t8.1.1
  unfold FX_hoop FM_hoop
  rw [← e0]
  rcases nd_H hg rg hh with ⟨f1, ⟨jhh, hhh, rfl⟩, x1⟩ | ⟨f1, x1⟩
  · refine qq_bX x1 (qq_tX rfl (qq_fM (by rw [f1]; decide) ?_))
    unfold FM_hoop_J19
    refine qq_bM (m_bad0 z0 _ _) (qq_tM rfl ?_)
    rcases c_needIn c what 0 2 with ⟨f2, awhat, bwhat, x2⟩ | ⟨f2, x2⟩
    · refine qq_bX x2 (qq_tX rfl (qq_fM (by rw [f2]; decide) ?_))
      unfold FM_hoop_J42
      refine qq_bM (m_bad0 z0 _ _) (qq_tM rfl ?_)
      dsimp only
      have h8 : jhh < 8 := by have := hg.2.1.2.2; omega
      have kk := rs.1 jhh h8
      obtain ⟨k, hk, rfl⟩ := nI_of2 (n := 2) (by decide) awhat bwhat
      rcases (show k = 0 ∨ k = 1 ∨ k = 2 by omega) with rfl | rfl | rfl
      · simp only [show ¬ nI 0 = (1 : Int32) from by decide, show ¬ nI 0 = (2 : Int32) from by decide, show (nI 0 = (0 : Int32)) = True from eq_true rfl, ↓reduceIte]
        rw [r_at_in _ h8 (by decide), ix_in h8 (by decide)]
        exact qq_v z0 h0 (rg.2.2.2 jhh hhh)
      · simp only [show ¬ nI 1 = (0 : Int32) from by decide, show ¬ nI 1 = (2 : Int32) from by decide, show (nI 1 = (1 : Int32)) = True from eq_true rfl, ↓reduceIte]
        rw [r_at_in _ h8 (by decide), nI_00, ix_in (by omega) (by decide)]
        exact qq_v z0 h0 kk.1
      · simp only [show ¬ nI 2 = (0 : Int32) from by decide, show ¬ nI 2 = (1 : Int32) from by decide, show (nI 2 = (2 : Int32)) = True from eq_true rfl, ↓reduceIte]
        rw [r_at_in _ h8 (by decide), nI_32, ix_in (by omega) (by decide)]
        exact qq_v z0 h0 kk.2.2.2.2
    · refine qq_bX x2 (qq_fX n20 (qq_tM f2 ?_))
      unfold FM_hoop_J42
      refine qq_bM (m_bad_il z0 (by decide)) (qq_fM i10 ?_)
      exact qq_il h0
  · refine qq_bX x1 (qq_fX n10 (qq_tM f1 ?_))
    unfold FM_hoop_J19
    refine qq_bM (m_bad_no z0 (by decide)) (qq_fM i10 ?_)
    exact qq_no h0

theorem q_minutes {c m : gM} (h : RR c m) (w cc hh : Int32) : qq 1 (FX_minutes w cc hh c) (FM_minutes w cc hh m) := by
  have h0 := RR_t h 0
  obtain ⟨m0, e0⟩ : ∃ y, y = g_set m 464 0 0 := ⟨_, rfl⟩
  rw [← e0] at h0
  have z0 : m0 464 0 = 0 := by rw [e0, g_set_eq]
  have hb := h0
  obtain ⟨t1, t2, ⟨hg, rg⟩, ⟨hl, rl⟩, t7, t8, t9, t10⟩ := hb
  have rs := t8.2
  have hv := t8.1.1
  unfold FX_minutes FM_minutes
  rw [← e0]
  rcases nd_W hg rg w with ⟨f1, ⟨jw, hw, rfl⟩, x1⟩ | ⟨f1, x1⟩
  · refine qq_bX x1 (qq_tX rfl (qq_fM (by rw [f1]; decide) ?_))
    rcases nd_C hg rg cc with ⟨f2, ⟨jcc, hcc, rfl⟩, x2⟩ | ⟨f2, x2⟩
    · refine qq_bX x2 (qq_tX rfl (qq_fM (by rw [f2]; decide) ?_))
      rcases nd_H hg rg hh with ⟨f3, ⟨jhh, hhh, rfl⟩, x3⟩ | ⟨f3, x3⟩
      · refine qq_bX x3 (qq_tX rfl (qq_fM (by rw [f3]; decide) ?_))
        unfold FM_minutes_J35
        refine qq_bM (m_bad0 z0 _ _) (qq_tM rfl ?_)
        dsimp only
        have b1 := hg.2.1.1
        have b2 := hg.2.1.2.1
        have b3 := hg.2.1.2.2
        have kk := rs.1 jcc (by omega)
        obtain ⟨t, t99, et⟩ := hv.2.1 jcc (by omega)
        rw [r_at_in _ (show jcc < 8 by omega) (by decide), kk.2.1]
        obtain ⟨c1, x1, q1⟩ := c_minutesOf hg rg rl (a := 48) (by decide) (by decide) hw hcc hhh (m0 930 (8 + jcc))
        rw [x1]
        unfold FM_minutesOf
        rw [nI_8, nI_16, ix_in (by omega) (by decide), ix_in (by omega) (by decide)]
        obtain ⟨m1, y1, p1⟩ := m_minutesBy hg hl hw hcc hhh (m0 930 (8 + jcc)) (m0 930 45) (m0 930 (16 + jcc))
        rw [y1]
        simp only [Option.bind_some]
        refine qq_v (by rw [p1 464 (by decide)]; exact z0) (RR_e h0 q1.eC p1.eM) ?_
        rw [et, less_99 t99, rs.2.2.2.2.2.2.1, kk.2.2.1]
      · refine qq_bX x3 (qq_fX n10 (qq_tM f3 ?_))
        unfold FM_minutes_J30
        unfold FM_minutes_J35
        refine qq_bM (m_bad_no z0 (by decide)) (qq_fM i10 ?_)
        exact qq_no h0
    · refine qq_bX x2 (qq_fX n10 (qq_tM f2 ?_))
      unfold FM_minutes_J30
      unfold FM_minutes_J35
      refine qq_bM (m_bad_no z0 (by decide)) (qq_fM i10 ?_)
      exact qq_no h0
  · refine qq_bX x1 (qq_fX n10 (qq_tM f1 ?_))
    unfold FM_minutes_J30
    unfold FM_minutes_J35
    refine qq_bM (m_bad_no z0 (by decide)) (qq_fM i10 ?_)
    exact qq_no h0

theorem q_lasts {c m : gM} (h : RR c m) (hh cc : Int32) : qq 1 (FX_lasts hh cc c) (FM_lasts hh cc m) := by
  have h0 := RR_t h 0
  obtain ⟨m0, e0⟩ : ∃ y, y = g_set m 464 0 0 := ⟨_, rfl⟩
  rw [← e0] at h0
  have z0 : m0 464 0 = 0 := by rw [e0, g_set_eq]
  have hb := h0
  obtain ⟨t1, t2, ⟨hg, rg⟩, ⟨hl, rl⟩, t7, t8, t9, t10⟩ := hb
  have rs := t8.2
  have hv := t8.1.1
  unfold FX_lasts FM_lasts
  rw [← e0]
  rcases nd_H hg rg hh with ⟨f1, ⟨jhh, hhh, rfl⟩, x1⟩ | ⟨f1, x1⟩
  · refine qq_bX x1 (qq_tX rfl (qq_fM (by rw [f1]; decide) ?_))
    rcases nd_C hg rg cc with ⟨f2, ⟨jcc, hcc, rfl⟩, x2⟩ | ⟨f2, x2⟩
    · refine qq_bX x2 (qq_tX rfl (qq_fM (by rw [f2]; decide) ?_))
      unfold FM_lasts_J27
      refine qq_bM (m_bad0 z0 _ _) (qq_tM rfl ?_)
      dsimp only
      obtain ⟨c1, x1, q1⟩ := c_longOf hg rg rl (a := 48) (by decide) (by decide) rs hcc hhh
      obtain ⟨m1, y1, p1⟩ := m_longOf hg hl hcc hhh
      rw [x1, y1]
      simp only [Option.bind_some]
      exact qq_ok (by rw [p1 464 (by decide)]; exact z0) (RR_e h0 q1.eC p1.eM)
    · refine qq_bX x2 (qq_fX n10 (qq_tM f2 ?_))
      unfold FM_lasts_J22
      unfold FM_lasts_J27
      refine qq_bM (m_bad_no z0 (by decide)) (qq_fM i10 ?_)
      exact qq_no h0
  · refine qq_bX x1 (qq_fX n10 (qq_tM f1 ?_))
    unfold FM_lasts_J22
    unfold FM_lasts_J27
    refine qq_bM (m_bad_no z0 (by decide)) (qq_fM i10 ?_)
    exact qq_no h0

theorem q_would {c m : gM} (h : RR c m) (len pace age heavy tired rain bribe : Int32) : qq 1 (FX_would len pace age heavy tired rain bribe c) (FM_would len pace age heavy tired rain bribe m) := by
  have h0 := RR_t h 0
  obtain ⟨m0, e0⟩ : ∃ y, y = g_set m 464 0 0 := ⟨_, rfl⟩
  rw [← e0] at h0
  have z0 : m0 464 0 = 0 := by rw [e0, g_set_eq]
  have hb := h0
  obtain ⟨t1, t2, ⟨hg, rg⟩, ⟨hl, rl⟩, t7, t8, t9, t10⟩ := hb
  have rs := t8.2
  have hv := t8.1.1
  unfold FX_would FM_would
  rw [← e0]
  rcases c_needIn c len 1 20 with ⟨f1, alen, blen, x1⟩ | ⟨f1, x1⟩
  · refine qq_bX x1 (qq_tX rfl (qq_fM (by rw [f1]; decide) ?_))
    rcases c_needIn c pace 1 9 with ⟨f2, apace, bpace, x2⟩ | ⟨f2, x2⟩
    · refine qq_bX x2 (qq_tX rfl (qq_fM (by rw [f2]; decide) ?_))
      rcases c_needIn c age 3 14 with ⟨f3, aage, bage, x3⟩ | ⟨f3, x3⟩
      · refine qq_bX x3 (qq_tX rfl (qq_fM (by rw [f3]; decide) ?_))
        rcases c_needIn c heavy 1 9 with ⟨f4, aheavy, bheavy, x4⟩ | ⟨f4, x4⟩
        · refine qq_bX x4 (qq_tX rfl (qq_fM (by rw [f4]; decide) ?_))
          rcases c_needIn c tired 0 99 with ⟨f5, atired, btired, x5⟩ | ⟨f5, x5⟩
          · refine qq_bX x5 (qq_tX rfl (qq_fM (by rw [f5]; decide) ?_))
            rcases c_needIn c rain 0 1 with ⟨f6, arain, brain, x6⟩ | ⟨f6, x6⟩
            · refine qq_bX x6 (qq_tX rfl (qq_fM (by rw [f6]; decide) ?_))
              rcases c_needIn c bribe 0 99 with ⟨f7, abribe, bbribe, x7⟩ | ⟨f7, x7⟩
              · refine qq_bX x7 (qq_tX rfl (qq_fM (by rw [f7]; decide) ?_))
                unfold FM_would_J84
                refine qq_bM (m_bad0 z0 _ _) (qq_tM rfl ?_)
                dsimp only
                have hp : (1 : Int32) ≤ pace := Int32.not_lt.mp apace
                obtain ⟨M1, hM1⟩ : ∃ y, y = g_set (g_set (g_set (g_set (g_set (g_set (g_set (g_set (g_set c 15 5 len) 15 6 pace) 15 7 age) 15 8 heavy) 15 9 tired) 15 10 rain) 15 11 (0 : Int32)) 15 12 (0 : Int32)) 15 13 bribe := ⟨_, rfl⟩
                rw [← hM1]
                have f1 : ∀ b, b ≠ 15 → M1 b = c b := fun b hb => by rw [hM1]; simp only [g_set_ne hb]
                have f3 : M1 15 3 = c 15 3 := by rw [hM1]; rfl
                have f4 : M1 15 4 = c 15 4 := by rw [hM1]; rfl
                have k0 : M1 15 5 = len := by rw [hM1]; rfl
                have k1 : M1 15 6 = pace := by rw [hM1]; rfl
                have k2 : M1 15 7 = age := by rw [hM1]; rfl
                have k3 : M1 15 8 = heavy := by rw [hM1]; rfl
                have k4 : M1 15 9 = tired := by rw [hM1]; rfl
                have k5 : M1 15 10 = rain := by rw [hM1]; rfl
                have k6 : M1 15 11 = (0 : Int32) := by rw [hM1]; rfl
                have k7 : M1 15 12 = (0 : Int32) := by rw [hM1]; rfl
                have k8 : M1 15 13 = bribe := by rw [hM1]; rfl
                have rl2 : r_law M1 m0 := by
                  unfold r_law
                  rw [f3, f4, f1 16 (by decide), f1 17 (by decide)]
                  exact rl
                obtain ⟨M2, e2⟩ := c_outcome M1 m0 (fun j => M1 15 (5 + j)) rl2 (fun j _ => rfl) (by show (1 : Int32) ≤ M1 15 6; rw [k1]; exact hp)
                have w2 : ∀ b, ¬ b = 18 → M2 b = M1 b := w_FL_outcome M1 _ e2
                rw [e2]
                simp only [Option.bind_some, g_let]
                obtain ⟨N1, hN1⟩ : ∃ y, y = g_set (g_set (g_set (g_set (g_set (g_set (g_set (g_set (g_set m0 848 0 len) 848 1 pace) 848 2 age) 848 3 heavy) 848 4 tired) 848 5 rain) 848 6 (0 : Int32)) 848 7 (0 : Int32)) 848 8 bribe := ⟨_, rfl⟩
                rw [← hN1]
                have g1 : ∀ b, b ≠ 848 → N1 b = m0 b := fun b hb => by rw [hN1]; simp only [g_set_ne hb]
                have n0 : N1 848 0 = len := by rw [hN1]; rfl
                have n1 : N1 848 1 = pace := by rw [hN1]; rfl
                have n2 : N1 848 2 = age := by rw [hN1]; rfl
                have n3 : N1 848 3 = heavy := by rw [hN1]; rfl
                have n4 : N1 848 4 = tired := by rw [hN1]; rfl
                have n5 : N1 848 5 = rain := by rw [hN1]; rfl
                have n6 : N1 848 6 = (0 : Int32) := by rw [hN1]; rfl
                have n7 : N1 848 7 = (0 : Int32) := by rw [hN1]; rfl
                have n8 : N1 848 8 = bribe := by rw [hN1]; rfl
                have e : eM m0 N1 := eM.of (fun b hb => g1 b (by omega))
                have hk : ∀ j, j < 9 → N1 848 j = M1 15 (5 + j) := by
                  intro j hj
                  rcases (show j = 0 ∨ j = 1 ∨ j = 2 ∨ j = 3 ∨ j = 4 ∨ j = 5 ∨ j = 6 ∨ j = 7 ∨ j = 8 by omega) with rfl | rfl | rfl | rfl | rfl | rfl | rfl | rfl | rfl
                  · exact n0.trans k0.symm
                  · exact n1.trans k1.symm
                  · exact n2.trans k2.symm
                  · exact n3.trans k3.symm
                  · exact n4.trans k4.symm
                  · exact n5.trans k5.symm
                  · exact n6.trans k6.symm
                  · exact n7.trans k7.symm
                  · exact n8.trans k8.symm
                obtain ⟨N2, e3⟩ := m_byLaw N1 (fun j => M1 15 (5 + j)) (nL N1) (eM_law e hl).1 (eM_law e hl).2 hk (by show (1 : Int32) ≤ M1 15 6; rw [k1]; exact hp)
                have w3 : ∀ b, ¬ b = 847 → N2 b = N1 b := w_FM_byLaw N1 _ e3
                rw [e3]
                simp only [Option.bind_some]
                refine qq_v (by rw [w3 464 (by decide), g1 464 (by decide)]; exact z0) (RR_e h0 ⟨fun b hb => (w2 b (by omega)).trans (f1 b (by omega)), by rw [w2 15 (by decide), f3], by rw [w2 15 (by decide), f4]⟩ (eM.of (fun b hb => (w3 b (by omega)).trans (g1 b (by omega))))) ?_
                rw [eM_out e hl]
              · refine qq_bX x7 (qq_fX n20 (qq_tM f7 ?_))
                unfold FM_would_J79
                unfold FM_would_J84
                refine qq_bM (m_bad_il z0 (by decide)) (qq_fM i10 ?_)
                exact qq_il h0
            · refine qq_bX x6 (qq_fX n20 (qq_tM f6 ?_))
              unfold FM_would_J79
              unfold FM_would_J84
              refine qq_bM (m_bad_il z0 (by decide)) (qq_fM i10 ?_)
              exact qq_il h0
          · refine qq_bX x5 (qq_fX n20 (qq_tM f5 ?_))
            unfold FM_would_J79
            unfold FM_would_J84
            refine qq_bM (m_bad_il z0 (by decide)) (qq_fM i10 ?_)
            exact qq_il h0
        · refine qq_bX x4 (qq_fX n20 (qq_tM f4 ?_))
          unfold FM_would_J79
          unfold FM_would_J84
          refine qq_bM (m_bad_il z0 (by decide)) (qq_fM i10 ?_)
          exact qq_il h0
      · refine qq_bX x3 (qq_fX n20 (qq_tM f3 ?_))
        unfold FM_would_J79
        unfold FM_would_J84
        refine qq_bM (m_bad_il z0 (by decide)) (qq_fM i10 ?_)
        exact qq_il h0
    · refine qq_bX x2 (qq_fX n20 (qq_tM f2 ?_))
      unfold FM_would_J79
      unfold FM_would_J84
      refine qq_bM (m_bad_il z0 (by decide)) (qq_fM i10 ?_)
      exact qq_il h0
  · refine qq_bX x1 (qq_fX n20 (qq_tM f1 ?_))
    unfold FM_would_J79
    unfold FM_would_J84
    refine qq_bM (m_bad_il z0 (by decide)) (qq_fM i10 ?_)
    exact qq_il h0
