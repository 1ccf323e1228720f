/-! Constructors: a shape that is the same; objects on their way. -/
theorem g_up1_at {α : Type} (f : Nat → α) (i : Nat) (v : α) : g_up1 f i v i = v := if_pos rfl
theorem g_up1_ne {α : Type} {f : Nat → α} {i b : Nat} {v : α} (h : b ≠ i) : g_up1 f i v b = f b := if_neg h
theorem g_up1_same {α : Type} {f : Nat → α} {i : Nat} {v : α} (h : f i = v) : g_up1 f i v = f := by
  funext b
  by_cases e : b = i
  · rw [e, g_up1_at, h]
  · exact g_up1_ne e
theorem g_up1_row {S0 : Nat → gT} {a n : Nat} {T t : gT} (hne : n ≠ a) (h : S0 n = t) : g_up1 (g_up1 S0 a T) n t = g_up1 S0 a T := g_up1_same (by rw [g_up1_ne hne]; exact h)
theorem g_up1_zero {M : gM} {n : Nat} (h : M n = fun _ => 0) : g_up1 M n (fun _ => 0) = M := g_up1_same h
theorem g_setS_up1 (S : Nat → gT) (a k r c N : Nat) (rf : Nat → Nat) : g_setS (g_up1 S a (c, N, rf)) a k r = g_up1 S a (c, N, fun j => if j = k then r else rf j) := by
  funext b
  unfold g_setS
  by_cases e : b = a
  · rw [if_pos e, e, g_up1_at, g_up1_at]
  · rw [if_neg e, g_up1_ne e, g_up1_ne e]
theorem g_cell_at {C : gC} {a : Nat} {t t2 : gT} {m : Nat → Int32} {H : Heap} (h1 : t.1 = t2.1) (h2 : t.2.1 = t2.2.1) (h3 : ∀ j, j < t.2.1 → t.2.2 j = t2.2.2 j) (h : va_at C.2.1 vwCl (a, g_cell C t m) H) : va_at C.2.1 vwCl (a, g_cell C t2 m) H := by
  obtain ⟨k, N, f⟩ := t
  obtain ⟨k2, N2, f2⟩ := t2
  dsimp only at h1 h2 h3
  subst h1
  subst h2
  unfold g_cell at h ⊢
  dsimp only at h ⊢
  by_cases c1 : k < 20
  · rw [if_pos c1] at h ⊢
    have e : (List.range N).map (fun j => g_up C (g_rv (f j) (m j))) = (List.range N).map (fun j => g_up C (g_rv (f2 j) (m j))) := List.map_congr_left (fun j hj => by rw [h3 j (List.mem_range.mp hj)])
    rw [← e]
    exact h
  · rw [if_neg c1] at h ⊢
    by_cases c2 : k = 20
    · rw [if_pos c2] at h ⊢
      exact h
    · rw [if_neg c2] at h ⊢
      have h4 : H[a]? = some (vp_cell _ _) := h
      show H[a]? = some (vp_cell _ _)
      rw [h4, vp_cell_q, vp_cell_q]
      exact congrArg some (g_arrV _ _ fun j hj => by rw [h3 j hj])
section GSH
variable {l : Launch} {C : gC} {y : gY} {d : Nat} {Q : Option Value → gX → Prop} {QX : String → gX → Prop} {kc ks pc : Nat} {ls : gL} {st : List Value} {n sz : Nat} {S S2 : Nat → gT} {M : gM}
theorem GW_shape (h : ∀ b, b < n → (S b).1 = (S2 b).1 ∧ (S b).2.1 = (S2 b).2.1 ∧ ∀ j, j < (S b).2.1 → (S b).2.2 j = (S2 b).2.2 j) (k : GW l C y d Q QX kc ks pc ls st (n, S2, M, sz)) : GW l C y d Q QX kc ks pc ls st (n, S, M, sz) := by
  intro p e s m args below meth c H locs la hx
  refine k p e s m args below meth c H locs la (hx.setH (Nat.le_refl _) ⟨g_at_of fun i hi => ?_, hx.at.2.1, hx.at.2.2.1, hx.at.2.2.2⟩ hx.lc)
  exact g_cell_at (h i hi).1 (h i hi).2.1 (h i hi).2.2 (g_at_get hx.at hi)
/-- one object is made: its shape is the last one's -/
theorem GW_made {a : Nat} {S0 : Nat → gT} {t : gT} (h : t.1 = (S0 a).1 ∧ t.2.1 = (S0 a).2.1 ∧ ∀ j, j < t.2.1 → t.2.2 j = (S0 a).2.2 j) (k : GW l C y d Q QX kc ks pc ls st (n, S0, M, sz)) : GW l C y d Q QX kc ks pc ls st (n, g_up1 S0 a t, M, sz) := by
  refine GW_shape (fun b _ => ?_) k
  by_cases e : b = a
  · rw [e, g_up1_at]; exact h
  · rw [g_up1_ne e]; exact ⟨rfl, rfl, fun _ _ => rfl⟩
end GSH
/-- what a constructor leaves: objects a .. n2 - 1 are made -/
def gQ0 (a n2 : Nat) (M : gM) (F : gM → Prop) (S0 : Nat → gT) (sz2 : Nat) : Option Value → gX → Prop := fun r X => r = none ∧ ∃ M2, ((∀ b, b < a → M2 b = M b) ∧ (∀ b, n2 ≤ b → M2 b = fun _ => 0) ∧ F M2) ∧ X = (n2, S0, M2, sz2)
