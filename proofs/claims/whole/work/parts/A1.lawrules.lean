/-! The law's own rules: its script, its row of one long. -/
/-- the number of the row, in three cells of the memory -/
def g_en (v : Int64) : Nat → Int32 := fun k => if k = 0 then Int32.ofInt (v.toInt / 4294967296) else if k = 1 then Int32.ofInt (v.toInt % 4294967296 - 2147483648) else 1
theorem g_lg_en (v : Int64) : g_lg (g_en v) = v := by
  unfold g_lg g_en
  have h1 : v.toInt < 2 ^ 63 := Int64.toInt_lt v
  have h2 : -2 ^ 63 ≤ v.toInt := Int64.le_toInt v
  rw [if_pos rfl, if_neg (by decide), if_pos rfl, Int32.toInt_ofInt_of_le (by omega) (by omega), Int32.toInt_ofInt_of_le (by omega) (by omega)]
  rw [show v.toInt / 4294967296 * 4294967296 + (v.toInt % 4294967296 - 2147483648 + 2147483648) = v.toInt by omega]
  exact Int64.ofInt_toInt v
theorem g_en_2 (v : Int64) : g_en v 2 = 1 := rfl
/-- what the law alone knows: its script, the class of its row -/
def g_cl (C : gC) (L : Nat) (xs : Nat → Int32) : Prop := C.2.2.2 3000 < g_b C ∧ va_X (C.2.2.2 3000) L xs C.1 C.1.heap ∧ va_K C.2.1 vwCl [(C.2.2.2 5000, .long)] C.1 ∧ C.1.vm.findClass "[J" = some (C.2.2.2 5000) ∧ ∀ u : State, C.1.WarmedH u.vm → va_Nc "java/lang/IllegalArgumentException" "java/util/NoSuchElementException" u
section GLR
variable {l : Launch} {C : gC} {y : gY} {d : Nat} {Q : Option Value → gX → Prop} {QX : String → gX → Prop} {kc ks pc : Nat} {ls : gL} {st : List Value} {n sz : Nat} {S : Nat → gT} {M : gM} {X : gX} {L : Nat} {xs : Nat → Int32}
theorem g_clX (hL : g_cl C L xs) {p : Program} {s : State} {m : MethodId} {meth : Method} {c : Code} {H : Heap} {locs : List Loc} {la : Array Slot} (h : gCx C y X ls p s m meth c H locs la) : va_X (C.2.2.2 3000) L xs s s.heap := va_X.moved h.warm.alike (hL.2.1.kept (h.2.2.2.2.2.2.2.2.2.1.2 _ hL.1))
theorem gw_xlen (hL : g_cl C L xs) (hd : decode y.2.1 pc = .ok (.arraylength, 1)) (kk : GW l C y d Q QX kc ks (pc + 1) ls (.int (nI L) :: st) X) : GW l C y d Q QX kc ks pc ls (.retAddr 3000 :: st) X := by
  intro p e s m args below meth c H locs la h
  exact va_slen h.1 h.2.1 (g_clX hL h) (Nat.lt_of_lt_of_le hL.1 h.2.2.2.2.2.2.2.2.2.1.1) (Nat.not_le.mpr hL.1) (g_vS h) hd (kk p e s m args below meth c H locs la h)
theorem gw_xld (hL : g_cl C L xs) {i : Int32} (hi : vp_in i L) (hd : decode y.2.1 pc = .ok (.iaload, 1)) (kk : GW l C y d Q QX kc ks (pc + 1) ls (.int (xs i.toNatClampNeg) :: st) X) : GW l C y d Q QX kc ks pc ls (.int i :: .retAddr 3000 :: st) X := by
  intro p e s m args below meth c H locs la h
  exact va_sld h.1 h.2.1 (g_clX hL h) (Nat.lt_of_lt_of_le hL.1 h.2.2.2.2.2.2.2.2.2.1.1) (Nat.not_le.mpr hL.1) (g_vS h) hi hd (kk p e s m args below meth c H locs la h)
theorem gw_newlong (hC : g_ctx l C) (hL : g_cl C L xs) (hd : decode y.2.1 pc = .ok (.newarray .long, 2)) (harr : Cond.arrayClass .long ∈ lw_tbl) (hz : sz = g_b C + 956) (hc : kc + 1 ≤ y.2.2.2.2.1) (hs : ks + 1 ≤ y.2.2.2.2.2.1)
    (kk : GW l C y d Q QX (kc + 1) (ks + 1) (pc + 2) ls (.ref 956 :: st) (956, S, g_up1 M 956 (g_en 0), sz + 1)) : GW l C y d Q QX kc ks pc ls (.int 1 :: st) (956, S, M, sz) := by
  intro p e s m args below meth c H locs la h
  have hHs : H.size = sz := h.at.2.1
  refine va_newaK (atype := .long) (N := 1) h.1 h.2.1 (g_word hC h.warm harr rfl args) rfl hd rfl (by decide) rfl (by decide) hc hs rfl fun H1 cA e1 z1 o1 hAr hNm => ?_
  have hca : cA = C.2.2.2 5000 := by
    have h2 : s.vm.findClass "[J" = some (C.2.2.2 5000) := (va_K.moved h.warm.alike hL.2.2.1).2 0 _ rfl |>.2
    exact Option.some.inj (hNm.symm.trans h2)
  have hat : g_at C (956, S, g_up1 M 956 (g_en 0), sz + 1) H1 := by
    refine ⟨g_at_of fun i hi => ?_, by rw [z1, hHs], ⟨by show g_b C + 956 ≤ sz + 1; omega, Nat.le_refl _, fun _ => ?_⟩, fun q hq => by rw [o1 q (by omega)]; exact h.at.2.2.2 q hq⟩
    · rw [g_up1_ne (by omega)]
      exact g_at_keep (g_at_get h.at hi) (o1 _ (by omega))
    · show H1[g_b C + 956]? = some (g_lc C (g_up1 M 956 (g_en 0) 956))
      rw [g_up1_at]
      unfold g_lc
      rw [g_lg_en, ← hca, ← hz, ← hHs, e1]
      rfl
  have k2 := kk p e s m args below meth c H1 locs la (h.setH (by omega) hat h.lc)
  have e3 : H.size = g_b C + 956 := by rw [hHs, hz]
  rw [e3]
  exact k2
theorem g_lw {C : gC} {H : Heap} {M : gM} (h : g_lo C M H) (h2 : M 956 2 = 1) : va_P C.2.1 vwCl [(g_b C + 956, .inl (C.2.2.2 5000, 1, .inr (.inl (fun _ => g_lg (M 956)))))] H := by
  intro k q hq
  match k, hq with
  | 0, hq =>
    cases hq
    exact h h2
  | k + 1, hq => simp at hq
theorem gw_laload (hC : g_ctx l C) (hL : g_cl C L xs) (h2 : M 956 2 = 1) (hd : decode y.2.1 pc = .ok (.laload, 1)) (kk : GW l C y d Q QX kc ks (pc + 1) ls (.long (g_lg (M 956)) :: st) (n, S, M, sz)) : GW l C y d Q QX kc ks pc ls (.int 0 :: .ref 956 :: st) (n, S, M, sz) := by
  intro p e s m args below meth c H locs la h
  exact va_lald h.1 h.2.1 (va_K.moved h.warm.alike hL.2.2.1) (g_lw h.at.2.2.1.2.2 h2) 0 0 rfl rfl (vp_in_nI (n := 0) (N := 1) (by decide) (by decide)) hd (kk p e s m args below meth c H locs la h)
end GLR
