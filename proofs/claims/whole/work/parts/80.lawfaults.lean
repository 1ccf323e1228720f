/-! A law's readers, after a fault. -/
theorem MF_one {m : gM} (hf : m 464 5 ≠ 0) (f : Nat) : FM_one (f + 1) m = some m := by
  rw [FM_one_s]
  unfold FM_one_B
  rw [if_neg hf]
theorem MF_product {m : gM} (hf : m 464 5 ≠ 0) (f : Nat) : FM_product (f + 1 + 1) m = some m := by
  rw [FM_product_s]
  unfold FM_product_B
  rw [MF_one hf f, Option.bind_some, FM_product_L4, if_neg hf]
theorem MF_sum {m : gM} (hf : m 464 5 ≠ 0) (f : Nat) : FM_sum (f + 1 + 1 + 1) m = some m := by
  rw [FM_sum_s]
  unfold FM_sum_B
  rw [MF_product hf f, Option.bind_some, FM_sum_L4, if_neg hf]
theorem MF_notes {m : gM} (hf : m 464 5 ≠ 0) (a b : Int32) : FM_notes a b m = some m := by
  unfold FM_notes
  rw [if_neg hf]
theorem CF_unit {n : Nat} {B : Nat → Nat} {p : Nat} {f w : Int32} {c : gM} (hf : f ≠ 0) (h : tC n B p f w c) (k : Nat) (op : Int32) : okk (FL_readUnit (k + 1) op c) (fun s => cS c s ∧ ∃ e, tC n B e f w s) := by
  rw [FL_readUnit_s]
  unfold FL_readUnit_B
  refine okk_bind (L_next h) ?_
  rintro ⟨x, c1⟩ ⟨-, k1, k2, k3⟩
  dsimp only at k1 k2 k3 ⊢
  rw [if_neg (faulty_1 hf k1)]
  exact okk_some ⟨k3, _, k1⟩
theorem CF_product {n : Nat} {B : Nat → Nat} {p : Nat} {f w : Int32} {c : gM} (hf : f ≠ 0) (h : tC n B p f w c) (k : Nat) (op : Int32) : okk (FL_readProduct (k + 1 + 1) op c) (fun s => cS c s ∧ ∃ e, tC n B e f w s) := by
  rw [FL_readProduct_s]
  unfold FL_readProduct_B
  refine okk_bind (CF_unit hf h k op) ?_
  rintro c1 ⟨k1, e, k2⟩
  rw [FL_readProduct_L8, if_neg (show ¬ (150 : Int32) ≤ 0 by decide), if_neg (faulty_1 hf k2)]
  exact okk_some ⟨k1, e, k2⟩
theorem CF_sum {n : Nat} {B : Nat → Nat} {p : Nat} {f w : Int32} {c : gM} (hf : f ≠ 0) (h : tC n B p f w c) (k : Nat) (op : Int32) : okk (FL_readSum (k + 1 + 1 + 1) op c) (fun s => cS c s ∧ ∃ e, tC n B e f w s) := by
  rw [FL_readSum_s]
  unfold FL_readSum_B
  refine okk_bind (CF_product hf h k op) ?_
  rintro c1 ⟨k1, e, k2⟩
  rw [FL_readSum_L8, if_neg (show ¬ (150 : Int32) ≤ 0 by decide), if_neg (faulty_1 hf k2)]
  exact okk_some ⟨k1, e, k2⟩
