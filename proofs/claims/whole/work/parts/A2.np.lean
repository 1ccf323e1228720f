/-! What the calls of the class never throw. -/
def np {α : Type} (b : Nat) (o : Option (Nat × α × gM)) : Prop := ∀ R, o = some R → R.1 ≠ b
theorem np_s {α : Type} {b k : Nat} {x : α} {M : gM} (h : k ≠ b) : np b (some (k, x, M)) := fun R e => by cases e; exact h
theorem np_n {α : Type} {b : Nat} : np b (none : Option (Nat × α × gM)) := fun R e => nomatch e
theorem np_b {α β : Type} {b : Nat} {o : Option β} {f : β → Option (Nat × α × gM)} (h : ∀ s, np b (f s)) : np b (o.bind f) := by
  cases o with
  | none => exact np_n
  | some s => exact h s
theorem np_i {α : Type} {b : Nat} {q : Prop} [Decidable q] {A B : Option (Nat × α × gM)} (h1 : np b A) (h2 : np b B) : np b (if q then A else B) := by
  by_cases z : q
  · rw [if_pos z]; exact h1
  · rw [if_neg z]; exact h2
theorem np_x {α : Type} {b n : Nat} {i : Int32} {f : Nat → Option (Nat × α × gM)} (h : ∀ j, np b (f j)) : np b (g_ix i n f) := by
  intro R e
  rcases (show g_ix i n f = f i.toNatClampNeg ∨ g_ix i n f = none by unfold g_ix; split <;> simp) with h1 | h2
  · exact h _ R (h1.symm.trans e)
  · rw [h2] at e; exact nomatch e
theorem np_l {α : Type} {b : Nat} {x : gM} {f : gM → Option (Nat × α × gM)} (h : ∀ y, np b (f y)) : np b (g_let x f) := h x
theorem np_need {α : Type} {b : Nat} {o : Option (Nat × gM)} {A : Nat × gM → Option (Nat × α × gM)} {x : α} (ho : ∀ s, o = some s → s.1 ≠ b) (h : ∀ s, np b (A s)) : np b (o.bind fun s => if s.1 = 0 then A s else some (s.1, x, s.2)) := by
  cases o with
  | none => exact np_n
  | some s =>
    show np b (if s.1 = 0 then A s else some (s.1, x, s.2))
    exact np_i (h s) (np_s (ho s rfl))
theorem ne_in {v lo hi : Int32} {c : gM} : ∀ s, FX_needIn v lo hi c = some s → s.1 ≠ 1 := by
  intro s e
  rcases c_needIn c v lo hi with ⟨-, -, -, h⟩ | ⟨-, h⟩
  · rw [h] at e; cases e; exact (show (0 : Nat) ≠ 1 by decide)
  · rw [h] at e; cases e; exact (show (2 : Nat) ≠ 1 by decide)
theorem ne_bits {v n : Int32} {c : gM} : ∀ s, FX_needBits v n c = some s → s.1 ≠ 1 := by
  intro s e
  rcases c_needBits c v n with ⟨-, -, -, h⟩ | ⟨-, h⟩
  · rw [h] at e; cases e; exact (show (0 : Nat) ≠ 1 by decide)
  · rw [h] at e; cases e; exact (show (2 : Nat) ≠ 1 by decide)
theorem ne_text {v n : Int32} {c : gM} : ∀ s, FX_needText v n c = some s → s.1 ≠ 1 := by
  intro s e
  unfold FX_needText at e
  rcases c_needIn c v 0 (m_min (c 1 1) n) with ⟨-, -, -, h⟩ | ⟨-, h⟩
  · rw [h] at e
    cases e
    exact (show (0 : Nat) ≠ 1 by decide)
  · rw [h] at e
    cases e
    exact (show (2 : Nat) ≠ 1 by decide)
theorem ne_one {v n : Int32} {c : gM} : ∀ s, FX_needOne v n c = some s → s.1 ≠ 2 := by
  intro s e
  unfold FX_needOne FX_needOne_J9 at e
  repeat' split at e
  all_goals (cases e; first | exact (show (0 : Nat) ≠ 2 by decide) | exact (show (1 : Nat) ≠ 2 by decide))

theorem np_park (n : Int32) (M : gM) : np 1 (FX_park n M) := by
  unfold FX_park
  repeat' (first
    | with_reducible refine np_need ne_in (fun s => ?_)
    | with_reducible refine np_need ne_text (fun s => ?_)
    | with_reducible refine np_need ne_bits (fun s => ?_)
    | with_reducible refine np_need ne_one (fun s => ?_)
    | with_reducible refine np_b (fun s => ?_)
    | with_reducible refine np_i ?_ ?_
    | with_reducible refine np_l (fun y => ?_)
    | with_reducible refine np_x (fun j => ?_)
    | with_reducible exact np_s (by decide)
    | with_reducible exact np_n)

theorem np_law (n : Int32) (M : gM) : np 1 (FX_law n M) := by
  unfold FX_law
  repeat' (first
    | with_reducible refine np_need ne_in (fun s => ?_)
    | with_reducible refine np_need ne_text (fun s => ?_)
    | with_reducible refine np_need ne_bits (fun s => ?_)
    | with_reducible refine np_need ne_one (fun s => ?_)
    | with_reducible refine np_b (fun s => ?_)
    | with_reducible refine np_i ?_ ?_
    | with_reducible refine np_l (fun y => ?_)
    | with_reducible refine np_x (fun j => ?_)
    | with_reducible exact np_s (by decide)
    | with_reducible exact np_n)

theorem np_work (n : Int32) (M : gM) : np 1 (FX_work n M) := by
  unfold FX_work
  repeat' (first
    | with_reducible refine np_need ne_in (fun s => ?_)
    | with_reducible refine np_need ne_text (fun s => ?_)
    | with_reducible refine np_need ne_bits (fun s => ?_)
    | with_reducible refine np_need ne_one (fun s => ?_)
    | with_reducible refine np_b (fun s => ?_)
    | with_reducible refine np_i ?_ ?_
    | with_reducible refine np_l (fun y => ?_)
    | with_reducible refine np_x (fun j => ?_)
    | with_reducible exact np_s (by decide)
    | with_reducible exact np_n)

theorem np_songs (n : Int32) (M : gM) : np 1 (FX_songs n M) := by
  unfold FX_songs
  repeat' (first
    | with_reducible refine np_need ne_in (fun s => ?_)
    | with_reducible refine np_need ne_text (fun s => ?_)
    | with_reducible refine np_need ne_bits (fun s => ?_)
    | with_reducible refine np_need ne_one (fun s => ?_)
    | with_reducible refine np_b (fun s => ?_)
    | with_reducible refine np_i ?_ ?_
    | with_reducible refine np_l (fun y => ?_)
    | with_reducible refine np_x (fun j => ?_)
    | with_reducible exact np_s (by decide)
    | with_reducible exact np_n)

theorem np_told (what : Int32) (M : gM) : np 1 (FX_told what M) := by
  unfold FX_told
  repeat' (first
    | with_reducible refine np_need ne_in (fun s => ?_)
    | with_reducible refine np_need ne_text (fun s => ?_)
    | with_reducible refine np_need ne_bits (fun s => ?_)
    | with_reducible refine np_need ne_one (fun s => ?_)
    | with_reducible refine np_b (fun s => ?_)
    | with_reducible refine np_i ?_ ?_
    | with_reducible refine np_l (fun y => ?_)
    | with_reducible refine np_x (fun j => ?_)
    | with_reducible exact np_s (by decide)
    | with_reducible exact np_n)

theorem np_would (len : Int32) (pace : Int32) (age : Int32) (heavy : Int32) (tired : Int32) (rain : Int32) (bribe : Int32) (M : gM) : np 1 (FX_would len pace age heavy tired rain bribe M) := by
  unfold FX_would
  repeat' (first
    | with_reducible refine np_need ne_in (fun s => ?_)
    | with_reducible refine np_need ne_text (fun s => ?_)
    | with_reducible refine np_need ne_bits (fun s => ?_)
    | with_reducible refine np_need ne_one (fun s => ?_)
    | with_reducible refine np_b (fun s => ?_)
    | with_reducible refine np_i ?_ ?_
    | with_reducible refine np_l (fun y => ?_)
    | with_reducible refine np_x (fun j => ?_)
    | with_reducible exact np_s (by decide)
    | with_reducible exact np_n)

theorem np_FX_ahead_L32 (n : Int32) (what : Int32) : ∀ (k : Nat) (x0 : Int32) (M : gM), np 1 (FX_ahead_L32 n what k x0 M) := by
  intro k
  induction k with
  | zero => intro x0 M; exact np_n
  | succ k ih =>
    intro x0 M
    unfold FX_ahead_L32
    repeat' (first
        | exact ih _ _
        | exact ih _ _ _
        | exact ih _ _ _ _
        | exact ih _ _ _ _ _
        | exact ih _ _ _ _ _ _
        | with_reducible refine np_need ne_in (fun s => ?_)
        | with_reducible refine np_need ne_text (fun s => ?_)
        | with_reducible refine np_need ne_bits (fun s => ?_)
        | with_reducible refine np_need ne_one (fun s => ?_)
        | with_reducible refine np_b (fun s => ?_)
        | with_reducible refine np_i ?_ ?_
        | with_reducible refine np_l (fun y => ?_)
        | with_reducible refine np_x (fun j => ?_)
        | with_reducible exact np_s (by decide)
        | with_reducible exact np_n)

theorem np_ahead (n : Int32) (what : Int32) (M : gM) : np 1 (FX_ahead n what M) := by
  unfold FX_ahead
  repeat' (first
    | with_reducible refine np_need ne_in (fun s => ?_)
    | with_reducible refine np_need ne_text (fun s => ?_)
    | with_reducible refine np_need ne_bits (fun s => ?_)
    | with_reducible refine np_need ne_one (fun s => ?_)
    | with_reducible exact np_FX_ahead_L32 _ _ _ _ _
    | with_reducible refine np_b (fun s => ?_)
    | with_reducible refine np_i ?_ ?_
    | with_reducible refine np_l (fun y => ?_)
    | with_reducible refine np_x (fun j => ?_)
    | with_reducible exact np_s (by decide)
    | with_reducible exact np_n)

theorem np_FX_hour_L25 (m : Int32) : ∀ (k : Nat) (x0 : Int32) (M : gM), np 1 (FX_hour_L25 m k x0 M) := by
  intro k
  induction k with
  | zero => intro x0 M; exact np_n
  | succ k ih =>
    intro x0 M
    unfold FX_hour_L25
    repeat' (first
        | exact ih _ _
        | exact ih _ _ _
        | exact ih _ _ _ _
        | exact ih _ _ _ _ _
        | exact ih _ _ _ _ _ _
        | with_reducible refine np_need ne_in (fun s => ?_)
        | with_reducible refine np_need ne_text (fun s => ?_)
        | with_reducible refine np_need ne_bits (fun s => ?_)
        | with_reducible refine np_need ne_one (fun s => ?_)
        | with_reducible refine np_b (fun s => ?_)
        | with_reducible refine np_i ?_ ?_
        | with_reducible refine np_l (fun y => ?_)
        | with_reducible refine np_x (fun j => ?_)
        | with_reducible exact np_s (by decide)
        | with_reducible exact np_n)

theorem np_hour (m : Int32) (M : gM) : np 1 (FX_hour m M) := by
  unfold FX_hour
  repeat' (first
    | with_reducible refine np_need ne_in (fun s => ?_)
    | with_reducible refine np_need ne_text (fun s => ?_)
    | with_reducible refine np_need ne_bits (fun s => ?_)
    | with_reducible refine np_need ne_one (fun s => ?_)
    | with_reducible exact np_FX_hour_L25 _ _ _ _
    | with_reducible refine np_b (fun s => ?_)
    | with_reducible refine np_i ?_ ?_
    | with_reducible refine np_l (fun y => ?_)
    | with_reducible refine np_x (fun j => ?_)
    | with_reducible exact np_s (by decide)
    | with_reducible exact np_n)

theorem np_match (hoops : Int32) (m : Int32) (M : gM) : np 1 (FX_match hoops m M) := by
  unfold FX_match
  repeat' (first
    | with_reducible refine np_need ne_in (fun s => ?_)
    | with_reducible refine np_need ne_text (fun s => ?_)
    | with_reducible refine np_need ne_bits (fun s => ?_)
    | with_reducible refine np_need ne_one (fun s => ?_)
    | with_reducible refine np_b (fun s => ?_)
    | with_reducible refine np_i ?_ ?_
    | with_reducible refine np_l (fun y => ?_)
    | with_reducible refine np_x (fun j => ?_)
    | with_reducible exact np_s (by decide)
    | with_reducible exact np_n)

theorem np_fits (what : Int32) (M : gM) : np 1 (FX_fits what M) := by
  unfold FX_fits
  repeat' (first
    | with_reducible refine np_need ne_in (fun s => ?_)
    | with_reducible refine np_need ne_text (fun s => ?_)
    | with_reducible refine np_need ne_bits (fun s => ?_)
    | with_reducible refine np_need ne_one (fun s => ?_)
    | with_reducible refine np_b (fun s => ?_)
    | with_reducible refine np_i ?_ ?_
    | with_reducible refine np_l (fun y => ?_)
    | with_reducible refine np_x (fun j => ?_)
    | with_reducible exact np_s (by decide)
    | with_reducible exact np_n)

theorem np_listen (what : Int32) (M : gM) : np 1 (FX_listen what M) := by
  unfold FX_listen
  repeat' (first
    | with_reducible refine np_need ne_in (fun s => ?_)
    | with_reducible refine np_need ne_text (fun s => ?_)
    | with_reducible refine np_need ne_bits (fun s => ?_)
    | with_reducible refine np_need ne_one (fun s => ?_)
    | with_reducible refine np_b (fun s => ?_)
    | with_reducible refine np_i ?_ ?_
    | with_reducible refine np_l (fun y => ?_)
    | with_reducible refine np_x (fun j => ?_)
    | with_reducible exact np_s (by decide)
    | with_reducible exact np_n)

theorem np_FX_safe_L27 (walks : Int32) (part : Int32) : ∀ (k : Nat) (x0 : Int64) (x1 : Int64) (x2 : Int32) (M : gM), np 1 (FX_safe_L27 walks part k x0 x1 x2 M) := by
  intro k
  induction k with
  | zero => intro x0 x1 x2 M; exact np_n
  | succ k ih =>
    intro x0 x1 x2 M
    unfold FX_safe_L27
    repeat' (first
        | exact ih _ _
        | exact ih _ _ _
        | exact ih _ _ _ _
        | exact ih _ _ _ _ _
        | exact ih _ _ _ _ _ _
        | with_reducible refine np_need ne_in (fun s => ?_)
        | with_reducible refine np_need ne_text (fun s => ?_)
        | with_reducible refine np_need ne_bits (fun s => ?_)
        | with_reducible refine np_need ne_one (fun s => ?_)
        | with_reducible refine np_b (fun s => ?_)
        | with_reducible refine np_i ?_ ?_
        | with_reducible refine np_l (fun y => ?_)
        | with_reducible refine np_x (fun j => ?_)
        | with_reducible exact np_s (by decide)
        | with_reducible exact np_n)

theorem np_safe (walks : Int32) (part : Int32) (M : gM) : np 1 (FX_safe walks part M) := by
  unfold FX_safe
  repeat' (first
    | with_reducible refine np_need ne_in (fun s => ?_)
    | with_reducible refine np_need ne_text (fun s => ?_)
    | with_reducible refine np_need ne_bits (fun s => ?_)
    | with_reducible refine np_need ne_one (fun s => ?_)
    | with_reducible exact np_FX_safe_L27 _ _ _ _ _ _ _
    | with_reducible refine np_b (fun s => ?_)
    | with_reducible refine np_i ?_ ?_
    | with_reducible refine np_l (fun y => ?_)
    | with_reducible refine np_x (fun j => ?_)
    | with_reducible exact np_s (by decide)
    | with_reducible exact np_n)

theorem np_FX_mean_L20 (n : Int32) (part : Int32) : ∀ (k : Nat) (x0 : Int64) (x1 : Int32) (M : gM), np 1 (FX_mean_L20 n part k x0 x1 M) := by
  intro k
  induction k with
  | zero => intro x0 x1 M; exact np_n
  | succ k ih =>
    intro x0 x1 M
    unfold FX_mean_L20
    repeat' (first
        | exact ih _ _
        | exact ih _ _ _
        | exact ih _ _ _ _
        | exact ih _ _ _ _ _
        | exact ih _ _ _ _ _ _
        | with_reducible refine np_need ne_in (fun s => ?_)
        | with_reducible refine np_need ne_text (fun s => ?_)
        | with_reducible refine np_need ne_bits (fun s => ?_)
        | with_reducible refine np_need ne_one (fun s => ?_)
        | with_reducible refine np_b (fun s => ?_)
        | with_reducible refine np_i ?_ ?_
        | with_reducible refine np_l (fun y => ?_)
        | with_reducible refine np_x (fun j => ?_)
        | with_reducible exact np_s (by decide)
        | with_reducible exact np_n)

theorem np_mean (n : Int32) (part : Int32) (M : gM) : np 1 (FX_mean n part M) := by
  unfold FX_mean
  repeat' (first
    | with_reducible refine np_need ne_in (fun s => ?_)
    | with_reducible refine np_need ne_text (fun s => ?_)
    | with_reducible refine np_need ne_bits (fun s => ?_)
    | with_reducible refine np_need ne_one (fun s => ?_)
    | with_reducible exact np_FX_mean_L20 _ _ _ _ _ _
    | with_reducible refine np_b (fun s => ?_)
    | with_reducible refine np_i ?_ ?_
    | with_reducible refine np_l (fun y => ?_)
    | with_reducible refine np_x (fun j => ?_)
    | with_reducible exact np_s (by decide)
    | with_reducible exact np_n)

theorem np_FX_stands_L32 (q : Int32) (n : Int32) (part : Int32) : ∀ (k : Nat) (x0 : Int64) (x1 : Int64) (x2 : Int32) (M : gM), np 1 (FX_stands_L32 q n part k x0 x1 x2 M) := by
  intro k
  induction k with
  | zero => intro x0 x1 x2 M; exact np_n
  | succ k ih =>
    intro x0 x1 x2 M
    unfold FX_stands_L32
    repeat' (first
        | exact ih _ _
        | exact ih _ _ _
        | exact ih _ _ _ _
        | exact ih _ _ _ _ _
        | exact ih _ _ _ _ _ _
        | with_reducible refine np_need ne_in (fun s => ?_)
        | with_reducible refine np_need ne_text (fun s => ?_)
        | with_reducible refine np_need ne_bits (fun s => ?_)
        | with_reducible refine np_need ne_one (fun s => ?_)
        | with_reducible refine np_b (fun s => ?_)
        | with_reducible refine np_i ?_ ?_
        | with_reducible refine np_l (fun y => ?_)
        | with_reducible refine np_x (fun j => ?_)
        | with_reducible exact np_s (by decide)
        | with_reducible exact np_n)

theorem np_stands (q : Int32) (n : Int32) (part : Int32) (M : gM) : np 1 (FX_stands q n part M) := by
  unfold FX_stands
  repeat' (first
    | with_reducible refine np_need ne_in (fun s => ?_)
    | with_reducible refine np_need ne_text (fun s => ?_)
    | with_reducible refine np_need ne_bits (fun s => ?_)
    | with_reducible refine np_need ne_one (fun s => ?_)
    | with_reducible exact np_FX_stands_L32 _ _ _ _ _ _ _ _
    | with_reducible refine np_b (fun s => ?_)
    | with_reducible refine np_i ?_ ?_
    | with_reducible refine np_l (fun y => ?_)
    | with_reducible refine np_x (fun j => ?_)
    | with_reducible exact np_s (by decide)
    | with_reducible exact np_n)

theorem np_FX_cover_L25 (walks : Int32) : ∀ (k : Nat) (x0 : Int32) (x1 : Int32) (M : gM), np 1 (FX_cover_L25 walks k x0 x1 M) := by
  intro k
  induction k with
  | zero => intro x0 x1 M; exact np_n
  | succ k ih =>
    intro x0 x1 M
    unfold FX_cover_L25
    try unfold FX_cover_J58
    repeat' (first
        | exact ih _ _
        | exact ih _ _ _
        | exact ih _ _ _ _
        | exact ih _ _ _ _ _
        | exact ih _ _ _ _ _ _
        | with_reducible refine np_need ne_in (fun s => ?_)
        | with_reducible refine np_need ne_text (fun s => ?_)
        | with_reducible refine np_need ne_bits (fun s => ?_)
        | with_reducible refine np_need ne_one (fun s => ?_)
        | with_reducible refine np_b (fun s => ?_)
        | with_reducible refine np_i ?_ ?_
        | with_reducible refine np_l (fun y => ?_)
        | with_reducible refine np_x (fun j => ?_)
        | with_reducible exact np_s (by decide)
        | with_reducible exact np_n)

theorem np_cover (walks : Int32) (M : gM) : np 1 (FX_cover walks M) := by
  unfold FX_cover
  repeat' (first
    | with_reducible refine np_need ne_in (fun s => ?_)
    | with_reducible refine np_need ne_text (fun s => ?_)
    | with_reducible refine np_need ne_bits (fun s => ?_)
    | with_reducible refine np_need ne_one (fun s => ?_)
    | with_reducible exact np_FX_cover_L25 _ _ _ _ _
    | with_reducible refine np_b (fun s => ?_)
    | with_reducible refine np_i ?_ ?_
    | with_reducible refine np_l (fun y => ?_)
    | with_reducible refine np_x (fun j => ?_)
    | with_reducible exact np_s (by decide)
    | with_reducible exact np_n)

theorem np_FX_watch_L23 (n : Int32) (what : Int32) : ∀ (k : Nat) (x0 : Int32) (x1 : Int32) (x2 : Int32) (M : gM), np 1 (FX_watch_L23 n what k x0 x1 x2 M) := by
  intro k
  induction k with
  | zero => intro x0 x1 x2 M; exact np_n
  | succ k ih =>
    intro x0 x1 x2 M
    unfold FX_watch_L23
    repeat' (first
        | exact ih _ _
        | exact ih _ _ _
        | exact ih _ _ _ _
        | exact ih _ _ _ _ _
        | exact ih _ _ _ _ _ _
        | with_reducible refine np_need ne_in (fun s => ?_)
        | with_reducible refine np_need ne_text (fun s => ?_)
        | with_reducible refine np_need ne_bits (fun s => ?_)
        | with_reducible refine np_need ne_one (fun s => ?_)
        | with_reducible refine np_b (fun s => ?_)
        | with_reducible refine np_i ?_ ?_
        | with_reducible refine np_l (fun y => ?_)
        | with_reducible refine np_x (fun j => ?_)
        | with_reducible exact np_s (by decide)
        | with_reducible exact np_n)

theorem np_watch (n : Int32) (what : Int32) (M : gM) : np 1 (FX_watch n what M) := by
  unfold FX_watch
  repeat' (first
    | with_reducible refine np_need ne_in (fun s => ?_)
    | with_reducible refine np_need ne_text (fun s => ?_)
    | with_reducible refine np_need ne_bits (fun s => ?_)
    | with_reducible refine np_need ne_one (fun s => ?_)
    | with_reducible exact np_FX_watch_L23 _ _ _ _ _ _ _
    | with_reducible refine np_b (fun s => ?_)
    | with_reducible refine np_i ?_ ?_
    | with_reducible refine np_l (fun y => ?_)
    | with_reducible refine np_x (fun j => ?_)
    | with_reducible exact np_s (by decide)
    | with_reducible exact np_n)

theorem np_FX_debtor_L14 (what : Int32) : ∀ (k : Nat) (x0 : Int32) (x1 : Int32) (x2 : Int32) (M : gM), np 1 (FX_debtor_L14 what k x0 x1 x2 M) := by
  intro k
  induction k with
  | zero => intro x0 x1 x2 M; exact np_n
  | succ k ih =>
    intro x0 x1 x2 M
    unfold FX_debtor_L14
    repeat' (first
        | exact ih _ _
        | exact ih _ _ _
        | exact ih _ _ _ _
        | exact ih _ _ _ _ _
        | exact ih _ _ _ _ _ _
        | with_reducible refine np_need ne_in (fun s => ?_)
        | with_reducible refine np_need ne_text (fun s => ?_)
        | with_reducible refine np_need ne_bits (fun s => ?_)
        | with_reducible refine np_need ne_one (fun s => ?_)
        | with_reducible refine np_b (fun s => ?_)
        | with_reducible refine np_i ?_ ?_
        | with_reducible refine np_l (fun y => ?_)
        | with_reducible refine np_x (fun j => ?_)
        | with_reducible exact np_s (by decide)
        | with_reducible exact np_n)

theorem np_debtor (what : Int32) (M : gM) : np 1 (FX_debtor what M) := by
  unfold FX_debtor
  repeat' (first
    | with_reducible refine np_need ne_in (fun s => ?_)
    | with_reducible refine np_need ne_text (fun s => ?_)
    | with_reducible refine np_need ne_bits (fun s => ?_)
    | with_reducible refine np_need ne_one (fun s => ?_)
    | with_reducible exact np_FX_debtor_L14 _ _ _ _ _ _
    | with_reducible refine np_b (fun s => ?_)
    | with_reducible refine np_i ?_ ?_
    | with_reducible refine np_l (fun y => ?_)
    | with_reducible refine np_x (fun j => ?_)
    | with_reducible exact np_s (by decide)
    | with_reducible exact np_n)

theorem np_FX_slowest_L14 (what : Int32) : ∀ (k : Nat) (x0 : Int32) (x1 : Int32) (x2 : Int32) (M : gM), np 1 (FX_slowest_L14 what k x0 x1 x2 M) := by
  intro k
  induction k with
  | zero => intro x0 x1 x2 M; exact np_n
  | succ k ih =>
    intro x0 x1 x2 M
    unfold FX_slowest_L14
    try unfold FX_slowest_J71
    repeat' (first
        | exact ih _ _
        | exact ih _ _ _
        | exact ih _ _ _ _
        | exact ih _ _ _ _ _
        | exact ih _ _ _ _ _ _
        | with_reducible refine np_need ne_in (fun s => ?_)
        | with_reducible refine np_need ne_text (fun s => ?_)
        | with_reducible refine np_need ne_bits (fun s => ?_)
        | with_reducible refine np_need ne_one (fun s => ?_)
        | with_reducible refine np_b (fun s => ?_)
        | with_reducible refine np_i ?_ ?_
        | with_reducible refine np_l (fun y => ?_)
        | with_reducible refine np_x (fun j => ?_)
        | with_reducible exact np_s (by decide)
        | with_reducible exact np_n)

theorem np_slowest (what : Int32) (M : gM) : np 1 (FX_slowest what M) := by
  unfold FX_slowest
  repeat' (first
    | with_reducible refine np_need ne_in (fun s => ?_)
    | with_reducible refine np_need ne_text (fun s => ?_)
    | with_reducible refine np_need ne_bits (fun s => ?_)
    | with_reducible refine np_need ne_one (fun s => ?_)
    | with_reducible exact np_FX_slowest_L14 _ _ _ _ _ _
    | with_reducible refine np_b (fun s => ?_)
    | with_reducible refine np_i ?_ ?_
    | with_reducible refine np_l (fun y => ?_)
    | with_reducible refine np_x (fun j => ?_)
    | with_reducible exact np_s (by decide)
    | with_reducible exact np_n)

theorem np_days (seed : Int32) (many : Int32) (q : Int32) (what : Int32) (M : gM) : np 1 (FX_days seed many q what M) := by
  unfold FX_days
  repeat' (first
    | with_reducible refine np_need ne_in (fun s => ?_)
    | with_reducible refine np_need ne_text (fun s => ?_)
    | with_reducible refine np_need ne_bits (fun s => ?_)
    | with_reducible refine np_need ne_one (fun s => ?_)
    | with_reducible refine np_b (fun s => ?_)
    | with_reducible refine np_i ?_ ?_
    | with_reducible refine np_l (fun y => ?_)
    | with_reducible refine np_x (fun j => ?_)
    | with_reducible exact np_s (by decide)
    | with_reducible exact np_n)

theorem np_FX_span_L48 (seed : Int32) (seeds : Int32) (many : Int32) (q : Int32) (what : Int32) : ∀ (k : Nat) (x0 : Int32) (x1 : Int32) (x2 : Int32) (x3 : Int32) (M : gM), np 1 (FX_span_L48 seed seeds many q what k x0 x1 x2 x3 M) := by
  intro k
  induction k with
  | zero => intro x0 x1 x2 x3 M; exact np_n
  | succ k ih =>
    intro x0 x1 x2 x3 M
    unfold FX_span_L48
    repeat' (first
        | exact ih _ _
        | exact ih _ _ _
        | exact ih _ _ _ _
        | exact ih _ _ _ _ _
        | exact ih _ _ _ _ _ _
        | with_reducible refine np_need ne_in (fun s => ?_)
        | with_reducible refine np_need ne_text (fun s => ?_)
        | with_reducible refine np_need ne_bits (fun s => ?_)
        | with_reducible refine np_need ne_one (fun s => ?_)
        | with_reducible refine np_b (fun s => ?_)
        | with_reducible refine np_i ?_ ?_
        | with_reducible refine np_l (fun y => ?_)
        | with_reducible refine np_x (fun j => ?_)
        | with_reducible exact np_s (by decide)
        | with_reducible exact np_n)

theorem np_span (seed : Int32) (seeds : Int32) (many : Int32) (q : Int32) (what : Int32) (M : gM) : np 1 (FX_span seed seeds many q what M) := by
  unfold FX_span
  repeat' (first
    | with_reducible refine np_need ne_in (fun s => ?_)
    | with_reducible refine np_need ne_text (fun s => ?_)
    | with_reducible refine np_need ne_bits (fun s => ?_)
    | with_reducible refine np_need ne_one (fun s => ?_)
    | with_reducible exact np_FX_span_L48 _ _ _ _ _ _ _ _ _ _ _
    | with_reducible refine np_b (fun s => ?_)
    | with_reducible refine np_i ?_ ?_
    | with_reducible refine np_l (fun y => ?_)
    | with_reducible refine np_x (fun j => ?_)
    | with_reducible exact np_s (by decide)
    | with_reducible exact np_n)

theorem np_minutes (w : Int32) (c : Int32) (h : Int32) (M : gM) : np 2 (FX_minutes w c h M) := by
  unfold FX_minutes
  repeat' (first
    | with_reducible refine np_need ne_in (fun s => ?_)
    | with_reducible refine np_need ne_text (fun s => ?_)
    | with_reducible refine np_need ne_bits (fun s => ?_)
    | with_reducible refine np_need ne_one (fun s => ?_)
    | with_reducible refine np_b (fun s => ?_)
    | with_reducible refine np_i ?_ ?_
    | with_reducible refine np_l (fun y => ?_)
    | with_reducible refine np_x (fun j => ?_)
    | with_reducible exact np_s (by decide)
    | with_reducible exact np_n)

theorem np_lasts (h : Int32) (c : Int32) (M : gM) : np 2 (FX_lasts h c M) := by
  unfold FX_lasts
  repeat' (first
    | with_reducible refine np_need ne_in (fun s => ?_)
    | with_reducible refine np_need ne_text (fun s => ?_)
    | with_reducible refine np_need ne_bits (fun s => ?_)
    | with_reducible refine np_need ne_one (fun s => ?_)
    | with_reducible refine np_b (fun s => ?_)
    | with_reducible refine np_i ?_ ?_
    | with_reducible refine np_l (fun y => ?_)
    | with_reducible refine np_x (fun j => ?_)
    | with_reducible exact np_s (by decide)
    | with_reducible exact np_n)

theorem np_FX_due_L28 (h : Int32) : ∀ (k : Nat) (x0 : Int32) (M : gM), np 2 (FX_due_L28 h k x0 M) := by
  intro k
  induction k with
  | zero => intro x0 M; exact np_n
  | succ k ih =>
    intro x0 M
    unfold FX_due_L28
    repeat' (first
        | exact ih _ _
        | exact ih _ _ _
        | exact ih _ _ _ _
        | exact ih _ _ _ _ _
        | exact ih _ _ _ _ _ _
        | with_reducible refine np_need ne_in (fun s => ?_)
        | with_reducible refine np_need ne_text (fun s => ?_)
        | with_reducible refine np_need ne_bits (fun s => ?_)
        | with_reducible refine np_need ne_one (fun s => ?_)
        | with_reducible refine np_b (fun s => ?_)
        | with_reducible refine np_i ?_ ?_
        | with_reducible refine np_l (fun y => ?_)
        | with_reducible refine np_x (fun j => ?_)
        | with_reducible exact np_s (by decide)
        | with_reducible exact np_n)

theorem np_due (h : Int32) (M : gM) : np 2 (FX_due h M) := by
  unfold FX_due
  repeat' (first
    | with_reducible refine np_need ne_in (fun s => ?_)
    | with_reducible refine np_need ne_text (fun s => ?_)
    | with_reducible refine np_need ne_bits (fun s => ?_)
    | with_reducible refine np_need ne_one (fun s => ?_)
    | with_reducible exact np_FX_due_L28 _ _ _ _
    | with_reducible refine np_b (fun s => ?_)
    | with_reducible refine np_i ?_ ?_
    | with_reducible refine np_l (fun y => ?_)
    | with_reducible refine np_x (fun j => ?_)
    | with_reducible exact np_s (by decide)
    | with_reducible exact np_n)

theorem np_FX_load_L16 (c : Int32) : ∀ (k : Nat) (x0 : Int32) (x1 : Int32) (M : gM), np 2 (FX_load_L16 c k x0 x1 M) := by
  intro k
  induction k with
  | zero => intro x0 x1 M; exact np_n
  | succ k ih =>
    intro x0 x1 M
    unfold FX_load_L16
    repeat' (first
        | exact ih _ _
        | exact ih _ _ _
        | exact ih _ _ _ _
        | exact ih _ _ _ _ _
        | exact ih _ _ _ _ _ _
        | with_reducible refine np_need ne_in (fun s => ?_)
        | with_reducible refine np_need ne_text (fun s => ?_)
        | with_reducible refine np_need ne_bits (fun s => ?_)
        | with_reducible refine np_need ne_one (fun s => ?_)
        | with_reducible refine np_b (fun s => ?_)
        | with_reducible refine np_i ?_ ?_
        | with_reducible refine np_l (fun y => ?_)
        | with_reducible refine np_x (fun j => ?_)
        | with_reducible exact np_s (by decide)
        | with_reducible exact np_n)

theorem np_load (c : Int32) (M : gM) : np 2 (FX_load c M) := by
  unfold FX_load
  repeat' (first
    | with_reducible refine np_need ne_in (fun s => ?_)
    | with_reducible refine np_need ne_text (fun s => ?_)
    | with_reducible refine np_need ne_bits (fun s => ?_)
    | with_reducible refine np_need ne_one (fun s => ?_)
    | with_reducible exact np_FX_load_L16 _ _ _ _ _
    | with_reducible refine np_b (fun s => ?_)
    | with_reducible refine np_i ?_ ?_
    | with_reducible refine np_l (fun y => ?_)
    | with_reducible refine np_x (fun j => ?_)
    | with_reducible exact np_s (by decide)
    | with_reducible exact np_n)
