/-! Days by seeds. First a family of the kit's rows on bits, pasted. -/
def bt (x : Int32) (i : Nat) : Bool := x.toBitVec.getLsbD i
theorem b_ext {x y : Int32} (h : ∀ i, i < 32 → bt x i = bt y i) : x = y := Int32.toBitVec_inj.mp (BitVec.eq_of_getLsbD_eq (fun i hi => h i hi))
theorem b_or (x y : Int32) (i : Nat) : bt (x ||| y) i = (bt x i || bt y i) := by unfold bt; rw [Int32.toBitVec_or, BitVec.getLsbD_or]
theorem b_and (x y : Int32) (i : Nat) : bt (x &&& y) i = (bt x i && bt y i) := by unfold bt; rw [Int32.toBitVec_and, BitVec.getLsbD_and]
theorem b_xor (x y : Int32) (i : Nat) : bt (x ^^^ y) i = (bt x i ^^ bt y i) := by unfold bt; rw [Int32.toBitVec_xor, BitVec.getLsbD_xor]
theorem b_big {x : Int32} {i : Nat} (h : 32 ≤ i) : bt x i = false := BitVec.getLsbD_of_ge _ _ h
theorem b_255 (i : Nat) : bt 255 i = decide (i < 8) := by
  rcases Nat.lt_or_ge i 32 with h | h
  · exact (by decide +kernel : ∀ i, i < 32 → bt 255 i = decide (i < 8)) i h
  · rw [b_big h, decide_eq_false (by omega)]
theorem b_65535 (i : Nat) : bt 65535 i = decide (i < 16) := by
  rcases Nat.lt_or_ge i 32 with h | h
  · exact (by decide +kernel : ∀ i, i < 32 → bt 65535 i = decide (i < 16)) i h
  · rw [b_big h, decide_eq_false (by omega)]
theorem b_m1 : ∀ i, i < 32 → bt (-1) i = true := by decide +kernel
theorem b_0 (i : Nat) : bt 0 i = false := BitVec.getLsbD_zero
theorem s_l : ∀ n, n < 32 → ((nI n &&& 31).toBitVec.smod 32).toNat = n := by decide +kernel
theorem s_u : ∀ n, n < 32 → (((nI n).toUInt32 &&& Int32.toUInt32 31).toBitVec % 32).toNat = n := by decide +kernel
theorem b_shl (n : Nat) (hn : n < 32) (x : Int32) {i : Nat} (hi : i < 32) : bt (x <<< (nI n &&& 31)) i = (decide (n ≤ i) && bt x (i - n)) := by
  unfold bt
  rw [Int32.toBitVec_shiftLeft]
  show (x.toBitVec <<< ((nI n &&& 31).toBitVec.smod 32).toNat).getLsbD i = _
  rw [s_l n hn, BitVec.getLsbD_shiftLeft]
  rcases Nat.lt_or_ge i n with h | h
  · simp [h, Nat.not_le.mpr h]
  · simp [hi, h, Nat.not_lt.mpr h]
theorem b_ushr (n : Nat) (hn : n < 32) (x : Int32) (i : Nat) : bt ((x.toUInt32 >>> ((nI n).toUInt32 &&& Int32.toUInt32 31)).toInt32) i = bt x (n + i) := by
  show (x.toUInt32 >>> ((nI n).toUInt32 &&& Int32.toUInt32 31)).toBitVec.getLsbD i = x.toUInt32.toBitVec.getLsbD (n + i)
  rw [UInt32.toBitVec_shiftRight]
  show (x.toUInt32.toBitVec >>> (((nI n).toUInt32 &&& Int32.toUInt32 31).toBitVec % 32).toNat).getLsbD i = _
  rw [s_u n hn, BitVec.getLsbD_ushiftRight]
theorem b_sshr (n : Nat) (hn : n < 32) (x : Int32) {i : Nat} (hi : i < 32) : bt (x >>> (nI n &&& 31)) i = if n + i < 32 then bt x (n + i) else bt x 31 := by
  unfold bt
  rw [Int32.toBitVec_shiftRight]
  show (x.toBitVec.sshiftRight ((nI n &&& 31).toBitVec.smod 32).toNat).getLsbD i = _
  rw [s_l n hn, BitVec.getLsbD_sshiftRight, BitVec.msb_eq_getLsbD_last]
  simp [hi]
theorem b_shl8 (x : Int32) {i : Nat} (hi : i < 32) : bt (x <<< ((8 : Int32) &&& 31)) i = (decide (8 ≤ i) && bt x (i - 8)) := b_shl 8 (by omega) x hi
theorem b_shl16 (x : Int32) {i : Nat} (hi : i < 32) : bt (x <<< ((16 : Int32) &&& 31)) i = (decide (16 ≤ i) && bt x (i - 16)) := b_shl 16 (by omega) x hi
theorem b_shl24 (x : Int32) {i : Nat} (hi : i < 32) : bt (x <<< ((24 : Int32) &&& 31)) i = (decide (24 ≤ i) && bt x (i - 24)) := b_shl 24 (by omega) x hi
theorem b_sshr8 (x : Int32) {i : Nat} (hi : i < 32) : bt (x >>> ((8 : Int32) &&& 31)) i = if 8 + i < 32 then bt x (8 + i) else bt x 31 := b_sshr 8 (by omega) x hi
theorem i_draw (x : Int32) : ((x.toUInt32 >>> ((16 : Int32).toUInt32 &&& Int32.toUInt32 31)).toInt32 &&& (32767 : Int32)) - ((x.toUInt32 >>> ((16 : Int32).toUInt32 &&& Int32.toUInt32 31)).toInt32 &&& (32767 : Int32)) / (16 : Int32) * (16 : Int32) = (x >>> ((16 : Int32) &&& 31)) &&& (15 : Int32) := by
  have e : (x.toUInt32 >>> ((16 : Int32).toUInt32 &&& Int32.toUInt32 31)).toInt32 &&& (32767 : Int32) = nI ((x.toUInt32 >>> ((16 : Int32).toUInt32 &&& Int32.toUInt32 31)).toInt32.toBitVec.toNat % 2 ^ 15) := pk_and _ 15 (by decide)
  have m16 : ∀ k : Nat, k < 2 ^ 15 → nI k - nI k / (16 : Int32) * (16 : Int32) = nI k &&& (15 : Int32) := by
    intro k hk
    have h := pk_rem (a := k) (d := 16) (by omega) (by decide) (by decide)
    have h2 := pk_andN (n := k) (by omega) (m := (15 : Int32)) 4 (by decide)
    exact h.trans h2.symm
  rw [e, m16 _ (Nat.mod_lt _ (by decide)), ← e]
  have b15 : ∀ i, i < 32 → bt 15 i = decide (i < 4) := by decide +kernel
  have b32 : ∀ i, i < 4 → bt 32767 i = true := by decide +kernel
  apply b_ext
  intro i hi
  rw [b_and, b_and, b_and, b15 i hi]
  rcases Nat.lt_or_ge i 4 with h | h
  · have u := b_ushr 16 (by decide) x i
    have s := b_sshr 16 (by decide) x hi
    rw [if_pos (by omega)] at s
    rw [show (x.toUInt32 >>> ((16 : Int32).toUInt32 &&& Int32.toUInt32 31)).toInt32 = (x.toUInt32 >>> ((nI 16).toUInt32 &&& Int32.toUInt32 31)).toInt32 from rfl, show x >>> ((16 : Int32) &&& 31) = x >>> (nI 16 &&& 31) from rfl, u, s, b32 i h, Bool.and_true]
  · rw [decide_eq_false (by omega), Bool.and_false, Bool.and_false]
theorem out_b (x : Int32) : ∃ t, 1 ≤ t ∧ t ≤ 99 ∧ FM_less 99 (FM_more 1 x) = nI t := by
  have key : ∃ k, 1 ≤ k ∧ k < 2 ^ 31 ∧ FM_more 1 x = nI k := by
    unfold FM_more
    by_cases h : (1 : Int32) ≤ x
    · rw [if_pos h]
      have h0 : ¬ x < 0 := fun q => absurd (Int32.lt_of_le_of_lt h q) (by decide)
      obtain ⟨j, hj, rfl⟩ := nI_of h0
      exact ⟨j, (nI_leI (a := 1) (by decide) hj).mp h, hj, rfl⟩
    · rw [if_neg h]
      exact ⟨1, by omega, by decide, rfl⟩
  obtain ⟨k, k1, k2, e⟩ := key
  rw [e]
  unfold FM_less
  by_cases h : nI k ≤ 99
  · rw [if_pos h]
    exact ⟨k, k1, (nI_leI (b := 99) k2 (by decide)).mp h, rfl⟩
  · rw [if_neg h]
    exact ⟨99, by omega, by omega, rfl⟩
theorem took_b {m : gM} {r : Nat → Int32} {L : Int32} (hL : L = 0 ∨ L = 5) : ∃ t, t ≤ 104 ∧ a_took m r L = nI t := by
  unfold a_took a_min a_out
  obtain ⟨t, t1, t9, e⟩ := out_b (if m 464 19 = 0 then a_kn m (r 41).toNatClampNeg (who r) (hop r) (r (8 + who r)) (r 45) (r (16 + who r)) 0 * 6 / a_kn m (r 41).toNatClampNeg (who r) (hop r) (r (8 + who r)) (r 45) (r (16 + who r)) 1 + a_kn m (r 41).toNatClampNeg (who r) (hop r) (r (8 + who r)) (r 45) (r (16 + who r)) 3 + a_kn m (r 41).toNatClampNeg (who r) (hop r) (r (8 + who r)) (r 45) (r (16 + who r)) 4 else a_ev m (a_kn m (r 41).toNatClampNeg (who r) (hop r) (r (8 + who r)) (r 45) (r (16 + who r))) (m 464 19).toNatClampNeg 0)
  rw [e]
  rcases hL with rfl | rfl
  · exact ⟨t, by omega, by rw [Int32.add_zero]⟩
  · exact ⟨t + 5, by omega, nI_add t 5⟩
theorem gI_c {c0 m0 : gM} {n : Nat} {c m c2 : gM} (hi : gI c0 m0 n c m) (h : ∀ b, b ≠ 32 → c2 b = c b) (h3 : c2 32 3 = c 32 3) : gI c0 m0 n c2 m := by
  obtain ⟨i1, i2, i3, i4, i5, i6, i7⟩ := hi
  exact ⟨⟨fun b hb => (h b (by omega)).trans (i1.1 b hb), by rw [h 15 (by decide)]; exact i1.2.1, by rw [h 15 (by decide)]; exact i1.2.2⟩, i2, i3, i4, r_st_m i5 (fun b b1 b2 => h b (by omega)), i6, by rw [h3]; exact i7⟩
theorem gI_m {c0 m0 : gM} {n : Nat} {c m m2 : gM} (hi : gI c0 m0 n c m) (h : ∀ b, b ≠ 464 → m2 b = m b) (h3 : ∀ k, k < 37 → m2 464 k = m 464 k) : gI c0 m0 n c m2 := by
  obtain ⟨i1, i2, i3, i4, i5, i6, i7⟩ := hi
  have e : eM m m2 := ⟨fun b hb => h b (by omega), h3 0 (by omega), h3 1 (by omega), h3 3 (by omega), h3 19 (by omega), h3 33 (by omega), h3 34 (by omega), h3 35 (by omega), h3 36 (by omega)⟩
  refine ⟨i1, i2.trans e, by rw [h3 0 (by omega)]; exact i3, ?_, ?_, ?_, ?_⟩
  · rw [eM_W e, eM_C e, eM_H e, h 931 (by decide)]; exact i4
  · rw [h 931 (by decide)]; exact i5
  · rw [h 931 (by decide)]; exact i6
  · rw [h 931 (by decide), h 930 (by decide)]; exact i7
theorem g_set_row (M : gM) (a k : Nat) (x : Int32) : g_set M a k x a = upd (M a) k x := by
  funext j
  simp [g_set, upd]
theorem v_row_45 {W C H : Nat} {r : Nat → Int32} (hv : v_row W C H r) (x : Int32) : v_row W C H (upd r 45 x) := by
  obtain ⟨h1, h2, h3, h4, h5, h6, h7⟩ := hv
  unfold v_row
  rw [upd_ne (show 40 ≠ 45 by decide), upd_ne (show 41 ≠ 45 by decide), upd_ne (show 43 ≠ 45 by decide), upd_ne (show 46 ≠ 45 by decide)]
  exact ⟨fun k hk => by rw [upd_ne (by omega)]; exact h1 k hk, fun k hk => by rw [upd_ne (by omega)]; exact h2 k hk, fun k hk => by rw [upd_ne (by omega)]; exact h3 k hk, fun k h8 hk => by rw [upd_ne (by omega)]; exact h4 k h8 hk, h5, h6, h7⟩
theorem gI_rain {c0 m0 : gM} {n : Nat} {c m : gM} (hi : gI c0 m0 n c m) (y : Int32) : gI c0 m0 n (g_set c 33 10 y) (g_set m 931 45 y) := by
  obtain ⟨i1, i2, i3, i4, i5, i6, i7⟩ := hi
  have e : eM m (g_set m 931 45 y) := eM.of (fun b hb => g_set_ne (by omega))
  refine ⟨⟨fun b hb => ?_, i1.2.1, i1.2.2⟩, i2.trans e, i3, ?_, ?_, ?_, ?_⟩
  · have : b ≠ 33 := by omega
    rw [g_set_ne this]; exact i1.1 b hb
  · rw [eM_W e, eM_C e, eM_H e, g_set_row]; exact v_row_45 i4 y
  · rw [g_set_row]; exact r_st_f i5 y (by omega)
  · rw [g_set_row, upd_ne (by decide)]; exact i6
  · rw [g_set_ne (by decide), g_set_row, upd_ne (by decide), g_set_ne (by decide)]; exact i7
/-- some days gone by on both sides, i rolls -/
def DI (c0 m0 : gM) (i : Nat) (c m : gM) : Prop := gI c0 m0 (200 + i) c m ∧ c 32 5 = m 464 38 ∧ c 32 6 = m 464 46 ∧ c 32 7 = m 464 45 ∧ ∃ g, g ≤ 104 * i ∧ c 32 3 = nI g
def qd (c0 m0 : gM) (fx fm : Option gM) : Prop := okk fx (fun c => okk fm (fun m => ∃ i, i ≤ 200 ∧ DI c0 m0 i c m))
theorem qd_bX {β : Type} {c0 m0 : gM} {o : Option β} {s : β} {f : β → Option gM} {fm : Option gM} (e : o = some s) (h : qd c0 m0 (f s) fm) : qd c0 m0 (o.bind f) fm := by rw [e]; exact h
theorem qd_bM {β : Type} {c0 m0 : gM} {o : Option β} {s : β} {f : β → Option gM} {fx : Option gM} (e : o = some s) (h : qd c0 m0 fx (f s)) : qd c0 m0 fx (o.bind f) := by rw [e]; exact h
theorem DI_lot {c0 m0 : gM} {i : Nat} {c m : gM} (h : DI c0 m0 i c m) (x : Int32) : DI c0 m0 i (g_set c 32 7 x) (g_set m 464 45 x) := by
  obtain ⟨h1, h2, h3, h4, h5⟩ := h
  refine ⟨gI_m (gI_c h1 (fun b hb => g_set_ne hb) rfl) (fun b hb => g_set_ne hb) (fun k hk => g_set_k (by omega)), h2, h3, ?_, h5⟩
  rw [g_set_eq, g_set_eq]
theorem DI_rain {c0 m0 : gM} {i : Nat} {c m : gM} (h : DI c0 m0 i c m) (y : Int32) : DI c0 m0 i (g_set (g_set c 33 10 y) 32 6 (c 32 6 + y)) (g_set (g_set m 931 45 y) 464 46 ((g_set m 931 45 y) 464 46 + (g_set m 931 45 y) 931 45)) := by
  obtain ⟨h1, h2, h3, h4, h5⟩ := h
  refine ⟨gI_m (gI_c (gI_rain h1 y) (fun b hb => g_set_ne hb) rfl) (fun b hb => g_set_ne hb) (fun k hk => g_set_k (by omega)), h2, ?_, h4, h5⟩
  rw [g_set_eq, g_set_eq, g_set_eq, h3]
  rfl
theorem DI_fall {c0 m0 : gM} {i : Nat} {c m : gM} (h : DI c0 m0 i c m) (y : Int32) : DI c0 m0 i (g_set c 32 5 (c 32 5 + y)) (g_set m 464 38 (m 464 38 + y)) := by
  obtain ⟨h1, h2, h3, h4, h5⟩ := h
  refine ⟨gI_m (gI_c h1 (fun b hb => g_set_ne hb) rfl) (fun b hb => g_set_ne hb) (fun k hk => g_set_k (by omega)), ?_, h3, h4, h5⟩
  rw [g_set_eq, g_set_eq, h2]
theorem q_day {c0 m0 : gM} (h0 : RR c0 m0) (S N Q : Int32) {cX : Int32 → gM → Option gM} {cM : Int32 → gM → Option gM} {i : Nat} (hi : i < 200) (K : ∀ c m, DI c0 m0 (i + 1) c m → qd c0 m0 (cX (nI i + 1) c) (cM (nI i + 1) m)) {c m : gM} (hD : DI c0 m0 i c m) (hc : FB_canBowl 33 c = 1) (y : Int32) : qd c0 m0 (FG_passDays_J51 S N Q cX (nI i) y c) (FM_daysBy_J65 S N Q cM (nI i) y 45 m) := by
  -- the roll at the end
  have roll : ∀ (c1 m1 : gM) (L : Int32), (L = 0 ∨ L = 5) → DI c0 m0 i c1 m1 → FB_canBowl 33 c1 = 1 → qd c0 m0 (FG_passDays_J131 S N Q cX (nI i) L c1) (FM_daysBy_J144 S N Q cM (nI i) L m1) := by
    intro c1 m1 L hL h1 hc1
    obtain ⟨k1, k2, k3, k4, g, g1, g2⟩ := h1
    rcases c_can h0 k1 with ⟨a1, a2, a3⟩ | ⟨a1, -, -⟩
    · unfold FG_passDays_J131 FM_daysBy_J144
      obtain ⟨s, e1, t, e2, b0, b1, b2, b3, b4, -, b5, b6, b7⟩ := c_goOn h0 (by omega) k1 a1 a3 L
      refine qd_bX e1 (qd_bM e2 (K _ _ ⟨b1, ?_, ?_, ?_, ?_⟩))
      · rw [b5, k2, b2 464 (by decide)]
      · rw [b6, k3, b2 464 (by decide)]
      · rw [b7, k4, b2 464 (by decide)]
      · obtain ⟨u, u1, u2⟩ := took_b (m := m1) (r := m1 931) hL
        refine ⟨g + u, by omega, ?_⟩
        rw [← nI_add, ← g2, ← u2, b1.2.2.2.2.2.2, k1.2.2.2.2.2.2, b4, b2 930 (by decide)]
        obtain ⟨-, -, ⟨vg, -⟩, -⟩ := gI_RR h0 k1
        rw [(v_roll vg k1.2.2.2.1 a3 L (n := 200 + i) (by omega) k1.2.2.2.2.2.1).2.2.1]
        grind
    · rw [hc1] at a1
      exact absurd a1 (by decide)
  have fall : ∀ (c1 m1 : gM) (z : Int32), (z = 0 ∨ z = 1) → DI c0 m0 i c1 m1 → FB_canBowl 33 c1 = 1 → qd c0 m0 (FG_passDays_J99 S N Q cX (nI i) z c1) (FM_daysBy_J108 S N Q cM (nI i) z m1) := by
    intro c1 m1 z hz h1 hc1
    unfold FG_passDays_J99 FM_daysBy_J108 FG_passDays_J116 FM_daysBy_J125
    rcases hz with rfl | rfl
    · simp only [↓reduceIte]
      exact roll _ _ 0 (Or.inl rfl) (DI_fall h1 0) hc1
    · rw [if_neg i10, if_neg i10, if_neg i10, if_neg i10]
      exact roll _ _ 5 (Or.inr rfl) (DI_fall h1 1) hc1
  unfold FG_passDays_J51 FM_daysBy_J65
  rw [show (45 : Int32) = nI 45 from rfl, ix_in (by decide) (by decide)]
  have D2 := DI_rain hD y
  have e7 : (g_set (g_set c 33 10 y) 32 6 (c 32 6 + y)) 32 7 = (g_set (g_set m 931 45 y) 464 46 ((g_set m 931 45 y) 464 46 + (g_set m 931 45 y) 931 45)) 464 45 := D2.2.2.2.1
  have D3 := DI_lot D2 ((g_set (g_set c 33 10 y) 32 6 (c 32 6 + y)) 32 7 * (1103515245 : Int32) + (12345 : Int32))
  unfold FG_draw g_let FM_draw
  refine qd_bX rfl (qd_bM rfl ?_)
  rw [← e7]
  dsimp only
  rw [i_draw]
  obtain ⟨-, -, ⟨vg, rg⟩, -⟩ := gI_RR h0 D3.1
  obtain ⟨w1, w2, w3⟩ := vg.2.1
  rcases c_can h0 D3.1 with ⟨a1, a2, a3⟩ | ⟨a1, -, -⟩
  · obtain ⟨eg, hgt⟩ := v_row_gate D3.1.2.2.2.1 a3.1 w1
    generalize hcc : g_set (g_set (g_set c 33 10 y) 32 6 (c 32 6 + y)) 32 7 ((g_set (g_set c 33 10 y) 32 6 (c 32 6 + y)) 32 7 * (1103515245 : Int32) + (12345 : Int32)) = cc at *
    generalize hmm : g_set (g_set (g_set m 931 45 y) 464 46 ((g_set m 931 45 y) 464 46 + (g_set m 931 45 y) 931 45)) 464 45 ((g_set (g_set c 33 10 y) 32 6 (c 32 6 + y)) 32 7 * (1103515245 : Int32) + (12345 : Int32)) = mm at *
    have eX : r_at (cc 5) 8 (cc 33 6) = mm (481 + (mm 931 41).toNatClampNeg) 1 := by
      rw [D3.1.2.2.2.2.1.2.2.1, eg, r_at_in _ (by omega) (by decide), nI_clamp (by omega)]
      exact (rg.2.1 _ hgt).2
    rw [eX, eg, ix_in (by omega) (by decide), ← eg]
    generalize hdd : (((g_set (g_set c 33 10 y) 32 6 (c 32 6 + y)) 32 7 * (1103515245 : Int32) + (12345 : Int32)) >>> ((16 : Int32) &&& 31)) &&& (15 : Int32) = dd
    by_cases e : mm (481 + (mm 931 41).toNatClampNeg) 1 ≤ dd
    · rw [if_pos e, if_pos e]
      exact fall _ _ 0 (Or.inl rfl) D3 a1
    · rw [if_neg e, if_neg e]
      exact fall _ _ 1 (Or.inr rfl) D3 a1
  · exact absurd (show FB_canBowl 33 c = 0 from a1) (by rw [hc]; decide)
theorem q_days_L {c0 m0 : gM} (h0 : RR c0 m0) (S Q : Int32) {N : Nat} (hN : N ≤ 200) : ∀ (q i : Nat), i + q = N → ∀ f, q < f → ∀ c m, DI c0 m0 i c m → qd c0 m0 (FG_passDays_L13 S (nI N) Q f (nI i) c) (FM_daysBy_L29 S (nI N) Q f (nI i) m) := by
  intro q
  induction q with
  | zero =>
    intro i hi f hf c m hD
    obtain ⟨f, rfl⟩ : ∃ g, f = g + 1 := ⟨f - 1, by omega⟩
    have : i = N := by omega
    subst this
    have e : nI i ≤ nI i := Int32.le_refl _
    rw [FG_passDays_L13, FM_daysBy_L29, if_pos e, if_pos e]
    exact okk_some (okk_some ⟨i, by omega, hD⟩)
  | succ q ih =>
    intro i hi f hf c m hD
    obtain ⟨f, rfl⟩ : ∃ g, f = g + 1 := ⟨f - 1, by omega⟩
    have n1 : ¬ nI N ≤ nI i := nI_ge (by omega) (by omega)
    rw [FG_passDays_L13, FM_daysBy_L29, if_neg n1, if_neg n1]
    rcases c_can h0 hD.1 with ⟨a1, a2, a3⟩ | ⟨a1, a2, a3⟩
    · rw [a2, if_neg (by rw [a1]; decide)]
      refine qd_bM rfl ?_
      rw [if_neg i10]
      have e7 := hD.2.2.2.1
      have D2 := DI_lot hD (c 32 7 * (1103515245 : Int32) + (12345 : Int32))
      unfold FG_draw FM_draw
      refine qd_bX rfl (qd_bM rfl ?_)
      rw [← e7]
      dsimp only
      rw [i_draw]
      have K : ∀ c m, DI c0 m0 (i + 1) c m → qd c0 m0 (FG_passDays_L13 S (nI N) Q f (nI i + 1) c) (FM_daysBy_L29 S (nI N) Q f (nI i + 1) m) := by
        intro c m h
        rw [nI_1]
        exact ih (i + 1) (by omega) f (by omega) c m h
      by_cases e : Q ≤ ((c 32 7 * (1103515245 : Int32) + (12345 : Int32)) >>> ((16 : Int32) &&& 31)) &&& (15 : Int32)
      · rw [if_pos e, if_pos e]
        exact q_day h0 S (nI N) Q (by omega) K D2 a1 0
      · rw [if_neg e, if_neg e]
        exact q_day h0 S (nI N) Q (by omega) K D2 a1 1
    · rw [a2, if_pos a1]
      refine qd_bM rfl ?_
      rw [if_pos rfl]
      exact okk_some (okk_some ⟨i, by omega, hD⟩)
theorem q_passDays {c0 m0 : gM} (h0 : RR c0 m0) (z0 : m0 464 0 = 0) (S Q : Int32) {N : Nat} (hN : N ≤ 200) : qd c0 m0 (FG_passDays S (nI N) Q c0) (FM_daysBy S (nI N) Q m0) := by
  unfold FG_passDays FM_daysBy
  obtain ⟨c, e1, m, e2, h1, h2, h3, h4, h5⟩ := c_start h0 z0
  refine qd_bX e1 (qd_bM e2 ?_)
  refine q_days_L h0 S Q hN N 0 (by omega) 1000 (by omega) _ _ ⟨gI_m (gI_c h1 (fun b hb => g_set_ne hb) rfl) (fun b hb => ?_) (fun k hk => ?_), ?_, ?_, ?_, 0, by omega, ?_⟩
  · rw [g_set_ne hb, g_set_ne hb, g_set_ne hb]
  · rw [g_set_k (by omega), g_set_k (by omega), g_set_k (by omega)]
  · rw [g_set_eq, g_set_k (by decide)]; exact h4
  · rw [g_set_k (by decide), g_set_k (by decide), g_set_eq]; exact h5
  · rw [g_set_eq, g_set_k (by decide), g_set_k (by decide), g_set_eq]
  · rw [g_set_k (by decide), h1.2.2.2.2.2.2]
    obtain ⟨m2, e4, h6, h7⟩ := m_copies (m := m0) (a := 930) (b := 931) (by decide)
    rw [e2] at e4
    cases e4
    rw [h6 47 (by decide), h7 930 (by decide), Int32.sub_self]
    rfl

theorem areD1 {many q : Int32} (h1 : FM_in many 1 200 = 1) (h2 : FM_in q 0 16 = 1) : ¬ FM_areDays many q = 0 := by
  unfold FM_areDays
  rw [h1, h2, if_neg i10, if_neg i10]
  exact i10
theorem areDa {many q : Int32} (h1 : FM_in many 1 200 = 0) : FM_areDays many q = 0 := by
  unfold FM_areDays
  rw [if_pos h1]
theorem areDb {many q : Int32} (h1 : FM_in many 1 200 = 1) (h2 : FM_in q 0 16 = 0) : FM_areDays many q = 0 := by
  unfold FM_areDays
  rw [h1, if_neg i10, if_pos h2]
theorem q_days_end {c0 m0 : gM} (h0 : RR c0 m0) {c m : gM} {i : Nat} (h : DI c0 m0 i c m) (what : Int32) : qq 1 (if what = (0 : Int32) then (some (0, c 32 3, c)) else if what = (1 : Int32) then (some (0, c 32 5, c)) else if what = (2 : Int32) then (some (0, c 32 6, c)) else ((FZ_fines 33 c).bind fun s8 => (FZ_fines 48 c).bind fun s9 => some (0, s8 - s9, c))) (if what = (0 : Int32) then (some ((m 931 47) - (m 930 47), m)) else if what = (1 : Int32) then (some (m 464 38, m)) else if what = (2 : Int32) then (some (m 464 46, m)) else ((FM_finesIn 931 m).bind fun s8 => (FM_finesIn 930 m).bind fun s9 => some (s8 - s9, m))) := by
  obtain ⟨h1, h2, h3, h4, h5⟩ := h
  have hr := gI_RR h0 h1
  have z := gI_z h1
  obtain ⟨f1, f2, f3, f4⟩ := gI_fines h0 h1
  by_cases e0 : what = 0
  · rw [if_pos e0, if_pos e0]
    exact qq_v z hr h1.2.2.2.2.2.2
  · rw [if_neg e0, if_neg e0]
    by_cases e1 : what = 1
    · rw [if_pos e1, if_pos e1]
      exact qq_v z hr h2
    · rw [if_neg e1, if_neg e1]
      by_cases e2 : what = 2
      · rw [if_pos e2, if_pos e2]
        exact qq_v z hr h3
      · rw [if_neg e2, if_neg e2, f1, f2, f3, f4]
        exact qq_ok z hr
theorem q_days {c m : gM} (h : RR c m) (seed many qx what : Int32) : qq 1 (FX_days seed many qx what c) (FM_days seed many qx what m) := by
  have h0 := RR_t h 0
  obtain ⟨m0, e0⟩ : ∃ y, y = g_set m 464 0 0 := ⟨_, rfl⟩
  rw [← e0] at h0
  have z0 : m0 464 0 = 0 := by rw [e0, g_set_eq]
  have hb := h0
  obtain ⟨t1, t2, ⟨hg, rg⟩, ⟨hl, rl⟩, t7, t8, t9, t10⟩ := hb
  have rs := t8.2
  have hv := t8.1.1
  have bad : ∀ y : Int32, y = 1 → qq 1 (some (2, (0 : Int32), g_set c 0 17 (c 0 17 + 1))) (FM_days_J29 seed many qx what y m0) := by
    rintro y rfl
    unfold FM_days_J29
    exact qq_bM (m_bad_il z0 (by decide)) (qq_fM i10 (qq_il h0))
  unfold FX_days FM_days
  rw [← e0]
  rcases c_needIn c many 1 200 with ⟨f1, a1, b1, x1⟩ | ⟨f1, x1⟩
  · refine qq_bX x1 (qq_tX rfl ?_)
    rcases c_needIn c qx 0 16 with ⟨f2, a2, b2, x2⟩ | ⟨f2, x2⟩
    · refine qq_bX x2 (qq_tX rfl (qq_fM (areD1 f1 f2) ?_))
      rcases c_needIn c what 0 3 with ⟨f3, a3, b3, x3⟩ | ⟨f3, x3⟩
      · refine qq_bX x3 (qq_tX rfl (qq_fM (by rw [f3]; decide) ?_))
        unfold FM_days_J29
        refine qq_bM (m_bad0 z0 _ _) (qq_tM rfl ?_)
        dsimp only
        obtain ⟨N, hN, rfl⟩ := nI_of2 (n := 200) (by decide) (fun q => a1 (Int32.lt_trans q (by decide))) b1
        obtain ⟨c1, e1, m1, e2, i, i2, hD⟩ := q_passDays h0 z0 seed qx hN
        exact qq_bX e1 (qq_bM e2 (q_days_end h0 hD what))
      · refine qq_bX x3 (qq_fX n20 (qq_tM f3 ?_))
        unfold FM_days_J24
        exact bad _ rfl
    · refine qq_bX x2 (qq_fX n20 (qq_tM (areDb f1 f2) ?_))
      unfold FM_days_J24
      exact bad _ rfl
  · refine qq_bX x1 (qq_fX n20 (qq_tM (areDa f1) ?_))
    unfold FM_days_J24
    exact bad _ rfl
theorem m_more (x y : Int32) : m_max x y = FM_more x y := by
  unfold m_max FM_more
  by_cases h : x < y
  · rw [if_pos h, if_pos (Int32.le_of_lt h)]
  · rw [if_neg h]
    by_cases h2 : x ≤ y
    · rw [if_pos h2]
      exact Int32.le_antisymm h2 (Int32.not_lt.mp h)
    · rw [if_neg h2]
theorem nI_nm1 {b : Nat} (h : b < 2 ^ 31) : ¬ nI b = -1 := by
  intro q
  have h1 := nI_toInt h
  rw [q] at h1
  have h2 : (-1 : Int32).toInt = -1 := by decide
  omega
theorem more_b {a b n : Nat} (ha : a ≤ n) (hb : b ≤ n) (hn : n < 2 ^ 31) : ∃ g, g ≤ n ∧ FM_more (nI a) (nI b) = nI g := by
  unfold FM_more
  by_cases h : nI a ≤ nI b
  · rw [if_pos h]; exact ⟨b, hb, rfl⟩
  · rw [if_neg h]; exact ⟨a, ha, rfl⟩
theorem less_b {a b n : Nat} (ha : a ≤ n) (hb : b ≤ n) (hn : n < 2 ^ 31) : ∃ g, g ≤ n ∧ FM_less (nI a) (nI b) = nI g := by
  unfold FM_less
  by_cases h : nI b ≤ nI a
  · rw [if_pos h]; exact ⟨b, hb, rfl⟩
  · rw [if_neg h]; exact ⟨a, ha, rfl⟩
theorem q_span_L (S Q what : Int32) {N T : Nat} (hN : N ≤ 200) (hT : T ≤ 20) (hT0 : 0 < T) : ∀ (q i : Nat), i + q = T → ∀ f, q < f → ∀ xf mf xs w c m, RR c m → m 464 0 = 0 → ((i = 0 ∧ xf = 1000000000 ∧ mf = -1) ∨ (0 < i ∧ xf = mf ∧ ∃ g, g ≤ 20800 ∧ mf = nI g)) → (∃ g, g ≤ 20800 ∧ xs = nI g) → qq 1 (FX_span_L48 S (nI T) (nI N) Q what f xf xs w (nI i) c) (FM_span_L62 S (nI T) (nI N) Q what f mf xs w (nI i) m) := by
  intro q
  induction q with
  | zero =>
    intro i hi f hf xf mf xs w c m hr z hf1 hs
    obtain ⟨f, rfl⟩ : ∃ g, f = g + 1 := ⟨f - 1, by omega⟩
    have : i = T := by omega
    subst this
    have e : nI i ≤ nI i := Int32.le_refl _
    rw [FX_span_L48, FM_span_L62, if_pos e, if_pos e]
    rcases hf1 with ⟨h, -⟩ | ⟨-, h, -⟩
    · omega
    · rw [h]
      by_cases e0 : what = 0
      · rw [if_pos e0, if_pos e0]; exact qq_ok z hr
      · rw [if_neg e0, if_neg e0]
        by_cases e1 : what = 1
        · rw [if_pos e1, if_pos e1]; exact qq_ok z hr
        · rw [if_neg e1, if_neg e1]; exact qq_ok z hr
  | succ q ih =>
    intro i hi f hf xf mf xs w c m hr z hf1 hs
    obtain ⟨f, rfl⟩ : ∃ g, f = g + 1 := ⟨f - 1, by omega⟩
    have n1 : ¬ nI T ≤ nI i := nI_ge (by omega) (by omega)
    rw [FX_span_L48, FM_span_L62, if_neg n1, if_neg n1]
    obtain ⟨c1, e1, m1, e2, k, k2, hD⟩ := q_passDays hr z (S + nI i) Q hN
    obtain ⟨h1, h2, h3, h4, g, g1, g2⟩ := hD
    have hr1 := gI_RR hr h1
    have z1 := gI_z h1
    have e3 : m1 931 47 - m1 930 47 = nI g := by rw [← g2]; exact h1.2.2.2.2.2.2.symm
    obtain ⟨a, a1, rfl⟩ := hs
    have hs2 : ∃ g3, g3 ≤ 20800 ∧ FM_more (nI a) (nI g) = nI g3 := more_b a1 (by omega) (by decide)
    have tail : ∀ x2 y2, ((0 < i + 1 ∧ x2 = y2 ∧ ∃ g, g ≤ 20800 ∧ y2 = nI g)) → qq 1 (if c1 32 5 = 0 then FX_span_L48 S (nI T) (nI N) Q what f x2 (m_max (nI a) (c1 32 3)) (w + 1) (nI i + 1) c1 else FX_span_L48 S (nI T) (nI N) Q what f x2 (m_max (nI a) (c1 32 3)) (w + 0) (nI i + 1) c1) (FM_span_J114 S (nI T) (nI N) Q what (FM_span_L62 S (nI T) (nI N) Q what f) (nI a) w (nI i) (m1 931 47 - m1 930 47) y2 m1) := by
      intro x2 y2 hxy
      unfold FM_span_J114
      rw [e3, g2, m_more, h2, nI_1]
      by_cases e : m1 464 38 = 0
      · rw [if_pos e, if_pos e]
        exact ih (i + 1) (by omega) f (by omega) _ _ _ _ _ _ hr1 z1 (Or.inr hxy) hs2
      · rw [if_neg e, if_neg e]
        exact ih (i + 1) (by omega) f (by omega) _ _ _ _ _ _ hr1 z1 (Or.inr hxy) hs2
    refine qq_bX e1 (qq_bM e2 ?_)
    rcases hf1 with ⟨h, hx, hm⟩ | ⟨h, hx, b, b1, hm⟩
    · rw [if_pos hm]
      refine tail _ _ ⟨by omega, ?_, g, by omega, e3⟩
      rw [hx, g2, e3]
      unfold m_min
      rw [if_pos (show nI g < 1000000000 from nI_lt (b := 1000000000) (by omega) (by decide))]
    · rw [hm, if_neg (nI_nm1 (by omega))]
      refine tail _ _ ⟨by omega, ?_, ?_⟩
      · rw [hx, hm, g2, e3, m_less]
      · rw [e3]
        exact less_b b1 (by omega) (by decide)
theorem q_span {c m : gM} (h : RR c m) (seed seeds many qx what : Int32) : qq 1 (FX_span seed seeds many qx what c) (FM_span seed seeds many qx what m) := by
  have h0 := RR_t h 0
  obtain ⟨m0, e0⟩ : ∃ y, y = g_set m 464 0 0 := ⟨_, rfl⟩
  rw [← e0] at h0
  have z0 : m0 464 0 = 0 := by rw [e0, g_set_eq]
  have hb := h0
  obtain ⟨t1, t2, ⟨hg, rg⟩, ⟨hl, rl⟩, t7, t8, t9, t10⟩ := hb
  have rs := t8.2
  have hv := t8.1.1
  have bad : qq 1 (some (2, (0 : Int32), g_set c 0 17 (c 0 17 + 1))) (FM_span_J35 seed seeds many qx what m0) := by
    unfold FM_span_J35 FM_span_J40
    exact qq_bM (m_bad_il z0 (by decide)) (qq_fM i10 (qq_il h0))
  unfold FX_span FM_span
  rw [← e0]
  rcases c_needIn c seeds 1 20 with ⟨f0, a0, b0, x0⟩ | ⟨f0, x0⟩
  · refine qq_bX x0 (qq_tX rfl (qq_fM (by rw [f0]; decide) ?_))
    rcases c_needIn c many 1 200 with ⟨f1, a1, b1, x1⟩ | ⟨f1, x1⟩
    · refine qq_bX x1 (qq_tX rfl ?_)
      rcases c_needIn c qx 0 16 with ⟨f2, a2, b2, x2⟩ | ⟨f2, x2⟩
      · refine qq_bX x2 (qq_tX rfl (qq_fM (areD1 f1 f2) ?_))
        rcases c_needIn c what 0 2 with ⟨f3, a3, b3, x3⟩ | ⟨f3, x3⟩
        · refine qq_bX x3 (qq_tX rfl (qq_fM (by rw [f3]; decide) ?_))
          unfold FM_span_J40
          refine qq_bM (m_bad0 z0 _ _) (qq_tM rfl ?_)
          dsimp only
          obtain ⟨N, hN, rfl⟩ := nI_of2 (n := 200) (by decide) (fun q => a1 (Int32.lt_trans q (by decide))) b1
          obtain ⟨T, hT, rfl⟩ := nI_of2 (n := 20) (by decide) (fun q => a0 (Int32.lt_trans q (by decide))) b0
          have hT0 : 0 < T := by
            rcases Nat.eq_zero_or_pos T with q | q
            · rw [q] at a0
              exact absurd (show nI 0 < 1 by decide) a0
            · exact q
          exact q_span_L seed qx what hN hT hT0 T 0 (by omega) 1000 (by omega) _ _ _ _ c m0 h0 z0 (Or.inl ⟨rfl, rfl, rfl⟩) ⟨0, by omega, rfl⟩
        · refine qq_bX x3 (qq_fX n20 (qq_tM f3 bad))
      · refine qq_bX x2 (qq_fX n20 (qq_tM (areDb f1 f2) bad))
    · refine qq_bX x1 (qq_fX n20 (qq_tM (areDa f1) bad))
  · refine qq_bX x0 (qq_fX n20 (qq_tM f0 bad))
