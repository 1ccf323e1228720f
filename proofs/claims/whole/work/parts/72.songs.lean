/-! Songs read. -/
def cX (S : Nat → Prop) (c M : gM) : Prop := (∀ b, b ≠ 1 → ¬ S b → M b = c b) ∧ ∀ k, k ≠ 3 → k ≠ 4 → k ≠ 5 → k ≠ 6 → M 1 k = c 1 k
def mX (S : Nat → Prop) (m M : gM) : Prop := (∀ b, b ≠ 464 → ¬ S b → M b = m b) ∧ ∀ k, (k ≤ 3 ∨ 30 ≤ k ∨ k = 19) → M 464 k = m 464 k
theorem cX.trans {S : Nat → Prop} {a b c : gM} (h1 : cX S a b) (h2 : cX S b c) : cX S a c := ⟨fun x h3 h4 => (h2.1 x h3 h4).trans (h1.1 x h3 h4), fun k a1 a2 a3 a4 => (h2.2 k a1 a2 a3 a4).trans (h1.2 k a1 a2 a3 a4)⟩
theorem mX.trans {S : Nat → Prop} {a b c : gM} (h1 : mX S a b) (h2 : mX S b c) : mX S a c := ⟨fun x h3 h4 => (h2.1 x h3 h4).trans (h1.1 x h3 h4), fun k hk => (h2.2 k hk).trans (h1.2 k hk)⟩
theorem cX.rfl' (S : Nat → Prop) (c : gM) : cX S c c := ⟨fun _ _ _ => rfl, fun _ _ _ _ _ => rfl⟩
theorem mX.rfl' (S : Nat → Prop) (m : gM) : mX S m m := ⟨fun _ _ _ => rfl, fun _ _ => rfl⟩
theorem cS.cX {S : Nat → Prop} {c M : gM} (h : cS c M) : cX S c M := ⟨fun b h1 _ => h.1 b h1, h.2⟩
theorem mS.mX {S : Nat → Prop} {m M : gM} (h : mS m M) : mX S m M := ⟨fun b h1 _ => h.1 b h1, fun k hk => h.2 k (by omega) (by omega) (by omega)⟩
theorem cX_set {S : Nat → Prop} {c M : gM} (h : cX S c M) {a k : Nat} {x : Int32} (ha : a ≠ 1) (hs : S a) : cX S c (g_set M a k x) := ⟨fun b h1 h2 => by
    by_cases e : b = a
    · rw [e] at h2; exact absurd hs h2
    · rw [g_set_ne e]; exact h.1 b h1 h2, fun q a1 a2 a3 a4 => by rw [g_set_ne (Ne.symm ha)]; exact h.2 q a1 a2 a3 a4⟩
theorem mX_set {S : Nat → Prop} {m M : gM} (h : mX S m M) {a k : Nat} {x : Int32} (ha : a ≠ 464) (hs : S a) : mX S m (g_set M a k x) := ⟨fun b h1 h2 => by
    by_cases e : b = a
    · rw [e] at h2; exact absurd hs h2
    · rw [g_set_ne e]; exact h.1 b h1 h2, fun q hq => by rw [g_set_ne (Ne.symm ha)]; exact h.2 q hq⟩
theorem tC_o {n : Nat} {B : Nat → Nat} {p : Nat} {f w : Int32} {c : gM} (h : tC n B p f w c) {a k : Nat} {x : Int32} (h1 : a ≠ 1) (h2 : a ≠ 2) : tC n B p f w (g_set c a k x) := by
  unfold tC
  rw [g_set_ne (Ne.symm h1), g_set_ne (Ne.symm h2)]
  exact h
theorem tM_o {n : Nat} {B : Nat → Nat} {p : Nat} {f w : Int32} {m : gM} (h : tM n B p f w m) {a k : Nat} {x : Int32} (h1 : a ≠ 464) (h2 : a ≠ 465) : tM n B p f w (g_set m a k x) := by
  unfold tM
  rw [g_set_ne (Ne.symm h1), g_set_ne (Ne.symm h2)]
  exact h
def sS (b : Nat) : Prop := b = 25 ∨ b = 26
def sM (b : Nat) : Prop := 839 ≤ b ∧ b ≤ 846
/-- lines heard so far, on both sides -/
def SD (W many : Nat) (been : Int32) (c m : gM) : Prop := c 25 1 = nI many ∧ c 26 0 = -1 ∧ fsum (fun g => if c 26 g = -1 then 0 else 1) 8 = many ∧ (∀ g, g < 8 → F_hasBit been (nI g) = if c 26 g = -1 then 0 else 1) ∧ (∀ k, k < many → ∃ g t, 1 ≤ g ∧ g < W ∧ t ≤ 999 ∧ m (839 + k) 0 = nI g ∧ m (839 + k) 1 = nI t ∧ c 26 g = nI t) ∧ ∀ g, g < 8 → c 26 g = -1 ∨ ∃ k, k < many ∧ m (839 + k) 0 = nI g
theorem SD_e {W many : Nat} {been : Int32} {c m c2 m2 : gM} (h : SD W many been c m) (h1 : c2 25 = c 25) (h2 : c2 26 = c 26) (h3 : ∀ k, k < 8 → m2 (839 + k) = m (839 + k)) (h8 : many ≤ 8) : SD W many been c2 m2 := by
  unfold SD at h ⊢
  rw [h1, h2]
  obtain ⟨a1, a2, a3, a4, a5, a6⟩ := h
  refine ⟨a1, a2, a3, a4, fun k hk => by rw [h3 k (by omega)]; exact a5 k hk, fun g hg => ?_⟩
  rcases a6 g hg with e | ⟨k, k1, k2⟩
  · exact Or.inl e
  · exact Or.inr ⟨k, k1, by rw [h3 k (by omega)]; exact k2⟩
theorem fsum_upd {f g : Nat → Nat} {j : Nat} (h : ∀ k, k ≠ j → g k = f k) : ∀ n, fsum g n + (if j < n then f j else 0) = fsum f n + (if j < n then g j else 0) := by
  intro n
  induction n with
  | zero => rfl
  | succ n ih =>
    show fsum g n + g n + _ = fsum f n + f n + _
    by_cases e : j = n
    · subst e
      rw [if_pos (by omega), if_pos (by omega)]
      rw [if_neg (by omega), if_neg (by omega)] at ih
      omega
    · rw [h n (Ne.symm e)]
      by_cases e2 : j < n
      · rw [if_pos (by omega), if_pos (by omega)]
        rw [if_pos e2, if_pos e2] at ih
        omega
      · rw [if_neg (by omega), if_neg (by omega)]
        rw [if_neg e2, if_neg e2] at ih
        omega
theorem SD_7 {W many : Nat} {been : Int32} {c m : gM} (h : SD W many been c m) : many ≤ 7 := by
  obtain ⟨a1, a2, a3, a4, a5, a6⟩ := h
  have h1 := fsum_upd (f := fun g => if c 26 g = -1 then 0 else 1) (g := fun g => if g = 0 then 1 else if c 26 g = -1 then 0 else 1) (j := 0) (fun k hk => by rw [if_neg hk]) 8
  rw [if_pos (show 0 < 8 by decide), if_pos (show 0 < 8 by decide), if_pos a2, if_pos rfl] at h1
  have h2 := fsum_le (f := fun g => if g = 0 then 1 else if c 26 g = -1 then 0 else 1) (b := 1) 8 (fun k _ => by
    by_cases e : k = 0
    · rw [if_pos e]; omega
    · rw [if_neg e]
      by_cases e2 : c 26 k = -1
      · rw [if_pos e2]; omega
      · rw [if_neg e2]; omega)
  omega
theorem SD_new {W many : Nat} {been : Int32} {c m : gM} (h : SD W many been c m) {g t : Nat} (hg : 1 ≤ g) (hg2 : g < W) (hW : W ≤ 8) (ht : t ≤ 999) (hn : c 26 g = -1) : SD W (many + 1) (been ||| ((1 : Int32) <<< (nI g &&& 31))) (g_set (g_set c 26 g (nI t)) 25 1 (nI (many + 1))) (g_set (g_set m (839 + many) 0 (nI g)) (839 + many) 1 (nI t)) := by
  have h7 := SD_7 h
  obtain ⟨a1, a2, a3, a4, a5, a6⟩ := h
  have r26 : ∀ x, g_set (g_set c 26 g (nI t)) 25 1 (nI (many + 1)) 26 x = if x = g then nI t else c 26 x := fun x => by
    rw [g_set_ne (by decide)]
    by_cases e : x = g
    · rw [e, g_set_eq, if_pos rfl]
    · rw [g_set_k e, if_neg e]
  have r0 : ∀ k, g_set (g_set m (839 + many) 0 (nI g)) (839 + many) 1 (nI t) (839 + k) 0 = if k = many then nI g else m (839 + k) 0 := fun k => by
    by_cases e : k = many
    · subst e
      rw [if_pos rfl, g_set_k (by decide), g_set_eq]
    · rw [if_neg e, g_set_ne (by omega), g_set_ne (by omega)]
  have r1 : ∀ k, g_set (g_set m (839 + many) 0 (nI g)) (839 + many) 1 (nI t) (839 + k) 1 = if k = many then nI t else m (839 + k) 1 := fun k => by
    by_cases e : k = many
    · subst e
      rw [if_pos rfl, g_set_eq]
    · rw [if_neg e, g_set_ne (by omega), g_set_ne (by omega)]
  refine ⟨g_set_eq _ _ _ _, ?_, ?_, fun x hx => ?_, fun k hk => ?_, fun x hx => ?_⟩
  · rw [r26, if_neg (by omega)]; exact a2
  · have h1 := fsum_upd (f := fun g => if c 26 g = -1 then 0 else 1) (g := fun x => if g_set (g_set c 26 g (nI t)) 25 1 (nI (many + 1)) 26 x = -1 then 0 else 1) (j := g) (fun k hk => by rw [r26, if_neg hk]) 8
    rw [if_pos (show g < 8 by omega), if_pos (show g < 8 by omega), if_pos hn, r26, if_pos rfl, if_neg (nI_nm1 (by omega)), a3] at h1
    exact h1
  · rw [r26, hb_bt _ (show x < 32 by omega), b_or, bt_kid g (by omega) x (by omega)]
    have a4x := a4 x hx
    rw [hb_bt _ (show x < 32 by omega)] at a4x
    by_cases e : x = g
    · rw [if_pos e, decide_eq_true e, Bool.or_true, if_pos rfl, if_neg (nI_nm1 (by omega))]
    · rw [if_neg e, decide_eq_false e, Bool.or_false]
      exact a4x
  · by_cases e : k = many
    · exact ⟨g, t, hg, hg2, ht, by rw [r0, if_pos e], by rw [r1, if_pos e], by rw [r26, if_pos rfl]⟩
    · obtain ⟨g2, t2, b1, b2, b3, b4, b5, b6⟩ := a5 k (by omega)
      refine ⟨g2, t2, b1, b2, b3, by rw [r0, if_neg e]; exact b4, by rw [r1, if_neg e]; exact b5, ?_⟩
      rw [r26]
      have : g2 ≠ g := fun z => by rw [z, hn] at b6; exact nI_nm1 (by omega) b6.symm
      rw [if_neg this]
      exact b6
  · by_cases e : x = g
    · exact Or.inr ⟨many, by omega, by rw [r0, if_pos rfl, e]⟩
    · rw [r26, if_neg e]
      rcases a6 x hx with z | ⟨k, k1, k2⟩
      · exact Or.inl z
      · exact Or.inr ⟨k, by omega, by rw [r0, if_neg (by omega)]; exact k2⟩
theorem XF_line {n : Nat} {B : Nat → Nat} {p : Nat} {f w : Int32} {c : gM} (hf : f ≠ 0) (h : tC n B p f w c) (walks x : Int32) : okk (FS_readLine_J33 walks x c) (fun s => cX sS c s ∧ ∃ e, tC n B e f w s) := by
  unfold FS_readLine_J33
  refine okk_bind (CF_number hf h 0 999) ?_
  rintro s ⟨s1, e, s2⟩
  refine okk_bind (CF_need hf s2 (k := 59) (by decide)) ?_
  rintro t ⟨t1, e2, t2⟩
  refine okk_let (fun M3 e3 => okk_some ⟨?_, e2, ?_⟩)
  · refine cX_set (cX.trans (cX.trans s1.cX t1.cX) ?_) (by decide) (Or.inl rfl)
    rw [e3]
    refine ⟨fun b b1 b2 => r_put_ne (fun z => b2 (Or.inr z)), fun k a1 a2 a3 a4 => by rw [r_put_ne (by decide)]⟩
  · refine tC_o ?_ (by decide) (by decide)
    rw [e3]
    unfold tC
    rw [r_put_ne (by decide), r_put_ne (by decide)]
    exact t2
theorem MF_line {n : Nat} {B : Nat → Nat} {q : Nat} {f w : Int32} {m : gM} (hf : f ≠ 0) (h : tM n B q f w m) (nn : Int32) (fl : Nat) (x2 x3 x5 : Int32) : ∃ N, FM_songs_J110 nn (FM_songs_L48 nn (fl + 1)) x2 x3 x5 m = FM_songs_J170 nn x2 N ∧ mS m N ∧ ∃ e, tM n B e f w N := by
  have h5 : m 464 5 ≠ 0 := by rw [h.2.2.1]; exact hf
  obtain ⟨N, e, n1, n2⟩ := M_blanks h
  refine ⟨N, ?_, n2, _, n1⟩
  unfold FM_songs_J110
  rw [MF_number h5, Option.bind_some]
  dsimp only
  rw [MF_sign h5, Option.bind_some, if_neg h5]
  unfold FM_songs_J163
  rw [e, Option.bind_some, FM_songs_L48, if_neg (by rw [n1.2.2.1]; exact hf)]
theorem faulty_0 {n : Nat} {B : Nat → Nat} {p : Nat} {w : Int32} {c : gM} (h : tC n B p 0 w c) : F_faulty c = 0 := by
  unfold F_faulty
  rw [if_pos h.2.2.1]
theorem faulty_1 {n : Nat} {B : Nat → Nat} {p : Nat} {f w : Int32} {c : gM} (hf : f ≠ 0) (h : tC n B p f w c) : ¬ F_faulty c = 0 := by
  unfold F_faulty
  rw [if_neg (by rw [h.2.2.1]; exact hf)]
  exact i10
theorem hi_8 : ∀ W, W ≤ 8 → nI W - 1 < (10000 : Int32) := by decide +kernel
theorem in_nI {v lo : Nat} {hi : Int32} (hv : v < 2 ^ 31) (hl : lo < 2 ^ 31) (h : FM_in (nI v) (nI lo) hi = 1) : lo ≤ v ∧ nI v ≤ hi := by
  unfold FM_in at h
  by_cases q1 : nI v < nI lo
  · rw [if_pos q1] at h; exact absurd h.symm i10
  · rw [if_neg q1] at h
    by_cases q2 : hi < nI v
    · rw [if_pos q2] at h; exact absurd h.symm i10
    · exact ⟨Nat.not_lt.mp (fun z => q1 ((nI_ltI hv hl).mpr z)), Int32.not_lt.mp q2⟩
theorem in_W {v W lo : Nat} (hv : v ≤ 10000) (hW : W ≤ 8) (hl : lo < 2 ^ 31) (h : FM_in (nI v) (nI lo) (nI W - 1) = 1) : lo ≤ v ∧ v < W := by
  obtain ⟨h1, h2⟩ := in_nI (by omega) hl h
  refine ⟨h1, ?_⟩
  cases W with
  | zero =>
    exfalso
    have : nI 0 - 1 < nI v := Int32.lt_of_lt_of_le (show nI 0 - 1 < 0 by decide) (nI_pos' (by omega))
    exact Int32.not_le.mpr this h2
  | succ W =>
    rw [nI_pred] at h2
    have := (nI_leI (by omega) (by omega)).mp h2
    omega
theorem S_L {n : Nat} {B : Nat → Nat} (hn : n ≤ 60) {W : Nat} (hW : W ≤ 8) : ∀ (d i p : Nat), n - p = d → i ≤ p → ∀ fl fm, d < fl → d < fm → ∀ many been c m, PS n B p (skp n B p) c m → SD W many been c m → m 468 0 = nI W → okk (FS_read_L6 (nI W) fl (nI i) c) (fun s => ∃ N mn bn, FM_songs_L48 (nI n) (fm + 1) (nI many) been m = FM_songs_J170 (nI n) (nI mn) N ∧ cX sS c s ∧ mX sM m N ∧ ((∃ e f, PS n B e f s N ∧ SD W mn bn s N) ∨ PF n B s N)) := by
  intro d
  induction d using Nat.strongRecOn with
  | _ d ih =>
    intro i p hd hi fl fm hfl hfm many been c m hP hS h468
    obtain ⟨fl, rfl⟩ : ∃ g, fl = g + 1 := ⟨fl - 1, by omega⟩
    have hp := hP.1.2.2.2.2.1
    have hsk := skp_le (n := n) (B := B) hp
    have h7 := SD_7 hS
    by_cases hend : skp n B p < n
    · -- one more line
      have hi60 : i < 60 := by omega
      obtain ⟨fm, rfl⟩ : ∃ g, fm = g + 1 := ⟨fm - 1, by omega⟩
      rw [FS_read_L6, if_neg (show ¬ (60 : Int32) ≤ nI i from nI_ge (b := 60) hi60 (by decide)), if_pos (faulty_0 hP.1), FM_songs_L48, if_pos hP.2.1.2.2.1, hP.2.1.1, hP.2.1.2.1, if_neg (nI_ge hend (by omega)), h468]
      refine okk_bind (L_next hP.1) ?_
      rintro ⟨x, c1⟩ ⟨rfl, k1, k2, k3⟩
      dsimp only at k1 k2 k3 ⊢
      rw [if_neg (by unfold chr; rw [if_pos hend]; exact nI_nm1 (by have := (hP.1.2.2.2.2.2.2 _ hend).1; omega))]
      have hP1 : PS n B (skp n B p) (skp n B p) c1 m := ⟨k1, hP.2.1, rfl⟩
      have hS1 : SD W many been c1 m := SD_e hS (k3.1 25 (by decide)) (k3.1 26 (by decide)) (fun _ _ => rfl) (by omega)
      unfold FS_readLine
      obtain ⟨⟨v1, c2⟩, x1, ⟨v2, m2⟩, y1, j1, j2, j3, j4⟩ := P_number hP1 1 (hi_8 W hW) (by decide)
      rw [x1, y1, Option.bind_some, Option.bind_some]
      dsimp only at j1 j2 j3 j4 ⊢
      rw [skp_i] at j3
      -- what follows a fault
      have afterF : ∀ (c3 m3 : gM) (x y : Int32), cX sS c c3 → mX sM m m3 → PF n B c3 m3 → okk ((FS_readLine_J33 (nI W) x c3).bind fun s7 => FS_read_L6 (nI W) fl (nI i + 1) s7) (fun s => ∃ N mn bn, FM_songs_J110 (nI n) (FM_songs_L48 (nI n) (fm + 1)) (nI many) been y m3 = FM_songs_J170 (nI n) (nI mn) N ∧ cX sS c s ∧ mX sM m N ∧ ((∃ e f, PS n B e f s N ∧ SD W mn bn s N) ∨ PF n B s N)) := by
        rintro c3 m3 x y f1 f2 ⟨p3, q3, f, w, f0, f3, f4⟩
        refine okk_bind (XF_line f0 f3 (nI W) x) ?_
        rintro c4 ⟨g1, e4, g2⟩
        obtain ⟨fl, rfl⟩ : ∃ g, fl = g + 1 := ⟨fl - 1, by omega⟩
        obtain ⟨N, n1, n2, e5, n3⟩ := MF_line f0 f4 (nI n) fm (nI many) been y
        have stop : FS_read_L6 (nI W) (fl + 1) (nI i + 1) c4 = some c4 := by
          rw [FS_read_L6]
          by_cases z : (60 : Int32) ≤ nI i + 1
          · rw [if_pos z]
          · rw [if_neg z, if_neg (faulty_1 f0 g2)]
        rw [stop]
        exact okk_some ⟨N, many, been, n1, f1.trans g1, f2.trans n2.mX, Or.inr ⟨e4, e5, f, w, f0, g2, n3⟩⟩
      have cc2 : cX sS c c2 := k3.cX.trans j1.cX
      rcases j4 with ⟨e, v, e1, e2, hP2, ev1, ev2, v10, vin⟩ | hF
      · obtain ⟨w1, w2⟩ := in_W v10 hW (lo := 1) (by decide) vin
        have hS2 : SD W many been c2 m2 := SD_e hS1 (j1.1 25 (by decide)) (j1.1 26 (by decide)) (fun k hk => j2.1 _ (by omega)) (by omega)
        rw [if_pos (faulty_0 hP2.1), if_pos hP2.2.1.2.2.1, ev1, ev2, show FM_has been (nI v) = F_hasBit been (nI v) from rfl, hS2.2.2.2.1 v (by omega)]
        unfold FS_hasGateR
        rw [r_at_in _ (show v < 8 by omega) (by decide)]
        by_cases ed : c2 26 v = -1
        · -- a new gate
          rw [if_pos ed, if_pos rfl, if_pos rfl]
          unfold FS_readLine_J33 FM_songs_J110
          obtain ⟨⟨u1, c3⟩, x3, ⟨u2, m3⟩, y3, j5, j6, j7, j8⟩ := P_number hP2 0 (hi := 999) (by decide) (by decide)
          rcases j8 with ⟨e3, u, e4, e5, hP3, eu1, eu2, u10, uin⟩ | hF
          · obtain ⟨c4, x4, m4, y4, j9, j10, j11, j12⟩ := P_need hP3 (k := 59) (by decide)
            have u9 : u ≤ 999 := by
              have := (in_nI (lo := 0) (by omega) (by decide) uin).2
              exact (nI_leI (b := 999) (by omega) (by decide)).mp this
            dsimp only at eu1 eu2 hP3 x4 y4
            rcases j12 with ⟨e6, e7, e8, e9, hP4⟩ | hF
            · have hS4 : SD W many been c4 m4 := SD_e hS2 (by rw [j9.1 25 (by decide)]; exact j5.1 25 (by decide)) (by rw [j9.1 26 (by decide)]; exact j5.1 26 (by decide)) (fun k hk => by rw [j10.1 _ (by omega)]; exact j6.1 _ (by omega)) (by omega)
              have e26 : c4 26 v = -1 := by rw [j9.1 26 (by decide), j5.1 26 (by decide)]; exact ed
              have hS5 := SD_new hS4 w1 w2 hW u9 e26
              rw [x3, y3, Option.bind_some, Option.bind_some]
              dsimp only
              rw [show (59 : Int32) = nI 59 from rfl, x4, y4, Option.bind_some, Option.bind_some, if_pos hP4.2.1.2.2.1, eu1, eu2, r_put_in _ _ _ (show v < 8 by omega) (by decide), ix_in (show many < 8 by omega) (by decide)]
              unfold g_let FM_songs_J163
              dsimp only
              rw [ix_in (show many < 8 by omega) (by decide), show g_set c4 26 v (nI u) 25 1 + 1 = nI (many + 1) by rw [g_set_ne (by decide), hS4.1, nI_1], nI_1, nI_1, Option.bind_some]
              have hM5 : tM n B e6 0 (-1) (g_set (g_set m4 (839 + many) 0 (nI v)) (839 + many) 1 (nI u)) := tM_o (tM_o hP4.2.1 (by omega) (by omega)) (by omega) (by omega)
              have hC5 : tC n B e6 0 (-1) (g_set (g_set c4 26 v (nI u)) 25 1 (nI (many + 1))) := tC_o (tC_o hP4.1 (by decide) (by decide)) (by decide) (by decide)
              obtain ⟨m6, y6, l1, l2⟩ := M_blanks hM5
              rw [y6, Option.bind_some]
              have hS6 : SD W (many + 1) (been ||| ((1 : Int32) <<< (nI v &&& 31))) (g_set (g_set c4 26 v (nI u)) 25 1 (nI (many + 1))) m6 := SD_e hS5 rfl rfl (fun k hk => l2.1 _ (by omega)) (by omega)
              have h68 : m6 468 0 = nI W := by
                rw [l2.1 468 (by decide), g_set_ne (by omega), g_set_ne (by omega), j10.1 468 (by decide), j6.1 468 (by decide), j2.1 468 (by decide)]
                exact h468
              refine okk_w (ih (n - e6) (by omega) (i + 1) e6 rfl (by omega) fl fm (by omega) (by omega) (many + 1) _ _ m6 ⟨hC5, l1, (skp_i e6).symm⟩ hS6 h68) ?_
              rintro s ⟨N, mn, bn, n1, n2, n3, n4⟩
              refine ⟨N, mn, bn, n1, ?_, ?_, n4⟩
              · exact (cX_set (cX_set (cc2.trans (j5.cX.trans j9.cX)) (by decide) (Or.inr rfl)) (by decide) (Or.inl rfl)).trans n2
              · exact (((mX_set (mX_set (j2.mX.trans (j6.mX.trans j10.mX)) (by omega) (by unfold sM; omega)) (by omega) (by unfold sM; omega)).trans l2.mX).trans n3)
            · -- no semicolon
              obtain ⟨p3, q3, f, w, f0, f3, f4⟩ := hF
              rw [x3, y3, Option.bind_some, Option.bind_some]
              dsimp only
              rw [show (59 : Int32) = nI 59 from rfl, x4, y4, Option.bind_some, Option.bind_some, if_neg (by rw [f4.2.2.1]; exact f0)]
              unfold FM_songs_J163
              obtain ⟨m6, y6, l1, l2⟩ := M_blanks f4
              rw [y6, Option.bind_some, FM_songs_L48, if_neg (by rw [l1.2.2.1]; exact f0)]
              obtain ⟨fl, rfl⟩ : ∃ g, fl = g + 1 := ⟨fl - 1, by omega⟩
              unfold g_let
              rw [Option.bind_some]
              have hC5 : tC n B p3 f w (g_set (r_put c4 26 8 (nI v) u1) 25 1 (r_put c4 26 8 (nI v) u1 25 1 + 1)) := by
                refine tC_o ?_ (by decide) (by decide)
                unfold tC
                rw [r_put_ne (by decide), r_put_ne (by decide)]
                exact f3
              have stop : FS_read_L6 (nI W) (fl + 1) (nI i + 1) (g_set (r_put c4 26 8 (nI v) u1) 25 1 (r_put c4 26 8 (nI v) u1 25 1 + 1)) = some (g_set (r_put c4 26 8 (nI v) u1) 25 1 (r_put c4 26 8 (nI v) u1 25 1 + 1)) := by
                rw [FS_read_L6]
                by_cases z : (60 : Int32) ≤ nI i + 1
                · rw [if_pos z]
                · rw [if_neg z, if_neg (faulty_1 f0 hC5)]
              rw [stop]
              refine okk_some ⟨m6, many, been, rfl, ?_, (j2.mX.trans (j6.mX.trans j10.mX)).trans l2.mX, Or.inr ⟨p3, _, f, w, f0, hC5, l1⟩⟩
              refine cX_set ?_ (by decide) (Or.inl rfl)
              exact (cc2.trans (j5.cX.trans j9.cX)).trans ⟨fun b b1 b2 => r_put_ne (fun z => b2 (Or.inr z)), fun k a1 a2 a3 a4 => by rw [r_put_ne (by decide)]⟩
          · -- no minute
            obtain ⟨p3, q3, f, w, f0, f3, f4⟩ := hF
            dsimp only at f3 f4
            rw [x3, y3, Option.bind_some, Option.bind_some]
            dsimp only
            have h5 : m3 464 5 ≠ 0 := by rw [f4.2.2.1]; exact f0
            rw [MF_sign h5, Option.bind_some, if_neg h5]
            unfold FM_songs_J163
            obtain ⟨m6, y6, l1, l2⟩ := M_blanks f4
            rw [y6, Option.bind_some, FM_songs_L48, if_neg (by rw [l1.2.2.1]; exact f0)]
            obtain ⟨fl, rfl⟩ : ∃ g, fl = g + 1 := ⟨fl - 1, by omega⟩
            refine okk_bind (Q := fun s => cX sS c s ∧ ∃ e, tC n B e f w s) ?_ ?_
            · refine okk_bind (CF_need f0 f3 (k := 59) (by decide)) ?_
              rintro t ⟨t1, e2, t2⟩
              refine okk_let (fun M3 e3 => okk_some ⟨?_, e2, ?_⟩)
              · refine cX_set (cX.trans (cX.trans (cX.trans cc2 j5.cX) t1.cX) ?_) (by decide) (Or.inl rfl)
                rw [e3]
                refine ⟨fun b b1 b2 => r_put_ne (fun z => b2 (Or.inr z)), fun k a1 a2 a3 a4 => by rw [r_put_ne (by decide)]⟩
              · refine tC_o ?_ (by decide) (by decide)
                rw [e3]
                unfold tC
                rw [r_put_ne (by decide), r_put_ne (by decide)]
                exact t2
            · rintro c4 ⟨g1, e4, g2⟩
              have stop : FS_read_L6 (nI W) (fl + 1) (nI i + 1) c4 = some c4 := by
                rw [FS_read_L6]
                by_cases z : (60 : Int32) ≤ nI i + 1
                · rw [if_pos z]
                · rw [if_neg z, if_neg (faulty_1 f0 g2)]
              rw [stop]
              exact okk_some ⟨m6, many, been, rfl, g1, (j2.mX.trans j6.mX).trans l2.mX, Or.inr ⟨e4, _, f, w, f0, g2, l1⟩⟩
        · -- told before
          rw [if_neg ed, if_neg i10, if_neg i10, j3]
          obtain ⟨c3, x3, m3, y3, j5, j6, j7⟩ := PF_fail hP2.1 hP2.2.1 (k := 2) i20 (nI (skp n B p))
          rw [x3, y3, Option.bind_some, Option.bind_some]
          exact afterF c3 m3 _ _ (cc2.trans j5.cX) (j2.mX.trans j6.mX) j7
      · obtain ⟨p3, q3, f, w, f0, f3, f4⟩ := id hF
        rw [if_neg (faulty_1 f0 f3), if_neg (by rw [f4.2.2.1]; exact f0)]
        exact afterF c2 m2 _ _ cc2 j2.mX hF
    · -- the end
      have eq : skp n B p = n := by omega
      rw [FM_songs_L48, if_pos hP.2.1.2.2.1, hP.2.1.1, hP.2.1.2.1, if_pos (nI_le (by omega) (by have := hP.1.2.2.2.2.2.1; omega)), FS_read_L6]
      by_cases z : (60 : Int32) ≤ nI i
      · rw [if_pos z]
        exact okk_some ⟨m, many, been, rfl, cX.rfl' _ _, mX.rfl' _ _, Or.inl ⟨p, _, hP, hS⟩⟩
      · rw [if_neg z, if_pos (faulty_0 hP.1)]
        refine okk_bind (L_next hP.1) ?_
        rintro ⟨x, c1⟩ ⟨rfl, k1, k2, k3⟩
        dsimp only at k1 k2 k3 ⊢
        rw [if_pos (by unfold chr; rw [if_neg hend])]
        exact okk_some ⟨m, many, been, rfl, k3.cX, mX.rfl' _ _, Or.inl ⟨_, _, ⟨k1, hP.2.1, skp_i p ▸ (skp_i p).symm ▸ rfl⟩, SD_e hS (k3.1 25 (by decide)) (k3.1 26 (by decide)) (fun _ _ => rfl) (by omega)⟩⟩
