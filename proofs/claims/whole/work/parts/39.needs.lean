/-! needs, decompiled. -/
/-! Methods that may throw: the support; needOne and the like. -/
def g_ex (k : Nat) (E : String) : Prop := (k = 1 ∧ E = "java/util/NoSuchElementException") ∨ (k = 2 ∧ E = "java/lang/IllegalArgumentException")
def qtI (R : Nat × Int32 × gM) : Option Value → gM → Prop := fun r M2 => R.1 = 0 ∧ r = some (.int R.2.1) ∧ M2 = R.2.2
def qtJ (R : Nat × Int64 × gM) : Option Value → gM → Prop := fun r M2 => R.1 = 0 ∧ r = some (.long R.2.1) ∧ M2 = R.2.2
def qtV (R : Nat × gM) : Option Value → gM → Prop := fun r M2 => R.1 = 0 ∧ r = none ∧ M2 = R.2
def xtI (R : Nat × Int32 × gM) : String → gM → Prop := fun E M2 => g_ex R.1 E ∧ M2 = R.2.2
def xtJ (R : Nat × Int64 × gM) : String → gM → Prop := fun E M2 => g_ex R.1 E ∧ M2 = R.2.2
def xtV (R : Nat × gM) : String → gM → Prop := fun E M2 => g_ex R.1 E ∧ M2 = R.2
theorem g_ex_n {k : Nat} {E : String} (h : g_ex k E) : ¬ k = 0 := by rcases h with ⟨h, -⟩ | ⟨h, -⟩ <;> omega
theorem gt_xI {s : Nat × gM} {A : Option (Nat × Int32 × gM)} {R : Nat × Int32 × gM} {v : Int32} (hr : (if s.1 = 0 then A else some (s.1, v, s.2)) = some R) : ∀ E M2, xtV s E M2 → xtI R E M2 := by
  rintro E M2 ⟨h, rfl⟩
  rw [if_neg (g_ex_n h)] at hr; cases hr
  exact ⟨h, rfl⟩
theorem gt_xJ {s : Nat × gM} {A : Option (Nat × Int64 × gM)} {R : Nat × Int64 × gM} {v : Int64} (hr : (if s.1 = 0 then A else some (s.1, v, s.2)) = some R) : ∀ E M2, xtV s E M2 → xtJ R E M2 := by
  rintro E M2 ⟨h, rfl⟩
  rw [if_neg (g_ex_n h)] at hr; cases hr
  exact ⟨h, rfl⟩
theorem gt_xV {s : Nat × gM} {A : Option (Nat × gM)} {R : Nat × gM} (hr : (if s.1 = 0 then A else some (s.1, s.2)) = some R) : ∀ E M2, xtV s E M2 → xtV R E M2 := by
  rintro E M2 ⟨h, rfl⟩
  rw [if_neg (g_ex_n h)] at hr; cases hr
  exact ⟨h, rfl⟩
section GT9
variable {l : Launch} {C : gC} {y z : gY} {d d2 : Nat} {Q : Option Value → gX → Prop} {QX : String → gX → Prop} {kc ks pc : Nat} {ls ls2 : gL} {st : List Value} {n sz : Nat} {S : Nat → gT} {M : gM} {X : gX} {a1 a2 a3 : Nat}
theorem gl_tI {v : Int32} {R : Nat × Int32 × gM} (hr : some (0, v, M) = some R) : gQt (qtI R) (some (.int v)) (956, g_S0, M, sz) := by cases hr; exact ⟨_, _, rfl, rfl, rfl, rfl⟩
theorem gl_tJ {v : Int64} {R : Nat × Int64 × gM} (hr : some (0, v, M) = some R) : gQt (qtJ R) (some (.long v)) (956, g_S0, M, sz) := by cases hr; exact ⟨_, _, rfl, rfl, rfl, rfl⟩
theorem gl_tV {R : Nat × gM} (hr : some (0, M) = some R) : gQt (qtV R) none (956, g_S0, M, sz) := by cases hr; exact ⟨_, _, rfl, rfl, rfl, rfl⟩
theorem gl_x1 {R : Nat × gM} {sz2 : Nat} (hr : some (1, M) = some R) : gNt (xtV R) "java/util/NoSuchElementException" (956, g_S0, M, sz2) := by cases hr; exact ⟨_, _, rfl, Or.inl ⟨rfl, rfl⟩, rfl⟩
theorem gl_x2 {R : Nat × gM} {sz2 : Nat} (hr : some (2, M) = some R) : gNt (xtV R) "java/lang/IllegalArgumentException" (956, g_S0, M, sz2) := by cases hr; exact ⟨_, _, rfl, Or.inr ⟨rfl, rfl⟩, rfl⟩
theorem gs_t {s : Nat × gM} (k : ∀ sz2, s.1 = 0 → GW l C y d Q QX kc ks pc ls st (956, g_S0, s.2, sz2)) : ∀ r M2 sz2, qtV s r M2 → GW l C y d Q QX kc ks pc ls (r.toList ++ st) (956, g_S0, M2, sz2) := by rintro r M2 sz2 ⟨h, rfl, rfl⟩; exact k sz2 h
theorem gt_cV {a ci N idx na pl i j k0 kc2 ks2 : Nat} {T : u_T} {rf : Nat → Nat} {av rest : List Value} {Qz : Option Value → gM → Prop} {QXz QXy : String → gM → Prop} (hC : g_ctx l C) (hy : g_yok y) (hq : g_cd y.2.2.2.2.2.2 pc = some (.invokevirtual idx, a1, a2, a3)) (hk : g_kI z i j k0 na) (hse : g_sel z) (hlk : tables_1[pl]? = some (.methodLink y.1.cls idx z.1)) (hM : gPt l C z d2 (.ref a :: av) M sz Qz QXz) (hdd : d2 + 1 ≤ d) (hz1 : kc + z.2.2.2.2.1 = kc2) (hz2 : ks + z.2.2.2.2.2.1 = ks2)
    (hcl : vwCl[ci]? = some (z.1.cls, T, N)) (hci : ci < 20) (ha : a < 956) (hS : g_S0 a = (ci, N, rf)) (hlen : av.length = na) (hst : st = av.reverse ++ .ref a :: rest) (hrest : (rest.map fun v => v.category).sum ≤ 8) (hcost : kc2 ≤ y.2.2.2.2.1 ∧ ks2 ≤ y.2.2.2.2.2.1)
    (kx : ∀ E M2, QXz E M2 → QXy E M2) (kk : ∀ r M2 sz2, Qz r M2 → GW l C y d Q (gNt QXy) kc2 ks2 (pc + 3) ls (r.toList ++ rest) (956, g_S0, M2, sz2)) : GW l C y d Q (gNt QXy) kc ks pc ls st (956, g_S0, M, sz) := by
  subst hz1 hz2
  refine gb_cV hC hy hq hk hse hlk hM hdd hcl hci ha hS hlen hst hrest hcost ?_ ?_
  · rintro E X ⟨M2, sz2, rfl, h⟩; exact ⟨M2, sz2, rfl, kx E M2 h⟩
  · rintro r X ⟨M2, sz2, rfl, h⟩; exact kk r M2 sz2 h
end GT9
theorem g_at2 : ∀ w ∈ vx_atS "HoopHours" 420 "java/lang/IllegalArgumentException" ["java/lang/RuntimeException", "java/lang/Exception"], w ∈ lw_tbl ∧ g_w2 w = true ∧ vx_ot w = true := by decide +kernel
theorem g_at1 : ∀ w ∈ vx_atSX "HoopHours" 413 "java/util/NoSuchElementException" 13 g_nse ["java/lang/RuntimeException", "java/lang/Exception"], w ∈ lw_tbl ∧ g_w2 w = true ∧ vx_ot w = true := by decide +kernel
def FX_needOne_J9 (v : Int32) (many : Int32) (M : gM) : Option (Nat × gM) :=
  some (1, g_set M 0 16 ((M 0 16) + (1 : Int32)))
set_option maxRecDepth 20000 in
theorem c_FX_needOne_J9 {l : Launch} {C : gC} (hC : g_ctx l C) (v : Int32) (many : Int32) (sz d : Nat) (hd : 7 ≤ d) (R : Nat × gM) (M : gM) (hr : FX_needOne_J9 v many M = some R) : GW l C qX11_needOne d (gQt (qtV R)) (gNt (xtV R)) 0 0 9 [(0, .ref (0))] [] (956, g_S0, M, sz) := by
  unfold FX_needOne_J9 at hr
  refine gb_run 6 (pc2 := 19) (ls2 := [(0, .ref (0))]) (st2 := []) (M2 := g_set M 0 16 ((M 0 16) + (1 : Int32))) hC hqX11_needOne rfl ?_
  exact gw_throwN (ik := 409) (is := 411) (ic := 413) (k := 19) hC rfl (by decide +kernel) (by decide +kernel) (by decide +kernel) (by decide +kernel) (by decide +kernel) (g_mem_tb (i := 1046) (by decide +kernel)) (g_mem_tb (i := 23) (by decide +kernel)) (List.mem_of_getElem? (i := 23) rfl) g_at1 (by omega) (Nat.le_of_ble_eq_true rfl) (Nat.le_of_ble_eq_true rfl) (fun sz2 _ => gl_x1 hr)
def FX_needOne (v : Int32) (many : Int32) (M : gM) : Option (Nat × gM) :=
  if v < (0 : Int32) then (FX_needOne_J9 v many M) else (if v < many then (some (0, M)) else (FX_needOne_J9 v many M))
set_option maxRecDepth 20000 in
theorem c_FX_needOne {l : Launch} {C : gC} (hC : g_ctx l C) (v : Int32) (many : Int32)  (M : gM) (sz d : Nat) (hd : 7 ≤ d) (R : Nat × gM) (hr : FX_needOne v many M = some R) : gPt l C qX11_needOne d [.ref (0), .int (v), .int (many)] M sz (qtV R) (xtV R) := by
  refine gPt.of (ls := [(0, .ref (0)), (1, .int (v)), (2, .int (many))]) (by decide +kernel) (Nat.le_of_ble_eq_true rfl) rfl ?_
  unfold FX_needOne at hr
  refine gb_run 1 (pc2 := 1) (ls2 := [(0, .ref (0)), (1, .int (v)), (2, .int (many))]) (st2 := [.int (v)]) (M2 := M) hC hqX11_needOne rfl ?_
  refine gb_if_lt hqX11_needOne rfl (fun h1 => ?_) (fun h1 => ?_)
  ·
    have hr := g_if1 h1 hr
    refine gw_pick [0] (ls2 := [(0, .ref (0))]) rfl ?_
    exact c_FX_needOne_J9 hC v many sz d (by omega) R M hr
  ·
    have hr := g_if0 h1 hr
    refine gb_run 2 (pc2 := 6) (ls2 := [(0, .ref (0)), (1, .int (v)), (2, .int (many))]) (st2 := [.int (many), .int (v)]) (M2 := M) hC hqX11_needOne rfl ?_
    refine gb_icmp_lt hqX11_needOne rfl (fun h2 => ?_) (fun h2 => ?_)
    ·
      have hr := g_if1 h2 hr
      refine gb_vret hqX11_needOne rfl rfl (Nat.le_of_ble_eq_true rfl) (Nat.le_of_ble_eq_true rfl) ?_
      exact gl_tV hr
    ·
      have hr := g_if0 h2 hr
      refine gw_pick [0] (ls2 := [(0, .ref (0))]) rfl ?_
      exact c_FX_needOne_J9 hC v many sz d (by omega) R M hr
def FX_needIn_J10 (v : Int32) (lo : Int32) (hi : Int32) (M : gM) : Option (Nat × gM) :=
  some (2, g_set M 0 17 ((M 0 17) + (1 : Int32)))
set_option maxRecDepth 20000 in
theorem c_FX_needIn_J10 {l : Launch} {C : gC} (hC : g_ctx l C) (v : Int32) (lo : Int32) (hi : Int32) (sz d : Nat) (hd : 7 ≤ d) (R : Nat × gM) (M : gM) (hr : FX_needIn_J10 v lo hi M = some R) : GW l C qX11_needIn d (gQt (qtV R)) (gNt (xtV R)) 0 0 10 [(0, .ref (0))] [] (956, g_S0, M, sz) := by
  unfold FX_needIn_J10 at hr
  refine gb_run 6 (pc2 := 20) (ls2 := [(0, .ref (0))]) (st2 := []) (M2 := g_set M 0 17 ((M 0 17) + (1 : Int32))) hC hqX11_needIn rfl ?_
  exact gw_throwI (ik := 416) (is := 418) (ic := 420) (k := 0) hC rfl (by decide +kernel) (by decide +kernel) (by decide +kernel) (by decide +kernel) (by decide +kernel) (g_mem_tb (i := 662) (by decide +kernel)) (g_mem_tb (i := 18) (by decide +kernel)) (List.mem_of_getElem? (i := 0) rfl) g_at2 (by omega) (Nat.le_of_ble_eq_true rfl) (Nat.le_of_ble_eq_true rfl) (fun sz2 _ => gl_x2 hr)
def FX_needIn (v : Int32) (lo : Int32) (hi : Int32) (M : gM) : Option (Nat × gM) :=
  if v < lo then (FX_needIn_J10 v lo hi M) else (if v ≤ hi then (some (0, M)) else (FX_needIn_J10 v lo hi M))
set_option maxRecDepth 20000 in
theorem c_FX_needIn {l : Launch} {C : gC} (hC : g_ctx l C) (v : Int32) (lo : Int32) (hi : Int32)  (M : gM) (sz d : Nat) (hd : 7 ≤ d) (R : Nat × gM) (hr : FX_needIn v lo hi M = some R) : gPt l C qX11_needIn d [.ref (0), .int (v), .int (lo), .int (hi)] M sz (qtV R) (xtV R) := by
  refine gPt.of (ls := [(0, .ref (0)), (1, .int (v)), (2, .int (lo)), (3, .int (hi))]) (by decide +kernel) (Nat.le_of_ble_eq_true rfl) rfl ?_
  unfold FX_needIn at hr
  refine gb_run 2 (pc2 := 2) (ls2 := [(0, .ref (0)), (1, .int (v)), (2, .int (lo)), (3, .int (hi))]) (st2 := [.int (lo), .int (v)]) (M2 := M) hC hqX11_needIn rfl ?_
  refine gb_icmp_lt hqX11_needIn rfl (fun h1 => ?_) (fun h1 => ?_)
  ·
    have hr := g_if1 h1 hr
    refine gw_pick [0] (ls2 := [(0, .ref (0))]) rfl ?_
    exact c_FX_needIn_J10 hC v lo hi sz d (by omega) R M hr
  ·
    have hr := g_if0 h1 hr
    refine gb_run 2 (pc2 := 7) (ls2 := [(0, .ref (0)), (1, .int (v)), (2, .int (lo)), (3, .int (hi))]) (st2 := [.int (hi), .int (v)]) (M2 := M) hC hqX11_needIn rfl ?_
    refine gb_icmp_le hqX11_needIn rfl (fun h2 => ?_) (fun h2 => ?_)
    ·
      have hr := g_if1 h2 hr
      refine gb_vret hqX11_needIn rfl rfl (Nat.le_of_ble_eq_true rfl) (Nat.le_of_ble_eq_true rfl) ?_
      exact gl_tV hr
    ·
      have hr := g_if0 h2 hr
      refine gw_pick [0] (ls2 := [(0, .ref (0))]) rfl ?_
      exact c_FX_needIn_J10 hC v lo hi sz d (by omega) R M hr
def FX_needBits (v : Int32) (many : Int32) (M : gM) : Option (Nat × gM) :=
  (FX_needIn v (0 : Int32) (F_allOf many) M).bind fun s1 => if s1.1 = 0 then (some (0, s1.2)) else some (s1.1, s1.2)
set_option maxRecDepth 20000 in
theorem c_FX_needBits {l : Launch} {C : gC} (hC : g_ctx l C) (v : Int32) (many : Int32)  (M : gM) (sz d : Nat) (hd : 8 ≤ d) (R : Nat × gM) (hr : FX_needBits v many M = some R) : gPt l C qX11_needBits d [.ref (0), .int (v), .int (many)] M sz (qtV R) (xtV R) := by
  refine gPt.of (ls := [(0, .ref (0)), (1, .int (v)), (2, .int (many))]) (by decide +kernel) (Nat.le_of_ble_eq_true rfl) rfl ?_
  unfold FX_needBits at hr
  refine gb_run 4 (pc2 := 4) (ls2 := [(0, .ref (0)), (1, .int (v)), (2, .int (many))]) (st2 := [.int (many), .int (0), .int (v), .ref (0)]) (M2 := M) hC hqX11_needBits rfl ?_
  refine gz_cS (z := qX11_allOf) (av := [.int (many)]) (rest := [.int (0), .int (v), .ref (0)]) (pl := 1140) hC hqX11_needBits rfl kX11_allOf (by decide +kernel) (c_F_allOf hC many  M sz (d - 1) (by omega)) (by omega) ⟨rfl, rfl⟩ rfl rfl (Nat.le_of_ble_eq_true rfl) ⟨Nat.le_of_ble_eq_true rfl, Nat.le_of_ble_eq_true rfl⟩ (gs_Ip ?_)
  obtain ⟨s1, es1, hr⟩ := g_bd hr
  refine gt_cV (z := qX11_needIn) (a := 0) (av := [.int (v), .int (0), .int (F_allOf many)]) (rest := []) (pl := 658) (kc2 := 1) (ks2 := 6) hC hqX11_needBits rfl kX11_needIn sX11_needIn (by decide +kernel) (c_FX_needIn hC v (0 : Int32) (F_allOf many)  M sz (d - 1) (by omega) s1 es1) (by omega) rfl rfl rfl (Nat.le_of_ble_eq_true rfl) (Nat.le_of_ble_eq_true rfl) rfl rfl rfl (Nat.le_of_ble_eq_true rfl) ⟨Nat.le_of_ble_eq_true rfl, Nat.le_of_ble_eq_true rfl⟩ (gt_xV hr) (gs_t fun sz3 q0 => ?_)
  have hr := g_if1 q0 hr
  refine gb_vret hqX11_needBits rfl rfl (Nat.le_of_ble_eq_true rfl) (Nat.le_of_ble_eq_true rfl) ?_
  exact gl_tV hr
def FX_needText (v : Int32) (most : Int32) (M : gM) : Option (Nat × gM) :=
  (FX_needIn v (0 : Int32) (m_min (M 1 1) most) M).bind fun s1 => if s1.1 = 0 then (some (0, s1.2)) else some (s1.1, s1.2)
set_option maxRecDepth 20000 in
theorem c_FX_needText {l : Launch} {C : gC} (hC : g_ctx l C) (v : Int32) (most : Int32)  (M : gM) (sz d : Nat) (hd : 8 ≤ d) (R : Nat × gM) (hr : FX_needText v most M = some R) : gPt l C qX11_needText d [.ref (0), .int (v), .int (most)] M sz (qtV R) (xtV R) := by
  refine gPt.of (ls := [(0, .ref (0)), (1, .int (v)), (2, .int (most))]) (by decide +kernel) (Nat.le_of_ble_eq_true rfl) rfl ?_
  unfold FX_needText at hr
  refine gb_run 7 (pc2 := 11) (ls2 := [(0, .ref (0)), (1, .int (v)), (2, .int (most))]) (st2 := [.int (most), .int (M 1 1), .int (0), .int (v), .ref (0)]) (M2 := M) hC hqX11_needText rfl ?_
  refine gb_min (pl := 657) hC hqX11_needText rfl (by decide +kernel) (Nat.le_of_ble_eq_true rfl) (by omega) (Nat.le_of_ble_eq_true rfl) (Nat.le_of_ble_eq_true rfl) ?_
  obtain ⟨s1, es1, hr⟩ := g_bd hr
  refine gt_cV (z := qX11_needIn) (a := 0) (av := [.int (v), .int (0), .int (m_min (M 1 1) most)]) (rest := []) (pl := 658) (kc2 := 1) (ks2 := 6) hC hqX11_needText rfl kX11_needIn sX11_needIn (by decide +kernel) (c_FX_needIn hC v (0 : Int32) (m_min (M 1 1) most)  M sz (d - 1) (by omega) s1 es1) (by omega) rfl rfl rfl (Nat.le_of_ble_eq_true rfl) (Nat.le_of_ble_eq_true rfl) rfl rfl rfl (Nat.le_of_ble_eq_true rfl) ⟨Nat.le_of_ble_eq_true rfl, Nat.le_of_ble_eq_true rfl⟩ (gt_xV hr) (gs_t fun sz3 q0 => ?_)
  have hr := g_if1 q0 hr
  refine gb_vret hqX11_needText rfl rfl (Nat.le_of_ble_eq_true rfl) (Nat.le_of_ble_eq_true rfl) ?_
  exact gl_tV hr
