/-! The law's wrappers, one by one. -/
/-- what a wrapper leaves -/
def qW (ill : Int32) (e : Nat) (v : Int64) (M1 : gM) : Option Value → gX → Prop := fun r X => ∃ M2 sz2, X = (956, g_S0, M2, sz2) ∧ (∀ b, b ≠ 956 → M2 b = M1 b) ∧ M2 956 2 = 1 ∧ (e = 0 → g_lg (M2 956) = v) ∧ r = some (.int (if e = 0 then 0 else if e = 1 then 1 else ill))
def qL_park : gY := (yL_park, cL_park, 4, some .int, 8, 48, [])
theorem k_park {l : Launch} {C : gC} {L : Nat} {xs : Nat → Int32} (hC : g_ctx l C) (hL : g_cl C L xs) (n : Int32) (M : gM) (sz d : Nat) (hd : 10 ≤ d) (h2 : M 956 2 = 1) {e : Nat} {v : Int32} {M1 : gM} (hr : FX_park n M = some (e, v, M1)) (h9 : M1 956 = M 956) : gMetH l C qL_park [(0, 9, 12, 13)] d [.ref 0, .int n, .ref 956] (956, g_S0, M, sz) (qW 1 e v.toInt64 M1) := by
  refine gMetH.of (ls := [(0, .ref 0), (1, .int n), (2, .ref 956)]) (by decide +kernel) (Nat.le_of_ble_eq_true rfl) rfl ?_
  refine ww_aload_n (show decode cL_park 0 = .ok (.aload_n 2, 1) by decide +kernel) rfl rfl ?_
  refine ww_iconst (show decode cL_park 1 = .ok (.iconst 0, 1) by decide +kernel) rfl ?_
  refine ww_aload_n (show decode cL_park 2 = .ok (.aload_n 0, 1) by decide +kernel) rfl rfl ?_
  refine ww_iload_n (show decode cL_park 3 = .ok (.iload_n 1, 1) by decide +kernel) rfl rfl ?_
  refine ww_call (z := qX11_park) (av := [.int n]) (rest := [.int 0, .ref 956]) hC (c_FX_park hC n M sz (d - 1) (by omega) (e, v, M1) hr) (show decode cL_park 4 = .ok (.invokevirtual 7, 3) by decide +kernel) (g_mem_tb (i := 649) (by decide +kernel)) kX11_park sX11_park rfl (by omega) rfl rfl (Nat.le_of_ble_eq_true rfl) ⟨(Nat.le_of_ble_eq_true rfl), (Nat.le_of_ble_eq_true rfl)⟩ ?_ ?_
  · rintro r M2 sz2 ⟨e0, rfl, rfl⟩
    have e0 : e = 0 := e0
    refine ww_i2l (show decode cL_park 7 = .ok (.i2l, 1) by decide +kernel) ?_
    refine ww_lastore hL (by rw [h9]; exact h2) (show decode cL_park 8 = .ok (.lastore, 1) by decide +kernel) ?_
    refine ww_goto (tgt := 15) (show decode cL_park 9 = .ok (.goto 6, 3) by decide +kernel) rfl ?_
    refine ww_iconst (show decode cL_park 15 = .ok (.iconst 0, 1) by decide +kernel) rfl ?_
    exact ww_iret (show decode cL_park 16 = .ok (.ireturn, 1) by decide +kernel) rfl (Nat.le_of_ble_eq_true rfl) (Nat.le_of_ble_eq_true rfl) ⟨_, sz2, rfl, fun b hb => g_up1_ne hb, by rw [g_up1_at]; rfl, fun _ => by rw [g_up1_at, g_lg_en], by rw [if_pos e0]; rfl⟩
  · rintro E M2 sz2 ⟨hE, rfl⟩
    rcases hE with ⟨e1, rfl⟩ | ⟨e1, rfl⟩
    · exact absurd e1 (np_park n M _ hr)
    · have e1 : e = 2 := e1
      exact ⟨[], { startPc := 0, endPc := 9, handlerPc := 12, catchType := 13 }, [], "java/lang/IllegalArgumentException", rfl, (fun w hw => absurd hw List.not_mem_nil), by decide, by decide, g_mem_tb (i := 648) (by decide +kernel), g_mem_tb (i := 664) (by decide +kernel), wx_n (show decode cL_park 12 = .ok (.astore_n 3, 1) by decide +kernel) rfl (Nat.le_of_ble_eq_true rfl) (show decode cL_park 13 = .ok (.iconst 1, 1) by decide +kernel) rfl (show decode cL_park 14 = .ok (.ireturn, 1) by decide +kernel) rfl (Nat.le_of_ble_eq_true rfl) (Nat.le_of_ble_eq_true rfl) ⟨_, sz2, rfl, fun _ _ => rfl, by rw [h9]; exact h2, fun z => absurd (show e = 0 from z) (by rw [e1]; decide), by rw [e1]; rfl⟩⟩

def qL_law : gY := (yL_law, cL_law, 4, some .int, 8, 48, [])
theorem k_law {l : Launch} {C : gC} {L : Nat} {xs : Nat → Int32} (hC : g_ctx l C) (hL : g_cl C L xs) (n : Int32) (M : gM) (sz d : Nat) (hd : 50 ≤ d) (h2 : M 956 2 = 1) {e : Nat} {v : Int32} {M1 : gM} (hr : FX_law n M = some (e, v, M1)) (h9 : M1 956 = M 956) : gMetH l C qL_law [(0, 9, 12, 13)] d [.ref 0, .int n, .ref 956] (956, g_S0, M, sz) (qW 1 e v.toInt64 M1) := by
  refine gMetH.of (ls := [(0, .ref 0), (1, .int n), (2, .ref 956)]) (by decide +kernel) (Nat.le_of_ble_eq_true rfl) rfl ?_
  refine ww_aload_n (show decode cL_law 0 = .ok (.aload_n 2, 1) by decide +kernel) rfl rfl ?_
  refine ww_iconst (show decode cL_law 1 = .ok (.iconst 0, 1) by decide +kernel) rfl ?_
  refine ww_aload_n (show decode cL_law 2 = .ok (.aload_n 0, 1) by decide +kernel) rfl rfl ?_
  refine ww_iload_n (show decode cL_law 3 = .ok (.iload_n 1, 1) by decide +kernel) rfl rfl ?_
  refine ww_call (z := qX11_law) (av := [.int n]) (rest := [.int 0, .ref 956]) hC (c_FX_law hC n M sz (d - 1) (by omega) (e, v, M1) hr) (show decode cL_law 4 = .ok (.invokevirtual 15, 3) by decide +kernel) (g_mem_tb (i := 867) (by decide +kernel)) kX11_law sX11_law rfl (by omega) rfl rfl (Nat.le_of_ble_eq_true rfl) ⟨(Nat.le_of_ble_eq_true rfl), (Nat.le_of_ble_eq_true rfl)⟩ ?_ ?_
  · rintro r M2 sz2 ⟨e0, rfl, rfl⟩
    have e0 : e = 0 := e0
    refine ww_i2l (show decode cL_law 7 = .ok (.i2l, 1) by decide +kernel) ?_
    refine ww_lastore hL (by rw [h9]; exact h2) (show decode cL_law 8 = .ok (.lastore, 1) by decide +kernel) ?_
    refine ww_goto (tgt := 15) (show decode cL_law 9 = .ok (.goto 6, 3) by decide +kernel) rfl ?_
    refine ww_iconst (show decode cL_law 15 = .ok (.iconst 0, 1) by decide +kernel) rfl ?_
    exact ww_iret (show decode cL_law 16 = .ok (.ireturn, 1) by decide +kernel) rfl (Nat.le_of_ble_eq_true rfl) (Nat.le_of_ble_eq_true rfl) ⟨_, sz2, rfl, fun b hb => g_up1_ne hb, by rw [g_up1_at]; rfl, fun _ => by rw [g_up1_at, g_lg_en], by rw [if_pos e0]; rfl⟩
  · rintro E M2 sz2 ⟨hE, rfl⟩
    rcases hE with ⟨e1, rfl⟩ | ⟨e1, rfl⟩
    · exact absurd e1 (np_law n M _ hr)
    · have e1 : e = 2 := e1
      exact ⟨[], { startPc := 0, endPc := 9, handlerPc := 12, catchType := 13 }, [], "java/lang/IllegalArgumentException", rfl, (fun w hw => absurd hw List.not_mem_nil), by decide, by decide, g_mem_tb (i := 648) (by decide +kernel), g_mem_tb (i := 664) (by decide +kernel), wx_n (show decode cL_law 12 = .ok (.astore_n 3, 1) by decide +kernel) rfl (Nat.le_of_ble_eq_true rfl) (show decode cL_law 13 = .ok (.iconst 1, 1) by decide +kernel) rfl (show decode cL_law 14 = .ok (.ireturn, 1) by decide +kernel) rfl (Nat.le_of_ble_eq_true rfl) (Nat.le_of_ble_eq_true rfl) ⟨_, sz2, rfl, fun _ _ => rfl, by rw [h9]; exact h2, fun z => absurd (show e = 0 from z) (by rw [e1]; decide), by rw [e1]; rfl⟩⟩

def qL_work : gY := (yL_work, cL_work, 4, some .int, 8, 48, [])
theorem k_work {l : Launch} {C : gC} {L : Nat} {xs : Nat → Int32} (hC : g_ctx l C) (hL : g_cl C L xs) (n : Int32) (M : gM) (sz d : Nat) (hd : 39 ≤ d) (h2 : M 956 2 = 1) {e : Nat} {v : Int32} {M1 : gM} (hr : FX_work n M = some (e, v, M1)) (h9 : M1 956 = M 956) : gMetH l C qL_work [(0, 9, 12, 13)] d [.ref 0, .int n, .ref 956] (956, g_S0, M, sz) (qW 1 e v.toInt64 M1) := by
  refine gMetH.of (ls := [(0, .ref 0), (1, .int n), (2, .ref 956)]) (by decide +kernel) (Nat.le_of_ble_eq_true rfl) rfl ?_
  refine ww_aload_n (show decode cL_work 0 = .ok (.aload_n 2, 1) by decide +kernel) rfl rfl ?_
  refine ww_iconst (show decode cL_work 1 = .ok (.iconst 0, 1) by decide +kernel) rfl ?_
  refine ww_aload_n (show decode cL_work 2 = .ok (.aload_n 0, 1) by decide +kernel) rfl rfl ?_
  refine ww_iload_n (show decode cL_work 3 = .ok (.iload_n 1, 1) by decide +kernel) rfl rfl ?_
  refine ww_call (z := qX11_work) (av := [.int n]) (rest := [.int 0, .ref 956]) hC (c_FX_work hC n M sz (d - 1) (by omega) (e, v, M1) hr) (show decode cL_work 4 = .ok (.invokevirtual 18, 3) by decide +kernel) (g_mem_tb (i := 929) (by decide +kernel)) kX11_work sX11_work rfl (by omega) rfl rfl (Nat.le_of_ble_eq_true rfl) ⟨(Nat.le_of_ble_eq_true rfl), (Nat.le_of_ble_eq_true rfl)⟩ ?_ ?_
  · rintro r M2 sz2 ⟨e0, rfl, rfl⟩
    have e0 : e = 0 := e0
    refine ww_i2l (show decode cL_work 7 = .ok (.i2l, 1) by decide +kernel) ?_
    refine ww_lastore hL (by rw [h9]; exact h2) (show decode cL_work 8 = .ok (.lastore, 1) by decide +kernel) ?_
    refine ww_goto (tgt := 15) (show decode cL_work 9 = .ok (.goto 6, 3) by decide +kernel) rfl ?_
    refine ww_iconst (show decode cL_work 15 = .ok (.iconst 0, 1) by decide +kernel) rfl ?_
    exact ww_iret (show decode cL_work 16 = .ok (.ireturn, 1) by decide +kernel) rfl (Nat.le_of_ble_eq_true rfl) (Nat.le_of_ble_eq_true rfl) ⟨_, sz2, rfl, fun b hb => g_up1_ne hb, by rw [g_up1_at]; rfl, fun _ => by rw [g_up1_at, g_lg_en], by rw [if_pos e0]; rfl⟩
  · rintro E M2 sz2 ⟨hE, rfl⟩
    rcases hE with ⟨e1, rfl⟩ | ⟨e1, rfl⟩
    · exact absurd e1 (np_work n M _ hr)
    · have e1 : e = 2 := e1
      exact ⟨[], { startPc := 0, endPc := 9, handlerPc := 12, catchType := 13 }, [], "java/lang/IllegalArgumentException", rfl, (fun w hw => absurd hw List.not_mem_nil), by decide, by decide, g_mem_tb (i := 648) (by decide +kernel), g_mem_tb (i := 664) (by decide +kernel), wx_n (show decode cL_work 12 = .ok (.astore_n 3, 1) by decide +kernel) rfl (Nat.le_of_ble_eq_true rfl) (show decode cL_work 13 = .ok (.iconst 1, 1) by decide +kernel) rfl (show decode cL_work 14 = .ok (.ireturn, 1) by decide +kernel) rfl (Nat.le_of_ble_eq_true rfl) (Nat.le_of_ble_eq_true rfl) ⟨_, sz2, rfl, fun _ _ => rfl, by rw [h9]; exact h2, fun z => absurd (show e = 0 from z) (by rw [e1]; decide), by rw [e1]; rfl⟩⟩

def qL_songs : gY := (yL_songs, cL_songs, 4, some .int, 8, 48, [])
theorem k_songs {l : Launch} {C : gC} {L : Nat} {xs : Nat → Int32} (hC : g_ctx l C) (hL : g_cl C L xs) (n : Int32) (M : gM) (sz d : Nat) (hd : 10 ≤ d) (h2 : M 956 2 = 1) {e : Nat} {v : Int32} {M1 : gM} (hr : FX_songs n M = some (e, v, M1)) (h9 : M1 956 = M 956) : gMetH l C qL_songs [(0, 9, 12, 13)] d [.ref 0, .int n, .ref 956] (956, g_S0, M, sz) (qW 1 e v.toInt64 M1) := by
  refine gMetH.of (ls := [(0, .ref 0), (1, .int n), (2, .ref 956)]) (by decide +kernel) (Nat.le_of_ble_eq_true rfl) rfl ?_
  refine ww_aload_n (show decode cL_songs 0 = .ok (.aload_n 2, 1) by decide +kernel) rfl rfl ?_
  refine ww_iconst (show decode cL_songs 1 = .ok (.iconst 0, 1) by decide +kernel) rfl ?_
  refine ww_aload_n (show decode cL_songs 2 = .ok (.aload_n 0, 1) by decide +kernel) rfl rfl ?_
  refine ww_iload_n (show decode cL_songs 3 = .ok (.iload_n 1, 1) by decide +kernel) rfl rfl ?_
  refine ww_call (z := qX11_songs) (av := [.int n]) (rest := [.int 0, .ref 956]) hC (c_FX_songs hC n M sz (d - 1) (by omega) (e, v, M1) hr) (show decode cL_songs 4 = .ok (.invokevirtual 21, 3) by decide +kernel) (g_mem_tb (i := 995) (by decide +kernel)) kX11_songs sX11_songs rfl (by omega) rfl rfl (Nat.le_of_ble_eq_true rfl) ⟨(Nat.le_of_ble_eq_true rfl), (Nat.le_of_ble_eq_true rfl)⟩ ?_ ?_
  · rintro r M2 sz2 ⟨e0, rfl, rfl⟩
    have e0 : e = 0 := e0
    refine ww_i2l (show decode cL_songs 7 = .ok (.i2l, 1) by decide +kernel) ?_
    refine ww_lastore hL (by rw [h9]; exact h2) (show decode cL_songs 8 = .ok (.lastore, 1) by decide +kernel) ?_
    refine ww_goto (tgt := 15) (show decode cL_songs 9 = .ok (.goto 6, 3) by decide +kernel) rfl ?_
    refine ww_iconst (show decode cL_songs 15 = .ok (.iconst 0, 1) by decide +kernel) rfl ?_
    exact ww_iret (show decode cL_songs 16 = .ok (.ireturn, 1) by decide +kernel) rfl (Nat.le_of_ble_eq_true rfl) (Nat.le_of_ble_eq_true rfl) ⟨_, sz2, rfl, fun b hb => g_up1_ne hb, by rw [g_up1_at]; rfl, fun _ => by rw [g_up1_at, g_lg_en], by rw [if_pos e0]; rfl⟩
  · rintro E M2 sz2 ⟨hE, rfl⟩
    rcases hE with ⟨e1, rfl⟩ | ⟨e1, rfl⟩
    · exact absurd e1 (np_songs n M _ hr)
    · have e1 : e = 2 := e1
      exact ⟨[], { startPc := 0, endPc := 9, handlerPc := 12, catchType := 13 }, [], "java/lang/IllegalArgumentException", rfl, (fun w hw => absurd hw List.not_mem_nil), by decide, by decide, g_mem_tb (i := 648) (by decide +kernel), g_mem_tb (i := 664) (by decide +kernel), wx_n (show decode cL_songs 12 = .ok (.astore_n 3, 1) by decide +kernel) rfl (Nat.le_of_ble_eq_true rfl) (show decode cL_songs 13 = .ok (.iconst 1, 1) by decide +kernel) rfl (show decode cL_songs 14 = .ok (.ireturn, 1) by decide +kernel) rfl (Nat.le_of_ble_eq_true rfl) (Nat.le_of_ble_eq_true rfl) ⟨_, sz2, rfl, fun _ _ => rfl, by rw [h9]; exact h2, fun z => absurd (show e = 0 from z) (by rw [e1]; decide), by rw [e1]; rfl⟩⟩

def qL_told : gY := (yL_told, cL_told, 4, some .int, 8, 48, [])
theorem k_told {l : Launch} {C : gC} {L : Nat} {xs : Nat → Int32} (hC : g_ctx l C) (hL : g_cl C L xs) (what : Int32) (M : gM) (sz d : Nat) (hd : 9 ≤ d) (h2 : M 956 2 = 1) {e : Nat} {v : Int32} {M1 : gM} (hr : FX_told what M = some (e, v, M1)) (h9 : M1 956 = M 956) : gMetH l C qL_told [(0, 9, 12, 13)] d [.ref 0, .int what, .ref 956] (956, g_S0, M, sz) (qW 1 e v.toInt64 M1) := by
  refine gMetH.of (ls := [(0, .ref 0), (1, .int what), (2, .ref 956)]) (by decide +kernel) (Nat.le_of_ble_eq_true rfl) rfl ?_
  refine ww_aload_n (show decode cL_told 0 = .ok (.aload_n 2, 1) by decide +kernel) rfl rfl ?_
  refine ww_iconst (show decode cL_told 1 = .ok (.iconst 0, 1) by decide +kernel) rfl ?_
  refine ww_aload_n (show decode cL_told 2 = .ok (.aload_n 0, 1) by decide +kernel) rfl rfl ?_
  refine ww_iload_n (show decode cL_told 3 = .ok (.iload_n 1, 1) by decide +kernel) rfl rfl ?_
  refine ww_call (z := qX11_told) (av := [.int what]) (rest := [.int 0, .ref 956]) hC (c_FX_told hC what M sz (d - 1) (by omega) (e, v, M1) hr) (show decode cL_told 4 = .ok (.invokevirtual 24, 3) by decide +kernel) (g_mem_tb (i := 1026) (by decide +kernel)) kX11_told sX11_told rfl (by omega) rfl rfl (Nat.le_of_ble_eq_true rfl) ⟨(Nat.le_of_ble_eq_true rfl), (Nat.le_of_ble_eq_true rfl)⟩ ?_ ?_
  · rintro r M2 sz2 ⟨e0, rfl, rfl⟩
    have e0 : e = 0 := e0
    refine ww_i2l (show decode cL_told 7 = .ok (.i2l, 1) by decide +kernel) ?_
    refine ww_lastore hL (by rw [h9]; exact h2) (show decode cL_told 8 = .ok (.lastore, 1) by decide +kernel) ?_
    refine ww_goto (tgt := 15) (show decode cL_told 9 = .ok (.goto 6, 3) by decide +kernel) rfl ?_
    refine ww_iconst (show decode cL_told 15 = .ok (.iconst 0, 1) by decide +kernel) rfl ?_
    exact ww_iret (show decode cL_told 16 = .ok (.ireturn, 1) by decide +kernel) rfl (Nat.le_of_ble_eq_true rfl) (Nat.le_of_ble_eq_true rfl) ⟨_, sz2, rfl, fun b hb => g_up1_ne hb, by rw [g_up1_at]; rfl, fun _ => by rw [g_up1_at, g_lg_en], by rw [if_pos e0]; rfl⟩
  · rintro E M2 sz2 ⟨hE, rfl⟩
    rcases hE with ⟨e1, rfl⟩ | ⟨e1, rfl⟩
    · exact absurd e1 (np_told what M _ hr)
    · have e1 : e = 2 := e1
      exact ⟨[], { startPc := 0, endPc := 9, handlerPc := 12, catchType := 13 }, [], "java/lang/IllegalArgumentException", rfl, (fun w hw => absurd hw List.not_mem_nil), by decide, by decide, g_mem_tb (i := 648) (by decide +kernel), g_mem_tb (i := 664) (by decide +kernel), wx_n (show decode cL_told 12 = .ok (.astore_n 3, 1) by decide +kernel) rfl (Nat.le_of_ble_eq_true rfl) (show decode cL_told 13 = .ok (.iconst 1, 1) by decide +kernel) rfl (show decode cL_told 14 = .ok (.ireturn, 1) by decide +kernel) rfl (Nat.le_of_ble_eq_true rfl) (Nat.le_of_ble_eq_true rfl) ⟨_, sz2, rfl, fun _ _ => rfl, by rw [h9]; exact h2, fun z => absurd (show e = 0 from z) (by rw [e1]; decide), by rw [e1]; rfl⟩⟩

def qL_would : gY := (yL_would, cL_would, 10, some .int, 8, 48, [])
theorem k_would {l : Launch} {C : gC} {L : Nat} {xs : Nat → Int32} (hC : g_ctx l C) (hL : g_cl C L xs) (len : Int32) (pace : Int32) (age : Int32) (heavy : Int32) (tired : Int32) (rain : Int32) (bribe : Int32) (M : gM) (sz d : Nat) (hd : 9 ≤ d) (h2 : M 956 2 = 1) {e : Nat} {v : Int32} {M1 : gM} (hr : FX_would len pace age heavy tired rain bribe M = some (e, v, M1)) (h9 : M1 956 = M 956) : gMetH l C qL_would [(0, 20, 23, 13)] d [.ref 0, .int len, .int pace, .int age, .int heavy, .int tired, .int rain, .int bribe, .ref 956] (956, g_S0, M, sz) (qW 1 e v.toInt64 M1) := by
  refine gMetH.of (ls := [(0, .ref 0), (1, .int len), (2, .int pace), (3, .int age), (4, .int heavy), (5, .int tired), (6, .int rain), (7, .int bribe), (8, .ref 956)]) (by decide +kernel) (Nat.le_of_ble_eq_true rfl) rfl ?_
  refine ww_aload (show decode cL_would 0 = .ok (.aload 8, 2) by decide +kernel) rfl ?_
  refine ww_iconst (show decode cL_would 2 = .ok (.iconst 0, 1) by decide +kernel) rfl ?_
  refine ww_aload_n (show decode cL_would 3 = .ok (.aload_n 0, 1) by decide +kernel) rfl rfl ?_
  refine ww_iload_n (show decode cL_would 4 = .ok (.iload_n 1, 1) by decide +kernel) rfl rfl ?_
  refine ww_iload_n (show decode cL_would 5 = .ok (.iload_n 2, 1) by decide +kernel) rfl rfl ?_
  refine ww_iload_n (show decode cL_would 6 = .ok (.iload_n 3, 1) by decide +kernel) rfl rfl ?_
  refine ww_iload (show decode cL_would 7 = .ok (.iload 4, 2) by decide +kernel) rfl ?_
  refine ww_iload (show decode cL_would 9 = .ok (.iload 5, 2) by decide +kernel) rfl ?_
  refine ww_iload (show decode cL_would 11 = .ok (.iload 6, 2) by decide +kernel) rfl ?_
  refine ww_iload (show decode cL_would 13 = .ok (.iload 7, 2) by decide +kernel) rfl ?_
  refine ww_call (z := qX11_would) (av := [.int len, .int pace, .int age, .int heavy, .int tired, .int rain, .int bribe]) (rest := [.int 0, .ref 956]) hC (c_FX_would hC len pace age heavy tired rain bribe M sz (d - 1) (by omega) (e, v, M1) hr) (show decode cL_would 15 = .ok (.invokevirtual 43, 3) by decide +kernel) (g_mem_tb (i := 1088) (by decide +kernel)) kX11_would sX11_would rfl (by omega) rfl rfl (Nat.le_of_ble_eq_true rfl) ⟨(Nat.le_of_ble_eq_true rfl), (Nat.le_of_ble_eq_true rfl)⟩ ?_ ?_
  · rintro r M2 sz2 ⟨e0, rfl, rfl⟩
    have e0 : e = 0 := e0
    refine ww_i2l (show decode cL_would 18 = .ok (.i2l, 1) by decide +kernel) ?_
    refine ww_lastore hL (by rw [h9]; exact h2) (show decode cL_would 19 = .ok (.lastore, 1) by decide +kernel) ?_
    refine ww_goto (tgt := 27) (show decode cL_would 20 = .ok (.goto 7, 3) by decide +kernel) rfl ?_
    refine ww_iconst (show decode cL_would 27 = .ok (.iconst 0, 1) by decide +kernel) rfl ?_
    exact ww_iret (show decode cL_would 28 = .ok (.ireturn, 1) by decide +kernel) rfl (Nat.le_of_ble_eq_true rfl) (Nat.le_of_ble_eq_true rfl) ⟨_, sz2, rfl, fun b hb => g_up1_ne hb, by rw [g_up1_at]; rfl, fun _ => by rw [g_up1_at, g_lg_en], by rw [if_pos e0]; rfl⟩
  · rintro E M2 sz2 ⟨hE, rfl⟩
    rcases hE with ⟨e1, rfl⟩ | ⟨e1, rfl⟩
    · exact absurd e1 (np_would len pace age heavy tired rain bribe M _ hr)
    · have e1 : e = 2 := e1
      exact ⟨[], { startPc := 0, endPc := 20, handlerPc := 23, catchType := 13 }, [], "java/lang/IllegalArgumentException", rfl, (fun w hw => absurd hw List.not_mem_nil), by decide, by decide, g_mem_tb (i := 648) (by decide +kernel), g_mem_tb (i := 664) (by decide +kernel), wx_w (show decode cL_would 23 = .ok (.astore 9, 2) by decide +kernel) (Nat.le_of_ble_eq_true rfl) (show decode cL_would 25 = .ok (.iconst 1, 1) by decide +kernel) rfl (show decode cL_would 26 = .ok (.ireturn, 1) by decide +kernel) rfl (Nat.le_of_ble_eq_true rfl) (Nat.le_of_ble_eq_true rfl) ⟨_, sz2, rfl, fun _ _ => rfl, by rw [h9]; exact h2, fun z => absurd (show e = 0 from z) (by rw [e1]; decide), by rw [e1]; rfl⟩⟩

def qL_ahead : gY := (yL_ahead, cL_ahead, 5, some .int, 8, 48, [])
theorem k_ahead {l : Launch} {C : gC} {L : Nat} {xs : Nat → Int32} (hC : g_ctx l C) (hL : g_cl C L xs) (n : Int32) (what : Int32) (M : gM) (sz d : Nat) (hd : 9 ≤ d) (h2 : M 956 2 = 1) {e : Nat} {v : Int32} {M1 : gM} (hr : FX_ahead n what M = some (e, v, M1)) (h9 : M1 956 = M 956) : gMetH l C qL_ahead [(0, 10, 13, 13)] d [.ref 0, .int n, .int what, .ref 956] (956, g_S0, M, sz) (qW 1 e v.toInt64 M1) := by
  refine gMetH.of (ls := [(0, .ref 0), (1, .int n), (2, .int what), (3, .ref 956)]) (by decide +kernel) (Nat.le_of_ble_eq_true rfl) rfl ?_
  refine ww_aload_n (show decode cL_ahead 0 = .ok (.aload_n 3, 1) by decide +kernel) rfl rfl ?_
  refine ww_iconst (show decode cL_ahead 1 = .ok (.iconst 0, 1) by decide +kernel) rfl ?_
  refine ww_aload_n (show decode cL_ahead 2 = .ok (.aload_n 0, 1) by decide +kernel) rfl rfl ?_
  refine ww_iload_n (show decode cL_ahead 3 = .ok (.iload_n 1, 1) by decide +kernel) rfl rfl ?_
  refine ww_iload_n (show decode cL_ahead 4 = .ok (.iload_n 2, 1) by decide +kernel) rfl rfl ?_
  refine ww_call (z := qX11_ahead) (av := [.int n, .int what]) (rest := [.int 0, .ref 956]) hC (c_FX_ahead hC n what M sz (d - 1) (by omega) (e, v, M1) hr) (show decode cL_ahead 5 = .ok (.invokevirtual 50, 3) by decide +kernel) (g_mem_tb (i := 1107) (by decide +kernel)) kX11_ahead sX11_ahead rfl (by omega) rfl rfl (Nat.le_of_ble_eq_true rfl) ⟨(Nat.le_of_ble_eq_true rfl), (Nat.le_of_ble_eq_true rfl)⟩ ?_ ?_
  · rintro r M2 sz2 ⟨e0, rfl, rfl⟩
    have e0 : e = 0 := e0
    refine ww_i2l (show decode cL_ahead 8 = .ok (.i2l, 1) by decide +kernel) ?_
    refine ww_lastore hL (by rw [h9]; exact h2) (show decode cL_ahead 9 = .ok (.lastore, 1) by decide +kernel) ?_
    refine ww_goto (tgt := 17) (show decode cL_ahead 10 = .ok (.goto 7, 3) by decide +kernel) rfl ?_
    refine ww_iconst (show decode cL_ahead 17 = .ok (.iconst 0, 1) by decide +kernel) rfl ?_
    exact ww_iret (show decode cL_ahead 18 = .ok (.ireturn, 1) by decide +kernel) rfl (Nat.le_of_ble_eq_true rfl) (Nat.le_of_ble_eq_true rfl) ⟨_, sz2, rfl, fun b hb => g_up1_ne hb, by rw [g_up1_at]; rfl, fun _ => by rw [g_up1_at, g_lg_en], by rw [if_pos e0]; rfl⟩
  · rintro E M2 sz2 ⟨hE, rfl⟩
    rcases hE with ⟨e1, rfl⟩ | ⟨e1, rfl⟩
    · exact absurd e1 (np_ahead n what M _ hr)
    · have e1 : e = 2 := e1
      exact ⟨[], { startPc := 0, endPc := 10, handlerPc := 13, catchType := 13 }, [], "java/lang/IllegalArgumentException", rfl, (fun w hw => absurd hw List.not_mem_nil), by decide, by decide, g_mem_tb (i := 648) (by decide +kernel), g_mem_tb (i := 664) (by decide +kernel), wx_w (show decode cL_ahead 13 = .ok (.astore 4, 2) by decide +kernel) (Nat.le_of_ble_eq_true rfl) (show decode cL_ahead 15 = .ok (.iconst 1, 1) by decide +kernel) rfl (show decode cL_ahead 16 = .ok (.ireturn, 1) by decide +kernel) rfl (Nat.le_of_ble_eq_true rfl) (Nat.le_of_ble_eq_true rfl) ⟨_, sz2, rfl, fun _ _ => rfl, by rw [h9]; exact h2, fun z => absurd (show e = 0 from z) (by rw [e1]; decide), by rw [e1]; rfl⟩⟩

def qL_hour : gY := (yL_hour, cL_hour, 4, some .int, 8, 48, [])
theorem k_hour {l : Launch} {C : gC} {L : Nat} {xs : Nat → Int32} (hC : g_ctx l C) (hL : g_cl C L xs) (m : Int32) (M : gM) (sz d : Nat) (hd : 9 ≤ d) (h2 : M 956 2 = 1) {e : Nat} {v : Int32} {M1 : gM} (hr : FX_hour m M = some (e, v, M1)) (h9 : M1 956 = M 956) : gMetH l C qL_hour [(0, 9, 12, 13)] d [.ref 0, .int m, .ref 956] (956, g_S0, M, sz) (qW 1 e v.toInt64 M1) := by
  refine gMetH.of (ls := [(0, .ref 0), (1, .int m), (2, .ref 956)]) (by decide +kernel) (Nat.le_of_ble_eq_true rfl) rfl ?_
  refine ww_aload_n (show decode cL_hour 0 = .ok (.aload_n 2, 1) by decide +kernel) rfl rfl ?_
  refine ww_iconst (show decode cL_hour 1 = .ok (.iconst 0, 1) by decide +kernel) rfl ?_
  refine ww_aload_n (show decode cL_hour 2 = .ok (.aload_n 0, 1) by decide +kernel) rfl rfl ?_
  refine ww_iload_n (show decode cL_hour 3 = .ok (.iload_n 1, 1) by decide +kernel) rfl rfl ?_
  refine ww_call (z := qX11_hour) (av := [.int m]) (rest := [.int 0, .ref 956]) hC (c_FX_hour hC m M sz (d - 1) (by omega) (e, v, M1) hr) (show decode cL_hour 4 = .ok (.invokevirtual 56, 3) by decide +kernel) (g_mem_tb (i := 1125) (by decide +kernel)) kX11_hour sX11_hour rfl (by omega) rfl rfl (Nat.le_of_ble_eq_true rfl) ⟨(Nat.le_of_ble_eq_true rfl), (Nat.le_of_ble_eq_true rfl)⟩ ?_ ?_
  · rintro r M2 sz2 ⟨e0, rfl, rfl⟩
    have e0 : e = 0 := e0
    refine ww_i2l (show decode cL_hour 7 = .ok (.i2l, 1) by decide +kernel) ?_
    refine ww_lastore hL (by rw [h9]; exact h2) (show decode cL_hour 8 = .ok (.lastore, 1) by decide +kernel) ?_
    refine ww_goto (tgt := 15) (show decode cL_hour 9 = .ok (.goto 6, 3) by decide +kernel) rfl ?_
    refine ww_iconst (show decode cL_hour 15 = .ok (.iconst 0, 1) by decide +kernel) rfl ?_
    exact ww_iret (show decode cL_hour 16 = .ok (.ireturn, 1) by decide +kernel) rfl (Nat.le_of_ble_eq_true rfl) (Nat.le_of_ble_eq_true rfl) ⟨_, sz2, rfl, fun b hb => g_up1_ne hb, by rw [g_up1_at]; rfl, fun _ => by rw [g_up1_at, g_lg_en], by rw [if_pos e0]; rfl⟩
  · rintro E M2 sz2 ⟨hE, rfl⟩
    rcases hE with ⟨e1, rfl⟩ | ⟨e1, rfl⟩
    · exact absurd e1 (np_hour m M _ hr)
    · have e1 : e = 2 := e1
      exact ⟨[], { startPc := 0, endPc := 9, handlerPc := 12, catchType := 13 }, [], "java/lang/IllegalArgumentException", rfl, (fun w hw => absurd hw List.not_mem_nil), by decide, by decide, g_mem_tb (i := 648) (by decide +kernel), g_mem_tb (i := 664) (by decide +kernel), wx_n (show decode cL_hour 12 = .ok (.astore_n 3, 1) by decide +kernel) rfl (Nat.le_of_ble_eq_true rfl) (show decode cL_hour 13 = .ok (.iconst 1, 1) by decide +kernel) rfl (show decode cL_hour 14 = .ok (.ireturn, 1) by decide +kernel) rfl (Nat.le_of_ble_eq_true rfl) (Nat.le_of_ble_eq_true rfl) ⟨_, sz2, rfl, fun _ _ => rfl, by rw [h9]; exact h2, fun z => absurd (show e = 0 from z) (by rw [e1]; decide), by rw [e1]; rfl⟩⟩

def qL_match : gY := (yL_match, cL_match, 5, some .int, 8, 48, [])
theorem k_match {l : Launch} {C : gC} {L : Nat} {xs : Nat → Int32} (hC : g_ctx l C) (hL : g_cl C L xs) (hoops : Int32) (m : Int32) (M : gM) (sz d : Nat) (hd : 10 ≤ d) (h2 : M 956 2 = 1) {e : Nat} {v : Int32} {M1 : gM} (hr : FX_match hoops m M = some (e, v, M1)) (h9 : M1 956 = M 956) : gMetH l C qL_match [(0, 10, 13, 13)] d [.ref 0, .int hoops, .int m, .ref 956] (956, g_S0, M, sz) (qW 1 e v.toInt64 M1) := by
  refine gMetH.of (ls := [(0, .ref 0), (1, .int hoops), (2, .int m), (3, .ref 956)]) (by decide +kernel) (Nat.le_of_ble_eq_true rfl) rfl ?_
  refine ww_aload_n (show decode cL_match 0 = .ok (.aload_n 3, 1) by decide +kernel) rfl rfl ?_
  refine ww_iconst (show decode cL_match 1 = .ok (.iconst 0, 1) by decide +kernel) rfl ?_
  refine ww_aload_n (show decode cL_match 2 = .ok (.aload_n 0, 1) by decide +kernel) rfl rfl ?_
  refine ww_iload_n (show decode cL_match 3 = .ok (.iload_n 1, 1) by decide +kernel) rfl rfl ?_
  refine ww_iload_n (show decode cL_match 4 = .ok (.iload_n 2, 1) by decide +kernel) rfl rfl ?_
  refine ww_call (z := qX11_match) (av := [.int hoops, .int m]) (rest := [.int 0, .ref 956]) hC (c_FX_match hC hoops m M sz (d - 1) (by omega) (e, v, M1) hr) (show decode cL_match 5 = .ok (.invokevirtual 59, 3) by decide +kernel) (g_mem_tb (i := 1132) (by decide +kernel)) kX11_match sX11_match rfl (by omega) rfl rfl (Nat.le_of_ble_eq_true rfl) ⟨(Nat.le_of_ble_eq_true rfl), (Nat.le_of_ble_eq_true rfl)⟩ ?_ ?_
  · rintro r M2 sz2 ⟨e0, rfl, rfl⟩
    have e0 : e = 0 := e0
    refine ww_i2l (show decode cL_match 8 = .ok (.i2l, 1) by decide +kernel) ?_
    refine ww_lastore hL (by rw [h9]; exact h2) (show decode cL_match 9 = .ok (.lastore, 1) by decide +kernel) ?_
    refine ww_goto (tgt := 17) (show decode cL_match 10 = .ok (.goto 7, 3) by decide +kernel) rfl ?_
    refine ww_iconst (show decode cL_match 17 = .ok (.iconst 0, 1) by decide +kernel) rfl ?_
    exact ww_iret (show decode cL_match 18 = .ok (.ireturn, 1) by decide +kernel) rfl (Nat.le_of_ble_eq_true rfl) (Nat.le_of_ble_eq_true rfl) ⟨_, sz2, rfl, fun b hb => g_up1_ne hb, by rw [g_up1_at]; rfl, fun _ => by rw [g_up1_at, g_lg_en], by rw [if_pos e0]; rfl⟩
  · rintro E M2 sz2 ⟨hE, rfl⟩
    rcases hE with ⟨e1, rfl⟩ | ⟨e1, rfl⟩
    · exact absurd e1 (np_match hoops m M _ hr)
    · have e1 : e = 2 := e1
      exact ⟨[], { startPc := 0, endPc := 10, handlerPc := 13, catchType := 13 }, [], "java/lang/IllegalArgumentException", rfl, (fun w hw => absurd hw List.not_mem_nil), by decide, by decide, g_mem_tb (i := 648) (by decide +kernel), g_mem_tb (i := 664) (by decide +kernel), wx_w (show decode cL_match 13 = .ok (.astore 4, 2) by decide +kernel) (Nat.le_of_ble_eq_true rfl) (show decode cL_match 15 = .ok (.iconst 1, 1) by decide +kernel) rfl (show decode cL_match 16 = .ok (.ireturn, 1) by decide +kernel) rfl (Nat.le_of_ble_eq_true rfl) (Nat.le_of_ble_eq_true rfl) ⟨_, sz2, rfl, fun _ _ => rfl, by rw [h9]; exact h2, fun z => absurd (show e = 0 from z) (by rw [e1]; decide), by rw [e1]; rfl⟩⟩

def qL_fits : gY := (yL_fits, cL_fits, 4, some .int, 8, 48, [])
theorem k_fits {l : Launch} {C : gC} {L : Nat} {xs : Nat → Int32} (hC : g_ctx l C) (hL : g_cl C L xs) (what : Int32) (M : gM) (sz d : Nat) (hd : 9 ≤ d) (h2 : M 956 2 = 1) {e : Nat} {v : Int32} {M1 : gM} (hr : FX_fits what M = some (e, v, M1)) (h9 : M1 956 = M 956) : gMetH l C qL_fits [(0, 9, 12, 13)] d [.ref 0, .int what, .ref 956] (956, g_S0, M, sz) (qW 1 e v.toInt64 M1) := by
  refine gMetH.of (ls := [(0, .ref 0), (1, .int what), (2, .ref 956)]) (by decide +kernel) (Nat.le_of_ble_eq_true rfl) rfl ?_
  refine ww_aload_n (show decode cL_fits 0 = .ok (.aload_n 2, 1) by decide +kernel) rfl rfl ?_
  refine ww_iconst (show decode cL_fits 1 = .ok (.iconst 0, 1) by decide +kernel) rfl ?_
  refine ww_aload_n (show decode cL_fits 2 = .ok (.aload_n 0, 1) by decide +kernel) rfl rfl ?_
  refine ww_iload_n (show decode cL_fits 3 = .ok (.iload_n 1, 1) by decide +kernel) rfl rfl ?_
  refine ww_call (z := qX11_fits) (av := [.int what]) (rest := [.int 0, .ref 956]) hC (c_FX_fits hC what M sz (d - 1) (by omega) (e, v, M1) hr) (show decode cL_fits 4 = .ok (.invokevirtual 65, 3) by decide +kernel) (g_mem_tb (i := 1196) (by decide +kernel)) kX11_fits sX11_fits rfl (by omega) rfl rfl (Nat.le_of_ble_eq_true rfl) ⟨(Nat.le_of_ble_eq_true rfl), (Nat.le_of_ble_eq_true rfl)⟩ ?_ ?_
  · rintro r M2 sz2 ⟨e0, rfl, rfl⟩
    have e0 : e = 0 := e0
    refine ww_i2l (show decode cL_fits 7 = .ok (.i2l, 1) by decide +kernel) ?_
    refine ww_lastore hL (by rw [h9]; exact h2) (show decode cL_fits 8 = .ok (.lastore, 1) by decide +kernel) ?_
    refine ww_goto (tgt := 15) (show decode cL_fits 9 = .ok (.goto 6, 3) by decide +kernel) rfl ?_
    refine ww_iconst (show decode cL_fits 15 = .ok (.iconst 0, 1) by decide +kernel) rfl ?_
    exact ww_iret (show decode cL_fits 16 = .ok (.ireturn, 1) by decide +kernel) rfl (Nat.le_of_ble_eq_true rfl) (Nat.le_of_ble_eq_true rfl) ⟨_, sz2, rfl, fun b hb => g_up1_ne hb, by rw [g_up1_at]; rfl, fun _ => by rw [g_up1_at, g_lg_en], by rw [if_pos e0]; rfl⟩
  · rintro E M2 sz2 ⟨hE, rfl⟩
    rcases hE with ⟨e1, rfl⟩ | ⟨e1, rfl⟩
    · exact absurd e1 (np_fits what M _ hr)
    · have e1 : e = 2 := e1
      exact ⟨[], { startPc := 0, endPc := 9, handlerPc := 12, catchType := 13 }, [], "java/lang/IllegalArgumentException", rfl, (fun w hw => absurd hw List.not_mem_nil), by decide, by decide, g_mem_tb (i := 648) (by decide +kernel), g_mem_tb (i := 664) (by decide +kernel), wx_n (show decode cL_fits 12 = .ok (.astore_n 3, 1) by decide +kernel) rfl (Nat.le_of_ble_eq_true rfl) (show decode cL_fits 13 = .ok (.iconst 1, 1) by decide +kernel) rfl (show decode cL_fits 14 = .ok (.ireturn, 1) by decide +kernel) rfl (Nat.le_of_ble_eq_true rfl) (Nat.le_of_ble_eq_true rfl) ⟨_, sz2, rfl, fun _ _ => rfl, by rw [h9]; exact h2, fun z => absurd (show e = 0 from z) (by rw [e1]; decide), by rw [e1]; rfl⟩⟩

def qL_listen : gY := (yL_listen, cL_listen, 4, some .int, 8, 48, [])
theorem k_listen {l : Launch} {C : gC} {L : Nat} {xs : Nat → Int32} (hC : g_ctx l C) (hL : g_cl C L xs) (what : Int32) (M : gM) (sz d : Nat) (hd : 9 ≤ d) (h2 : M 956 2 = 1) {e : Nat} {v : Int32} {M1 : gM} (hr : FX_listen what M = some (e, v, M1)) (h9 : M1 956 = M 956) : gMetH l C qL_listen [(0, 9, 12, 13)] d [.ref 0, .int what, .ref 956] (956, g_S0, M, sz) (qW 1 e v.toInt64 M1) := by
  refine gMetH.of (ls := [(0, .ref 0), (1, .int what), (2, .ref 956)]) (by decide +kernel) (Nat.le_of_ble_eq_true rfl) rfl ?_
  refine ww_aload_n (show decode cL_listen 0 = .ok (.aload_n 2, 1) by decide +kernel) rfl rfl ?_
  refine ww_iconst (show decode cL_listen 1 = .ok (.iconst 0, 1) by decide +kernel) rfl ?_
  refine ww_aload_n (show decode cL_listen 2 = .ok (.aload_n 0, 1) by decide +kernel) rfl rfl ?_
  refine ww_iload_n (show decode cL_listen 3 = .ok (.iload_n 1, 1) by decide +kernel) rfl rfl ?_
  refine ww_call (z := qX11_listen) (av := [.int what]) (rest := [.int 0, .ref 956]) hC (c_FX_listen hC what M sz (d - 1) (by omega) (e, v, M1) hr) (show decode cL_listen 4 = .ok (.invokevirtual 68, 3) by decide +kernel) (g_mem_tb (i := 1215) (by decide +kernel)) kX11_listen sX11_listen rfl (by omega) rfl rfl (Nat.le_of_ble_eq_true rfl) ⟨(Nat.le_of_ble_eq_true rfl), (Nat.le_of_ble_eq_true rfl)⟩ ?_ ?_
  · rintro r M2 sz2 ⟨e0, rfl, rfl⟩
    have e0 : e = 0 := e0
    refine ww_i2l (show decode cL_listen 7 = .ok (.i2l, 1) by decide +kernel) ?_
    refine ww_lastore hL (by rw [h9]; exact h2) (show decode cL_listen 8 = .ok (.lastore, 1) by decide +kernel) ?_
    refine ww_goto (tgt := 15) (show decode cL_listen 9 = .ok (.goto 6, 3) by decide +kernel) rfl ?_
    refine ww_iconst (show decode cL_listen 15 = .ok (.iconst 0, 1) by decide +kernel) rfl ?_
    exact ww_iret (show decode cL_listen 16 = .ok (.ireturn, 1) by decide +kernel) rfl (Nat.le_of_ble_eq_true rfl) (Nat.le_of_ble_eq_true rfl) ⟨_, sz2, rfl, fun b hb => g_up1_ne hb, by rw [g_up1_at]; rfl, fun _ => by rw [g_up1_at, g_lg_en], by rw [if_pos e0]; rfl⟩
  · rintro E M2 sz2 ⟨hE, rfl⟩
    rcases hE with ⟨e1, rfl⟩ | ⟨e1, rfl⟩
    · exact absurd e1 (np_listen what M _ hr)
    · have e1 : e = 2 := e1
      exact ⟨[], { startPc := 0, endPc := 9, handlerPc := 12, catchType := 13 }, [], "java/lang/IllegalArgumentException", rfl, (fun w hw => absurd hw List.not_mem_nil), by decide, by decide, g_mem_tb (i := 648) (by decide +kernel), g_mem_tb (i := 664) (by decide +kernel), wx_n (show decode cL_listen 12 = .ok (.astore_n 3, 1) by decide +kernel) rfl (Nat.le_of_ble_eq_true rfl) (show decode cL_listen 13 = .ok (.iconst 1, 1) by decide +kernel) rfl (show decode cL_listen 14 = .ok (.ireturn, 1) by decide +kernel) rfl (Nat.le_of_ble_eq_true rfl) (Nat.le_of_ble_eq_true rfl) ⟨_, sz2, rfl, fun _ _ => rfl, by rw [h9]; exact h2, fun z => absurd (show e = 0 from z) (by rw [e1]; decide), by rw [e1]; rfl⟩⟩

def qL_safe : gY := (yL_safe, cL_safe, 5, some .int, 8, 48, [])
theorem k_safe {l : Launch} {C : gC} {L : Nat} {xs : Nat → Int32} (hC : g_ctx l C) (hL : g_cl C L xs) (walks : Int32) (part : Int32) (M : gM) (sz d : Nat) (hd : 10 ≤ d) (h2 : M 956 2 = 1) {e : Nat} {v : Int64} {M1 : gM} (hr : FX_safe walks part M = some (e, v, M1)) (h9 : M1 956 = M 956) : gMetH l C qL_safe [(0, 9, 12, 13)] d [.ref 0, .int walks, .int part, .ref 956] (956, g_S0, M, sz) (qW 1 e v M1) := by
  refine gMetH.of (ls := [(0, .ref 0), (1, .int walks), (2, .int part), (3, .ref 956)]) (by decide +kernel) (Nat.le_of_ble_eq_true rfl) rfl ?_
  refine ww_aload_n (show decode cL_safe 0 = .ok (.aload_n 3, 1) by decide +kernel) rfl rfl ?_
  refine ww_iconst (show decode cL_safe 1 = .ok (.iconst 0, 1) by decide +kernel) rfl ?_
  refine ww_aload_n (show decode cL_safe 2 = .ok (.aload_n 0, 1) by decide +kernel) rfl rfl ?_
  refine ww_iload_n (show decode cL_safe 3 = .ok (.iload_n 1, 1) by decide +kernel) rfl rfl ?_
  refine ww_iload_n (show decode cL_safe 4 = .ok (.iload_n 2, 1) by decide +kernel) rfl rfl ?_
  refine ww_call (z := qX11_safe) (av := [.int walks, .int part]) (rest := [.int 0, .ref 956]) hC (c_FX_safe hC walks part M sz (d - 1) (by omega) (e, v, M1) hr) (show decode cL_safe 5 = .ok (.invokevirtual 71, 3) by decide +kernel) (g_mem_tb (i := 1239) (by decide +kernel)) kX11_safe sX11_safe rfl (by omega) rfl rfl (Nat.le_of_ble_eq_true rfl) ⟨(Nat.le_of_ble_eq_true rfl), (Nat.le_of_ble_eq_true rfl)⟩ ?_ ?_
  · rintro r M2 sz2 ⟨e0, rfl, rfl⟩
    have e0 : e = 0 := e0
    refine ww_lastore hL (by rw [h9]; exact h2) (show decode cL_safe 8 = .ok (.lastore, 1) by decide +kernel) ?_
    refine ww_goto (tgt := 16) (show decode cL_safe 9 = .ok (.goto 7, 3) by decide +kernel) rfl ?_
    refine ww_iconst (show decode cL_safe 16 = .ok (.iconst 0, 1) by decide +kernel) rfl ?_
    exact ww_iret (show decode cL_safe 17 = .ok (.ireturn, 1) by decide +kernel) rfl (Nat.le_of_ble_eq_true rfl) (Nat.le_of_ble_eq_true rfl) ⟨_, sz2, rfl, fun b hb => g_up1_ne hb, by rw [g_up1_at]; rfl, fun _ => by rw [g_up1_at, g_lg_en], by rw [if_pos e0]; rfl⟩
  · rintro E M2 sz2 ⟨hE, rfl⟩
    rcases hE with ⟨e1, rfl⟩ | ⟨e1, rfl⟩
    · exact absurd e1 (np_safe walks part M _ hr)
    · have e1 : e = 2 := e1
      exact ⟨[], { startPc := 0, endPc := 9, handlerPc := 12, catchType := 13 }, [], "java/lang/IllegalArgumentException", rfl, (fun w hw => absurd hw List.not_mem_nil), by decide, by decide, g_mem_tb (i := 648) (by decide +kernel), g_mem_tb (i := 664) (by decide +kernel), wx_w (show decode cL_safe 12 = .ok (.astore 4, 2) by decide +kernel) (Nat.le_of_ble_eq_true rfl) (show decode cL_safe 14 = .ok (.iconst 1, 1) by decide +kernel) rfl (show decode cL_safe 15 = .ok (.ireturn, 1) by decide +kernel) rfl (Nat.le_of_ble_eq_true rfl) (Nat.le_of_ble_eq_true rfl) ⟨_, sz2, rfl, fun _ _ => rfl, by rw [h9]; exact h2, fun z => absurd (show e = 0 from z) (by rw [e1]; decide), by rw [e1]; rfl⟩⟩

def qL_mean : gY := (yL_mean, cL_mean, 5, some .int, 8, 48, [])
theorem k_mean {l : Launch} {C : gC} {L : Nat} {xs : Nat → Int32} (hC : g_ctx l C) (hL : g_cl C L xs) (n : Int32) (part : Int32) (M : gM) (sz d : Nat) (hd : 9 ≤ d) (h2 : M 956 2 = 1) {e : Nat} {v : Int32} {M1 : gM} (hr : FX_mean n part M = some (e, v, M1)) (h9 : M1 956 = M 956) : gMetH l C qL_mean [(0, 10, 13, 13)] d [.ref 0, .int n, .int part, .ref 956] (956, g_S0, M, sz) (qW 1 e v.toInt64 M1) := by
  refine gMetH.of (ls := [(0, .ref 0), (1, .int n), (2, .int part), (3, .ref 956)]) (by decide +kernel) (Nat.le_of_ble_eq_true rfl) rfl ?_
  refine ww_aload_n (show decode cL_mean 0 = .ok (.aload_n 3, 1) by decide +kernel) rfl rfl ?_
  refine ww_iconst (show decode cL_mean 1 = .ok (.iconst 0, 1) by decide +kernel) rfl ?_
  refine ww_aload_n (show decode cL_mean 2 = .ok (.aload_n 0, 1) by decide +kernel) rfl rfl ?_
  refine ww_iload_n (show decode cL_mean 3 = .ok (.iload_n 1, 1) by decide +kernel) rfl rfl ?_
  refine ww_iload_n (show decode cL_mean 4 = .ok (.iload_n 2, 1) by decide +kernel) rfl rfl ?_
  refine ww_call (z := qX11_mean) (av := [.int n, .int part]) (rest := [.int 0, .ref 956]) hC (c_FX_mean hC n part M sz (d - 1) (by omega) (e, v, M1) hr) (show decode cL_mean 5 = .ok (.invokevirtual 75, 3) by decide +kernel) (g_mem_tb (i := 1251) (by decide +kernel)) kX11_mean sX11_mean rfl (by omega) rfl rfl (Nat.le_of_ble_eq_true rfl) ⟨(Nat.le_of_ble_eq_true rfl), (Nat.le_of_ble_eq_true rfl)⟩ ?_ ?_
  · rintro r M2 sz2 ⟨e0, rfl, rfl⟩
    have e0 : e = 0 := e0
    refine ww_i2l (show decode cL_mean 8 = .ok (.i2l, 1) by decide +kernel) ?_
    refine ww_lastore hL (by rw [h9]; exact h2) (show decode cL_mean 9 = .ok (.lastore, 1) by decide +kernel) ?_
    refine ww_goto (tgt := 17) (show decode cL_mean 10 = .ok (.goto 7, 3) by decide +kernel) rfl ?_
    refine ww_iconst (show decode cL_mean 17 = .ok (.iconst 0, 1) by decide +kernel) rfl ?_
    exact ww_iret (show decode cL_mean 18 = .ok (.ireturn, 1) by decide +kernel) rfl (Nat.le_of_ble_eq_true rfl) (Nat.le_of_ble_eq_true rfl) ⟨_, sz2, rfl, fun b hb => g_up1_ne hb, by rw [g_up1_at]; rfl, fun _ => by rw [g_up1_at, g_lg_en], by rw [if_pos e0]; rfl⟩
  · rintro E M2 sz2 ⟨hE, rfl⟩
    rcases hE with ⟨e1, rfl⟩ | ⟨e1, rfl⟩
    · exact absurd e1 (np_mean n part M _ hr)
    · have e1 : e = 2 := e1
      exact ⟨[], { startPc := 0, endPc := 10, handlerPc := 13, catchType := 13 }, [], "java/lang/IllegalArgumentException", rfl, (fun w hw => absurd hw List.not_mem_nil), by decide, by decide, g_mem_tb (i := 648) (by decide +kernel), g_mem_tb (i := 664) (by decide +kernel), wx_w (show decode cL_mean 13 = .ok (.astore 4, 2) by decide +kernel) (Nat.le_of_ble_eq_true rfl) (show decode cL_mean 15 = .ok (.iconst 1, 1) by decide +kernel) rfl (show decode cL_mean 16 = .ok (.ireturn, 1) by decide +kernel) rfl (Nat.le_of_ble_eq_true rfl) (Nat.le_of_ble_eq_true rfl) ⟨_, sz2, rfl, fun _ _ => rfl, by rw [h9]; exact h2, fun z => absurd (show e = 0 from z) (by rw [e1]; decide), by rw [e1]; rfl⟩⟩

def qL_stands : gY := (yL_stands, cL_stands, 6, some .int, 8, 48, [])
theorem k_stands {l : Launch} {C : gC} {L : Nat} {xs : Nat → Int32} (hC : g_ctx l C) (hL : g_cl C L xs) (q : Int32) (n : Int32) (part : Int32) (M : gM) (sz d : Nat) (hd : 9 ≤ d) (h2 : M 956 2 = 1) {e : Nat} {v : Int64} {M1 : gM} (hr : FX_stands q n part M = some (e, v, M1)) (h9 : M1 956 = M 956) : gMetH l C qL_stands [(0, 11, 14, 13)] d [.ref 0, .int q, .int n, .int part, .ref 956] (956, g_S0, M, sz) (qW 1 e v M1) := by
  refine gMetH.of (ls := [(0, .ref 0), (1, .int q), (2, .int n), (3, .int part), (4, .ref 956)]) (by decide +kernel) (Nat.le_of_ble_eq_true rfl) rfl ?_
  refine ww_aload (show decode cL_stands 0 = .ok (.aload 4, 2) by decide +kernel) rfl ?_
  refine ww_iconst (show decode cL_stands 2 = .ok (.iconst 0, 1) by decide +kernel) rfl ?_
  refine ww_aload_n (show decode cL_stands 3 = .ok (.aload_n 0, 1) by decide +kernel) rfl rfl ?_
  refine ww_iload_n (show decode cL_stands 4 = .ok (.iload_n 1, 1) by decide +kernel) rfl rfl ?_
  refine ww_iload_n (show decode cL_stands 5 = .ok (.iload_n 2, 1) by decide +kernel) rfl rfl ?_
  refine ww_iload_n (show decode cL_stands 6 = .ok (.iload_n 3, 1) by decide +kernel) rfl rfl ?_
  refine ww_call (z := qX11_stands) (av := [.int q, .int n, .int part]) (rest := [.int 0, .ref 956]) hC (c_FX_stands hC q n part M sz (d - 1) (by omega) (e, v, M1) hr) (show decode cL_stands 7 = .ok (.invokevirtual 78, 3) by decide +kernel) (g_mem_tb (i := 1258) (by decide +kernel)) kX11_stands sX11_stands rfl (by omega) rfl rfl (Nat.le_of_ble_eq_true rfl) ⟨(Nat.le_of_ble_eq_true rfl), (Nat.le_of_ble_eq_true rfl)⟩ ?_ ?_
  · rintro r M2 sz2 ⟨e0, rfl, rfl⟩
    have e0 : e = 0 := e0
    refine ww_lastore hL (by rw [h9]; exact h2) (show decode cL_stands 10 = .ok (.lastore, 1) by decide +kernel) ?_
    refine ww_goto (tgt := 18) (show decode cL_stands 11 = .ok (.goto 7, 3) by decide +kernel) rfl ?_
    refine ww_iconst (show decode cL_stands 18 = .ok (.iconst 0, 1) by decide +kernel) rfl ?_
    exact ww_iret (show decode cL_stands 19 = .ok (.ireturn, 1) by decide +kernel) rfl (Nat.le_of_ble_eq_true rfl) (Nat.le_of_ble_eq_true rfl) ⟨_, sz2, rfl, fun b hb => g_up1_ne hb, by rw [g_up1_at]; rfl, fun _ => by rw [g_up1_at, g_lg_en], by rw [if_pos e0]; rfl⟩
  · rintro E M2 sz2 ⟨hE, rfl⟩
    rcases hE with ⟨e1, rfl⟩ | ⟨e1, rfl⟩
    · exact absurd e1 (np_stands q n part M _ hr)
    · have e1 : e = 2 := e1
      exact ⟨[], { startPc := 0, endPc := 11, handlerPc := 14, catchType := 13 }, [], "java/lang/IllegalArgumentException", rfl, (fun w hw => absurd hw List.not_mem_nil), by decide, by decide, g_mem_tb (i := 648) (by decide +kernel), g_mem_tb (i := 664) (by decide +kernel), wx_w (show decode cL_stands 14 = .ok (.astore 5, 2) by decide +kernel) (Nat.le_of_ble_eq_true rfl) (show decode cL_stands 16 = .ok (.iconst 1, 1) by decide +kernel) rfl (show decode cL_stands 17 = .ok (.ireturn, 1) by decide +kernel) rfl (Nat.le_of_ble_eq_true rfl) (Nat.le_of_ble_eq_true rfl) ⟨_, sz2, rfl, fun _ _ => rfl, by rw [h9]; exact h2, fun z => absurd (show e = 0 from z) (by rw [e1]; decide), by rw [e1]; rfl⟩⟩

def qL_cover : gY := (yL_cover, cL_cover, 4, some .int, 8, 48, [])
theorem k_cover {l : Launch} {C : gC} {L : Nat} {xs : Nat → Int32} (hC : g_ctx l C) (hL : g_cl C L xs) (walks : Int32) (M : gM) (sz d : Nat) (hd : 10 ≤ d) (h2 : M 956 2 = 1) {e : Nat} {v : Int32} {M1 : gM} (hr : FX_cover walks M = some (e, v, M1)) (h9 : M1 956 = M 956) : gMetH l C qL_cover [(0, 9, 12, 13)] d [.ref 0, .int walks, .ref 956] (956, g_S0, M, sz) (qW 1 e v.toInt64 M1) := by
  refine gMetH.of (ls := [(0, .ref 0), (1, .int walks), (2, .ref 956)]) (by decide +kernel) (Nat.le_of_ble_eq_true rfl) rfl ?_
  refine ww_aload_n (show decode cL_cover 0 = .ok (.aload_n 2, 1) by decide +kernel) rfl rfl ?_
  refine ww_iconst (show decode cL_cover 1 = .ok (.iconst 0, 1) by decide +kernel) rfl ?_
  refine ww_aload_n (show decode cL_cover 2 = .ok (.aload_n 0, 1) by decide +kernel) rfl rfl ?_
  refine ww_iload_n (show decode cL_cover 3 = .ok (.iload_n 1, 1) by decide +kernel) rfl rfl ?_
  refine ww_call (z := qX11_cover) (av := [.int walks]) (rest := [.int 0, .ref 956]) hC (c_FX_cover hC walks M sz (d - 1) (by omega) (e, v, M1) hr) (show decode cL_cover 4 = .ok (.invokevirtual 82, 3) by decide +kernel) (g_mem_tb (i := 1265) (by decide +kernel)) kX11_cover sX11_cover rfl (by omega) rfl rfl (Nat.le_of_ble_eq_true rfl) ⟨(Nat.le_of_ble_eq_true rfl), (Nat.le_of_ble_eq_true rfl)⟩ ?_ ?_
  · rintro r M2 sz2 ⟨e0, rfl, rfl⟩
    have e0 : e = 0 := e0
    refine ww_i2l (show decode cL_cover 7 = .ok (.i2l, 1) by decide +kernel) ?_
    refine ww_lastore hL (by rw [h9]; exact h2) (show decode cL_cover 8 = .ok (.lastore, 1) by decide +kernel) ?_
    refine ww_goto (tgt := 15) (show decode cL_cover 9 = .ok (.goto 6, 3) by decide +kernel) rfl ?_
    refine ww_iconst (show decode cL_cover 15 = .ok (.iconst 0, 1) by decide +kernel) rfl ?_
    exact ww_iret (show decode cL_cover 16 = .ok (.ireturn, 1) by decide +kernel) rfl (Nat.le_of_ble_eq_true rfl) (Nat.le_of_ble_eq_true rfl) ⟨_, sz2, rfl, fun b hb => g_up1_ne hb, by rw [g_up1_at]; rfl, fun _ => by rw [g_up1_at, g_lg_en], by rw [if_pos e0]; rfl⟩
  · rintro E M2 sz2 ⟨hE, rfl⟩
    rcases hE with ⟨e1, rfl⟩ | ⟨e1, rfl⟩
    · exact absurd e1 (np_cover walks M _ hr)
    · have e1 : e = 2 := e1
      exact ⟨[], { startPc := 0, endPc := 9, handlerPc := 12, catchType := 13 }, [], "java/lang/IllegalArgumentException", rfl, (fun w hw => absurd hw List.not_mem_nil), by decide, by decide, g_mem_tb (i := 648) (by decide +kernel), g_mem_tb (i := 664) (by decide +kernel), wx_n (show decode cL_cover 12 = .ok (.astore_n 3, 1) by decide +kernel) rfl (Nat.le_of_ble_eq_true rfl) (show decode cL_cover 13 = .ok (.iconst 1, 1) by decide +kernel) rfl (show decode cL_cover 14 = .ok (.ireturn, 1) by decide +kernel) rfl (Nat.le_of_ble_eq_true rfl) (Nat.le_of_ble_eq_true rfl) ⟨_, sz2, rfl, fun _ _ => rfl, by rw [h9]; exact h2, fun z => absurd (show e = 0 from z) (by rw [e1]; decide), by rw [e1]; rfl⟩⟩

def qL_watch : gY := (yL_watch, cL_watch, 5, some .int, 8, 48, [])
theorem k_watch {l : Launch} {C : gC} {L : Nat} {xs : Nat → Int32} (hC : g_ctx l C) (hL : g_cl C L xs) (n : Int32) (what : Int32) (M : gM) (sz d : Nat) (hd : 9 ≤ d) (h2 : M 956 2 = 1) {e : Nat} {v : Int32} {M1 : gM} (hr : FX_watch n what M = some (e, v, M1)) (h9 : M1 956 = M 956) : gMetH l C qL_watch [(0, 10, 13, 13)] d [.ref 0, .int n, .int what, .ref 956] (956, g_S0, M, sz) (qW 1 e v.toInt64 M1) := by
  refine gMetH.of (ls := [(0, .ref 0), (1, .int n), (2, .int what), (3, .ref 956)]) (by decide +kernel) (Nat.le_of_ble_eq_true rfl) rfl ?_
  refine ww_aload_n (show decode cL_watch 0 = .ok (.aload_n 3, 1) by decide +kernel) rfl rfl ?_
  refine ww_iconst (show decode cL_watch 1 = .ok (.iconst 0, 1) by decide +kernel) rfl ?_
  refine ww_aload_n (show decode cL_watch 2 = .ok (.aload_n 0, 1) by decide +kernel) rfl rfl ?_
  refine ww_iload_n (show decode cL_watch 3 = .ok (.iload_n 1, 1) by decide +kernel) rfl rfl ?_
  refine ww_iload_n (show decode cL_watch 4 = .ok (.iload_n 2, 1) by decide +kernel) rfl rfl ?_
  refine ww_call (z := qX11_watch) (av := [.int n, .int what]) (rest := [.int 0, .ref 956]) hC (c_FX_watch hC n what M sz (d - 1) (by omega) (e, v, M1) hr) (show decode cL_watch 5 = .ok (.invokevirtual 85, 3) by decide +kernel) (g_mem_tb (i := 1278) (by decide +kernel)) kX11_watch sX11_watch rfl (by omega) rfl rfl (Nat.le_of_ble_eq_true rfl) ⟨(Nat.le_of_ble_eq_true rfl), (Nat.le_of_ble_eq_true rfl)⟩ ?_ ?_
  · rintro r M2 sz2 ⟨e0, rfl, rfl⟩
    have e0 : e = 0 := e0
    refine ww_i2l (show decode cL_watch 8 = .ok (.i2l, 1) by decide +kernel) ?_
    refine ww_lastore hL (by rw [h9]; exact h2) (show decode cL_watch 9 = .ok (.lastore, 1) by decide +kernel) ?_
    refine ww_goto (tgt := 17) (show decode cL_watch 10 = .ok (.goto 7, 3) by decide +kernel) rfl ?_
    refine ww_iconst (show decode cL_watch 17 = .ok (.iconst 0, 1) by decide +kernel) rfl ?_
    exact ww_iret (show decode cL_watch 18 = .ok (.ireturn, 1) by decide +kernel) rfl (Nat.le_of_ble_eq_true rfl) (Nat.le_of_ble_eq_true rfl) ⟨_, sz2, rfl, fun b hb => g_up1_ne hb, by rw [g_up1_at]; rfl, fun _ => by rw [g_up1_at, g_lg_en], by rw [if_pos e0]; rfl⟩
  · rintro E M2 sz2 ⟨hE, rfl⟩
    rcases hE with ⟨e1, rfl⟩ | ⟨e1, rfl⟩
    · exact absurd e1 (np_watch n what M _ hr)
    · have e1 : e = 2 := e1
      exact ⟨[], { startPc := 0, endPc := 10, handlerPc := 13, catchType := 13 }, [], "java/lang/IllegalArgumentException", rfl, (fun w hw => absurd hw List.not_mem_nil), by decide, by decide, g_mem_tb (i := 648) (by decide +kernel), g_mem_tb (i := 664) (by decide +kernel), wx_w (show decode cL_watch 13 = .ok (.astore 4, 2) by decide +kernel) (Nat.le_of_ble_eq_true rfl) (show decode cL_watch 15 = .ok (.iconst 1, 1) by decide +kernel) rfl (show decode cL_watch 16 = .ok (.ireturn, 1) by decide +kernel) rfl (Nat.le_of_ble_eq_true rfl) (Nat.le_of_ble_eq_true rfl) ⟨_, sz2, rfl, fun _ _ => rfl, by rw [h9]; exact h2, fun z => absurd (show e = 0 from z) (by rw [e1]; decide), by rw [e1]; rfl⟩⟩

def qL_debtor : gY := (yL_debtor, cL_debtor, 4, some .int, 8, 48, [])
theorem k_debtor {l : Launch} {C : gC} {L : Nat} {xs : Nat → Int32} (hC : g_ctx l C) (hL : g_cl C L xs) (what : Int32) (M : gM) (sz d : Nat) (hd : 9 ≤ d) (h2 : M 956 2 = 1) {e : Nat} {v : Int32} {M1 : gM} (hr : FX_debtor what M = some (e, v, M1)) (h9 : M1 956 = M 956) : gMetH l C qL_debtor [(0, 9, 12, 13)] d [.ref 0, .int what, .ref 956] (956, g_S0, M, sz) (qW 1 e v.toInt64 M1) := by
  refine gMetH.of (ls := [(0, .ref 0), (1, .int what), (2, .ref 956)]) (by decide +kernel) (Nat.le_of_ble_eq_true rfl) rfl ?_
  refine ww_aload_n (show decode cL_debtor 0 = .ok (.aload_n 2, 1) by decide +kernel) rfl rfl ?_
  refine ww_iconst (show decode cL_debtor 1 = .ok (.iconst 0, 1) by decide +kernel) rfl ?_
  refine ww_aload_n (show decode cL_debtor 2 = .ok (.aload_n 0, 1) by decide +kernel) rfl rfl ?_
  refine ww_iload_n (show decode cL_debtor 3 = .ok (.iload_n 1, 1) by decide +kernel) rfl rfl ?_
  refine ww_call (z := qX11_debtor) (av := [.int what]) (rest := [.int 0, .ref 956]) hC (c_FX_debtor hC what M sz (d - 1) (by omega) (e, v, M1) hr) (show decode cL_debtor 4 = .ok (.invokevirtual 97, 3) by decide +kernel) (g_mem_tb (i := 1322) (by decide +kernel)) kX11_debtor sX11_debtor rfl (by omega) rfl rfl (Nat.le_of_ble_eq_true rfl) ⟨(Nat.le_of_ble_eq_true rfl), (Nat.le_of_ble_eq_true rfl)⟩ ?_ ?_
  · rintro r M2 sz2 ⟨e0, rfl, rfl⟩
    have e0 : e = 0 := e0
    refine ww_i2l (show decode cL_debtor 7 = .ok (.i2l, 1) by decide +kernel) ?_
    refine ww_lastore hL (by rw [h9]; exact h2) (show decode cL_debtor 8 = .ok (.lastore, 1) by decide +kernel) ?_
    refine ww_goto (tgt := 15) (show decode cL_debtor 9 = .ok (.goto 6, 3) by decide +kernel) rfl ?_
    refine ww_iconst (show decode cL_debtor 15 = .ok (.iconst 0, 1) by decide +kernel) rfl ?_
    exact ww_iret (show decode cL_debtor 16 = .ok (.ireturn, 1) by decide +kernel) rfl (Nat.le_of_ble_eq_true rfl) (Nat.le_of_ble_eq_true rfl) ⟨_, sz2, rfl, fun b hb => g_up1_ne hb, by rw [g_up1_at]; rfl, fun _ => by rw [g_up1_at, g_lg_en], by rw [if_pos e0]; rfl⟩
  · rintro E M2 sz2 ⟨hE, rfl⟩
    rcases hE with ⟨e1, rfl⟩ | ⟨e1, rfl⟩
    · exact absurd e1 (np_debtor what M _ hr)
    · have e1 : e = 2 := e1
      exact ⟨[], { startPc := 0, endPc := 9, handlerPc := 12, catchType := 13 }, [], "java/lang/IllegalArgumentException", rfl, (fun w hw => absurd hw List.not_mem_nil), by decide, by decide, g_mem_tb (i := 648) (by decide +kernel), g_mem_tb (i := 664) (by decide +kernel), wx_n (show decode cL_debtor 12 = .ok (.astore_n 3, 1) by decide +kernel) rfl (Nat.le_of_ble_eq_true rfl) (show decode cL_debtor 13 = .ok (.iconst 1, 1) by decide +kernel) rfl (show decode cL_debtor 14 = .ok (.ireturn, 1) by decide +kernel) rfl (Nat.le_of_ble_eq_true rfl) (Nat.le_of_ble_eq_true rfl) ⟨_, sz2, rfl, fun _ _ => rfl, by rw [h9]; exact h2, fun z => absurd (show e = 0 from z) (by rw [e1]; decide), by rw [e1]; rfl⟩⟩

def qL_slowest : gY := (yL_slowest, cL_slowest, 4, some .int, 8, 48, [])
theorem k_slowest {l : Launch} {C : gC} {L : Nat} {xs : Nat → Int32} (hC : g_ctx l C) (hL : g_cl C L xs) (what : Int32) (M : gM) (sz d : Nat) (hd : 9 ≤ d) (h2 : M 956 2 = 1) {e : Nat} {v : Int32} {M1 : gM} (hr : FX_slowest what M = some (e, v, M1)) (h9 : M1 956 = M 956) : gMetH l C qL_slowest [(0, 9, 12, 13)] d [.ref 0, .int what, .ref 956] (956, g_S0, M, sz) (qW 1 e v.toInt64 M1) := by
  refine gMetH.of (ls := [(0, .ref 0), (1, .int what), (2, .ref 956)]) (by decide +kernel) (Nat.le_of_ble_eq_true rfl) rfl ?_
  refine ww_aload_n (show decode cL_slowest 0 = .ok (.aload_n 2, 1) by decide +kernel) rfl rfl ?_
  refine ww_iconst (show decode cL_slowest 1 = .ok (.iconst 0, 1) by decide +kernel) rfl ?_
  refine ww_aload_n (show decode cL_slowest 2 = .ok (.aload_n 0, 1) by decide +kernel) rfl rfl ?_
  refine ww_iload_n (show decode cL_slowest 3 = .ok (.iload_n 1, 1) by decide +kernel) rfl rfl ?_
  refine ww_call (z := qX11_slowest) (av := [.int what]) (rest := [.int 0, .ref 956]) hC (c_FX_slowest hC what M sz (d - 1) (by omega) (e, v, M1) hr) (show decode cL_slowest 4 = .ok (.invokevirtual 106, 3) by decide +kernel) (g_mem_tb (i := 1343) (by decide +kernel)) kX11_slowest sX11_slowest rfl (by omega) rfl rfl (Nat.le_of_ble_eq_true rfl) ⟨(Nat.le_of_ble_eq_true rfl), (Nat.le_of_ble_eq_true rfl)⟩ ?_ ?_
  · rintro r M2 sz2 ⟨e0, rfl, rfl⟩
    have e0 : e = 0 := e0
    refine ww_i2l (show decode cL_slowest 7 = .ok (.i2l, 1) by decide +kernel) ?_
    refine ww_lastore hL (by rw [h9]; exact h2) (show decode cL_slowest 8 = .ok (.lastore, 1) by decide +kernel) ?_
    refine ww_goto (tgt := 15) (show decode cL_slowest 9 = .ok (.goto 6, 3) by decide +kernel) rfl ?_
    refine ww_iconst (show decode cL_slowest 15 = .ok (.iconst 0, 1) by decide +kernel) rfl ?_
    exact ww_iret (show decode cL_slowest 16 = .ok (.ireturn, 1) by decide +kernel) rfl (Nat.le_of_ble_eq_true rfl) (Nat.le_of_ble_eq_true rfl) ⟨_, sz2, rfl, fun b hb => g_up1_ne hb, by rw [g_up1_at]; rfl, fun _ => by rw [g_up1_at, g_lg_en], by rw [if_pos e0]; rfl⟩
  · rintro E M2 sz2 ⟨hE, rfl⟩
    rcases hE with ⟨e1, rfl⟩ | ⟨e1, rfl⟩
    · exact absurd e1 (np_slowest what M _ hr)
    · have e1 : e = 2 := e1
      exact ⟨[], { startPc := 0, endPc := 9, handlerPc := 12, catchType := 13 }, [], "java/lang/IllegalArgumentException", rfl, (fun w hw => absurd hw List.not_mem_nil), by decide, by decide, g_mem_tb (i := 648) (by decide +kernel), g_mem_tb (i := 664) (by decide +kernel), wx_n (show decode cL_slowest 12 = .ok (.astore_n 3, 1) by decide +kernel) rfl (Nat.le_of_ble_eq_true rfl) (show decode cL_slowest 13 = .ok (.iconst 1, 1) by decide +kernel) rfl (show decode cL_slowest 14 = .ok (.ireturn, 1) by decide +kernel) rfl (Nat.le_of_ble_eq_true rfl) (Nat.le_of_ble_eq_true rfl) ⟨_, sz2, rfl, fun _ _ => rfl, by rw [h9]; exact h2, fun z => absurd (show e = 0 from z) (by rw [e1]; decide), by rw [e1]; rfl⟩⟩

def qL_days : gY := (yL_days, cL_days, 7, some .int, 8, 48, [])
theorem k_days {l : Launch} {C : gC} {L : Nat} {xs : Nat → Int32} (hC : g_ctx l C) (hL : g_cl C L xs) (seed : Int32) (many : Int32) (q : Int32) (what : Int32) (M : gM) (sz d : Nat) (hd : 9 ≤ d) (h2 : M 956 2 = 1) {e : Nat} {v : Int32} {M1 : gM} (hr : FX_days seed many q what M = some (e, v, M1)) (h9 : M1 956 = M 956) : gMetH l C qL_days [(0, 14, 17, 13)] d [.ref 0, .int seed, .int many, .int q, .int what, .ref 956] (956, g_S0, M, sz) (qW 1 e v.toInt64 M1) := by
  refine gMetH.of (ls := [(0, .ref 0), (1, .int seed), (2, .int many), (3, .int q), (4, .int what), (5, .ref 956)]) (by decide +kernel) (Nat.le_of_ble_eq_true rfl) rfl ?_
  refine ww_aload (show decode cL_days 0 = .ok (.aload 5, 2) by decide +kernel) rfl ?_
  refine ww_iconst (show decode cL_days 2 = .ok (.iconst 0, 1) by decide +kernel) rfl ?_
  refine ww_aload_n (show decode cL_days 3 = .ok (.aload_n 0, 1) by decide +kernel) rfl rfl ?_
  refine ww_iload_n (show decode cL_days 4 = .ok (.iload_n 1, 1) by decide +kernel) rfl rfl ?_
  refine ww_iload_n (show decode cL_days 5 = .ok (.iload_n 2, 1) by decide +kernel) rfl rfl ?_
  refine ww_iload_n (show decode cL_days 6 = .ok (.iload_n 3, 1) by decide +kernel) rfl rfl ?_
  refine ww_iload (show decode cL_days 7 = .ok (.iload 4, 2) by decide +kernel) rfl ?_
  refine ww_call (z := qX11_days) (av := [.int seed, .int many, .int q, .int what]) (rest := [.int 0, .ref 956]) hC (c_FX_days hC seed many q what M sz (d - 1) (by omega) (e, v, M1) hr) (show decode cL_days 9 = .ok (.invokevirtual 109, 3) by decide +kernel) (g_mem_tb (i := 1350) (by decide +kernel)) kX11_days sX11_days rfl (by omega) rfl rfl (Nat.le_of_ble_eq_true rfl) ⟨(Nat.le_of_ble_eq_true rfl), (Nat.le_of_ble_eq_true rfl)⟩ ?_ ?_
  · rintro r M2 sz2 ⟨e0, rfl, rfl⟩
    have e0 : e = 0 := e0
    refine ww_i2l (show decode cL_days 12 = .ok (.i2l, 1) by decide +kernel) ?_
    refine ww_lastore hL (by rw [h9]; exact h2) (show decode cL_days 13 = .ok (.lastore, 1) by decide +kernel) ?_
    refine ww_goto (tgt := 21) (show decode cL_days 14 = .ok (.goto 7, 3) by decide +kernel) rfl ?_
    refine ww_iconst (show decode cL_days 21 = .ok (.iconst 0, 1) by decide +kernel) rfl ?_
    exact ww_iret (show decode cL_days 22 = .ok (.ireturn, 1) by decide +kernel) rfl (Nat.le_of_ble_eq_true rfl) (Nat.le_of_ble_eq_true rfl) ⟨_, sz2, rfl, fun b hb => g_up1_ne hb, by rw [g_up1_at]; rfl, fun _ => by rw [g_up1_at, g_lg_en], by rw [if_pos e0]; rfl⟩
  · rintro E M2 sz2 ⟨hE, rfl⟩
    rcases hE with ⟨e1, rfl⟩ | ⟨e1, rfl⟩
    · exact absurd e1 (np_days seed many q what M _ hr)
    · have e1 : e = 2 := e1
      exact ⟨[], { startPc := 0, endPc := 14, handlerPc := 17, catchType := 13 }, [], "java/lang/IllegalArgumentException", rfl, (fun w hw => absurd hw List.not_mem_nil), by decide, by decide, g_mem_tb (i := 648) (by decide +kernel), g_mem_tb (i := 664) (by decide +kernel), wx_w (show decode cL_days 17 = .ok (.astore 6, 2) by decide +kernel) (Nat.le_of_ble_eq_true rfl) (show decode cL_days 19 = .ok (.iconst 1, 1) by decide +kernel) rfl (show decode cL_days 20 = .ok (.ireturn, 1) by decide +kernel) rfl (Nat.le_of_ble_eq_true rfl) (Nat.le_of_ble_eq_true rfl) ⟨_, sz2, rfl, fun _ _ => rfl, by rw [h9]; exact h2, fun z => absurd (show e = 0 from z) (by rw [e1]; decide), by rw [e1]; rfl⟩⟩

def qL_span : gY := (yL_span, cL_span, 8, some .int, 8, 48, [])
theorem k_span {l : Launch} {C : gC} {L : Nat} {xs : Nat → Int32} (hC : g_ctx l C) (hL : g_cl C L xs) (seed : Int32) (seeds : Int32) (many : Int32) (q : Int32) (what : Int32) (M : gM) (sz d : Nat) (hd : 9 ≤ d) (h2 : M 956 2 = 1) {e : Nat} {v : Int32} {M1 : gM} (hr : FX_span seed seeds many q what M = some (e, v, M1)) (h9 : M1 956 = M 956) : gMetH l C qL_span [(0, 16, 19, 13)] d [.ref 0, .int seed, .int seeds, .int many, .int q, .int what, .ref 956] (956, g_S0, M, sz) (qW 1 e v.toInt64 M1) := by
  refine gMetH.of (ls := [(0, .ref 0), (1, .int seed), (2, .int seeds), (3, .int many), (4, .int q), (5, .int what), (6, .ref 956)]) (by decide +kernel) (Nat.le_of_ble_eq_true rfl) rfl ?_
  refine ww_aload (show decode cL_span 0 = .ok (.aload 6, 2) by decide +kernel) rfl ?_
  refine ww_iconst (show decode cL_span 2 = .ok (.iconst 0, 1) by decide +kernel) rfl ?_
  refine ww_aload_n (show decode cL_span 3 = .ok (.aload_n 0, 1) by decide +kernel) rfl rfl ?_
  refine ww_iload_n (show decode cL_span 4 = .ok (.iload_n 1, 1) by decide +kernel) rfl rfl ?_
  refine ww_iload_n (show decode cL_span 5 = .ok (.iload_n 2, 1) by decide +kernel) rfl rfl ?_
  refine ww_iload_n (show decode cL_span 6 = .ok (.iload_n 3, 1) by decide +kernel) rfl rfl ?_
  refine ww_iload (show decode cL_span 7 = .ok (.iload 4, 2) by decide +kernel) rfl ?_
  refine ww_iload (show decode cL_span 9 = .ok (.iload 5, 2) by decide +kernel) rfl ?_
  refine ww_call (z := qX11_span) (av := [.int seed, .int seeds, .int many, .int q, .int what]) (rest := [.int 0, .ref 956]) hC (c_FX_span hC seed seeds many q what M sz (d - 1) (by omega) (e, v, M1) hr) (show decode cL_span 11 = .ok (.invokevirtual 113, 3) by decide +kernel) (g_mem_tb (i := 1369) (by decide +kernel)) kX11_span sX11_span rfl (by omega) rfl rfl (Nat.le_of_ble_eq_true rfl) ⟨(Nat.le_of_ble_eq_true rfl), (Nat.le_of_ble_eq_true rfl)⟩ ?_ ?_
  · rintro r M2 sz2 ⟨e0, rfl, rfl⟩
    have e0 : e = 0 := e0
    refine ww_i2l (show decode cL_span 14 = .ok (.i2l, 1) by decide +kernel) ?_
    refine ww_lastore hL (by rw [h9]; exact h2) (show decode cL_span 15 = .ok (.lastore, 1) by decide +kernel) ?_
    refine ww_goto (tgt := 23) (show decode cL_span 16 = .ok (.goto 7, 3) by decide +kernel) rfl ?_
    refine ww_iconst (show decode cL_span 23 = .ok (.iconst 0, 1) by decide +kernel) rfl ?_
    exact ww_iret (show decode cL_span 24 = .ok (.ireturn, 1) by decide +kernel) rfl (Nat.le_of_ble_eq_true rfl) (Nat.le_of_ble_eq_true rfl) ⟨_, sz2, rfl, fun b hb => g_up1_ne hb, by rw [g_up1_at]; rfl, fun _ => by rw [g_up1_at, g_lg_en], by rw [if_pos e0]; rfl⟩
  · rintro E M2 sz2 ⟨hE, rfl⟩
    rcases hE with ⟨e1, rfl⟩ | ⟨e1, rfl⟩
    · exact absurd e1 (np_span seed seeds many q what M _ hr)
    · have e1 : e = 2 := e1
      exact ⟨[], { startPc := 0, endPc := 16, handlerPc := 19, catchType := 13 }, [], "java/lang/IllegalArgumentException", rfl, (fun w hw => absurd hw List.not_mem_nil), by decide, by decide, g_mem_tb (i := 648) (by decide +kernel), g_mem_tb (i := 664) (by decide +kernel), wx_w (show decode cL_span 19 = .ok (.astore 7, 2) by decide +kernel) (Nat.le_of_ble_eq_true rfl) (show decode cL_span 21 = .ok (.iconst 1, 1) by decide +kernel) rfl (show decode cL_span 22 = .ok (.ireturn, 1) by decide +kernel) rfl (Nat.le_of_ble_eq_true rfl) (Nat.le_of_ble_eq_true rfl) ⟨_, sz2, rfl, fun _ _ => rfl, by rw [h9]; exact h2, fun z => absurd (show e = 0 from z) (by rw [e1]; decide), by rw [e1]; rfl⟩⟩

def qL_minutes : gY := (yL_minutes, cL_minutes, 6, some .int, 8, 48, [])
theorem k_minutes {l : Launch} {C : gC} {L : Nat} {xs : Nat → Int32} (hC : g_ctx l C) (hL : g_cl C L xs) (w : Int32) (c : Int32) (h : Int32) (M : gM) (sz d : Nat) (hd : 9 ≤ d) (h2 : M 956 2 = 1) {e : Nat} {v : Int32} {M1 : gM} (hr : FX_minutes w c h M = some (e, v, M1)) (h9 : M1 956 = M 956) : gMetH l C qL_minutes [(0, 12, 15, 31)] d [.ref 0, .int w, .int c, .int h, .ref 956] (956, g_S0, M, sz) (qW 1 e v.toInt64 M1) := by
  refine gMetH.of (ls := [(0, .ref 0), (1, .int w), (2, .int c), (3, .int h), (4, .ref 956)]) (by decide +kernel) (Nat.le_of_ble_eq_true rfl) rfl ?_
  refine ww_aload (show decode cL_minutes 0 = .ok (.aload 4, 2) by decide +kernel) rfl ?_
  refine ww_iconst (show decode cL_minutes 2 = .ok (.iconst 0, 1) by decide +kernel) rfl ?_
  refine ww_aload_n (show decode cL_minutes 3 = .ok (.aload_n 0, 1) by decide +kernel) rfl rfl ?_
  refine ww_iload_n (show decode cL_minutes 4 = .ok (.iload_n 1, 1) by decide +kernel) rfl rfl ?_
  refine ww_iload_n (show decode cL_minutes 5 = .ok (.iload_n 2, 1) by decide +kernel) rfl rfl ?_
  refine ww_iload_n (show decode cL_minutes 6 = .ok (.iload_n 3, 1) by decide +kernel) rfl rfl ?_
  refine ww_call (z := qX11_minutes) (av := [.int w, .int c, .int h]) (rest := [.int 0, .ref 956]) hC (c_FX_minutes hC w c h M sz (d - 1) (by omega) (e, v, M1) hr) (show decode cL_minutes 7 = .ok (.invokevirtual 39, 3) by decide +kernel) (g_mem_tb (i := 1080) (by decide +kernel)) kX11_minutes sX11_minutes rfl (by omega) rfl rfl (Nat.le_of_ble_eq_true rfl) ⟨(Nat.le_of_ble_eq_true rfl), (Nat.le_of_ble_eq_true rfl)⟩ ?_ ?_
  · rintro r M2 sz2 ⟨e0, rfl, rfl⟩
    have e0 : e = 0 := e0
    refine ww_i2l (show decode cL_minutes 10 = .ok (.i2l, 1) by decide +kernel) ?_
    refine ww_lastore hL (by rw [h9]; exact h2) (show decode cL_minutes 11 = .ok (.lastore, 1) by decide +kernel) ?_
    refine ww_goto (tgt := 19) (show decode cL_minutes 12 = .ok (.goto 7, 3) by decide +kernel) rfl ?_
    refine ww_iconst (show decode cL_minutes 19 = .ok (.iconst 0, 1) by decide +kernel) rfl ?_
    exact ww_iret (show decode cL_minutes 20 = .ok (.ireturn, 1) by decide +kernel) rfl (Nat.le_of_ble_eq_true rfl) (Nat.le_of_ble_eq_true rfl) ⟨_, sz2, rfl, fun b hb => g_up1_ne hb, by rw [g_up1_at]; rfl, fun _ => by rw [g_up1_at, g_lg_en], by rw [if_pos e0]; rfl⟩
  · rintro E M2 sz2 ⟨hE, rfl⟩
    rcases hE with ⟨e1, rfl⟩ | ⟨e1, rfl⟩
    · have e1 : e = 1 := e1
      exact ⟨[], { startPc := 0, endPc := 12, handlerPc := 15, catchType := 31 }, [], "java/util/NoSuchElementException", rfl, (fun w hw => absurd hw List.not_mem_nil), by decide, by decide, g_mem_tb (i := 1037) (by decide +kernel), g_mem_tb (i := 1048) (by decide +kernel), wx_w (show decode cL_minutes 15 = .ok (.astore 5, 2) by decide +kernel) (Nat.le_of_ble_eq_true rfl) (show decode cL_minutes 17 = .ok (.iconst 1, 1) by decide +kernel) rfl (show decode cL_minutes 18 = .ok (.ireturn, 1) by decide +kernel) rfl (Nat.le_of_ble_eq_true rfl) (Nat.le_of_ble_eq_true rfl) ⟨_, sz2, rfl, fun _ _ => rfl, by rw [h9]; exact h2, fun z => absurd (show e = 0 from z) (by rw [e1]; decide), by rw [e1]; rfl⟩⟩
    · exact absurd e1 (np_minutes w c h M _ hr)

def qL_lasts : gY := (yL_lasts, cL_lasts, 5, some .int, 8, 48, [])
theorem k_lasts {l : Launch} {C : gC} {L : Nat} {xs : Nat → Int32} (hC : g_ctx l C) (hL : g_cl C L xs) (h : Int32) (c : Int32) (M : gM) (sz d : Nat) (hd : 9 ≤ d) (h2 : M 956 2 = 1) {e : Nat} {v : Int32} {M1 : gM} (hr : FX_lasts h c M = some (e, v, M1)) (h9 : M1 956 = M 956) : gMetH l C qL_lasts [(0, 10, 13, 31)] d [.ref 0, .int h, .int c, .ref 956] (956, g_S0, M, sz) (qW 1 e v.toInt64 M1) := by
  refine gMetH.of (ls := [(0, .ref 0), (1, .int h), (2, .int c), (3, .ref 956)]) (by decide +kernel) (Nat.le_of_ble_eq_true rfl) rfl ?_
  refine ww_aload_n (show decode cL_lasts 0 = .ok (.aload_n 3, 1) by decide +kernel) rfl rfl ?_
  refine ww_iconst (show decode cL_lasts 1 = .ok (.iconst 0, 1) by decide +kernel) rfl ?_
  refine ww_aload_n (show decode cL_lasts 2 = .ok (.aload_n 0, 1) by decide +kernel) rfl rfl ?_
  refine ww_iload_n (show decode cL_lasts 3 = .ok (.iload_n 1, 1) by decide +kernel) rfl rfl ?_
  refine ww_iload_n (show decode cL_lasts 4 = .ok (.iload_n 2, 1) by decide +kernel) rfl rfl ?_
  refine ww_call (z := qX11_lasts) (av := [.int h, .int c]) (rest := [.int 0, .ref 956]) hC (c_FX_lasts hC h c M sz (d - 1) (by omega) (e, v, M1) hr) (show decode cL_lasts 5 = .ok (.invokevirtual 47, 3) by decide +kernel) (g_mem_tb (i := 1096) (by decide +kernel)) kX11_lasts sX11_lasts rfl (by omega) rfl rfl (Nat.le_of_ble_eq_true rfl) ⟨(Nat.le_of_ble_eq_true rfl), (Nat.le_of_ble_eq_true rfl)⟩ ?_ ?_
  · rintro r M2 sz2 ⟨e0, rfl, rfl⟩
    have e0 : e = 0 := e0
    refine ww_i2l (show decode cL_lasts 8 = .ok (.i2l, 1) by decide +kernel) ?_
    refine ww_lastore hL (by rw [h9]; exact h2) (show decode cL_lasts 9 = .ok (.lastore, 1) by decide +kernel) ?_
    refine ww_goto (tgt := 17) (show decode cL_lasts 10 = .ok (.goto 7, 3) by decide +kernel) rfl ?_
    refine ww_iconst (show decode cL_lasts 17 = .ok (.iconst 0, 1) by decide +kernel) rfl ?_
    exact ww_iret (show decode cL_lasts 18 = .ok (.ireturn, 1) by decide +kernel) rfl (Nat.le_of_ble_eq_true rfl) (Nat.le_of_ble_eq_true rfl) ⟨_, sz2, rfl, fun b hb => g_up1_ne hb, by rw [g_up1_at]; rfl, fun _ => by rw [g_up1_at, g_lg_en], by rw [if_pos e0]; rfl⟩
  · rintro E M2 sz2 ⟨hE, rfl⟩
    rcases hE with ⟨e1, rfl⟩ | ⟨e1, rfl⟩
    · have e1 : e = 1 := e1
      exact ⟨[], { startPc := 0, endPc := 10, handlerPc := 13, catchType := 31 }, [], "java/util/NoSuchElementException", rfl, (fun w hw => absurd hw List.not_mem_nil), by decide, by decide, g_mem_tb (i := 1037) (by decide +kernel), g_mem_tb (i := 1048) (by decide +kernel), wx_w (show decode cL_lasts 13 = .ok (.astore 4, 2) by decide +kernel) (Nat.le_of_ble_eq_true rfl) (show decode cL_lasts 15 = .ok (.iconst 1, 1) by decide +kernel) rfl (show decode cL_lasts 16 = .ok (.ireturn, 1) by decide +kernel) rfl (Nat.le_of_ble_eq_true rfl) (Nat.le_of_ble_eq_true rfl) ⟨_, sz2, rfl, fun _ _ => rfl, by rw [h9]; exact h2, fun z => absurd (show e = 0 from z) (by rw [e1]; decide), by rw [e1]; rfl⟩⟩
    · exact absurd e1 (np_lasts h c M _ hr)

def qL_due : gY := (yL_due, cL_due, 4, some .int, 8, 48, [])
theorem k_due {l : Launch} {C : gC} {L : Nat} {xs : Nat → Int32} (hC : g_ctx l C) (hL : g_cl C L xs) (h : Int32) (M : gM) (sz d : Nat) (hd : 9 ≤ d) (h2 : M 956 2 = 1) {e : Nat} {v : Int32} {M1 : gM} (hr : FX_due h M = some (e, v, M1)) (h9 : M1 956 = M 956) : gMetH l C qL_due [(0, 9, 12, 31)] d [.ref 0, .int h, .ref 956] (956, g_S0, M, sz) (qW 1 e v.toInt64 M1) := by
  refine gMetH.of (ls := [(0, .ref 0), (1, .int h), (2, .ref 956)]) (by decide +kernel) (Nat.le_of_ble_eq_true rfl) rfl ?_
  refine ww_aload_n (show decode cL_due 0 = .ok (.aload_n 2, 1) by decide +kernel) rfl rfl ?_
  refine ww_iconst (show decode cL_due 1 = .ok (.iconst 0, 1) by decide +kernel) rfl ?_
  refine ww_aload_n (show decode cL_due 2 = .ok (.aload_n 0, 1) by decide +kernel) rfl rfl ?_
  refine ww_iload_n (show decode cL_due 3 = .ok (.iload_n 1, 1) by decide +kernel) rfl rfl ?_
  refine ww_call (z := qX11_due) (av := [.int h]) (rest := [.int 0, .ref 956]) hC (c_FX_due hC h M sz (d - 1) (by omega) (e, v, M1) hr) (show decode cL_due 4 = .ok (.invokevirtual 53, 3) by decide +kernel) (g_mem_tb (i := 1114) (by decide +kernel)) kX11_due sX11_due rfl (by omega) rfl rfl (Nat.le_of_ble_eq_true rfl) ⟨(Nat.le_of_ble_eq_true rfl), (Nat.le_of_ble_eq_true rfl)⟩ ?_ ?_
  · rintro r M2 sz2 ⟨e0, rfl, rfl⟩
    have e0 : e = 0 := e0
    refine ww_i2l (show decode cL_due 7 = .ok (.i2l, 1) by decide +kernel) ?_
    refine ww_lastore hL (by rw [h9]; exact h2) (show decode cL_due 8 = .ok (.lastore, 1) by decide +kernel) ?_
    refine ww_goto (tgt := 15) (show decode cL_due 9 = .ok (.goto 6, 3) by decide +kernel) rfl ?_
    refine ww_iconst (show decode cL_due 15 = .ok (.iconst 0, 1) by decide +kernel) rfl ?_
    exact ww_iret (show decode cL_due 16 = .ok (.ireturn, 1) by decide +kernel) rfl (Nat.le_of_ble_eq_true rfl) (Nat.le_of_ble_eq_true rfl) ⟨_, sz2, rfl, fun b hb => g_up1_ne hb, by rw [g_up1_at]; rfl, fun _ => by rw [g_up1_at, g_lg_en], by rw [if_pos e0]; rfl⟩
  · rintro E M2 sz2 ⟨hE, rfl⟩
    rcases hE with ⟨e1, rfl⟩ | ⟨e1, rfl⟩
    · have e1 : e = 1 := e1
      exact ⟨[], { startPc := 0, endPc := 9, handlerPc := 12, catchType := 31 }, [], "java/util/NoSuchElementException", rfl, (fun w hw => absurd hw List.not_mem_nil), by decide, by decide, g_mem_tb (i := 1037) (by decide +kernel), g_mem_tb (i := 1048) (by decide +kernel), wx_n (show decode cL_due 12 = .ok (.astore_n 3, 1) by decide +kernel) rfl (Nat.le_of_ble_eq_true rfl) (show decode cL_due 13 = .ok (.iconst 1, 1) by decide +kernel) rfl (show decode cL_due 14 = .ok (.ireturn, 1) by decide +kernel) rfl (Nat.le_of_ble_eq_true rfl) (Nat.le_of_ble_eq_true rfl) ⟨_, sz2, rfl, fun _ _ => rfl, by rw [h9]; exact h2, fun z => absurd (show e = 0 from z) (by rw [e1]; decide), by rw [e1]; rfl⟩⟩
    · exact absurd e1 (np_due h M _ hr)

def qL_load : gY := (yL_load, cL_load, 4, some .int, 8, 48, [])
theorem k_load {l : Launch} {C : gC} {L : Nat} {xs : Nat → Int32} (hC : g_ctx l C) (hL : g_cl C L xs) (c : Int32) (M : gM) (sz d : Nat) (hd : 9 ≤ d) (h2 : M 956 2 = 1) {e : Nat} {v : Int32} {M1 : gM} (hr : FX_load c M = some (e, v, M1)) (h9 : M1 956 = M 956) : gMetH l C qL_load [(0, 9, 12, 31)] d [.ref 0, .int c, .ref 956] (956, g_S0, M, sz) (qW 1 e v.toInt64 M1) := by
  refine gMetH.of (ls := [(0, .ref 0), (1, .int c), (2, .ref 956)]) (by decide +kernel) (Nat.le_of_ble_eq_true rfl) rfl ?_
  refine ww_aload_n (show decode cL_load 0 = .ok (.aload_n 2, 1) by decide +kernel) rfl rfl ?_
  refine ww_iconst (show decode cL_load 1 = .ok (.iconst 0, 1) by decide +kernel) rfl ?_
  refine ww_aload_n (show decode cL_load 2 = .ok (.aload_n 0, 1) by decide +kernel) rfl rfl ?_
  refine ww_iload_n (show decode cL_load 3 = .ok (.iload_n 1, 1) by decide +kernel) rfl rfl ?_
  refine ww_call (z := qX11_load) (av := [.int c]) (rest := [.int 0, .ref 956]) hC (c_FX_load hC c M sz (d - 1) (by omega) (e, v, M1) hr) (show decode cL_load 4 = .ok (.invokevirtual 103, 3) by decide +kernel) (g_mem_tb (i := 1336) (by decide +kernel)) kX11_load sX11_load rfl (by omega) rfl rfl (Nat.le_of_ble_eq_true rfl) ⟨(Nat.le_of_ble_eq_true rfl), (Nat.le_of_ble_eq_true rfl)⟩ ?_ ?_
  · rintro r M2 sz2 ⟨e0, rfl, rfl⟩
    have e0 : e = 0 := e0
    refine ww_i2l (show decode cL_load 7 = .ok (.i2l, 1) by decide +kernel) ?_
    refine ww_lastore hL (by rw [h9]; exact h2) (show decode cL_load 8 = .ok (.lastore, 1) by decide +kernel) ?_
    refine ww_goto (tgt := 15) (show decode cL_load 9 = .ok (.goto 6, 3) by decide +kernel) rfl ?_
    refine ww_iconst (show decode cL_load 15 = .ok (.iconst 0, 1) by decide +kernel) rfl ?_
    exact ww_iret (show decode cL_load 16 = .ok (.ireturn, 1) by decide +kernel) rfl (Nat.le_of_ble_eq_true rfl) (Nat.le_of_ble_eq_true rfl) ⟨_, sz2, rfl, fun b hb => g_up1_ne hb, by rw [g_up1_at]; rfl, fun _ => by rw [g_up1_at, g_lg_en], by rw [if_pos e0]; rfl⟩
  · rintro E M2 sz2 ⟨hE, rfl⟩
    rcases hE with ⟨e1, rfl⟩ | ⟨e1, rfl⟩
    · have e1 : e = 1 := e1
      exact ⟨[], { startPc := 0, endPc := 9, handlerPc := 12, catchType := 31 }, [], "java/util/NoSuchElementException", rfl, (fun w hw => absurd hw List.not_mem_nil), by decide, by decide, g_mem_tb (i := 1037) (by decide +kernel), g_mem_tb (i := 1048) (by decide +kernel), wx_n (show decode cL_load 12 = .ok (.astore_n 3, 1) by decide +kernel) rfl (Nat.le_of_ble_eq_true rfl) (show decode cL_load 13 = .ok (.iconst 1, 1) by decide +kernel) rfl (show decode cL_load 14 = .ok (.ireturn, 1) by decide +kernel) rfl (Nat.le_of_ble_eq_true rfl) (Nat.le_of_ble_eq_true rfl) ⟨_, sz2, rfl, fun _ _ => rfl, by rw [h9]; exact h2, fun z => absurd (show e = 0 from z) (by rw [e1]; decide), by rw [e1]; rfl⟩⟩
    · exact absurd e1 (np_load c M _ hr)

def qL_walk : gY := (yL_walk, cL_walk, 5, some .int, 8, 48, [])
theorem k_walk {l : Launch} {C : gC} {L : Nat} {xs : Nat → Int32} (hC : g_ctx l C) (hL : g_cl C L xs) (w : Int32) (what : Int32) (M : gM) (sz d : Nat) (hd : 9 ≤ d) (h2 : M 956 2 = 1) {e : Nat} {v : Int32} {M1 : gM} (hr : FX_walk w what M = some (e, v, M1)) (h9 : M1 956 = M 956) : gMetH l C qL_walk [(0, 10, 13, 31), (0, 10, 17, 13)] d [.ref 0, .int w, .int what, .ref 956] (956, g_S0, M, sz) (qW 2 e v.toInt64 M1) := by
  refine gMetH.of (ls := [(0, .ref 0), (1, .int w), (2, .int what), (3, .ref 956)]) (by decide +kernel) (Nat.le_of_ble_eq_true rfl) rfl ?_
  refine ww_aload_n (show decode cL_walk 0 = .ok (.aload_n 3, 1) by decide +kernel) rfl rfl ?_
  refine ww_iconst (show decode cL_walk 1 = .ok (.iconst 0, 1) by decide +kernel) rfl ?_
  refine ww_aload_n (show decode cL_walk 2 = .ok (.aload_n 0, 1) by decide +kernel) rfl rfl ?_
  refine ww_iload_n (show decode cL_walk 3 = .ok (.iload_n 1, 1) by decide +kernel) rfl rfl ?_
  refine ww_iload_n (show decode cL_walk 4 = .ok (.iload_n 2, 1) by decide +kernel) rfl rfl ?_
  refine ww_call (z := qX11_walk) (av := [.int w, .int what]) (rest := [.int 0, .ref 956]) hC (c_FX_walk hC w what M sz (d - 1) (by omega) (e, v, M1) hr) (show decode cL_walk 5 = .ok (.invokevirtual 27, 3) by decide +kernel) (g_mem_tb (i := 1038) (by decide +kernel)) kX11_walk sX11_walk rfl (by omega) rfl rfl (Nat.le_of_ble_eq_true rfl) ⟨(Nat.le_of_ble_eq_true rfl), (Nat.le_of_ble_eq_true rfl)⟩ ?_ ?_
  · rintro r M2 sz2 ⟨e0, rfl, rfl⟩
    have e0 : e = 0 := e0
    refine ww_i2l (show decode cL_walk 8 = .ok (.i2l, 1) by decide +kernel) ?_
    refine ww_lastore hL (by rw [h9]; exact h2) (show decode cL_walk 9 = .ok (.lastore, 1) by decide +kernel) ?_
    refine ww_goto (tgt := 21) (show decode cL_walk 10 = .ok (.goto 11, 3) by decide +kernel) rfl ?_
    refine ww_iconst (show decode cL_walk 21 = .ok (.iconst 0, 1) by decide +kernel) rfl ?_
    exact ww_iret (show decode cL_walk 22 = .ok (.ireturn, 1) by decide +kernel) rfl (Nat.le_of_ble_eq_true rfl) (Nat.le_of_ble_eq_true rfl) ⟨_, sz2, rfl, fun b hb => g_up1_ne hb, by rw [g_up1_at]; rfl, fun _ => by rw [g_up1_at, g_lg_en], by rw [if_pos e0]; rfl⟩
  · rintro E M2 sz2 ⟨hE, rfl⟩
    rcases hE with ⟨e1, rfl⟩ | ⟨e1, rfl⟩
    · have e1 : e = 1 := e1
      exact ⟨[], { startPc := 0, endPc := 10, handlerPc := 13, catchType := 31 }, [{ startPc := 0, endPc := 10, handlerPc := 17, catchType := 13 }], "java/util/NoSuchElementException", rfl, (fun w hw => absurd hw List.not_mem_nil), by decide, by decide, g_mem_tb (i := 1037) (by decide +kernel), g_mem_tb (i := 1048) (by decide +kernel), wx_w (show decode cL_walk 13 = .ok (.astore 4, 2) by decide +kernel) (Nat.le_of_ble_eq_true rfl) (show decode cL_walk 15 = .ok (.iconst 1, 1) by decide +kernel) rfl (show decode cL_walk 16 = .ok (.ireturn, 1) by decide +kernel) rfl (Nat.le_of_ble_eq_true rfl) (Nat.le_of_ble_eq_true rfl) ⟨_, sz2, rfl, fun _ _ => rfl, by rw [h9]; exact h2, fun z => absurd (show e = 0 from z) (by rw [e1]; decide), by rw [e1]; rfl⟩⟩
    · have e1 : e = 2 := e1
      exact ⟨[{ startPc := 0, endPc := 10, handlerPc := 13, catchType := 31 }], { startPc := 0, endPc := 10, handlerPc := 17, catchType := 13 }, [], "java/lang/IllegalArgumentException", rfl, (fun w hw => by rw [List.mem_singleton.mp hw]; exact Or.inr ⟨by decide, "java/util/NoSuchElementException", g_mem_tb (i := 1037) (by decide +kernel), hL.2.2.2.2⟩), by decide, by decide, g_mem_tb (i := 648) (by decide +kernel), g_mem_tb (i := 664) (by decide +kernel), wx_w (show decode cL_walk 17 = .ok (.astore 4, 2) by decide +kernel) (Nat.le_of_ble_eq_true rfl) (show decode cL_walk 19 = .ok (.iconst 2, 1) by decide +kernel) rfl (show decode cL_walk 20 = .ok (.ireturn, 1) by decide +kernel) rfl (Nat.le_of_ble_eq_true rfl) (Nat.le_of_ble_eq_true rfl) ⟨_, sz2, rfl, fun _ _ => rfl, by rw [h9]; exact h2, fun z => absurd (show e = 0 from z) (by rw [e1]; decide), by rw [e1]; rfl⟩⟩

def qL_child : gY := (yL_child, cL_child, 5, some .int, 8, 48, [])
theorem k_child {l : Launch} {C : gC} {L : Nat} {xs : Nat → Int32} (hC : g_ctx l C) (hL : g_cl C L xs) (c : Int32) (what : Int32) (M : gM) (sz d : Nat) (hd : 9 ≤ d) (h2 : M 956 2 = 1) {e : Nat} {v : Int32} {M1 : gM} (hr : FX_child c what M = some (e, v, M1)) (h9 : M1 956 = M 956) : gMetH l C qL_child [(0, 10, 13, 31), (0, 10, 17, 13)] d [.ref 0, .int c, .int what, .ref 956] (956, g_S0, M, sz) (qW 2 e v.toInt64 M1) := by
  refine gMetH.of (ls := [(0, .ref 0), (1, .int c), (2, .int what), (3, .ref 956)]) (by decide +kernel) (Nat.le_of_ble_eq_true rfl) rfl ?_
  refine ww_aload_n (show decode cL_child 0 = .ok (.aload_n 3, 1) by decide +kernel) rfl rfl ?_
  refine ww_iconst (show decode cL_child 1 = .ok (.iconst 0, 1) by decide +kernel) rfl ?_
  refine ww_aload_n (show decode cL_child 2 = .ok (.aload_n 0, 1) by decide +kernel) rfl rfl ?_
  refine ww_iload_n (show decode cL_child 3 = .ok (.iload_n 1, 1) by decide +kernel) rfl rfl ?_
  refine ww_iload_n (show decode cL_child 4 = .ok (.iload_n 2, 1) by decide +kernel) rfl rfl ?_
  refine ww_call (z := qX11_child) (av := [.int c, .int what]) (rest := [.int 0, .ref 956]) hC (c_FX_child hC c what M sz (d - 1) (by omega) (e, v, M1) hr) (show decode cL_child 5 = .ok (.invokevirtual 33, 3) by decide +kernel) (g_mem_tb (i := 1066) (by decide +kernel)) kX11_child sX11_child rfl (by omega) rfl rfl (Nat.le_of_ble_eq_true rfl) ⟨(Nat.le_of_ble_eq_true rfl), (Nat.le_of_ble_eq_true rfl)⟩ ?_ ?_
  · rintro r M2 sz2 ⟨e0, rfl, rfl⟩
    have e0 : e = 0 := e0
    refine ww_i2l (show decode cL_child 8 = .ok (.i2l, 1) by decide +kernel) ?_
    refine ww_lastore hL (by rw [h9]; exact h2) (show decode cL_child 9 = .ok (.lastore, 1) by decide +kernel) ?_
    refine ww_goto (tgt := 21) (show decode cL_child 10 = .ok (.goto 11, 3) by decide +kernel) rfl ?_
    refine ww_iconst (show decode cL_child 21 = .ok (.iconst 0, 1) by decide +kernel) rfl ?_
    exact ww_iret (show decode cL_child 22 = .ok (.ireturn, 1) by decide +kernel) rfl (Nat.le_of_ble_eq_true rfl) (Nat.le_of_ble_eq_true rfl) ⟨_, sz2, rfl, fun b hb => g_up1_ne hb, by rw [g_up1_at]; rfl, fun _ => by rw [g_up1_at, g_lg_en], by rw [if_pos e0]; rfl⟩
  · rintro E M2 sz2 ⟨hE, rfl⟩
    rcases hE with ⟨e1, rfl⟩ | ⟨e1, rfl⟩
    · have e1 : e = 1 := e1
      exact ⟨[], { startPc := 0, endPc := 10, handlerPc := 13, catchType := 31 }, [{ startPc := 0, endPc := 10, handlerPc := 17, catchType := 13 }], "java/util/NoSuchElementException", rfl, (fun w hw => absurd hw List.not_mem_nil), by decide, by decide, g_mem_tb (i := 1037) (by decide +kernel), g_mem_tb (i := 1048) (by decide +kernel), wx_w (show decode cL_child 13 = .ok (.astore 4, 2) by decide +kernel) (Nat.le_of_ble_eq_true rfl) (show decode cL_child 15 = .ok (.iconst 1, 1) by decide +kernel) rfl (show decode cL_child 16 = .ok (.ireturn, 1) by decide +kernel) rfl (Nat.le_of_ble_eq_true rfl) (Nat.le_of_ble_eq_true rfl) ⟨_, sz2, rfl, fun _ _ => rfl, by rw [h9]; exact h2, fun z => absurd (show e = 0 from z) (by rw [e1]; decide), by rw [e1]; rfl⟩⟩
    · have e1 : e = 2 := e1
      exact ⟨[{ startPc := 0, endPc := 10, handlerPc := 13, catchType := 31 }], { startPc := 0, endPc := 10, handlerPc := 17, catchType := 13 }, [], "java/lang/IllegalArgumentException", rfl, (fun w hw => by rw [List.mem_singleton.mp hw]; exact Or.inr ⟨by decide, "java/util/NoSuchElementException", g_mem_tb (i := 1037) (by decide +kernel), hL.2.2.2.2⟩), by decide, by decide, g_mem_tb (i := 648) (by decide +kernel), g_mem_tb (i := 664) (by decide +kernel), wx_w (show decode cL_child 17 = .ok (.astore 4, 2) by decide +kernel) (Nat.le_of_ble_eq_true rfl) (show decode cL_child 19 = .ok (.iconst 2, 1) by decide +kernel) rfl (show decode cL_child 20 = .ok (.ireturn, 1) by decide +kernel) rfl (Nat.le_of_ble_eq_true rfl) (Nat.le_of_ble_eq_true rfl) ⟨_, sz2, rfl, fun _ _ => rfl, by rw [h9]; exact h2, fun z => absurd (show e = 0 from z) (by rw [e1]; decide), by rw [e1]; rfl⟩⟩

def qL_hoop : gY := (yL_hoop, cL_hoop, 5, some .int, 8, 48, [])
theorem k_hoop {l : Launch} {C : gC} {L : Nat} {xs : Nat → Int32} (hC : g_ctx l C) (hL : g_cl C L xs) (h : Int32) (what : Int32) (M : gM) (sz d : Nat) (hd : 9 ≤ d) (h2 : M 956 2 = 1) {e : Nat} {v : Int32} {M1 : gM} (hr : FX_hoop h what M = some (e, v, M1)) (h9 : M1 956 = M 956) : gMetH l C qL_hoop [(0, 10, 13, 31), (0, 10, 17, 13)] d [.ref 0, .int h, .int what, .ref 956] (956, g_S0, M, sz) (qW 2 e v.toInt64 M1) := by
  refine gMetH.of (ls := [(0, .ref 0), (1, .int h), (2, .int what), (3, .ref 956)]) (by decide +kernel) (Nat.le_of_ble_eq_true rfl) rfl ?_
  refine ww_aload_n (show decode cL_hoop 0 = .ok (.aload_n 3, 1) by decide +kernel) rfl rfl ?_
  refine ww_iconst (show decode cL_hoop 1 = .ok (.iconst 0, 1) by decide +kernel) rfl ?_
  refine ww_aload_n (show decode cL_hoop 2 = .ok (.aload_n 0, 1) by decide +kernel) rfl rfl ?_
  refine ww_iload_n (show decode cL_hoop 3 = .ok (.iload_n 1, 1) by decide +kernel) rfl rfl ?_
  refine ww_iload_n (show decode cL_hoop 4 = .ok (.iload_n 2, 1) by decide +kernel) rfl rfl ?_
  refine ww_call (z := qX11_hoop) (av := [.int h, .int what]) (rest := [.int 0, .ref 956]) hC (c_FX_hoop hC h what M sz (d - 1) (by omega) (e, v, M1) hr) (show decode cL_hoop 5 = .ok (.invokevirtual 36, 3) by decide +kernel) (g_mem_tb (i := 1073) (by decide +kernel)) kX11_hoop sX11_hoop rfl (by omega) rfl rfl (Nat.le_of_ble_eq_true rfl) ⟨(Nat.le_of_ble_eq_true rfl), (Nat.le_of_ble_eq_true rfl)⟩ ?_ ?_
  · rintro r M2 sz2 ⟨e0, rfl, rfl⟩
    have e0 : e = 0 := e0
    refine ww_i2l (show decode cL_hoop 8 = .ok (.i2l, 1) by decide +kernel) ?_
    refine ww_lastore hL (by rw [h9]; exact h2) (show decode cL_hoop 9 = .ok (.lastore, 1) by decide +kernel) ?_
    refine ww_goto (tgt := 21) (show decode cL_hoop 10 = .ok (.goto 11, 3) by decide +kernel) rfl ?_
    refine ww_iconst (show decode cL_hoop 21 = .ok (.iconst 0, 1) by decide +kernel) rfl ?_
    exact ww_iret (show decode cL_hoop 22 = .ok (.ireturn, 1) by decide +kernel) rfl (Nat.le_of_ble_eq_true rfl) (Nat.le_of_ble_eq_true rfl) ⟨_, sz2, rfl, fun b hb => g_up1_ne hb, by rw [g_up1_at]; rfl, fun _ => by rw [g_up1_at, g_lg_en], by rw [if_pos e0]; rfl⟩
  · rintro E M2 sz2 ⟨hE, rfl⟩
    rcases hE with ⟨e1, rfl⟩ | ⟨e1, rfl⟩
    · have e1 : e = 1 := e1
      exact ⟨[], { startPc := 0, endPc := 10, handlerPc := 13, catchType := 31 }, [{ startPc := 0, endPc := 10, handlerPc := 17, catchType := 13 }], "java/util/NoSuchElementException", rfl, (fun w hw => absurd hw List.not_mem_nil), by decide, by decide, g_mem_tb (i := 1037) (by decide +kernel), g_mem_tb (i := 1048) (by decide +kernel), wx_w (show decode cL_hoop 13 = .ok (.astore 4, 2) by decide +kernel) (Nat.le_of_ble_eq_true rfl) (show decode cL_hoop 15 = .ok (.iconst 1, 1) by decide +kernel) rfl (show decode cL_hoop 16 = .ok (.ireturn, 1) by decide +kernel) rfl (Nat.le_of_ble_eq_true rfl) (Nat.le_of_ble_eq_true rfl) ⟨_, sz2, rfl, fun _ _ => rfl, by rw [h9]; exact h2, fun z => absurd (show e = 0 from z) (by rw [e1]; decide), by rw [e1]; rfl⟩⟩
    · have e1 : e = 2 := e1
      exact ⟨[{ startPc := 0, endPc := 10, handlerPc := 13, catchType := 31 }], { startPc := 0, endPc := 10, handlerPc := 17, catchType := 13 }, [], "java/lang/IllegalArgumentException", rfl, (fun w hw => by rw [List.mem_singleton.mp hw]; exact Or.inr ⟨by decide, "java/util/NoSuchElementException", g_mem_tb (i := 1037) (by decide +kernel), hL.2.2.2.2⟩), by decide, by decide, g_mem_tb (i := 648) (by decide +kernel), g_mem_tb (i := 664) (by decide +kernel), wx_w (show decode cL_hoop 17 = .ok (.astore 4, 2) by decide +kernel) (Nat.le_of_ble_eq_true rfl) (show decode cL_hoop 19 = .ok (.iconst 2, 1) by decide +kernel) rfl (show decode cL_hoop 20 = .ok (.ireturn, 1) by decide +kernel) rfl (Nat.le_of_ble_eq_true rfl) (Nat.le_of_ble_eq_true rfl) ⟨_, sz2, rfl, fun _ _ => rfl, by rw [h9]; exact h2, fun z => absurd (show e = 0 from z) (by rw [e1]; decide), by rw [e1]; rfl⟩⟩

def qL_matched : gY := (yL_matched, cL_matched, 6, some .int, 8, 48, [])
theorem k_matched {l : Launch} {C : gC} {L : Nat} {xs : Nat → Int32} (hC : g_ctx l C) (hL : g_cl C L xs) (hoops : Int32) (m : Int32) (h : Int32) (M : gM) (sz d : Nat) (hd : 10 ≤ d) (h2 : M 956 2 = 1) {e : Nat} {v : Int32} {M1 : gM} (hr : FX_matched hoops m h M = some (e, v, M1)) (h9 : M1 956 = M 956) : gMetH l C qL_matched [(0, 12, 15, 31), (0, 12, 19, 13)] d [.ref 0, .int hoops, .int m, .int h, .ref 956] (956, g_S0, M, sz) (qW 2 e v.toInt64 M1) := by
  refine gMetH.of (ls := [(0, .ref 0), (1, .int hoops), (2, .int m), (3, .int h), (4, .ref 956)]) (by decide +kernel) (Nat.le_of_ble_eq_true rfl) rfl ?_
  refine ww_aload (show decode cL_matched 0 = .ok (.aload 4, 2) by decide +kernel) rfl ?_
  refine ww_iconst (show decode cL_matched 2 = .ok (.iconst 0, 1) by decide +kernel) rfl ?_
  refine ww_aload_n (show decode cL_matched 3 = .ok (.aload_n 0, 1) by decide +kernel) rfl rfl ?_
  refine ww_iload_n (show decode cL_matched 4 = .ok (.iload_n 1, 1) by decide +kernel) rfl rfl ?_
  refine ww_iload_n (show decode cL_matched 5 = .ok (.iload_n 2, 1) by decide +kernel) rfl rfl ?_
  refine ww_iload_n (show decode cL_matched 6 = .ok (.iload_n 3, 1) by decide +kernel) rfl rfl ?_
  refine ww_call (z := qX11_matched) (av := [.int hoops, .int m, .int h]) (rest := [.int 0, .ref 956]) hC (c_FX_matched hC hoops m h M sz (d - 1) (by omega) (e, v, M1) hr) (show decode cL_matched 7 = .ok (.invokevirtual 62, 3) by decide +kernel) (g_mem_tb (i := 1189) (by decide +kernel)) kX11_matched sX11_matched rfl (by omega) rfl rfl (Nat.le_of_ble_eq_true rfl) ⟨(Nat.le_of_ble_eq_true rfl), (Nat.le_of_ble_eq_true rfl)⟩ ?_ ?_
  · rintro r M2 sz2 ⟨e0, rfl, rfl⟩
    have e0 : e = 0 := e0
    refine ww_i2l (show decode cL_matched 10 = .ok (.i2l, 1) by decide +kernel) ?_
    refine ww_lastore hL (by rw [h9]; exact h2) (show decode cL_matched 11 = .ok (.lastore, 1) by decide +kernel) ?_
    refine ww_goto (tgt := 23) (show decode cL_matched 12 = .ok (.goto 11, 3) by decide +kernel) rfl ?_
    refine ww_iconst (show decode cL_matched 23 = .ok (.iconst 0, 1) by decide +kernel) rfl ?_
    exact ww_iret (show decode cL_matched 24 = .ok (.ireturn, 1) by decide +kernel) rfl (Nat.le_of_ble_eq_true rfl) (Nat.le_of_ble_eq_true rfl) ⟨_, sz2, rfl, fun b hb => g_up1_ne hb, by rw [g_up1_at]; rfl, fun _ => by rw [g_up1_at, g_lg_en], by rw [if_pos e0]; rfl⟩
  · rintro E M2 sz2 ⟨hE, rfl⟩
    rcases hE with ⟨e1, rfl⟩ | ⟨e1, rfl⟩
    · have e1 : e = 1 := e1
      exact ⟨[], { startPc := 0, endPc := 12, handlerPc := 15, catchType := 31 }, [{ startPc := 0, endPc := 12, handlerPc := 19, catchType := 13 }], "java/util/NoSuchElementException", rfl, (fun w hw => absurd hw List.not_mem_nil), by decide, by decide, g_mem_tb (i := 1037) (by decide +kernel), g_mem_tb (i := 1048) (by decide +kernel), wx_w (show decode cL_matched 15 = .ok (.astore 5, 2) by decide +kernel) (Nat.le_of_ble_eq_true rfl) (show decode cL_matched 17 = .ok (.iconst 1, 1) by decide +kernel) rfl (show decode cL_matched 18 = .ok (.ireturn, 1) by decide +kernel) rfl (Nat.le_of_ble_eq_true rfl) (Nat.le_of_ble_eq_true rfl) ⟨_, sz2, rfl, fun _ _ => rfl, by rw [h9]; exact h2, fun z => absurd (show e = 0 from z) (by rw [e1]; decide), by rw [e1]; rfl⟩⟩
    · have e1 : e = 2 := e1
      exact ⟨[{ startPc := 0, endPc := 12, handlerPc := 15, catchType := 31 }], { startPc := 0, endPc := 12, handlerPc := 19, catchType := 13 }, [], "java/lang/IllegalArgumentException", rfl, (fun w hw => by rw [List.mem_singleton.mp hw]; exact Or.inr ⟨by decide, "java/util/NoSuchElementException", g_mem_tb (i := 1037) (by decide +kernel), hL.2.2.2.2⟩), by decide, by decide, g_mem_tb (i := 648) (by decide +kernel), g_mem_tb (i := 664) (by decide +kernel), wx_w (show decode cL_matched 19 = .ok (.astore 5, 2) by decide +kernel) (Nat.le_of_ble_eq_true rfl) (show decode cL_matched 21 = .ok (.iconst 2, 1) by decide +kernel) rfl (show decode cL_matched 22 = .ok (.ireturn, 1) by decide +kernel) rfl (Nat.le_of_ble_eq_true rfl) (Nat.le_of_ble_eq_true rfl) ⟨_, sz2, rfl, fun _ _ => rfl, by rw [h9]; exact h2, fun z => absurd (show e = 0 from z) (by rw [e1]; decide), by rw [e1]; rfl⟩⟩

def qL_toffee : gY := (yL_toffee, cL_toffee, 6, some .int, 8, 48, [])
theorem k_toffee {l : Launch} {C : gC} {L : Nat} {xs : Nat → Int32} (hC : g_ctx l C) (hL : g_cl C L xs) (h : Int32) (k0 : Int32) (what : Int32) (M : gM) (sz d : Nat) (hd : 9 ≤ d) (h2 : M 956 2 = 1) {e : Nat} {v : Int32} {M1 : gM} (hr : FX_toffee h k0 what M = some (e, v, M1)) (h9 : M1 956 = M 956) : gMetH l C qL_toffee [(0, 12, 15, 31), (0, 12, 19, 13)] d [.ref 0, .int h, .int k0, .int what, .ref 956] (956, g_S0, M, sz) (qW 2 e v.toInt64 M1) := by
  refine gMetH.of (ls := [(0, .ref 0), (1, .int h), (2, .int k0), (3, .int what), (4, .ref 956)]) (by decide +kernel) (Nat.le_of_ble_eq_true rfl) rfl ?_
  refine ww_aload (show decode cL_toffee 0 = .ok (.aload 4, 2) by decide +kernel) rfl ?_
  refine ww_iconst (show decode cL_toffee 2 = .ok (.iconst 0, 1) by decide +kernel) rfl ?_
  refine ww_aload_n (show decode cL_toffee 3 = .ok (.aload_n 0, 1) by decide +kernel) rfl rfl ?_
  refine ww_iload_n (show decode cL_toffee 4 = .ok (.iload_n 1, 1) by decide +kernel) rfl rfl ?_
  refine ww_iload_n (show decode cL_toffee 5 = .ok (.iload_n 2, 1) by decide +kernel) rfl rfl ?_
  refine ww_iload_n (show decode cL_toffee 6 = .ok (.iload_n 3, 1) by decide +kernel) rfl rfl ?_
  refine ww_call (z := qX11_toffee) (av := [.int h, .int k0, .int what]) (rest := [.int 0, .ref 956]) hC (c_FX_toffee hC h k0 what M sz (d - 1) (by omega) (e, v, M1) hr) (show decode cL_toffee 7 = .ok (.invokevirtual 88, 3) by decide +kernel) (g_mem_tb (i := 1290) (by decide +kernel)) kX11_toffee sX11_toffee rfl (by omega) rfl rfl (Nat.le_of_ble_eq_true rfl) ⟨(Nat.le_of_ble_eq_true rfl), (Nat.le_of_ble_eq_true rfl)⟩ ?_ ?_
  · rintro r M2 sz2 ⟨e0, rfl, rfl⟩
    have e0 : e = 0 := e0
    refine ww_i2l (show decode cL_toffee 10 = .ok (.i2l, 1) by decide +kernel) ?_
    refine ww_lastore hL (by rw [h9]; exact h2) (show decode cL_toffee 11 = .ok (.lastore, 1) by decide +kernel) ?_
    refine ww_goto (tgt := 23) (show decode cL_toffee 12 = .ok (.goto 11, 3) by decide +kernel) rfl ?_
    refine ww_iconst (show decode cL_toffee 23 = .ok (.iconst 0, 1) by decide +kernel) rfl ?_
    exact ww_iret (show decode cL_toffee 24 = .ok (.ireturn, 1) by decide +kernel) rfl (Nat.le_of_ble_eq_true rfl) (Nat.le_of_ble_eq_true rfl) ⟨_, sz2, rfl, fun b hb => g_up1_ne hb, by rw [g_up1_at]; rfl, fun _ => by rw [g_up1_at, g_lg_en], by rw [if_pos e0]; rfl⟩
  · rintro E M2 sz2 ⟨hE, rfl⟩
    rcases hE with ⟨e1, rfl⟩ | ⟨e1, rfl⟩
    · have e1 : e = 1 := e1
      exact ⟨[], { startPc := 0, endPc := 12, handlerPc := 15, catchType := 31 }, [{ startPc := 0, endPc := 12, handlerPc := 19, catchType := 13 }], "java/util/NoSuchElementException", rfl, (fun w hw => absurd hw List.not_mem_nil), by decide, by decide, g_mem_tb (i := 1037) (by decide +kernel), g_mem_tb (i := 1048) (by decide +kernel), wx_w (show decode cL_toffee 15 = .ok (.astore 5, 2) by decide +kernel) (Nat.le_of_ble_eq_true rfl) (show decode cL_toffee 17 = .ok (.iconst 1, 1) by decide +kernel) rfl (show decode cL_toffee 18 = .ok (.ireturn, 1) by decide +kernel) rfl (Nat.le_of_ble_eq_true rfl) (Nat.le_of_ble_eq_true rfl) ⟨_, sz2, rfl, fun _ _ => rfl, by rw [h9]; exact h2, fun z => absurd (show e = 0 from z) (by rw [e1]; decide), by rw [e1]; rfl⟩⟩
    · have e1 : e = 2 := e1
      exact ⟨[{ startPc := 0, endPc := 12, handlerPc := 15, catchType := 31 }], { startPc := 0, endPc := 12, handlerPc := 19, catchType := 13 }, [], "java/lang/IllegalArgumentException", rfl, (fun w hw => by rw [List.mem_singleton.mp hw]; exact Or.inr ⟨by decide, "java/util/NoSuchElementException", g_mem_tb (i := 1037) (by decide +kernel), hL.2.2.2.2⟩), by decide, by decide, g_mem_tb (i := 648) (by decide +kernel), g_mem_tb (i := 664) (by decide +kernel), wx_w (show decode cL_toffee 19 = .ok (.astore 5, 2) by decide +kernel) (Nat.le_of_ble_eq_true rfl) (show decode cL_toffee 21 = .ok (.iconst 2, 1) by decide +kernel) rfl (show decode cL_toffee 22 = .ok (.ireturn, 1) by decide +kernel) rfl (Nat.le_of_ble_eq_true rfl) (Nat.le_of_ble_eq_true rfl) ⟨_, sz2, rfl, fun _ _ => rfl, by rw [h9]; exact h2, fun z => absurd (show e = 0 from z) (by rw [e1]; decide), by rw [e1]; rfl⟩⟩

def qL_share : gY := (yL_share, cL_share, 6, some .int, 8, 48, [])
theorem k_share {l : Launch} {C : gC} {L : Nat} {xs : Nat → Int32} (hC : g_ctx l C) (hL : g_cl C L xs) (c : Int32) (children : Int32) (n : Int32) (M : gM) (sz d : Nat) (hd : 10 ≤ d) (h2 : M 956 2 = 1) {e : Nat} {v : Int32} {M1 : gM} (hr : FX_share c children n M = some (e, v, M1)) (h9 : M1 956 = M 956) : gMetH l C qL_share [(0, 12, 15, 31), (0, 12, 19, 13)] d [.ref 0, .int c, .int children, .int n, .ref 956] (956, g_S0, M, sz) (qW 2 e v.toInt64 M1) := by
  refine gMetH.of (ls := [(0, .ref 0), (1, .int c), (2, .int children), (3, .int n), (4, .ref 956)]) (by decide +kernel) (Nat.le_of_ble_eq_true rfl) rfl ?_
  refine ww_aload (show decode cL_share 0 = .ok (.aload 4, 2) by decide +kernel) rfl ?_
  refine ww_iconst (show decode cL_share 2 = .ok (.iconst 0, 1) by decide +kernel) rfl ?_
  refine ww_aload_n (show decode cL_share 3 = .ok (.aload_n 0, 1) by decide +kernel) rfl rfl ?_
  refine ww_iload_n (show decode cL_share 4 = .ok (.iload_n 1, 1) by decide +kernel) rfl rfl ?_
  refine ww_iload_n (show decode cL_share 5 = .ok (.iload_n 2, 1) by decide +kernel) rfl rfl ?_
  refine ww_iload_n (show decode cL_share 6 = .ok (.iload_n 3, 1) by decide +kernel) rfl rfl ?_
  refine ww_call (z := qX11_share) (av := [.int c, .int children, .int n]) (rest := [.int 0, .ref 956]) hC (c_FX_share hC c children n M sz (d - 1) (by omega) (e, v, M1) hr) (show decode cL_share 7 = .ok (.invokevirtual 91, 3) by decide +kernel) (g_mem_tb (i := 1303) (by decide +kernel)) kX11_share sX11_share rfl (by omega) rfl rfl (Nat.le_of_ble_eq_true rfl) ⟨(Nat.le_of_ble_eq_true rfl), (Nat.le_of_ble_eq_true rfl)⟩ ?_ ?_
  · rintro r M2 sz2 ⟨e0, rfl, rfl⟩
    have e0 : e = 0 := e0
    refine ww_i2l (show decode cL_share 10 = .ok (.i2l, 1) by decide +kernel) ?_
    refine ww_lastore hL (by rw [h9]; exact h2) (show decode cL_share 11 = .ok (.lastore, 1) by decide +kernel) ?_
    refine ww_goto (tgt := 23) (show decode cL_share 12 = .ok (.goto 11, 3) by decide +kernel) rfl ?_
    refine ww_iconst (show decode cL_share 23 = .ok (.iconst 0, 1) by decide +kernel) rfl ?_
    exact ww_iret (show decode cL_share 24 = .ok (.ireturn, 1) by decide +kernel) rfl (Nat.le_of_ble_eq_true rfl) (Nat.le_of_ble_eq_true rfl) ⟨_, sz2, rfl, fun b hb => g_up1_ne hb, by rw [g_up1_at]; rfl, fun _ => by rw [g_up1_at, g_lg_en], by rw [if_pos e0]; rfl⟩
  · rintro E M2 sz2 ⟨hE, rfl⟩
    rcases hE with ⟨e1, rfl⟩ | ⟨e1, rfl⟩
    · have e1 : e = 1 := e1
      exact ⟨[], { startPc := 0, endPc := 12, handlerPc := 15, catchType := 31 }, [{ startPc := 0, endPc := 12, handlerPc := 19, catchType := 13 }], "java/util/NoSuchElementException", rfl, (fun w hw => absurd hw List.not_mem_nil), by decide, by decide, g_mem_tb (i := 1037) (by decide +kernel), g_mem_tb (i := 1048) (by decide +kernel), wx_w (show decode cL_share 15 = .ok (.astore 5, 2) by decide +kernel) (Nat.le_of_ble_eq_true rfl) (show decode cL_share 17 = .ok (.iconst 1, 1) by decide +kernel) rfl (show decode cL_share 18 = .ok (.ireturn, 1) by decide +kernel) rfl (Nat.le_of_ble_eq_true rfl) (Nat.le_of_ble_eq_true rfl) ⟨_, sz2, rfl, fun _ _ => rfl, by rw [h9]; exact h2, fun z => absurd (show e = 0 from z) (by rw [e1]; decide), by rw [e1]; rfl⟩⟩
    · have e1 : e = 2 := e1
      exact ⟨[{ startPc := 0, endPc := 12, handlerPc := 15, catchType := 31 }], { startPc := 0, endPc := 12, handlerPc := 19, catchType := 13 }, [], "java/lang/IllegalArgumentException", rfl, (fun w hw => by rw [List.mem_singleton.mp hw]; exact Or.inr ⟨by decide, "java/util/NoSuchElementException", g_mem_tb (i := 1037) (by decide +kernel), hL.2.2.2.2⟩), by decide, by decide, g_mem_tb (i := 648) (by decide +kernel), g_mem_tb (i := 664) (by decide +kernel), wx_w (show decode cL_share 19 = .ok (.astore 5, 2) by decide +kernel) (Nat.le_of_ble_eq_true rfl) (show decode cL_share 21 = .ok (.iconst 2, 1) by decide +kernel) rfl (show decode cL_share 22 = .ok (.ireturn, 1) by decide +kernel) rfl (Nat.le_of_ble_eq_true rfl) (Nat.le_of_ble_eq_true rfl) ⟨_, sz2, rfl, fun _ _ => rfl, by rw [h9]; exact h2, fun z => absurd (show e = 0 from z) (by rw [e1]; decide), by rw [e1]; rfl⟩⟩

def qL_quickest : gY := (yL_quickest, cL_quickest, 5, some .int, 8, 48, [])
theorem k_quickest {l : Launch} {C : gC} {L : Nat} {xs : Nat → Int32} (hC : g_ctx l C) (hL : g_cl C L xs) (h : Int32) (what : Int32) (M : gM) (sz d : Nat) (hd : 9 ≤ d) (h2 : M 956 2 = 1) {e : Nat} {v : Int32} {M1 : gM} (hr : FX_quickest h what M = some (e, v, M1)) (h9 : M1 956 = M 956) : gMetH l C qL_quickest [(0, 10, 13, 31), (0, 10, 17, 13)] d [.ref 0, .int h, .int what, .ref 956] (956, g_S0, M, sz) (qW 2 e v.toInt64 M1) := by
  refine gMetH.of (ls := [(0, .ref 0), (1, .int h), (2, .int what), (3, .ref 956)]) (by decide +kernel) (Nat.le_of_ble_eq_true rfl) rfl ?_
  refine ww_aload_n (show decode cL_quickest 0 = .ok (.aload_n 3, 1) by decide +kernel) rfl rfl ?_
  refine ww_iconst (show decode cL_quickest 1 = .ok (.iconst 0, 1) by decide +kernel) rfl ?_
  refine ww_aload_n (show decode cL_quickest 2 = .ok (.aload_n 0, 1) by decide +kernel) rfl rfl ?_
  refine ww_iload_n (show decode cL_quickest 3 = .ok (.iload_n 1, 1) by decide +kernel) rfl rfl ?_
  refine ww_iload_n (show decode cL_quickest 4 = .ok (.iload_n 2, 1) by decide +kernel) rfl rfl ?_
  refine ww_call (z := qX11_quickest) (av := [.int h, .int what]) (rest := [.int 0, .ref 956]) hC (c_FX_quickest hC h what M sz (d - 1) (by omega) (e, v, M1) hr) (show decode cL_quickest 5 = .ok (.invokevirtual 94, 3) by decide +kernel) (g_mem_tb (i := 1315) (by decide +kernel)) kX11_quickest sX11_quickest rfl (by omega) rfl rfl (Nat.le_of_ble_eq_true rfl) ⟨(Nat.le_of_ble_eq_true rfl), (Nat.le_of_ble_eq_true rfl)⟩ ?_ ?_
  · rintro r M2 sz2 ⟨e0, rfl, rfl⟩
    have e0 : e = 0 := e0
    refine ww_i2l (show decode cL_quickest 8 = .ok (.i2l, 1) by decide +kernel) ?_
    refine ww_lastore hL (by rw [h9]; exact h2) (show decode cL_quickest 9 = .ok (.lastore, 1) by decide +kernel) ?_
    refine ww_goto (tgt := 21) (show decode cL_quickest 10 = .ok (.goto 11, 3) by decide +kernel) rfl ?_
    refine ww_iconst (show decode cL_quickest 21 = .ok (.iconst 0, 1) by decide +kernel) rfl ?_
    exact ww_iret (show decode cL_quickest 22 = .ok (.ireturn, 1) by decide +kernel) rfl (Nat.le_of_ble_eq_true rfl) (Nat.le_of_ble_eq_true rfl) ⟨_, sz2, rfl, fun b hb => g_up1_ne hb, by rw [g_up1_at]; rfl, fun _ => by rw [g_up1_at, g_lg_en], by rw [if_pos e0]; rfl⟩
  · rintro E M2 sz2 ⟨hE, rfl⟩
    rcases hE with ⟨e1, rfl⟩ | ⟨e1, rfl⟩
    · have e1 : e = 1 := e1
      exact ⟨[], { startPc := 0, endPc := 10, handlerPc := 13, catchType := 31 }, [{ startPc := 0, endPc := 10, handlerPc := 17, catchType := 13 }], "java/util/NoSuchElementException", rfl, (fun w hw => absurd hw List.not_mem_nil), by decide, by decide, g_mem_tb (i := 1037) (by decide +kernel), g_mem_tb (i := 1048) (by decide +kernel), wx_w (show decode cL_quickest 13 = .ok (.astore 4, 2) by decide +kernel) (Nat.le_of_ble_eq_true rfl) (show decode cL_quickest 15 = .ok (.iconst 1, 1) by decide +kernel) rfl (show decode cL_quickest 16 = .ok (.ireturn, 1) by decide +kernel) rfl (Nat.le_of_ble_eq_true rfl) (Nat.le_of_ble_eq_true rfl) ⟨_, sz2, rfl, fun _ _ => rfl, by rw [h9]; exact h2, fun z => absurd (show e = 0 from z) (by rw [e1]; decide), by rw [e1]; rfl⟩⟩
    · have e1 : e = 2 := e1
      exact ⟨[{ startPc := 0, endPc := 10, handlerPc := 13, catchType := 31 }], { startPc := 0, endPc := 10, handlerPc := 17, catchType := 13 }, [], "java/lang/IllegalArgumentException", rfl, (fun w hw => by rw [List.mem_singleton.mp hw]; exact Or.inr ⟨by decide, "java/util/NoSuchElementException", g_mem_tb (i := 1037) (by decide +kernel), hL.2.2.2.2⟩), by decide, by decide, g_mem_tb (i := 648) (by decide +kernel), g_mem_tb (i := 664) (by decide +kernel), wx_w (show decode cL_quickest 17 = .ok (.astore 4, 2) by decide +kernel) (Nat.le_of_ble_eq_true rfl) (show decode cL_quickest 19 = .ok (.iconst 2, 1) by decide +kernel) rfl (show decode cL_quickest 20 = .ok (.ireturn, 1) by decide +kernel) rfl (Nat.le_of_ble_eq_true rfl) (Nat.le_of_ble_eq_true rfl) ⟨_, sz2, rfl, fun _ _ => rfl, by rw [h9]; exact h2, fun z => absurd (show e = 0 from z) (by rw [e1]; decide), by rw [e1]; rfl⟩⟩

def qL_bowls : gY := (yL_bowls, cL_bowls, 5, some .int, 8, 48, [])
theorem k_bowls {l : Launch} {C : gC} {L : Nat} {xs : Nat → Int32} (hC : g_ctx l C) (hL : g_cl C L xs) (c : Int32) (n : Int32) (M : gM) (sz d : Nat) (hd : 9 ≤ d) (h2 : M 956 2 = 1) {e : Nat} {v : Int32} {M1 : gM} (hr : FX_bowls c n M = some (e, v, M1)) (h9 : M1 956 = M 956) : gMetH l C qL_bowls [(0, 10, 13, 31), (0, 10, 17, 13)] d [.ref 0, .int c, .int n, .ref 956] (956, g_S0, M, sz) (qW 2 e v.toInt64 M1) := by
  refine gMetH.of (ls := [(0, .ref 0), (1, .int c), (2, .int n), (3, .ref 956)]) (by decide +kernel) (Nat.le_of_ble_eq_true rfl) rfl ?_
  refine ww_aload_n (show decode cL_bowls 0 = .ok (.aload_n 3, 1) by decide +kernel) rfl rfl ?_
  refine ww_iconst (show decode cL_bowls 1 = .ok (.iconst 0, 1) by decide +kernel) rfl ?_
  refine ww_aload_n (show decode cL_bowls 2 = .ok (.aload_n 0, 1) by decide +kernel) rfl rfl ?_
  refine ww_iload_n (show decode cL_bowls 3 = .ok (.iload_n 1, 1) by decide +kernel) rfl rfl ?_
  refine ww_iload_n (show decode cL_bowls 4 = .ok (.iload_n 2, 1) by decide +kernel) rfl rfl ?_
  refine ww_call (z := qX11_bowls) (av := [.int c, .int n]) (rest := [.int 0, .ref 956]) hC (c_FX_bowls hC c n M sz (d - 1) (by omega) (e, v, M1) hr) (show decode cL_bowls 5 = .ok (.invokevirtual 100, 3) by decide +kernel) (g_mem_tb (i := 1329) (by decide +kernel)) kX11_bowls sX11_bowls rfl (by omega) rfl rfl (Nat.le_of_ble_eq_true rfl) ⟨(Nat.le_of_ble_eq_true rfl), (Nat.le_of_ble_eq_true rfl)⟩ ?_ ?_
  · rintro r M2 sz2 ⟨e0, rfl, rfl⟩
    have e0 : e = 0 := e0
    refine ww_i2l (show decode cL_bowls 8 = .ok (.i2l, 1) by decide +kernel) ?_
    refine ww_lastore hL (by rw [h9]; exact h2) (show decode cL_bowls 9 = .ok (.lastore, 1) by decide +kernel) ?_
    refine ww_goto (tgt := 21) (show decode cL_bowls 10 = .ok (.goto 11, 3) by decide +kernel) rfl ?_
    refine ww_iconst (show decode cL_bowls 21 = .ok (.iconst 0, 1) by decide +kernel) rfl ?_
    exact ww_iret (show decode cL_bowls 22 = .ok (.ireturn, 1) by decide +kernel) rfl (Nat.le_of_ble_eq_true rfl) (Nat.le_of_ble_eq_true rfl) ⟨_, sz2, rfl, fun b hb => g_up1_ne hb, by rw [g_up1_at]; rfl, fun _ => by rw [g_up1_at, g_lg_en], by rw [if_pos e0]; rfl⟩
  · rintro E M2 sz2 ⟨hE, rfl⟩
    rcases hE with ⟨e1, rfl⟩ | ⟨e1, rfl⟩
    · have e1 : e = 1 := e1
      exact ⟨[], { startPc := 0, endPc := 10, handlerPc := 13, catchType := 31 }, [{ startPc := 0, endPc := 10, handlerPc := 17, catchType := 13 }], "java/util/NoSuchElementException", rfl, (fun w hw => absurd hw List.not_mem_nil), by decide, by decide, g_mem_tb (i := 1037) (by decide +kernel), g_mem_tb (i := 1048) (by decide +kernel), wx_w (show decode cL_bowls 13 = .ok (.astore 4, 2) by decide +kernel) (Nat.le_of_ble_eq_true rfl) (show decode cL_bowls 15 = .ok (.iconst 1, 1) by decide +kernel) rfl (show decode cL_bowls 16 = .ok (.ireturn, 1) by decide +kernel) rfl (Nat.le_of_ble_eq_true rfl) (Nat.le_of_ble_eq_true rfl) ⟨_, sz2, rfl, fun _ _ => rfl, by rw [h9]; exact h2, fun z => absurd (show e = 0 from z) (by rw [e1]; decide), by rw [e1]; rfl⟩⟩
    · have e1 : e = 2 := e1
      exact ⟨[{ startPc := 0, endPc := 10, handlerPc := 13, catchType := 31 }], { startPc := 0, endPc := 10, handlerPc := 17, catchType := 13 }, [], "java/lang/IllegalArgumentException", rfl, (fun w hw => by rw [List.mem_singleton.mp hw]; exact Or.inr ⟨by decide, "java/util/NoSuchElementException", g_mem_tb (i := 1037) (by decide +kernel), hL.2.2.2.2⟩), by decide, by decide, g_mem_tb (i := 648) (by decide +kernel), g_mem_tb (i := 664) (by decide +kernel), wx_w (show decode cL_bowls 17 = .ok (.astore 4, 2) by decide +kernel) (Nat.le_of_ble_eq_true rfl) (show decode cL_bowls 19 = .ok (.iconst 2, 1) by decide +kernel) rfl (show decode cL_bowls 20 = .ok (.ireturn, 1) by decide +kernel) rfl (Nat.le_of_ble_eq_true rfl) (Nat.le_of_ble_eq_true rfl) ⟨_, sz2, rfl, fun _ _ => rfl, by rw [h9]; exact h2, fun z => absurd (show e = 0 from z) (by rw [e1]; decide), by rw [e1]; rfl⟩⟩
