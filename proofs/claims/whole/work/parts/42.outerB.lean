abbrev OuBT : Type := RdT × BdT × (Nat → Int32) × BkT × Int32 × Int32 × Int32 × Int32
abbrev OuB_reader (s : OuBT) : RdT := s.1
abbrev OuB_trial (s : OuBT) : BdT := s.2.1
abbrev OuB_order (s : OuBT) : (Nat → Int32) := s.2.2.1
abbrev OuB_books (s : OuBT) : BkT := s.2.2.2.1
abbrev OuB_isKept (s : OuBT) : Int32 := s.2.2.2.2.1
abbrev OuB_trouble (s : OuBT) : Int32 := s.2.2.2.2.2.1
abbrev OuB_fault (s : OuBT) : Int32 := s.2.2.2.2.2.2.1
abbrev OuB_place (s : OuBT) : Int32 := s.2.2.2.2.2.2.2
abbrev OuB_mk (x0 : RdT) (x1 : BdT) (x2 : (Nat → Int32)) (x3 : BkT) (x4 : Int32) (x5 : Int32) (x6 : Int32) (x7 : Int32) : OuBT := (x0, x1, x2, x3, x4, x5, x6, x7)
abbrev OuB_w_reader (s : OuBT) (v : RdT) : OuBT := (v, s.2.1, s.2.2.1, s.2.2.2.1, s.2.2.2.2.1, s.2.2.2.2.2.1, s.2.2.2.2.2.2.1, s.2.2.2.2.2.2.2)
abbrev OuB_w_trial (s : OuBT) (v : BdT) : OuBT := (s.1, v, s.2.2.1, s.2.2.2.1, s.2.2.2.2.1, s.2.2.2.2.2.1, s.2.2.2.2.2.2.1, s.2.2.2.2.2.2.2)
abbrev OuB_w_order (s : OuBT) (v : (Nat → Int32)) : OuBT := (s.1, s.2.1, v, s.2.2.2.1, s.2.2.2.2.1, s.2.2.2.2.2.1, s.2.2.2.2.2.2.1, s.2.2.2.2.2.2.2)
abbrev OuB_w_books (s : OuBT) (v : BkT) : OuBT := (s.1, s.2.1, s.2.2.1, v, s.2.2.2.2.1, s.2.2.2.2.2.1, s.2.2.2.2.2.2.1, s.2.2.2.2.2.2.2)
abbrev OuB_w_isKept (s : OuBT) (v : Int32) : OuBT := (s.1, s.2.1, s.2.2.1, s.2.2.2.1, v, s.2.2.2.2.2.1, s.2.2.2.2.2.2.1, s.2.2.2.2.2.2.2)
abbrev OuB_w_trouble (s : OuBT) (v : Int32) : OuBT := (s.1, s.2.1, s.2.2.1, s.2.2.2.1, s.2.2.2.2.1, v, s.2.2.2.2.2.2.1, s.2.2.2.2.2.2.2)
abbrev OuB_w_fault (s : OuBT) (v : Int32) : OuBT := (s.1, s.2.1, s.2.2.1, s.2.2.2.1, s.2.2.2.2.1, s.2.2.2.2.2.1, v, s.2.2.2.2.2.2.2)
abbrev OuB_w_place (s : OuBT) (v : Int32) : OuBT := (s.1, s.2.1, s.2.2.1, s.2.2.2.1, s.2.2.2.2.1, s.2.2.2.2.2.1, s.2.2.2.2.2.2.1, v)
abbrev OuB_c (g : GK) (a : Nat → Nat) (v_shelf : Value) (s : OuBT) : va_W := [(a 0, .inr (9, [.ref (a 1), .ref (a 9), .ref (a 18), .ref (a 19), v_shelf, .int (OuB_isKept s), .int (OuB_trouble s), .int (OuB_fault s), .int (OuB_place s)])), (a 1, .inr (4, [.ref (a 2), .ref (a 4), .ref (a 6), .ref (a 8), .int (Rd_count (OuB_reader s)), .int (Rd_hasDesk (OuB_reader s)), .int (Rd_how (OuB_reader s)), .int (Rd_keep (OuB_reader s)), .int (Rd_late (OuB_reader s)), .int (Rd_number (OuB_reader s)), .int (Rd_fault (OuB_reader s)), .int (Rd_place (OuB_reader s))])), (a 2, .inr (7, [.ref (a 3), .int (Tp_length (Rd_tape (OuB_reader s))), .int (Tp_end (Rd_tape (OuB_reader s))), .int (Tp_at (Rd_tape (OuB_reader s))), .int (Tp_kind (Rd_tape (OuB_reader s))), .int (Tp_start (Rd_tape (OuB_reader s))), .long (Tp_word (Rd_tape (OuB_reader s))), .int (Tp_whole (Rd_tape (OuB_reader s)))])), (a 3, .inl (g.2.2.2.1, 900, .inl (Tp_bytes (Rd_tape (OuB_reader s))))), (a 4, .inr (8, [.ref (a 5), .int (Wd_count (Rd_keys (OuB_reader s)))])), (a 5, .inl (g.2.2.1, 8, .inr (.inl (Wd_packs (Rd_keys (OuB_reader s)))))), (a 6, .inr (8, [.ref (a 7), .int (Wd_count (Rd_values (OuB_reader s)))])), (a 7, .inl (g.2.2.1, 8, .inr (.inl (Wd_packs (Rd_values (OuB_reader s)))))), (a 8, .inl (g.2.1, 200, .inl (Rd_lines (OuB_reader s)))), (a 9, .inr (1, [.ref (a 10), .ref (a 11), .ref (a 12), .ref (a 13), .int (Bd_how (OuB_trial s))])), (a 10, .inl (g.2.1, 128, .inl (Bd_nets (OuB_trial s)))), (a 11, .inl (g.2.1, 648, .inl (Bd_sums (OuB_trial s)))), (a 12, .inl (g.2.1, 16, .inl (Bd_turns (OuB_trial s)))), (a 13, .inr (3, [.ref (a 14), .ref (a 15), .ref (a 16), .ref (a 17), .int (Lg_total (Bd_ledger (OuB_trial s))), .int (Lg_came (Bd_ledger (OuB_trial s))), .int (Lg_went (Bd_ledger (OuB_trial s))), .int (Lg_acts (Bd_ledger (OuB_trial s))), .int (Lg_inAct (Bd_ledger (OuB_trial s))), .int (Lg_most (Bd_ledger (OuB_trial s))), .int (Lg_actOfMost (Bd_ledger (OuB_trial s)))])), (a 14, .inl (g.2.1, 60, .inl (Lg_places (Bd_ledger (OuB_trial s))))), (a 15, .inl (g.2.1, 60, .inl (Lg_amounts (Bd_ledger (OuB_trial s))))), (a 16, .inl (g.2.1, 60, .inl (Lg_numbers (Bd_ledger (OuB_trial s))))), (a 17, .inl (g.2.1, 8, .inl (Lg_byKey (Bd_ledger (OuB_trial s))))), (a 18, .inl (g.2.1, 60, .inl (OuB_order s))), (a 19, .inr (2, [.ref (a 20), .ref (a 22), .ref (a 24), .ref (a 33), .ref (a 38), .ref (a 42), .ref (a 43), .int (Bk_keep (OuB_books s)), .int (Bk_late (OuB_books s)), .int (Bk_clock (OuB_books s)), .int (Bk_tooLate (OuB_books s)), .int (Bk_lapsed (OuB_books s))])), (a 20, .inr (8, [.ref (a 21), .int (Wd_count (Bk_keys (OuB_books s)))])), (a 21, .inl (g.2.2.1, 8, .inr (.inl (Wd_packs (Bk_keys (OuB_books s)))))), (a 22, .inr (8, [.ref (a 23), .int (Wd_count (Bk_values (OuB_books s)))])), (a 23, .inl (g.2.2.1, 8, .inr (.inl (Wd_packs (Bk_values (OuB_books s)))))), (a 24, .inr (1, [.ref (a 25), .ref (a 26), .ref (a 27), .ref (a 28), .int (Bd_how (Bk_board (OuB_books s)))])), (a 25, .inl (g.2.1, 128, .inl (Bd_nets (Bk_board (OuB_books s))))), (a 26, .inl (g.2.1, 648, .inl (Bd_sums (Bk_board (OuB_books s))))), (a 27, .inl (g.2.1, 16, .inl (Bd_turns (Bk_board (OuB_books s))))), (a 28, .inr (3, [.ref (a 29), .ref (a 30), .ref (a 31), .ref (a 32), .int (Lg_total (Bd_ledger (Bk_board (OuB_books s)))), .int (Lg_came (Bd_ledger (Bk_board (OuB_books s)))), .int (Lg_went (Bd_ledger (Bk_board (OuB_books s)))), .int (Lg_acts (Bd_ledger (Bk_board (OuB_books s)))), .int (Lg_inAct (Bd_ledger (Bk_board (OuB_books s)))), .int (Lg_most (Bd_ledger (Bk_board (OuB_books s)))), .int (Lg_actOfMost (Bd_ledger (Bk_board (OuB_books s))))])), (a 29, .inl (g.2.1, 60, .inl (Lg_places (Bd_ledger (Bk_board (OuB_books s)))))), (a 30, .inl (g.2.1, 60, .inl (Lg_amounts (Bd_ledger (Bk_board (OuB_books s)))))), (a 31, .inl (g.2.1, 60, .inl (Lg_numbers (Bd_ledger (Bk_board (OuB_books s)))))), (a 32, .inl (g.2.1, 8, .inl (Lg_byKey (Bd_ledger (Bk_board (OuB_books s)))))), (a 33, .inr (5, [.ref (a 34), .ref (a 35), .ref (a 36), .ref (a 37), .int (St_count (Bk_store (OuB_books s)))])), (a 34, .inl (g.2.1, 60, .inl (St_sides (Bk_store (OuB_books s))))), (a 35, .inl (g.2.1, 60, .inl (St_keys (Bk_store (OuB_books s))))), (a 36, .inl (g.2.1, 60, .inl (St_values (Bk_store (OuB_books s))))), (a 37, .inl (g.2.1, 60, .inl (St_manies (Bk_store (OuB_books s))))), (a 38, .inr (6, [.ref (a 39), .ref (a 40), .ref (a 41)])), (a 39, .inl (g.2.1, 4, .inl (Sb_seen (Bk_subscribers (OuB_books s))))), (a 40, .inl (g.2.1, 2592, .inl (Sb_holds (Bk_subscribers (OuB_books s))))), (a 41, .inl (g.2.1, 2592, .inl (Sb_differences (Bk_subscribers (OuB_books s))))), (a 42, .inl (g.2.1, 8, .inl (Bk_latest (OuB_books s)))), (a 43, .inl (g.2.1, 8, .inl (Bk_lapses (OuB_books s))))]
theorem kinc_m1 (x : Int32) : x + Int32.ofInt (-1) = x + (-1 : Int32) := congrArg (x + ·) (by decide)
theorem kcb_74 : (Int8.ofInt (74)).toInt32 = (74 : Int32) := by decide
theorem kcb_75 : (Int8.ofInt (75)).toInt32 = (75 : Int32) := by decide
theorem kd_X8_275 : Cond.constant RX8 275 (65536 : Int32) ∈ TBL := tb (in5 (List.mem_of_getElem? (i := 86) (by decide +kernel))) (by decide +kernel)
theorem kd_X8_348 : Cond.constant RX8 348 (65537 : Int32) ∈ TBL := tb (in5 (List.mem_of_getElem? (i := 95) (by decide +kernel))) (by decide +kernel)
theorem km_X8_252 : Cond.methodLink RX8 252 Lib.Math.max.name ∈ TBL := tb (in5 (List.mem_of_getElem? (i := 66) (by decide +kernel))) (by decide +kernel)
theorem kne_65537 : ¬ (65537 : Int32) = 0 := by decide
def f_X8_isKey_B (s0 : OuBT) (p1 : Int32) : Option (Int32) :=
  (f_X7_knows (Bk_keys (OuB_books s0)) p1).bind fun r1 =>
  if r1 = 0 then some ((0 : Int32))
  else some ((1 : Int32))
abbrev rm_X8_isKey_B : Room := { frames := 1, cells := 0, slots := 0, locals := 21 }
set_option maxHeartbeats 4000000 in
set_option maxRecDepth 100000 in
theorem c_X8_isKey_B (l : Launch) (g : GK) (a0 : Nat → Nat) (v_shelf : Value) (s0 : OuBT) (p1 : Int32) (res : (Int32)) (hf : f_X8_isKey_B s0 p1 = some res) : gR l yX8_isKey cX8_isKey 2 (some .boolean) rm_X8_isKey_B g [.ref (a0 0), .int p1] (OuB_c g a0 v_shelf s0) (some (.int res)) := by
  refine gR_introZ RX8 (by decide) rfl (Nat.le_of_ble_eq_true rfl) (fun p e s m args below meth c Q H locs ls hE hP hZ hS hq hl => ?_)
  have hl : lv_has ls 2 [(0, .ref (a0 0)), (1, .int p1)] := hl
  have hx := hE.1
  have hb := hE.2.1
  rw [f_X8_isKey_B] at hf
  refine lv_aload_n hx hb dX8_isKey_0 rfl (lv_at hl 0 rfl) ?_
  refine g_get hE okX8 fl_X8_31 hP 0 rfl (v := .ref (a0 19)) rfl dX8_isKey_1 ?_
  refine lv_ifnull hx hb dX8_isKey_4 ?_
  refine lv_aload_n hx hb dX8_isKey_7 rfl (lv_at hl 0 rfl) ?_
  refine g_get hE okX8 fl_X8_31 hP 0 rfl (v := .ref (a0 19)) rfl dX8_isKey_8 ?_
  refine g_get hE okX1 fl_X8_107 hP 19 rfl (v := .ref (a0 20)) rfl dX8_isKey_11 ?_
  refine lv_iload_n hx hb dX8_isKey_14 rfl (lv_at hl 1 rfl) ?_
  obtain ⟨r1, hc2, hf⟩ := gbd hf
  refine gr_callV (As := [.int p1]) (rest := []) (st1 := [.int r1]) hE hl.1 ml_X8_121 (c_X7_knows l g (fun k => a0 (k + 20)) (Bk_keys (OuB_books s0)) p1 r1 hc2) hZ hS hP [(20, 2)] rfl okX7 rfl rfl rfl rfl ⟨rfl, rfl⟩ ⟨Nat.le_of_ble_eq_true rfl, Nat.le_of_ble_eq_true rfl⟩ ⟨Nat.le_refl _, Nat.le_refl _⟩ (Nat.le_of_ble_eq_true rfl) dX8_isKey_15 ?_
  refine lv_if_eq hx hb dX8_isKey_18 (tgt := 25) rfl (fun h3 => ?_) (fun h3 => ?_)
  · have hf := gif_t h3 hf
    refine lv_iconst hx hb dX8_isKey_25 kci_0 ?_
    cases hf
    exact hq (by decide) rfl dX8_isKey_26
  · have hf := gif_f h3 hf
    refine lv_iconst hx hb dX8_isKey_21 kci_1 ?_
    refine lv_goto hx hb dX8_isKey_22 (tgt := 26) rfl ?_
    cases hf
    exact hq (by decide) rfl dX8_isKey_26
def f_X8_isValue_B (s0 : OuBT) (p1 : Int32) : Option (Int32) :=
  (f_X7_knows (Bk_values (OuB_books s0)) p1).bind fun r1 =>
  if r1 = 0 then some ((0 : Int32))
  else some ((1 : Int32))
abbrev rm_X8_isValue_B : Room := { frames := 1, cells := 0, slots := 0, locals := 21 }
set_option maxHeartbeats 4000000 in
set_option maxRecDepth 100000 in
theorem c_X8_isValue_B (l : Launch) (g : GK) (a0 : Nat → Nat) (v_shelf : Value) (s0 : OuBT) (p1 : Int32) (res : (Int32)) (hf : f_X8_isValue_B s0 p1 = some res) : gR l yX8_isValue cX8_isValue 2 (some .boolean) rm_X8_isValue_B g [.ref (a0 0), .int p1] (OuB_c g a0 v_shelf s0) (some (.int res)) := by
  refine gR_introZ RX8 (by decide) rfl (Nat.le_of_ble_eq_true rfl) (fun p e s m args below meth c Q H locs ls hE hP hZ hS hq hl => ?_)
  have hl : lv_has ls 2 [(0, .ref (a0 0)), (1, .int p1)] := hl
  have hx := hE.1
  have hb := hE.2.1
  rw [f_X8_isValue_B] at hf
  refine lv_aload_n hx hb dX8_isValue_0 rfl (lv_at hl 0 rfl) ?_
  refine g_get hE okX8 fl_X8_31 hP 0 rfl (v := .ref (a0 19)) rfl dX8_isValue_1 ?_
  refine lv_ifnull hx hb dX8_isValue_4 ?_
  refine lv_aload_n hx hb dX8_isValue_7 rfl (lv_at hl 0 rfl) ?_
  refine g_get hE okX8 fl_X8_31 hP 0 rfl (v := .ref (a0 19)) rfl dX8_isValue_8 ?_
  refine g_get hE okX1 fl_X8_111 hP 19 rfl (v := .ref (a0 22)) rfl dX8_isValue_11 ?_
  refine lv_iload_n hx hb dX8_isValue_14 rfl (lv_at hl 1 rfl) ?_
  obtain ⟨r1, hc2, hf⟩ := gbd hf
  refine gr_callV (As := [.int p1]) (rest := []) (st1 := [.int r1]) hE hl.1 ml_X8_121 (c_X7_knows l g (fun k => a0 (k + 22)) (Bk_values (OuB_books s0)) p1 r1 hc2) hZ hS hP [(22, 2)] rfl okX7 rfl rfl rfl rfl ⟨rfl, rfl⟩ ⟨Nat.le_of_ble_eq_true rfl, Nat.le_of_ble_eq_true rfl⟩ ⟨Nat.le_refl _, Nat.le_refl _⟩ (Nat.le_of_ble_eq_true rfl) dX8_isValue_15 ?_
  refine lv_if_eq hx hb dX8_isValue_18 (tgt := 25) rfl (fun h3 => ?_) (fun h3 => ?_)
  · have hf := gif_t h3 hf
    refine lv_iconst hx hb dX8_isValue_25 kci_0 ?_
    cases hf
    exact hq (by decide) rfl dX8_isValue_26
  · have hf := gif_f h3 hf
    refine lv_iconst hx hb dX8_isValue_21 kci_1 ?_
    refine lv_goto hx hb dX8_isValue_22 (tgt := 26) rfl ?_
    cases hf
    exact hq (by decide) rfl dX8_isValue_26
def f_X8_isRow_B (s0 : OuBT) (p1 : Int32) (p2 : Int32) (p3 : Int32) : Option (Int32) :=
  (f_X8_isKey_B s0 p1).bind fun r1 =>
  if r1 = 0 then some ((0 : Int32))
  else glt (fun (_ : Unit) => glt (fun (_ : Unit) => if p3 = (-1 : Int32) then some ((1 : Int32))
  else (f_X8_isValue_B s0 p3).bind fun r7 =>
  if r7 = 0 then some ((0 : Int32))
  else some ((1 : Int32))) fun J5 =>
  if p2 = (-1 : Int32) then J5 ()
  else (f_X8_isValue_B s0 p2).bind fun r11 =>
  if r11 = 0 then some ((0 : Int32))
  else J5 ()) fun J4 =>
  if p2 = (-1 : Int32) then if p3 = (-1 : Int32) then some ((0 : Int32))
  else J4 ()
  else J4 ()
abbrev rm_X8_isRow_B : Room := { frames := 2, cells := 0, slots := 0, locals := 42 }
set_option maxHeartbeats 4000000 in
set_option maxRecDepth 100000 in
theorem c_X8_isRow_B (l : Launch) (g : GK) (a0 : Nat → Nat) (v_shelf : Value) (s0 : OuBT) (p1 : Int32) (p2 : Int32) (p3 : Int32) (res : (Int32)) (hf : f_X8_isRow_B s0 p1 p2 p3 = some res) : gR l yX8_isRow cX8_isRow 4 (some .boolean) rm_X8_isRow_B g [.ref (a0 0), .int p1, .int p2, .int p3] (OuB_c g a0 v_shelf s0) (some (.int res)) := by
  refine gR_introZ RX8 (by decide) rfl (Nat.le_of_ble_eq_true rfl) (fun p e s m args below meth c Q H locs ls hE hP hZ hS hq hl => ?_)
  have hl : lv_has ls 4 [(0, .ref (a0 0)), (1, .int p1), (2, .int p2), (3, .int p3)] := hl
  have hx := hE.1
  have hb := hE.2.1
  rw [f_X8_isRow_B] at hf
  refine lv_aload_n hx hb dX8_isRow_0 rfl (lv_at hl 0 rfl) ?_
  refine lv_iload_n hx hb dX8_isRow_1 rfl (lv_at hl 1 rfl) ?_
  obtain ⟨r1, hc2, hf⟩ := gbd hf
  refine gr_callV (As := [.int p1]) (rest := []) (st1 := [.int r1]) hE hl.1 ml_X8_132 (c_X8_isKey_B l g a0 v_shelf s0 p1 r1 hc2) hZ hS hP [(0, 44)] rfl okX8 rfl rfl rfl rfl ⟨rfl, rfl⟩ ⟨Nat.le_of_ble_eq_true rfl, Nat.le_of_ble_eq_true rfl⟩ ⟨Nat.le_refl _, Nat.le_refl _⟩ (Nat.le_of_ble_eq_true rfl) dX8_isRow_2 ?_
  refine lv_if_eq hx hb dX8_isRow_5 (tgt := 18) rfl (fun h3 => ?_) (fun h3 => ?_)
  · have hf := gif_t h3 hf
    refine lv_iconst hx hb dX8_isRow_18 kci_0 ?_
    cases hf
    exact hq (by decide) rfl dX8_isRow_19
  · have hf := gif_f h3 hf
    refine lv_iload_n hx hb dX8_isRow_8 rfl (lv_at hl 2 rfl) ?_
    refine lv_iconst hx hb dX8_isRow_9 kci_m1 ?_
    obtain ⟨J4, eJ4, hf⟩ := gltd hf
    have kJ4 : ∀ (_ : Unit) (ls : Array Slot), J4 () = some res → lv_has ls 4 [(0, .ref (a0 0)), (2, .int p2), (3, .int p3)] → W p l e rm_X8_isRow_B s m args below meth c H locs 0 0 Q (F0 m 20 ls []) := by
      intro _ ls hf hl
      rw [eJ4] at hf
      refine lv_iload_n hx hb dX8_isRow_20 rfl (lv_at hl 1 rfl) ?_
      refine lv_iconst hx hb dX8_isRow_21 kci_m1 ?_
      obtain ⟨J5, eJ5, hf⟩ := gltd hf
      have kJ5 : ∀ (_ : Unit) (ls : Array Slot), J5 () = some res → lv_has ls 4 [(0, .ref (a0 0)), (3, .int p3)] → W p l e rm_X8_isRow_B s m args below meth c H locs 0 0 Q (F0 m 33 ls []) := by
        intro _ ls hf hl
        rw [eJ5] at hf
        refine lv_iload_n hx hb dX8_isRow_33 rfl (lv_at hl 1 rfl) ?_
        refine lv_iconst hx hb dX8_isRow_34 kci_m1 ?_
        refine lv_icmp_eq hx hb dX8_isRow_35 (tgt := 46) rfl (fun h6 => ?_) (fun h6 => ?_)
        · have hf := gif_t h6 hf
          refine lv_iconst hx hb dX8_isRow_46 kci_1 ?_
          refine lv_goto hx hb dX8_isRow_47 (tgt := 51) rfl ?_
          cases hf
          exact hq (by decide) rfl dX8_isRow_51
        · have hf := gif_f h6 hf
          refine lv_aload_n hx hb dX8_isRow_38 rfl (lv_at hl 0 rfl) ?_
          refine lv_iload_n hx hb dX8_isRow_39 rfl (lv_at hl 1 rfl) ?_
          obtain ⟨r7, hc8, hf⟩ := gbd hf
          refine gr_callV (As := [.int p3]) (rest := []) (st1 := [.int r7]) hE hl.1 ml_X8_135 (c_X8_isValue_B l g a0 v_shelf s0 p3 r7 hc8) hZ hS hP [(0, 44)] rfl okX8 rfl rfl rfl rfl ⟨rfl, rfl⟩ ⟨Nat.le_of_ble_eq_true rfl, Nat.le_of_ble_eq_true rfl⟩ ⟨Nat.le_refl _, Nat.le_refl _⟩ (Nat.le_of_ble_eq_true rfl) dX8_isRow_40 ?_
          refine lv_if_eq hx hb dX8_isRow_43 (tgt := 50) rfl (fun h9 => ?_) (fun h9 => ?_)
          · have hf := gif_t h9 hf
            refine lv_iconst hx hb dX8_isRow_50 kci_0 ?_
            cases hf
            exact hq (by decide) rfl dX8_isRow_51
          · have hf := gif_f h9 hf
            refine lv_iconst hx hb dX8_isRow_46 kci_1 ?_
            refine lv_goto hx hb dX8_isRow_47 (tgt := 51) rfl ?_
            cases hf
            exact hq (by decide) rfl dX8_isRow_51
      refine lv_icmp_eq hx hb dX8_isRow_22 (tgt := 33) rfl (fun h10 => ?_) (fun h10 => ?_)
      · have hf := gif_t h10 hf
        exact kJ5 () ls hf (lv_sub hl [0, 2] rfl)
      · have hf := gif_f h10 hf
        refine lv_aload_n hx hb dX8_isRow_25 rfl (lv_at hl 0 rfl) ?_
        refine lv_iload_n hx hb dX8_isRow_26 rfl (lv_at hl 1 rfl) ?_
        obtain ⟨r11, hc12, hf⟩ := gbd hf
        refine gr_callV (As := [.int p2]) (rest := []) (st1 := [.int r11]) hE hl.1 ml_X8_135 (c_X8_isValue_B l g a0 v_shelf s0 p2 r11 hc12) hZ hS hP [(0, 44)] rfl okX8 rfl rfl rfl rfl ⟨rfl, rfl⟩ ⟨Nat.le_of_ble_eq_true rfl, Nat.le_of_ble_eq_true rfl⟩ ⟨Nat.le_refl _, Nat.le_refl _⟩ (Nat.le_of_ble_eq_true rfl) dX8_isRow_27 ?_
        refine lv_if_eq hx hb dX8_isRow_30 (tgt := 50) rfl (fun h13 => ?_) (fun h13 => ?_)
        · have hf := gif_t h13 hf
          refine lv_iconst hx hb dX8_isRow_50 kci_0 ?_
          cases hf
          exact hq (by decide) rfl dX8_isRow_51
        · have hf := gif_f h13 hf
          exact kJ5 () ls hf (lv_sub hl [0, 2] rfl)
    refine lv_icmp_ne hx hb dX8_isRow_10 (tgt := 20) rfl (fun h14 => ?_) (fun h14 => ?_)
    · have hf := gif_f h14 hf
      exact kJ4 () ls hf (lv_sub hl [0, 2, 3] rfl)
    · have hf := gif_t h14 hf
      refine lv_iload_n hx hb dX8_isRow_13 rfl (lv_at hl 3 rfl) ?_
      refine lv_iconst hx hb dX8_isRow_14 kci_m1 ?_
      refine lv_icmp_ne hx hb dX8_isRow_15 (tgt := 20) rfl (fun h15 => ?_) (fun h15 => ?_)
      · have hf := gif_f h15 hf
        exact kJ4 () ls hf (lv_sub hl [0, 2, 3] rfl)
      · have hf := gif_t h15 hf
        refine lv_iconst hx hb dX8_isRow_18 kci_0 ?_
        cases hf
        exact hq (by decide) rfl dX8_isRow_19
def f_X8_isSubscribed_B (s0 : OuBT) (p1 : Int32) : Option (Int32) :=
  (f_X5_hasBegun (Bk_subscribers (OuB_books s0)) p1).bind fun r1 =>
  if r1 = 0 then some ((0 : Int32))
  else some ((1 : Int32))
abbrev rm_X8_isSubscribed_B : Room := { frames := 1, cells := 0, slots := 0, locals := 21 }
set_option maxHeartbeats 4000000 in
set_option maxRecDepth 100000 in
theorem c_X8_isSubscribed_B (l : Launch) (g : GK) (a0 : Nat → Nat) (v_shelf : Value) (s0 : OuBT) (p1 : Int32) (res : (Int32)) (hf : f_X8_isSubscribed_B s0 p1 = some res) : gR l yX8_isSubscribed cX8_isSubscribed 2 (some .boolean) rm_X8_isSubscribed_B g [.ref (a0 0), .int p1] (OuB_c g a0 v_shelf s0) (some (.int res)) := by
  refine gR_introZ RX8 (by decide) rfl (Nat.le_of_ble_eq_true rfl) (fun p e s m args below meth c Q H locs ls hE hP hZ hS hq hl => ?_)
  have hl : lv_has ls 2 [(0, .ref (a0 0)), (1, .int p1)] := hl
  have hx := hE.1
  have hb := hE.2.1
  rw [f_X8_isSubscribed_B] at hf
  refine lv_aload_n hx hb dX8_isSubscribed_0 rfl (lv_at hl 0 rfl) ?_
  refine g_get hE okX8 fl_X8_31 hP 0 rfl (v := .ref (a0 19)) rfl dX8_isSubscribed_1 ?_
  refine lv_ifnull hx hb dX8_isSubscribed_4 ?_
  refine lv_aload_n hx hb dX8_isSubscribed_7 rfl (lv_at hl 0 rfl) ?_
  refine g_get hE okX8 fl_X8_31 hP 0 rfl (v := .ref (a0 19)) rfl dX8_isSubscribed_8 ?_
  refine g_get hE okX1 fl_X8_216 hP 19 rfl (v := .ref (a0 38)) rfl dX8_isSubscribed_11 ?_
  refine lv_iload_n hx hb dX8_isSubscribed_14 rfl (lv_at hl 1 rfl) ?_
  obtain ⟨r1, hc2, hf⟩ := gbd hf
  refine gr_callV (As := [.int p1]) (rest := []) (st1 := [.int r1]) hE hl.1 ml_X8_334 (c_X5_hasBegun l g (fun k => a0 (k + 38)) (Bk_subscribers (OuB_books s0)) p1 r1 hc2) hZ hS hP [(38, 4)] rfl okX5 rfl rfl rfl rfl ⟨rfl, rfl⟩ ⟨Nat.le_of_ble_eq_true rfl, Nat.le_of_ble_eq_true rfl⟩ ⟨Nat.le_refl _, Nat.le_refl _⟩ (Nat.le_of_ble_eq_true rfl) dX8_isSubscribed_15 ?_
  refine lv_if_eq hx hb dX8_isSubscribed_18 (tgt := 25) rfl (fun h3 => ?_) (fun h3 => ?_)
  · have hf := gif_t h3 hf
    refine lv_iconst hx hb dX8_isSubscribed_25 kci_0 ?_
    cases hf
    exact hq (by decide) rfl dX8_isSubscribed_26
  · have hf := gif_f h3 hf
    refine lv_iconst hx hb dX8_isSubscribed_21 kci_1 ?_
    refine lv_goto hx hb dX8_isSubscribed_22 (tgt := 26) rfl ?_
    cases hf
    exact hq (by decide) rfl dX8_isSubscribed_26
def f_X8_refusalOfEvent_B (s0 : OuBT) (p1 : Int32) (p2 : Int32) (p3 : Int32) (p4 : Int32) (p5 : Int32) : Option (Int32) :=
  (f_X8_isSide p1).bind fun r1 =>
  if r1 = 0 then some ((1 : Int32))
  else (f_X8_isKey_B s0 p2).bind fun r4 =>
  if r4 = 0 then some ((1 : Int32))
  else (f_X8_isValue_B s0 p3).bind fun r7 =>
  if r7 = 0 then some ((1 : Int32))
  else if p4 < (-9 : Int32) then some ((2 : Int32))
  else if (9 : Int32) < p4 then some ((2 : Int32))
  else if p4 = 0 then some ((2 : Int32))
  else (f_X8_isTime p5).bind fun r13 =>
  if r13 = 0 then some ((2 : Int32))
  else some ((0 : Int32))
abbrev rm_X8_refusalOfEvent_B : Room := { frames := 2, cells := 0, slots := 0, locals := 42 }
set_option maxHeartbeats 4000000 in
set_option maxRecDepth 100000 in
theorem c_X8_refusalOfEvent_B (l : Launch) (g : GK) (a0 : Nat → Nat) (v_shelf : Value) (s0 : OuBT) (p1 : Int32) (p2 : Int32) (p3 : Int32) (p4 : Int32) (p5 : Int32) (res : (Int32)) (hf : f_X8_refusalOfEvent_B s0 p1 p2 p3 p4 p5 = some res) : gR l yX8_refusalOfEvent cX8_refusalOfEvent 6 (some .int) rm_X8_refusalOfEvent_B g [.ref (a0 0), .int p1, .int p2, .int p3, .int p4, .int p5] (OuB_c g a0 v_shelf s0) (some (.int res)) := by
  refine gR_introI RX8 (by decide) rfl (Nat.le_of_ble_eq_true rfl) (fun p e s m args below meth c Q H locs ls hE hP hZ hS hq hl => ?_)
  have hl : lv_has ls 6 [(0, .ref (a0 0)), (1, .int p1), (2, .int p2), (3, .int p3), (4, .int p4), (5, .int p5)] := hl
  have hx := hE.1
  have hb := hE.2.1
  rw [f_X8_refusalOfEvent_B] at hf
  refine lv_iload_n hx hb dX8_refusalOfEvent_0 rfl (lv_at hl 1 rfl) ?_
  obtain ⟨r1, hc2, hf⟩ := gbd hf
  refine gr_callS (As := [.int p1]) (rest := []) (st1 := [.int r1]) hE hl.1 ml_X8_129 (c_X8_isSide l g p1 r1 hc2) hZ hS hP [] rfl rfl rfl rfl ⟨rfl, rfl⟩ ⟨Nat.le_of_ble_eq_true rfl, Nat.le_of_ble_eq_true rfl⟩ ⟨Nat.le_refl _, Nat.le_refl _⟩ (Nat.le_of_ble_eq_true rfl) dX8_refusalOfEvent_1 ?_
  refine lv_if_eq hx hb dX8_refusalOfEvent_4 (tgt := 23) rfl (fun h3 => ?_) (fun h3 => ?_)
  · have hf := gif_t h3 hf
    refine lv_iconst hx hb dX8_refusalOfEvent_23 kci_1 ?_
    cases hf
    exact hq rfl dX8_refusalOfEvent_24
  · have hf := gif_f h3 hf
    refine lv_aload_n hx hb dX8_refusalOfEvent_7 rfl (lv_at hl 0 rfl) ?_
    refine lv_iload_n hx hb dX8_refusalOfEvent_8 rfl (lv_at hl 2 rfl) ?_
    obtain ⟨r4, hc5, hf⟩ := gbd hf
    refine gr_callV (As := [.int p2]) (rest := []) (st1 := [.int r4]) hE hl.1 ml_X8_132 (c_X8_isKey_B l g a0 v_shelf s0 p2 r4 hc5) hZ hS hP [(0, 44)] rfl okX8 rfl rfl rfl rfl ⟨rfl, rfl⟩ ⟨Nat.le_of_ble_eq_true rfl, Nat.le_of_ble_eq_true rfl⟩ ⟨Nat.le_refl _, Nat.le_refl _⟩ (Nat.le_of_ble_eq_true rfl) dX8_refusalOfEvent_9 ?_
    refine lv_if_eq hx hb dX8_refusalOfEvent_12 (tgt := 23) rfl (fun h6 => ?_) (fun h6 => ?_)
    · have hf := gif_t h6 hf
      refine lv_iconst hx hb dX8_refusalOfEvent_23 kci_1 ?_
      cases hf
      exact hq rfl dX8_refusalOfEvent_24
    · have hf := gif_f h6 hf
      refine lv_aload_n hx hb dX8_refusalOfEvent_15 rfl (lv_at hl 0 rfl) ?_
      refine lv_iload_n hx hb dX8_refusalOfEvent_16 rfl (lv_at hl 3 rfl) ?_
      obtain ⟨r7, hc8, hf⟩ := gbd hf
      refine gr_callV (As := [.int p3]) (rest := []) (st1 := [.int r7]) hE hl.1 ml_X8_135 (c_X8_isValue_B l g a0 v_shelf s0 p3 r7 hc8) hZ hS hP [(0, 44)] rfl okX8 rfl rfl rfl rfl ⟨rfl, rfl⟩ ⟨Nat.le_of_ble_eq_true rfl, Nat.le_of_ble_eq_true rfl⟩ ⟨Nat.le_refl _, Nat.le_refl _⟩ (Nat.le_of_ble_eq_true rfl) dX8_refusalOfEvent_17 ?_
      refine lv_if_ne hx hb dX8_refusalOfEvent_20 (tgt := 25) rfl (fun h9 => ?_) (fun h9 => ?_)
      · have hf := gif_f h9 hf
        refine lv_iload hx hb dX8_refusalOfEvent_25 (lv_at hl 4 rfl) ?_
        refine lv_bipush hx hb dX8_refusalOfEvent_27 kcb_m9 ?_
        refine lv_icmp_lt hx hb dX8_refusalOfEvent_29 (tgt := 52) rfl (fun h10 => ?_) (fun h10 => ?_)
        · have hf := gif_t h10 hf
          refine lv_iconst hx hb dX8_refusalOfEvent_52 kci_2 ?_
          cases hf
          exact hq rfl dX8_refusalOfEvent_53
        · have hf := gif_f h10 hf
          refine lv_iload hx hb dX8_refusalOfEvent_32 (lv_at hl 4 rfl) ?_
          refine lv_bipush hx hb dX8_refusalOfEvent_34 kcb_9 ?_
          refine lv_icmp_gt hx hb dX8_refusalOfEvent_36 (tgt := 52) rfl (fun h11 => ?_) (fun h11 => ?_)
          · have hf := gif_t h11 hf
            refine lv_iconst hx hb dX8_refusalOfEvent_52 kci_2 ?_
            cases hf
            exact hq rfl dX8_refusalOfEvent_53
          · have hf := gif_f h11 hf
            refine lv_iload hx hb dX8_refusalOfEvent_39 (lv_at hl 4 rfl) ?_
            refine lv_if_eq hx hb dX8_refusalOfEvent_41 (tgt := 52) rfl (fun h12 => ?_) (fun h12 => ?_)
            · have hf := gif_t h12 hf
              refine lv_iconst hx hb dX8_refusalOfEvent_52 kci_2 ?_
              cases hf
              exact hq rfl dX8_refusalOfEvent_53
            · have hf := gif_f h12 hf
              refine lv_iload hx hb dX8_refusalOfEvent_44 (lv_at hl 5 rfl) ?_
              obtain ⟨r13, hc14, hf⟩ := gbd hf
              refine gr_callS (As := [.int p5]) (rest := []) (st1 := [.int r13]) hE hl.1 ml_X8_303 (c_X8_isTime l g p5 r13 hc14) hZ hS hP [] rfl rfl rfl rfl ⟨rfl, rfl⟩ ⟨Nat.le_of_ble_eq_true rfl, Nat.le_of_ble_eq_true rfl⟩ ⟨Nat.le_refl _, Nat.le_refl _⟩ (Nat.le_of_ble_eq_true rfl) dX8_refusalOfEvent_46 ?_
              refine lv_if_ne hx hb dX8_refusalOfEvent_49 (tgt := 54) rfl (fun h15 => ?_) (fun h15 => ?_)
              · have hf := gif_f h15 hf
                refine lv_iconst hx hb dX8_refusalOfEvent_54 kci_0 ?_
                cases hf
                exact hq rfl dX8_refusalOfEvent_55
              · have hf := gif_t h15 hf
                refine lv_iconst hx hb dX8_refusalOfEvent_52 kci_2 ?_
                cases hf
                exact hq rfl dX8_refusalOfEvent_53
      · have hf := gif_t h9 hf
        refine lv_iconst hx hb dX8_refusalOfEvent_23 kci_1 ?_
        cases hf
        exact hq rfl dX8_refusalOfEvent_24
def f_X8_refuse_B (s0 : OuBT) (p1 : Int32) (p2 : Int32) : Option (Int32 × OuBT) :=
  some (p2, (OuB_w_trouble s0 p1))
abbrev rm_X8_refuse_B : Room := { frames := 0, cells := 0, slots := 0, locals := 0 }
set_option maxHeartbeats 4000000 in
set_option maxRecDepth 100000 in
theorem c_X8_refuse_B (l : Launch) (g : GK) (a0 : Nat → Nat) (v_shelf : Value) (s0 : OuBT) (p1 : Int32) (p2 : Int32) (res : (Int32 × OuBT)) (hf : f_X8_refuse_B s0 p1 p2 = some res) : gM l yX8_refuse cX8_refuse 3 (some .int) rm_X8_refuse_B g [.ref (a0 0), .int p1, .int p2] (OuB_c g a0 v_shelf s0) (fun _ : Unit => (some (.int (res.1)))) (fun _ => (OuB_c g a0 v_shelf (res.2))) 0 0 := by
  refine gM_introI RX8 (by decide) rfl (Nat.le_of_ble_eq_true rfl) (fun p e s m args below meth c Q H locs ls A hE hZ hA hP hD hS hq hl => ?_)
  have hl : lv_has ls 3 [(0, .ref (a0 0)), (1, .int p1), (2, .int p2)] := hl
  have hx := hE.1
  have hb := hE.2.1
  rw [f_X8_refuse_B] at hf
  refine lv_aload_n hx hb dX8_refuse_0 rfl (lv_at hl 0 rfl) ?_
  refine lv_iload_n hx hb dX8_refuse_1 rfl (lv_at hl 1 rfl) ?_
  refine g_put hE okX8 fl_X8_42 hP hD hS 0 rfl rfl rfl rfl (Nat.le_of_ble_eq_true rfl) (OuB_c g a0 v_shelf (OuB_w_trouble s0 p1)) rfl dX8_refuse_2 (fun H locs hP hD hS => ?_)
  refine lv_iload_n hx hb dX8_refuse_5 rfl (lv_at hl 2 rfl) ?_
  cases hf
  exact hq () rfl hP hD hS dX8_refuse_6
def f_X8_accept_B (s0 : OuBT) (p1 : Int32) : Option (Int32 × OuBT) :=
  some (p1, (OuB_w_trouble s0 (0 : Int32)))
abbrev rm_X8_accept_B : Room := { frames := 0, cells := 0, slots := 0, locals := 0 }
set_option maxHeartbeats 4000000 in
set_option maxRecDepth 100000 in
theorem c_X8_accept_B (l : Launch) (g : GK) (a0 : Nat → Nat) (v_shelf : Value) (s0 : OuBT) (p1 : Int32) (res : (Int32 × OuBT)) (hf : f_X8_accept_B s0 p1 = some res) : gM l yX8_accept cX8_accept 2 (some .int) rm_X8_accept_B g [.ref (a0 0), .int p1] (OuB_c g a0 v_shelf s0) (fun _ : Unit => (some (.int (res.1)))) (fun _ => (OuB_c g a0 v_shelf (res.2))) 0 0 := by
  refine gM_introI RX8 (by decide) rfl (Nat.le_of_ble_eq_true rfl) (fun p e s m args below meth c Q H locs ls A hE hZ hA hP hD hS hq hl => ?_)
  have hl : lv_has ls 2 [(0, .ref (a0 0)), (1, .int p1)] := hl
  have hx := hE.1
  have hb := hE.2.1
  rw [f_X8_accept_B] at hf
  refine lv_aload_n hx hb dX8_accept_0 rfl (lv_at hl 0 rfl) ?_
  refine lv_iconst hx hb dX8_accept_1 kci_0 ?_
  refine g_put hE okX8 fl_X8_42 hP hD hS 0 rfl rfl rfl rfl (Nat.le_of_ble_eq_true rfl) (OuB_c g a0 v_shelf (OuB_w_trouble s0 (0 : Int32))) rfl dX8_accept_2 (fun H locs hP hD hS => ?_)
  refine lv_iload_n hx hb dX8_accept_5 rfl (lv_at hl 1 rfl) ?_
  cases hf
  exact hq () rfl hP hD hS dX8_accept_6
def f_X8_tookText_B (s0 : OuBT) (p1 : Int32) : Option (Int32 × OuBT) :=
  if isB p1 then some (p1, (OuB_w_place (OuB_w_fault (OuB_w_reader s0 (Rd_w_tape (OuB_reader s0) (Tp_w_length (Rd_tape (OuB_reader s0)) (0 : Int32)))) (Rd_fault (OuB_reader s0))) (Rd_place (OuB_reader s0)))) else none
abbrev rm_X8_tookText_B : Room := { frames := 0, cells := 0, slots := 0, locals := 0 }
set_option maxHeartbeats 4000000 in
set_option maxRecDepth 100000 in
theorem c_X8_tookText_B (l : Launch) (g : GK) (a0 : Nat → Nat) (v_shelf : Value) (s0 : OuBT) (p1 : Int32) (res : (Int32 × OuBT)) (hf : f_X8_tookText_B s0 p1 = some res) : gM l yX8_tookText cX8_tookText 2 (some .boolean) rm_X8_tookText_B g [.ref (a0 0), .int p1] (OuB_c g a0 v_shelf s0) (fun _ : Unit => (some (.int (res.1)))) (fun _ => (OuB_c g a0 v_shelf (res.2))) 0 0 := by
  refine gM_introZ RX8 (by decide) rfl (Nat.le_of_ble_eq_true rfl) (fun p e s m args below meth c Q H locs ls A hE hZ hA hP hD hS hq hl => ?_)
  have hl : lv_has ls 2 [(0, .ref (a0 0)), (1, .int p1)] := hl
  have hx := hE.1
  have hb := hE.2.1
  rw [f_X8_tookText_B] at hf
  refine lv_aload_n hx hb dX8_tookText_0 rfl (lv_at hl 0 rfl) ?_
  refine g_get hE okX8 fl_X8_14 hP 0 rfl (v := .ref (a0 1)) rfl dX8_tookText_1 ?_
  refine g_get hE okX3 fl_X8_52 hP 1 rfl (v := .ref (a0 2)) rfl dX8_tookText_4 ?_
  refine lv_iconst hx hb dX8_tookText_7 kci_0 ?_
  refine g_put hE okX6 fl_X8_66 hP hD hS 2 rfl rfl rfl rfl (Nat.le_of_ble_eq_true rfl) (OuB_c g a0 v_shelf (OuB_w_reader s0 (Rd_w_tape (OuB_reader s0) (Tp_w_length (Rd_tape (OuB_reader s0)) (0 : Int32))))) rfl dX8_tookText_8 (fun H locs hP hD hS => ?_)
  refine lv_aload_n hx hb dX8_tookText_11 rfl (lv_at hl 0 rfl) ?_
  refine lv_aload_n hx hb dX8_tookText_12 rfl (lv_at hl 0 rfl) ?_
  refine g_get hE okX8 fl_X8_14 hP 0 rfl (v := .ref (a0 1)) rfl dX8_tookText_13 ?_
  refine g_get hE okX3 fl_X8_337 hP 1 rfl (v := .int (Rd_fault (OuB_reader s0))) rfl dX8_tookText_16 ?_
  refine g_put hE okX8 fl_X8_46 hP hD hS 0 rfl rfl rfl rfl (Nat.le_of_ble_eq_true rfl) (OuB_c g a0 v_shelf (OuB_w_fault (OuB_w_reader s0 (Rd_w_tape (OuB_reader s0) (Tp_w_length (Rd_tape (OuB_reader s0)) (0 : Int32)))) (Rd_fault (OuB_reader s0)))) rfl dX8_tookText_19 (fun H locs hP hD hS => ?_)
  refine lv_aload_n hx hb dX8_tookText_22 rfl (lv_at hl 0 rfl) ?_
  refine lv_aload_n hx hb dX8_tookText_23 rfl (lv_at hl 0 rfl) ?_
  refine g_get hE okX8 fl_X8_14 hP 0 rfl (v := .ref (a0 1)) rfl dX8_tookText_24 ?_
  refine g_get hE okX3 fl_X8_338 hP 1 rfl (v := .int (Rd_place (OuB_reader s0))) rfl dX8_tookText_27 ?_
  refine g_put hE okX8 fl_X8_49 hP hD hS 0 rfl rfl rfl rfl (Nat.le_of_ble_eq_true rfl) (OuB_c g a0 v_shelf (OuB_w_place (OuB_w_fault (OuB_w_reader s0 (Rd_w_tape (OuB_reader s0) (Tp_w_length (Rd_tape (OuB_reader s0)) (0 : Int32)))) (Rd_fault (OuB_reader s0))) (Rd_place (OuB_reader s0)))) rfl dX8_tookText_30 (fun H locs hP hD hS => ?_)
  refine lv_iload_n hx hb dX8_tookText_33 rfl (lv_at hl 1 rfl) ?_
  obtain ⟨hg1, hf⟩ := ggd hf
  cases hf
  exact hq () hg1 rfl hP hD hS dX8_tookText_34
theorem dX8_orderAsStored_0 : decode cX8_orderAsStored 0 = .ok (.iconst 0, 1) := by decide +kernel
theorem dX8_orderAsStored_1 : decode cX8_orderAsStored 1 = .ok (.istore_n 1, 1) := by decide +kernel
theorem dX8_orderAsStored_2 : decode cX8_orderAsStored 2 = .ok (.iload_n 1, 1) := by decide +kernel
theorem dX8_orderAsStored_3 : decode cX8_orderAsStored 3 = .ok (.bipush 60, 2) := by decide +kernel
theorem dX8_orderAsStored_5 : decode cX8_orderAsStored 5 = .ok (.if_icmp .ge 16, 3) := by decide +kernel
theorem dX8_orderAsStored_8 : decode cX8_orderAsStored 8 = .ok (.aload_n 0, 1) := by decide +kernel
theorem dX8_orderAsStored_9 : decode cX8_orderAsStored 9 = .ok (.getfield 27, 3) := by decide +kernel
theorem dX8_orderAsStored_12 : decode cX8_orderAsStored 12 = .ok (.iload_n 1, 1) := by decide +kernel
theorem dX8_orderAsStored_13 : decode cX8_orderAsStored 13 = .ok (.iload_n 1, 1) := by decide +kernel
theorem dX8_orderAsStored_14 : decode cX8_orderAsStored 14 = .ok (.iastore, 1) := by decide +kernel
theorem dX8_orderAsStored_15 : decode cX8_orderAsStored 15 = .ok (.iinc 1 1, 3) := by decide +kernel
theorem dX8_orderAsStored_18 : decode cX8_orderAsStored 18 = .ok (.goto (-16), 3) := by decide +kernel
theorem dX8_orderAsStored_21 : decode cX8_orderAsStored 21 = .ok (.return_, 1) := by decide +kernel
def f_X8_orderAsStored_B_L2_5 (K1 : (OuBT → Option (OuBT))) : Nat → Int32 → OuBT → Option (OuBT)
  | 0, _, _ => none
  | n6 + 1, x1_3, s0_4 => if (60 : Int32) ≤ x1_3 then K1 s0_4
  else if inb x1_3 60 then f_X8_orderAsStored_B_L2_5 K1 n6 (x1_3 + (1 : Int32)) (OuB_w_order s0_4 (upd (OuB_order s0_4) (ix x1_3) x1_3)) else none
def f_X8_orderAsStored_B (s0 : OuBT) : Option (OuBT) :=
  glt (fun (s0_2 : OuBT) => some (s0_2)) fun K1 =>
  f_X8_orderAsStored_B_L2_5 K1 10000 (0 : Int32) s0
abbrev rm_X8_orderAsStored_B : Room := { frames := 0, cells := 0, slots := 0, locals := 0 }
set_option maxHeartbeats 4000000 in
set_option maxRecDepth 100000 in
theorem c_X8_orderAsStored_B (l : Launch) (g : GK) (a0 : Nat → Nat) (v_shelf : Value) (s0 : OuBT) (res : (OuBT)) (hf : f_X8_orderAsStored_B s0 = some res) : gM l yX8_orderAsStored cX8_orderAsStored 2 none rm_X8_orderAsStored_B g [.ref (a0 0)] (OuB_c g a0 v_shelf s0) (fun _ : Unit => none) (fun _ => (OuB_c g a0 v_shelf res)) 0 0 := by
  refine gM_introV RX8 (by decide) rfl (Nat.le_of_ble_eq_true rfl) (fun p e s m args below meth c Q H locs ls A hE hnm hZ hA hP hD hS hq hl => ?_)
  have hl : lv_has ls 2 [(0, .ref (a0 0))] := hl
  have hx := hE.1
  have hb := hE.2.1
  rw [f_X8_orderAsStored_B] at hf
  refine lv_iconst hx hb dX8_orderAsStored_0 kci_0 ?_
  refine lv_istore_n hx hb dX8_orderAsStored_1 rfl hl (by decide) (lv' := [(1, .int (0 : Int32)), (0, .ref (a0 0))]) rfl (fun ls hl => ?_)
  obtain ⟨K1, eK1, hf⟩ := gltd hf
  have kK1 : ∀ (s0_2 : OuBT) (ls : Array Slot) (H : Heap) (locs : List Loc), K1 s0_2 = some res → lv_has ls 2 [] → gP g (OuB_c g a0 v_shelf s0_2) H → va_D A (OuB_c g a0 v_shelf s0_2) → va_S A s.heap H locs → W p l e rm_X8_orderAsStored_B s m args below meth c H locs 0 0 Q (F0 m 21 ls []) := by
    intro s0_2 ls H locs hf hl hP hD hS
    rw [eK1] at hf
    cases hf
    exact hq () rfl hP hD hS dX8_orderAsStored_21
  have lpn6 : ∀ (n6 : Nat) (x1_3 : Int32) (s0_4 : OuBT) (ls : Array Slot) (H : Heap) (locs : List Loc), f_X8_orderAsStored_B_L2_5 K1 n6 x1_3 s0_4 = some res → lv_has ls 2 [(0, .ref (a0 0)), (1, .int x1_3)] → gP g (OuB_c g a0 v_shelf s0_4) H → va_D A (OuB_c g a0 v_shelf s0_4) → va_S A s.heap H locs → W p l e rm_X8_orderAsStored_B s m args below meth c H locs 0 0 Q (F0 m 2 ls []) := by
    intro n6
    induction n6 with
    | zero => intro x1_3 s0_4 ls H locs hf hl hP hD hS; rw [f_X8_orderAsStored_B_L2_5] at hf; cases hf
    | succ n6 ihn6 =>
      intro x1_3 s0_4 ls H locs hf hl hP hD hS
      rw [f_X8_orderAsStored_B_L2_5] at hf
      refine lv_iload_n hx hb dX8_orderAsStored_2 rfl (lv_at hl 1 rfl) ?_
      refine lv_bipush hx hb dX8_orderAsStored_3 kcb_60 ?_
      refine lv_icmp_ge hx hb dX8_orderAsStored_5 (tgt := 21) rfl (fun h7 => ?_) (fun h7 => ?_)
      · have hf := gif_t h7 hf
        exact kK1 s0_4 ls H locs hf (lv_sub hl [] rfl) hP hD hS
      · have hf := gif_f h7 hf
        refine lv_aload_n hx hb dX8_orderAsStored_8 rfl (lv_at hl 0 rfl) ?_
        refine g_get hE okX8 fl_X8_27 hP 0 rfl (v := .ref (a0 18)) rfl dX8_orderAsStored_9 ?_
        refine lv_iload_n hx hb dX8_orderAsStored_12 rfl (lv_at hl 1 rfl) ?_
        refine lv_iload_n hx hb dX8_orderAsStored_13 rfl (lv_at hl 1 rfl) ?_
        obtain ⟨hg8, hf⟩ := ggd hf
        refine g_iast hE hP hD hS 18 (f := (OuB_order s0_4)) rfl hg8 (OuB_c g a0 v_shelf (OuB_w_order s0_4 (upd (OuB_order s0_4) (ix x1_3) x1_3))) rfl dX8_orderAsStored_14 (fun H locs hP hD hS => ?_)
        refine lv_iinc hx hb dX8_orderAsStored_15 hl (k := 1) (x := x1_3) rfl (kinc_1 _) (by decide) (lv' := [(1, .int (x1_3 + (1 : Int32))), (0, .ref (a0 0))]) rfl (fun ls hl => ?_)
        refine lv_goto hx hb dX8_orderAsStored_18 (tgt := 2) rfl ?_
        exact ihn6 (x1_3 + (1 : Int32)) (OuB_w_order s0_4 (upd (OuB_order s0_4) (ix x1_3) x1_3)) ls H locs hf (lv_sub hl [1, 0] rfl) hP hD hS
  exact lpn6 10000 (0 : Int32) s0 ls H locs hf (lv_sub hl [1, 0] rfl) hP hD hS
theorem dX8_mix_0 : decode cX8_mix 0 = .ok (.iload_n 2, 1) := by decide +kernel
theorem dX8_mix_1 : decode cX8_mix 1 = .ok (.istore_n 3, 1) := by decide +kernel
theorem dX8_mix_2 : decode cX8_mix 2 = .ok (.iload_n 1, 1) := by decide +kernel
theorem dX8_mix_3 : decode cX8_mix 3 = .ok (.iconst 1, 1) := by decide +kernel
theorem dX8_mix_4 : decode cX8_mix 4 = .ok (.isub, 1) := by decide +kernel
theorem dX8_mix_5 : decode cX8_mix 5 = .ok (.istore 4, 2) := by decide +kernel
theorem dX8_mix_7 : decode cX8_mix 7 = .ok (.iload 4, 2) := by decide +kernel
theorem dX8_mix_9 : decode cX8_mix 9 = .ok (.iconst 1, 1) := by decide +kernel
theorem dX8_mix_10 : decode cX8_mix 10 = .ok (.if_icmp .lt 61, 3) := by decide +kernel
theorem dX8_mix_13 : decode cX8_mix 13 = .ok (.bipush 75, 2) := by decide +kernel
theorem dX8_mix_15 : decode cX8_mix 15 = .ok (.iload_n 3, 1) := by decide +kernel
theorem dX8_mix_16 : decode cX8_mix 16 = .ok (.imul, 1) := by decide +kernel
theorem dX8_mix_17 : decode cX8_mix 17 = .ok (.bipush 74, 2) := by decide +kernel
theorem dX8_mix_19 : decode cX8_mix 19 = .ok (.iadd, 1) := by decide +kernel
theorem dX8_mix_20 : decode cX8_mix 20 = .ok (.ldc_w 348, 3) := by decide +kernel
theorem dX8_mix_23 : decode cX8_mix 23 = .ok (.irem, 1) := by decide +kernel
theorem dX8_mix_24 : decode cX8_mix 24 = .ok (.istore_n 3, 1) := by decide +kernel
theorem dX8_mix_25 : decode cX8_mix 25 = .ok (.iload_n 3, 1) := by decide +kernel
theorem dX8_mix_26 : decode cX8_mix 26 = .ok (.iload 4, 2) := by decide +kernel
theorem dX8_mix_28 : decode cX8_mix 28 = .ok (.iconst 1, 1) := by decide +kernel
theorem dX8_mix_29 : decode cX8_mix 29 = .ok (.iadd, 1) := by decide +kernel
theorem dX8_mix_30 : decode cX8_mix 30 = .ok (.irem, 1) := by decide +kernel
theorem dX8_mix_31 : decode cX8_mix 31 = .ok (.istore 5, 2) := by decide +kernel
theorem dX8_mix_33 : decode cX8_mix 33 = .ok (.aload_n 0, 1) := by decide +kernel
theorem dX8_mix_34 : decode cX8_mix 34 = .ok (.getfield 27, 3) := by decide +kernel
theorem dX8_mix_37 : decode cX8_mix 37 = .ok (.iload 4, 2) := by decide +kernel
theorem dX8_mix_39 : decode cX8_mix 39 = .ok (.iaload, 1) := by decide +kernel
theorem dX8_mix_40 : decode cX8_mix 40 = .ok (.istore 6, 2) := by decide +kernel
theorem dX8_mix_42 : decode cX8_mix 42 = .ok (.aload_n 0, 1) := by decide +kernel
theorem dX8_mix_43 : decode cX8_mix 43 = .ok (.getfield 27, 3) := by decide +kernel
theorem dX8_mix_46 : decode cX8_mix 46 = .ok (.iload 4, 2) := by decide +kernel
theorem dX8_mix_48 : decode cX8_mix 48 = .ok (.aload_n 0, 1) := by decide +kernel
theorem dX8_mix_49 : decode cX8_mix 49 = .ok (.getfield 27, 3) := by decide +kernel
theorem dX8_mix_52 : decode cX8_mix 52 = .ok (.iload 5, 2) := by decide +kernel
theorem dX8_mix_54 : decode cX8_mix 54 = .ok (.iaload, 1) := by decide +kernel
theorem dX8_mix_55 : decode cX8_mix 55 = .ok (.iastore, 1) := by decide +kernel
theorem dX8_mix_56 : decode cX8_mix 56 = .ok (.aload_n 0, 1) := by decide +kernel
theorem dX8_mix_57 : decode cX8_mix 57 = .ok (.getfield 27, 3) := by decide +kernel
theorem dX8_mix_60 : decode cX8_mix 60 = .ok (.iload 5, 2) := by decide +kernel
theorem dX8_mix_62 : decode cX8_mix 62 = .ok (.iload 6, 2) := by decide +kernel
theorem dX8_mix_64 : decode cX8_mix 64 = .ok (.iastore, 1) := by decide +kernel
theorem dX8_mix_65 : decode cX8_mix 65 = .ok (.iinc 4 (-1), 3) := by decide +kernel
theorem dX8_mix_68 : decode cX8_mix 68 = .ok (.goto (-61), 3) := by decide +kernel
theorem dX8_mix_71 : decode cX8_mix 71 = .ok (.return_, 1) := by decide +kernel
def f_X8_mix_B_L7_6 (K1 : (OuBT → Option (OuBT))) : Nat → Int32 → Int32 → OuBT → Option (OuBT)
  | 0, _, _, _ => none
  | n7 + 1, x3_3, x4_4, s0_5 => if x4_4 < (1 : Int32) then K1 s0_5
  else if ¬ (x4_4 + (1 : Int32)) = 0 then if inb x4_4 60 then if inb (irem (irem (((75 : Int32) * x3_3) + (74 : Int32)) (65537 : Int32)) (x4_4 + (1 : Int32))) 60 then if inb x4_4 60 then if inb (irem (irem (((75 : Int32) * x3_3) + (74 : Int32)) (65537 : Int32)) (x4_4 + (1 : Int32))) 60 then f_X8_mix_B_L7_6 K1 n7 (irem (((75 : Int32) * x3_3) + (74 : Int32)) (65537 : Int32)) (x4_4 + (-1 : Int32)) (OuB_w_order s0_5 (upd (upd (OuB_order s0_5) (ix x4_4) ((OuB_order s0_5) (ix (irem (irem (((75 : Int32) * x3_3) + (74 : Int32)) (65537 : Int32)) (x4_4 + (1 : Int32)))))) (ix (irem (irem (((75 : Int32) * x3_3) + (74 : Int32)) (65537 : Int32)) (x4_4 + (1 : Int32)))) ((OuB_order s0_5) (ix x4_4)))) else none else none else none else none else none
def f_X8_mix_B (s0 : OuBT) (p1 : Int32) (p2 : Int32) : Option (OuBT) :=
  glt (fun (s0_2 : OuBT) => some (s0_2)) fun K1 =>
  f_X8_mix_B_L7_6 K1 10000 p2 (p1 - (1 : Int32)) s0
abbrev rm_X8_mix_B : Room := { frames := 0, cells := 0, slots := 0, locals := 0 }
set_option maxHeartbeats 4000000 in
set_option maxRecDepth 100000 in
theorem c_X8_mix_B (l : Launch) (g : GK) (a0 : Nat → Nat) (v_shelf : Value) (s0 : OuBT) (p1 : Int32) (p2 : Int32) (res : (OuBT)) (hf : f_X8_mix_B s0 p1 p2 = some res) : gM l yX8_mix cX8_mix 7 none rm_X8_mix_B g [.ref (a0 0), .int p1, .int p2] (OuB_c g a0 v_shelf s0) (fun _ : Unit => none) (fun _ => (OuB_c g a0 v_shelf res)) 0 0 := by
  refine gM_introV RX8 (by decide) rfl (Nat.le_of_ble_eq_true rfl) (fun p e s m args below meth c Q H locs ls A hE hnm hZ hA hP hD hS hq hl => ?_)
  have hl : lv_has ls 7 [(0, .ref (a0 0)), (1, .int p1), (2, .int p2)] := hl
  have hx := hE.1
  have hb := hE.2.1
  rw [f_X8_mix_B] at hf
  refine lv_iload_n hx hb dX8_mix_0 rfl (lv_at hl 2 rfl) ?_
  refine lv_istore_n hx hb dX8_mix_1 rfl hl (by decide) (lv' := [(3, .int p2), (0, .ref (a0 0)), (1, .int p1), (2, .int p2)]) rfl (fun ls hl => ?_)
  refine lv_iload_n hx hb dX8_mix_2 rfl (lv_at hl 2 rfl) ?_
  refine lv_iconst hx hb dX8_mix_3 kci_1 ?_
  refine lv_isub hx hb dX8_mix_4 ?_
  refine lv_istore hx hb dX8_mix_5 hl (by decide) (lv' := [(4, .int (p1 - (1 : Int32))), (3, .int p2), (0, .ref (a0 0)), (1, .int p1), (2, .int p2)]) rfl (fun ls hl => ?_)
  obtain ⟨K1, eK1, hf⟩ := gltd hf
  have kK1 : ∀ (s0_2 : OuBT) (ls : Array Slot) (H : Heap) (locs : List Loc), K1 s0_2 = some res → lv_has ls 7 [] → gP g (OuB_c g a0 v_shelf s0_2) H → va_D A (OuB_c g a0 v_shelf s0_2) → va_S A s.heap H locs → W p l e rm_X8_mix_B s m args below meth c H locs 0 0 Q (F0 m 71 ls []) := by
    intro s0_2 ls H locs hf hl hP hD hS
    rw [eK1] at hf
    cases hf
    exact hq () rfl hP hD hS dX8_mix_71
  have lpn7 : ∀ (n7 : Nat) (x3_3 : Int32) (x4_4 : Int32) (s0_5 : OuBT) (ls : Array Slot) (H : Heap) (locs : List Loc), f_X8_mix_B_L7_6 K1 n7 x3_3 x4_4 s0_5 = some res → lv_has ls 7 [(0, .ref (a0 0)), (3, .int x3_3), (4, .int x4_4)] → gP g (OuB_c g a0 v_shelf s0_5) H → va_D A (OuB_c g a0 v_shelf s0_5) → va_S A s.heap H locs → W p l e rm_X8_mix_B s m args below meth c H locs 0 0 Q (F0 m 7 ls []) := by
    intro n7
    induction n7 with
    | zero => intro x3_3 x4_4 s0_5 ls H locs hf hl hP hD hS; rw [f_X8_mix_B_L7_6] at hf; cases hf
    | succ n7 ihn7 =>
      intro x3_3 x4_4 s0_5 ls H locs hf hl hP hD hS
      rw [f_X8_mix_B_L7_6] at hf
      refine lv_iload hx hb dX8_mix_7 (lv_at hl 2 rfl) ?_
      refine lv_iconst hx hb dX8_mix_9 kci_1 ?_
      refine lv_icmp_lt hx hb dX8_mix_10 (tgt := 71) rfl (fun h8 => ?_) (fun h8 => ?_)
      · have hf := gif_t h8 hf
        exact kK1 s0_5 ls H locs hf (lv_sub hl [] rfl) hP hD hS
      · have hf := gif_f h8 hf
        refine lv_bipush hx hb dX8_mix_13 kcb_75 ?_
        refine lv_iload_n hx hb dX8_mix_15 rfl (lv_at hl 1 rfl) ?_
        refine lv_imul hx hb dX8_mix_16 ?_
        refine lv_bipush hx hb dX8_mix_17 kcb_74 ?_
        refine lv_iadd hx hb dX8_mix_19 ?_
        refine g_ldcw hE kd_X8_348 dX8_mix_20 ?_
        refine lv_irem hx hb dX8_mix_23 kne_65537 ?_
        refine lv_istore_n hx hb dX8_mix_24 rfl hl (by decide) (lv' := [(3, .int (irem (((75 : Int32) * x3_3) + (74 : Int32)) (65537 : Int32))), (0, .ref (a0 0)), (4, .int x4_4)]) rfl (fun ls hl => ?_)
        refine lv_iload_n hx hb dX8_mix_25 rfl (lv_at hl 0 rfl) ?_
        refine lv_iload hx hb dX8_mix_26 (lv_at hl 2 rfl) ?_
        refine lv_iconst hx hb dX8_mix_28 kci_1 ?_
        refine lv_iadd hx hb dX8_mix_29 ?_
        obtain ⟨hg9, hf⟩ := ggd hf
        refine lv_irem hx hb dX8_mix_30 hg9 ?_
        refine lv_istore hx hb dX8_mix_31 hl (by decide) (lv' := [(5, .int (irem (irem (((75 : Int32) * x3_3) + (74 : Int32)) (65537 : Int32)) (x4_4 + (1 : Int32)))), (3, .int (irem (((75 : Int32) * x3_3) + (74 : Int32)) (65537 : Int32))), (0, .ref (a0 0)), (4, .int x4_4)]) rfl (fun ls hl => ?_)
        refine lv_aload_n hx hb dX8_mix_33 rfl (lv_at hl 2 rfl) ?_
        refine g_get hE okX8 fl_X8_27 hP 0 rfl (v := .ref (a0 18)) rfl dX8_mix_34 ?_
        refine lv_iload hx hb dX8_mix_37 (lv_at hl 3 rfl) ?_
        obtain ⟨hg10, hf⟩ := ggd hf
        refine g_iald hE hP 18 (f := (OuB_order s0_5)) rfl hg10 dX8_mix_39 ?_
        refine lv_istore hx hb dX8_mix_40 hl (by decide) (lv' := [(6, .int ((OuB_order s0_5) (ix x4_4))), (5, .int (irem (irem (((75 : Int32) * x3_3) + (74 : Int32)) (65537 : Int32)) (x4_4 + (1 : Int32)))), (3, .int (irem (((75 : Int32) * x3_3) + (74 : Int32)) (65537 : Int32))), (0, .ref (a0 0)), (4, .int x4_4)]) rfl (fun ls hl => ?_)
        refine lv_aload_n hx hb dX8_mix_42 rfl (lv_at hl 3 rfl) ?_
        refine g_get hE okX8 fl_X8_27 hP 0 rfl (v := .ref (a0 18)) rfl dX8_mix_43 ?_
        refine lv_iload hx hb dX8_mix_46 (lv_at hl 4 rfl) ?_
        refine lv_aload_n hx hb dX8_mix_48 rfl (lv_at hl 3 rfl) ?_
        refine g_get hE okX8 fl_X8_27 hP 0 rfl (v := .ref (a0 18)) rfl dX8_mix_49 ?_
        refine lv_iload hx hb dX8_mix_52 (lv_at hl 1 rfl) ?_
        obtain ⟨hg11, hf⟩ := ggd hf
        refine g_iald hE hP 18 (f := (OuB_order s0_5)) rfl hg11 dX8_mix_54 ?_
        obtain ⟨hg12, hf⟩ := ggd hf
        refine g_iast hE hP hD hS 18 (f := (OuB_order s0_5)) rfl hg12 (OuB_c g a0 v_shelf (OuB_w_order s0_5 (upd (OuB_order s0_5) (ix x4_4) ((OuB_order s0_5) (ix (irem (irem (((75 : Int32) * x3_3) + (74 : Int32)) (65537 : Int32)) (x4_4 + (1 : Int32)))))))) rfl dX8_mix_55 (fun H locs hP hD hS => ?_)
        refine lv_aload_n hx hb dX8_mix_56 rfl (lv_at hl 3 rfl) ?_
        refine g_get hE okX8 fl_X8_27 hP 0 rfl (v := .ref (a0 18)) rfl dX8_mix_57 ?_
        refine lv_iload hx hb dX8_mix_60 (lv_at hl 1 rfl) ?_
        refine lv_iload hx hb dX8_mix_62 (lv_at hl 0 rfl) ?_
        obtain ⟨hg13, hf⟩ := ggd hf
        refine g_iast hE hP hD hS 18 (f := (upd (OuB_order s0_5) (ix x4_4) ((OuB_order s0_5) (ix (irem (irem (((75 : Int32) * x3_3) + (74 : Int32)) (65537 : Int32)) (x4_4 + (1 : Int32))))))) rfl hg13 (OuB_c g a0 v_shelf (OuB_w_order s0_5 (upd (upd (OuB_order s0_5) (ix x4_4) ((OuB_order s0_5) (ix (irem (irem (((75 : Int32) * x3_3) + (74 : Int32)) (65537 : Int32)) (x4_4 + (1 : Int32)))))) (ix (irem (irem (((75 : Int32) * x3_3) + (74 : Int32)) (65537 : Int32)) (x4_4 + (1 : Int32)))) ((OuB_order s0_5) (ix x4_4))))) rfl dX8_mix_64 (fun H locs hP hD hS => ?_)
        refine lv_iinc hx hb dX8_mix_65 hl (k := 4) (x := x4_4) rfl (kinc_m1 _) (by decide) (lv' := [(4, .int (x4_4 + (-1 : Int32))), (6, .int ((OuB_order s0_5) (ix x4_4))), (5, .int (irem (irem (((75 : Int32) * x3_3) + (74 : Int32)) (65537 : Int32)) (x4_4 + (1 : Int32)))), (3, .int (irem (((75 : Int32) * x3_3) + (74 : Int32)) (65537 : Int32))), (0, .ref (a0 0))]) rfl (fun ls hl => ?_)
        refine lv_goto hx hb dX8_mix_68 (tgt := 7) rfl ?_
        exact ihn7 (irem (((75 : Int32) * x3_3) + (74 : Int32)) (65537 : Int32)) (x4_4 + (-1 : Int32)) (OuB_w_order s0_5 (upd (upd (OuB_order s0_5) (ix x4_4) ((OuB_order s0_5) (ix (irem (irem (((75 : Int32) * x3_3) + (74 : Int32)) (65537 : Int32)) (x4_4 + (1 : Int32)))))) (ix (irem (irem (((75 : Int32) * x3_3) + (74 : Int32)) (65537 : Int32)) (x4_4 + (1 : Int32)))) ((OuB_order s0_5) (ix x4_4)))) ls H locs hf (lv_sub hl [4, 3, 0] rfl) hP hD hS
  exact lpn7 10000 p2 (p1 - (1 : Int32)) s0 ls H locs hf (lv_sub hl [2, 1, 0] rfl) hP hD hS
theorem dX8_doLines_0 : decode cX8_doLines 0 = .ok (.aload_n 1, 1) := by decide +kernel
theorem dX8_doLines_1 : decode cX8_doLines 1 = .ok (.getfield 107, 3) := by decide +kernel
theorem dX8_doLines_4 : decode cX8_doLines 4 = .ok (.aload_n 0, 1) := by decide +kernel
theorem dX8_doLines_5 : decode cX8_doLines 5 = .ok (.getfield 14, 3) := by decide +kernel
theorem dX8_doLines_8 : decode cX8_doLines 8 = .ok (.getfield 339, 3) := by decide +kernel
theorem dX8_doLines_11 : decode cX8_doLines 11 = .ok (.invokevirtual 340, 3) := by decide +kernel
theorem dX8_doLines_14 : decode cX8_doLines 14 = .ok (.aload_n 1, 1) := by decide +kernel
theorem dX8_doLines_15 : decode cX8_doLines 15 = .ok (.getfield 111, 3) := by decide +kernel
theorem dX8_doLines_18 : decode cX8_doLines 18 = .ok (.aload_n 0, 1) := by decide +kernel
theorem dX8_doLines_19 : decode cX8_doLines 19 = .ok (.getfield 14, 3) := by decide +kernel
theorem dX8_doLines_22 : decode cX8_doLines 22 = .ok (.getfield 343, 3) := by decide +kernel
theorem dX8_doLines_25 : decode cX8_doLines 25 = .ok (.invokevirtual 340, 3) := by decide +kernel
theorem dX8_doLines_28 : decode cX8_doLines 28 = .ok (.aload_n 1, 1) := by decide +kernel
theorem dX8_doLines_29 : decode cX8_doLines 29 = .ok (.getfield 139, 3) := by decide +kernel
theorem dX8_doLines_32 : decode cX8_doLines 32 = .ok (.getfield 192, 3) := by decide +kernel
theorem dX8_doLines_35 : decode cX8_doLines 35 = .ok (.getfield 269, 3) := by decide +kernel
theorem dX8_doLines_38 : decode cX8_doLines 38 = .ok (.istore_n 2, 1) := by decide +kernel
theorem dX8_doLines_39 : decode cX8_doLines 39 = .ok (.iconst 0, 1) := by decide +kernel
theorem dX8_doLines_40 : decode cX8_doLines 40 = .ok (.istore_n 3, 1) := by decide +kernel
theorem dX8_doLines_41 : decode cX8_doLines 41 = .ok (.iload_n 3, 1) := by decide +kernel
theorem dX8_doLines_42 : decode cX8_doLines 42 = .ok (.aload_n 0, 1) := by decide +kernel
theorem dX8_doLines_43 : decode cX8_doLines 43 = .ok (.getfield 14, 3) := by decide +kernel
theorem dX8_doLines_46 : decode cX8_doLines 46 = .ok (.getfield 344, 3) := by decide +kernel
theorem dX8_doLines_49 : decode cX8_doLines 49 = .ok (.if_icmp .ge 92, 3) := by decide +kernel
theorem dX8_doLines_52 : decode cX8_doLines 52 = .ok (.iload_n 3, 1) := by decide +kernel
theorem dX8_doLines_53 : decode cX8_doLines 53 = .ok (.bipush 40, 2) := by decide +kernel
theorem dX8_doLines_55 : decode cX8_doLines 55 = .ok (.if_icmp .ge 86, 3) := by decide +kernel
theorem dX8_doLines_58 : decode cX8_doLines 58 = .ok (.iload_n 3, 1) := by decide +kernel
theorem dX8_doLines_59 : decode cX8_doLines 59 = .ok (.iconst 5, 1) := by decide +kernel
theorem dX8_doLines_60 : decode cX8_doLines 60 = .ok (.imul, 1) := by decide +kernel
theorem dX8_doLines_61 : decode cX8_doLines 61 = .ok (.istore 4, 2) := by decide +kernel
theorem dX8_doLines_63 : decode cX8_doLines 63 = .ok (.aload_n 0, 1) := by decide +kernel
theorem dX8_doLines_64 : decode cX8_doLines 64 = .ok (.getfield 14, 3) := by decide +kernel
theorem dX8_doLines_67 : decode cX8_doLines 67 = .ok (.getfield 345, 3) := by decide +kernel
theorem dX8_doLines_70 : decode cX8_doLines 70 = .ok (.astore 5, 2) := by decide +kernel
theorem dX8_doLines_72 : decode cX8_doLines 72 = .ok (.aload 5, 2) := by decide +kernel
theorem dX8_doLines_74 : decode cX8_doLines 74 = .ok (.iload 4, 2) := by decide +kernel
theorem dX8_doLines_76 : decode cX8_doLines 76 = .ok (.iconst 3, 1) := by decide +kernel
theorem dX8_doLines_77 : decode cX8_doLines 77 = .ok (.iadd, 1) := by decide +kernel
theorem dX8_doLines_78 : decode cX8_doLines 78 = .ok (.iaload, 1) := by decide +kernel
theorem dX8_doLines_79 : decode cX8_doLines 79 = .ok (.ifCond .ne 18, 3) := by decide +kernel
theorem dX8_doLines_82 : decode cX8_doLines 82 = .ok (.aload_n 1, 1) := by decide +kernel
theorem dX8_doLines_83 : decode cX8_doLines 83 = .ok (.aload 5, 2) := by decide +kernel
theorem dX8_doLines_85 : decode cX8_doLines 85 = .ok (.iload 4, 2) := by decide +kernel
theorem dX8_doLines_87 : decode cX8_doLines 87 = .ok (.iconst 4, 1) := by decide +kernel
theorem dX8_doLines_88 : decode cX8_doLines 88 = .ok (.iadd, 1) := by decide +kernel
theorem dX8_doLines_89 : decode cX8_doLines 89 = .ok (.iaload, 1) := by decide +kernel
theorem dX8_doLines_90 : decode cX8_doLines 90 = .ok (.invokevirtual 306, 3) := by decide +kernel
theorem dX8_doLines_93 : decode cX8_doLines 93 = .ok (.pop, 1) := by decide +kernel
theorem dX8_doLines_94 : decode cX8_doLines 94 = .ok (.goto 41, 3) := by decide +kernel
theorem dX8_doLines_97 : decode cX8_doLines 97 = .ok (.aload_n 1, 1) := by decide +kernel
theorem dX8_doLines_98 : decode cX8_doLines 98 = .ok (.aload 5, 2) := by decide +kernel
theorem dX8_doLines_100 : decode cX8_doLines 100 = .ok (.iload 4, 2) := by decide +kernel
theorem dX8_doLines_102 : decode cX8_doLines 102 = .ok (.iaload, 1) := by decide +kernel
theorem dX8_doLines_103 : decode cX8_doLines 103 = .ok (.aload 5, 2) := by decide +kernel
theorem dX8_doLines_105 : decode cX8_doLines 105 = .ok (.iload 4, 2) := by decide +kernel
theorem dX8_doLines_107 : decode cX8_doLines 107 = .ok (.iconst 1, 1) := by decide +kernel
theorem dX8_doLines_108 : decode cX8_doLines 108 = .ok (.iadd, 1) := by decide +kernel
theorem dX8_doLines_109 : decode cX8_doLines 109 = .ok (.iaload, 1) := by decide +kernel
theorem dX8_doLines_110 : decode cX8_doLines 110 = .ok (.aload 5, 2) := by decide +kernel
theorem dX8_doLines_112 : decode cX8_doLines 112 = .ok (.iload 4, 2) := by decide +kernel
theorem dX8_doLines_114 : decode cX8_doLines 114 = .ok (.iconst 2, 1) := by decide +kernel
theorem dX8_doLines_115 : decode cX8_doLines 115 = .ok (.iadd, 1) := by decide +kernel
theorem dX8_doLines_116 : decode cX8_doLines 116 = .ok (.iaload, 1) := by decide +kernel
theorem dX8_doLines_117 : decode cX8_doLines 117 = .ok (.aload 5, 2) := by decide +kernel
theorem dX8_doLines_119 : decode cX8_doLines 119 = .ok (.iload 4, 2) := by decide +kernel
theorem dX8_doLines_121 : decode cX8_doLines 121 = .ok (.iconst 3, 1) := by decide +kernel
theorem dX8_doLines_122 : decode cX8_doLines 122 = .ok (.iadd, 1) := by decide +kernel
theorem dX8_doLines_123 : decode cX8_doLines 123 = .ok (.iaload, 1) := by decide +kernel
theorem dX8_doLines_124 : decode cX8_doLines 124 = .ok (.aload 5, 2) := by decide +kernel
theorem dX8_doLines_126 : decode cX8_doLines 126 = .ok (.iload 4, 2) := by decide +kernel
theorem dX8_doLines_128 : decode cX8_doLines 128 = .ok (.iconst 4, 1) := by decide +kernel
theorem dX8_doLines_129 : decode cX8_doLines 129 = .ok (.iadd, 1) := by decide +kernel
theorem dX8_doLines_130 : decode cX8_doLines 130 = .ok (.iaload, 1) := by decide +kernel
theorem dX8_doLines_131 : decode cX8_doLines 131 = .ok (.invokevirtual 300, 3) := by decide +kernel
theorem dX8_doLines_134 : decode cX8_doLines 134 = .ok (.pop, 1) := by decide +kernel
theorem dX8_doLines_135 : decode cX8_doLines 135 = .ok (.iinc 3 1, 3) := by decide +kernel
theorem dX8_doLines_138 : decode cX8_doLines 138 = .ok (.goto (-97), 3) := by decide +kernel
theorem dX8_doLines_141 : decode cX8_doLines 141 = .ok (.aload_n 1, 1) := by decide +kernel
theorem dX8_doLines_142 : decode cX8_doLines 142 = .ok (.getfield 139, 3) := by decide +kernel
theorem dX8_doLines_145 : decode cX8_doLines 145 = .ok (.getfield 192, 3) := by decide +kernel
theorem dX8_doLines_148 : decode cX8_doLines 148 = .ok (.getfield 269, 3) := by decide +kernel
theorem dX8_doLines_151 : decode cX8_doLines 151 = .ok (.iload_n 2, 1) := by decide +kernel
theorem dX8_doLines_152 : decode cX8_doLines 152 = .ok (.isub, 1) := by decide +kernel
theorem dX8_doLines_153 : decode cX8_doLines 153 = .ok (.ireturn, 1) := by decide +kernel
def f_X8_doLines_B_L41_9 (K5 : (OuBT → Option (Int32 × OuBT))) : Nat → Int32 → OuBT → Option (Int32 × OuBT)
  | 0, _, _ => none
  | n10 + 1, x3_7, s0_8 => if (Rd_count (OuB_reader s0_8)) ≤ x3_7 then K5 s0_8
  else if (40 : Int32) ≤ x3_7 then K5 s0_8
  else if inb ((x3_7 * (5 : Int32)) + (3 : Int32)) 200 then if ((Rd_lines (OuB_reader s0_8)) (ix ((x3_7 * (5 : Int32)) + (3 : Int32)))) = 0 then if inb ((x3_7 * (5 : Int32)) + (4 : Int32)) 200 then (f_X1_advance (OuB_books s0_8) ((Rd_lines (OuB_reader s0_8)) (ix ((x3_7 * (5 : Int32)) + (4 : Int32))))).bind fun r23 =>
  f_X8_doLines_B_L41_9 K5 n10 (x3_7 + (1 : Int32)) (OuB_w_books s0_8 (r23.2)) else none
  else if inb (x3_7 * (5 : Int32)) 200 then if inb ((x3_7 * (5 : Int32)) + (1 : Int32)) 200 then if inb ((x3_7 * (5 : Int32)) + (2 : Int32)) 200 then if inb ((x3_7 * (5 : Int32)) + (3 : Int32)) 200 then if inb ((x3_7 * (5 : Int32)) + (4 : Int32)) 200 then (f_X1_happen (OuB_books s0_8) ((Rd_lines (OuB_reader s0_8)) (ix (x3_7 * (5 : Int32)))) ((Rd_lines (OuB_reader s0_8)) (ix ((x3_7 * (5 : Int32)) + (1 : Int32)))) ((Rd_lines (OuB_reader s0_8)) (ix ((x3_7 * (5 : Int32)) + (2 : Int32)))) ((Rd_lines (OuB_reader s0_8)) (ix ((x3_7 * (5 : Int32)) + (3 : Int32)))) ((Rd_lines (OuB_reader s0_8)) (ix ((x3_7 * (5 : Int32)) + (4 : Int32))))).bind fun r20 =>
  f_X8_doLines_B_L41_9 K5 n10 (x3_7 + (1 : Int32)) (OuB_w_books s0_8 (r20.2)) else none else none else none else none else none else none
def f_X8_doLines_B (s0 : OuBT) : Option (Int32 × OuBT) :=
  (f_X7_copyFrom (Bk_keys (OuB_books s0)) (Rd_keys (OuB_reader s0))).bind fun r1 =>
  (f_X7_copyFrom (Bk_values (OuB_books s0)) (Rd_values (OuB_reader s0))).bind fun r3 =>
  glt (fun (s0_6 : OuBT) => some (((Lg_total (Bd_ledger (Bk_board (OuB_books s0_6)))) - (Lg_total (Bd_ledger (Bk_board (OuB_books s0))))), s0_6)) fun K5 =>
  f_X8_doLines_B_L41_9 K5 10000 (0 : Int32) (OuB_w_books s0 (Bk_w_values (Bk_w_keys (OuB_books s0) r1) r3))
abbrev rm_X8_doLines_B : Room := { frames := 5, cells := 0, slots := 0, locals := 130 }
set_option maxHeartbeats 4000000 in
set_option maxRecDepth 100000 in
theorem c_X8_doLines_B (l : Launch) (g : GK) (a0 : Nat → Nat) (v_shelf : Value) (s0 : OuBT) (res : (Int32 × OuBT)) (hf : f_X8_doLines_B s0 = some res) : gM l yX8_doLines cX8_doLines 6 (some .int) rm_X8_doLines_B g [.ref (a0 0), .ref (a0 19)] (OuB_c g a0 v_shelf s0) (fun _ : Unit => (some (.int (res.1)))) (fun _ => (OuB_c g a0 v_shelf (res.2))) 0 0 := by
  refine gM_introI RX8 (by decide) rfl (Nat.le_of_ble_eq_true rfl) (fun p e s m args below meth c Q H locs ls A hE hZ hA hP hD hS hq hl => ?_)
  have hl : lv_has ls 6 [(0, .ref (a0 0)), (1, .ref (a0 19))] := hl
  have hx := hE.1
  have hb := hE.2.1
  rw [f_X8_doLines_B] at hf
  refine lv_aload_n hx hb dX8_doLines_0 rfl (lv_at hl 1 rfl) ?_
  refine g_get hE okX1 fl_X8_107 hP 19 rfl (v := .ref (a0 20)) rfl dX8_doLines_1 ?_
  refine lv_aload_n hx hb dX8_doLines_4 rfl (lv_at hl 0 rfl) ?_
  refine g_get hE okX8 fl_X8_14 hP 0 rfl (v := .ref (a0 1)) rfl dX8_doLines_5 ?_
  refine g_get hE okX3 fl_X8_339 hP 1 rfl (v := .ref (a0 4)) rfl dX8_doLines_8 ?_
  obtain ⟨r1, hc2, hf⟩ := gbd hf
  refine gm_callV2r (As := [.ref (a0 4)]) (rest := []) (st1 := fun _ => []) (ws' := fun _ => (OuB_c g a0 v_shelf (OuB_w_books s0 (Bk_w_keys (OuB_books s0) r1)))) hE hl.1 ml_X8_340 (c_X7_copyFrom l g (fun k => a0 (k + 20)) (Bk_keys (OuB_books s0)) (fun k => a0 (k + 4)) (Rd_keys (OuB_reader s0)) r1 hc2) hZ hP hD hS hA 4 6 14 22 rfl (fun _ => rfl) okX7 rfl rfl rfl (fun _ => rfl) ⟨rfl, rfl⟩ ⟨Nat.le_of_ble_eq_true rfl, Nat.le_of_ble_eq_true rfl⟩ ⟨Nat.le_refl _, Nat.le_refl _⟩ (Nat.le_of_ble_eq_true rfl) dX8_doLines_11 (fun _ H locs hP hD hS => ?_)
  refine lv_aload_n hx hb dX8_doLines_14 rfl (lv_at hl 1 rfl) ?_
  refine g_get hE okX1 fl_X8_111 hP 19 rfl (v := .ref (a0 22)) rfl dX8_doLines_15 ?_
  refine lv_aload_n hx hb dX8_doLines_18 rfl (lv_at hl 0 rfl) ?_
  refine g_get hE okX8 fl_X8_14 hP 0 rfl (v := .ref (a0 1)) rfl dX8_doLines_19 ?_
  refine g_get hE okX3 fl_X8_343 hP 1 rfl (v := .ref (a0 6)) rfl dX8_doLines_22 ?_
  obtain ⟨r3, hc4, hf⟩ := gbd hf
  refine gm_callV2r (As := [.ref (a0 6)]) (rest := []) (st1 := fun _ => []) (ws' := fun _ => (OuB_c g a0 v_shelf (OuB_w_books s0 (Bk_w_values (Bk_w_keys (OuB_books s0) r1) r3)))) hE hl.1 ml_X8_340 (c_X7_copyFrom l g (fun k => a0 (k + 22)) (Bk_values (OuB_books s0)) (fun k => a0 (k + 6)) (Rd_values (OuB_reader s0)) r3 hc4) hZ hP hD hS hA 6 8 14 24 rfl (fun _ => rfl) okX7 rfl rfl rfl (fun _ => rfl) ⟨rfl, rfl⟩ ⟨Nat.le_of_ble_eq_true rfl, Nat.le_of_ble_eq_true rfl⟩ ⟨Nat.le_refl _, Nat.le_refl _⟩ (Nat.le_of_ble_eq_true rfl) dX8_doLines_25 (fun _ H locs hP hD hS => ?_)
  refine lv_aload_n hx hb dX8_doLines_28 rfl (lv_at hl 1 rfl) ?_
  refine g_get hE okX1 fl_X8_139 hP 19 rfl (v := .ref (a0 24)) rfl dX8_doLines_29 ?_
  refine g_get hE okX0 fl_X8_192 hP 24 rfl (v := .ref (a0 28)) rfl dX8_doLines_32 ?_
  refine g_get hE okX2 fl_X8_269 hP 28 rfl (v := .int (Lg_total (Bd_ledger (Bk_board (OuB_books s0))))) rfl dX8_doLines_35 ?_
  refine lv_istore_n hx hb dX8_doLines_38 rfl hl (by decide) (lv' := [(2, .int (Lg_total (Bd_ledger (Bk_board (OuB_books s0))))), (0, .ref (a0 0)), (1, .ref (a0 19))]) rfl (fun ls hl => ?_)
  refine lv_iconst hx hb dX8_doLines_39 kci_0 ?_
  refine lv_istore_n hx hb dX8_doLines_40 rfl hl (by decide) (lv' := [(3, .int (0 : Int32)), (2, .int (Lg_total (Bd_ledger (Bk_board (OuB_books s0))))), (0, .ref (a0 0)), (1, .ref (a0 19))]) rfl (fun ls hl => ?_)
  obtain ⟨K5, eK5, hf⟩ := gltd hf
  have kK5 : ∀ (s0_6 : OuBT) (ls : Array Slot) (H : Heap) (locs : List Loc), K5 s0_6 = some res → lv_has ls 6 [(1, .ref (a0 19)), (2, .int (Lg_total (Bd_ledger (Bk_board (OuB_books s0)))))] → gP g (OuB_c g a0 v_shelf s0_6) H → va_D A (OuB_c g a0 v_shelf s0_6) → va_S A s.heap H locs → W p l e rm_X8_doLines_B s m args below meth c H locs 0 0 Q (F0 m 141 ls []) := by
    intro s0_6 ls H locs hf hl hP hD hS
    rw [eK5] at hf
    refine lv_aload_n hx hb dX8_doLines_141 rfl (lv_at hl 0 rfl) ?_
    refine g_get hE okX1 fl_X8_139 hP 19 rfl (v := .ref (a0 24)) rfl dX8_doLines_142 ?_
    refine g_get hE okX0 fl_X8_192 hP 24 rfl (v := .ref (a0 28)) rfl dX8_doLines_145 ?_
    refine g_get hE okX2 fl_X8_269 hP 28 rfl (v := .int (Lg_total (Bd_ledger (Bk_board (OuB_books s0_6))))) rfl dX8_doLines_148 ?_
    refine lv_iload_n hx hb dX8_doLines_151 rfl (lv_at hl 1 rfl) ?_
    refine lv_isub hx hb dX8_doLines_152 ?_
    cases hf
    exact hq () rfl hP hD hS dX8_doLines_153
  have lpn10 : ∀ (n10 : Nat) (x3_7 : Int32) (s0_8 : OuBT) (ls : Array Slot) (H : Heap) (locs : List Loc), f_X8_doLines_B_L41_9 K5 n10 x3_7 s0_8 = some res → lv_has ls 6 [(0, .ref (a0 0)), (1, .ref (a0 19)), (2, .int (Lg_total (Bd_ledger (Bk_board (OuB_books s0))))), (3, .int x3_7)] → gP g (OuB_c g a0 v_shelf s0_8) H → va_D A (OuB_c g a0 v_shelf s0_8) → va_S A s.heap H locs → W p l e rm_X8_doLines_B s m args below meth c H locs 0 0 Q (F0 m 41 ls []) := by
    intro n10
    induction n10 with
    | zero => intro x3_7 s0_8 ls H locs hf hl hP hD hS; rw [f_X8_doLines_B_L41_9] at hf; cases hf
    | succ n10 ihn10 =>
      intro x3_7 s0_8 ls H locs hf hl hP hD hS
      rw [f_X8_doLines_B_L41_9] at hf
      refine lv_iload_n hx hb dX8_doLines_41 rfl (lv_at hl 3 rfl) ?_
      refine lv_aload_n hx hb dX8_doLines_42 rfl (lv_at hl 0 rfl) ?_
      refine g_get hE okX8 fl_X8_14 hP 0 rfl (v := .ref (a0 1)) rfl dX8_doLines_43 ?_
      refine g_get hE okX3 fl_X8_344 hP 1 rfl (v := .int (Rd_count (OuB_reader s0_8))) rfl dX8_doLines_46 ?_
      refine lv_icmp_ge hx hb dX8_doLines_49 (tgt := 141) rfl (fun h11 => ?_) (fun h11 => ?_)
      · have hf := gif_t h11 hf
        exact kK5 s0_8 ls H locs hf (lv_sub hl [1, 2] rfl) hP hD hS
      · have hf := gif_f h11 hf
        refine lv_iload_n hx hb dX8_doLines_52 rfl (lv_at hl 3 rfl) ?_
        refine lv_bipush hx hb dX8_doLines_53 kcb_40 ?_
        refine lv_icmp_ge hx hb dX8_doLines_55 (tgt := 141) rfl (fun h12 => ?_) (fun h12 => ?_)
        · have hf := gif_t h12 hf
          exact kK5 s0_8 ls H locs hf (lv_sub hl [1, 2] rfl) hP hD hS
        · have hf := gif_f h12 hf
          refine lv_iload_n hx hb dX8_doLines_58 rfl (lv_at hl 3 rfl) ?_
          refine lv_iconst hx hb dX8_doLines_59 kci_5 ?_
          refine lv_imul hx hb dX8_doLines_60 ?_
          refine lv_istore hx hb dX8_doLines_61 hl (by decide) (lv' := [(4, .int (x3_7 * (5 : Int32))), (0, .ref (a0 0)), (1, .ref (a0 19)), (2, .int (Lg_total (Bd_ledger (Bk_board (OuB_books s0))))), (3, .int x3_7)]) rfl (fun ls hl => ?_)
          refine lv_aload_n hx hb dX8_doLines_63 rfl (lv_at hl 1 rfl) ?_
          refine g_get hE okX8 fl_X8_14 hP 0 rfl (v := .ref (a0 1)) rfl dX8_doLines_64 ?_
          refine g_get hE okX3 fl_X8_345 hP 1 rfl (v := .ref (a0 8)) rfl dX8_doLines_67 ?_
          refine lv_astore hx hb dX8_doLines_70 hl (by decide) (lv' := [(5, .ref (a0 8)), (4, .int (x3_7 * (5 : Int32))), (0, .ref (a0 0)), (1, .ref (a0 19)), (2, .int (Lg_total (Bd_ledger (Bk_board (OuB_books s0))))), (3, .int x3_7)]) rfl (fun ls hl => ?_)
          refine lv_aload hx hb dX8_doLines_72 (lv_at hl 0 rfl) ?_
          refine lv_iload hx hb dX8_doLines_74 (lv_at hl 1 rfl) ?_
          refine lv_iconst hx hb dX8_doLines_76 kci_3 ?_
          refine lv_iadd hx hb dX8_doLines_77 ?_
          obtain ⟨hg13, hf⟩ := ggd hf
          refine g_iald hE hP 8 (f := (Rd_lines (OuB_reader s0_8))) rfl hg13 dX8_doLines_78 ?_
          refine lv_if_ne hx hb dX8_doLines_79 (tgt := 97) rfl (fun h14 => ?_) (fun h14 => ?_)
          · have hf := gif_f h14 hf
            refine lv_aload_n hx hb dX8_doLines_97 rfl (lv_at hl 3 rfl) ?_
            refine lv_aload hx hb dX8_doLines_98 (lv_at hl 0 rfl) ?_
            refine lv_iload hx hb dX8_doLines_100 (lv_at hl 1 rfl) ?_
            obtain ⟨hg15, hf⟩ := ggd hf
            refine g_iald hE hP 8 (f := (Rd_lines (OuB_reader s0_8))) rfl hg15 dX8_doLines_102 ?_
            refine lv_aload hx hb dX8_doLines_103 (lv_at hl 0 rfl) ?_
            refine lv_iload hx hb dX8_doLines_105 (lv_at hl 1 rfl) ?_
            refine lv_iconst hx hb dX8_doLines_107 kci_1 ?_
            refine lv_iadd hx hb dX8_doLines_108 ?_
            obtain ⟨hg16, hf⟩ := ggd hf
            refine g_iald hE hP 8 (f := (Rd_lines (OuB_reader s0_8))) rfl hg16 dX8_doLines_109 ?_
            refine lv_aload hx hb dX8_doLines_110 (lv_at hl 0 rfl) ?_
            refine lv_iload hx hb dX8_doLines_112 (lv_at hl 1 rfl) ?_
            refine lv_iconst hx hb dX8_doLines_114 kci_2 ?_
            refine lv_iadd hx hb dX8_doLines_115 ?_
            obtain ⟨hg17, hf⟩ := ggd hf
            refine g_iald hE hP 8 (f := (Rd_lines (OuB_reader s0_8))) rfl hg17 dX8_doLines_116 ?_
            refine lv_aload hx hb dX8_doLines_117 (lv_at hl 0 rfl) ?_
            refine lv_iload hx hb dX8_doLines_119 (lv_at hl 1 rfl) ?_
            refine lv_iconst hx hb dX8_doLines_121 kci_3 ?_
            refine lv_iadd hx hb dX8_doLines_122 ?_
            obtain ⟨hg18, hf⟩ := ggd hf
            refine g_iald hE hP 8 (f := (Rd_lines (OuB_reader s0_8))) rfl hg18 dX8_doLines_123 ?_
            refine lv_aload hx hb dX8_doLines_124 (lv_at hl 0 rfl) ?_
            refine lv_iload hx hb dX8_doLines_126 (lv_at hl 1 rfl) ?_
            refine lv_iconst hx hb dX8_doLines_128 kci_4 ?_
            refine lv_iadd hx hb dX8_doLines_129 ?_
            obtain ⟨hg19, hf⟩ := ggd hf
            refine g_iald hE hP 8 (f := (Rd_lines (OuB_reader s0_8))) rfl hg19 dX8_doLines_130 ?_
            obtain ⟨r20, hc21, hf⟩ := gbd hf
            refine gm_callV1 (As := [.int ((Rd_lines (OuB_reader s0_8)) (ix (x3_7 * (5 : Int32)))), .int ((Rd_lines (OuB_reader s0_8)) (ix ((x3_7 * (5 : Int32)) + (1 : Int32)))), .int ((Rd_lines (OuB_reader s0_8)) (ix ((x3_7 * (5 : Int32)) + (2 : Int32)))), .int ((Rd_lines (OuB_reader s0_8)) (ix ((x3_7 * (5 : Int32)) + (3 : Int32)))), .int ((Rd_lines (OuB_reader s0_8)) (ix ((x3_7 * (5 : Int32)) + (4 : Int32))))]) (rest := []) (st1 := fun _ => [.int (r20.1)]) (ws' := fun _ => (OuB_c g a0 v_shelf (OuB_w_books s0_8 (r20.2)))) hE hl.1 ml_X8_300 (c_X1_happen l g (fun k => a0 (k + 19)) (OuB_books s0_8) ((Rd_lines (OuB_reader s0_8)) (ix (x3_7 * (5 : Int32)))) ((Rd_lines (OuB_reader s0_8)) (ix ((x3_7 * (5 : Int32)) + (1 : Int32)))) ((Rd_lines (OuB_reader s0_8)) (ix ((x3_7 * (5 : Int32)) + (2 : Int32)))) ((Rd_lines (OuB_reader s0_8)) (ix ((x3_7 * (5 : Int32)) + (3 : Int32)))) ((Rd_lines (OuB_reader s0_8)) (ix ((x3_7 * (5 : Int32)) + (4 : Int32)))) r20 hc21) hZ hP hD hS hA 19 44 rfl (fun _ => rfl) okX1 rfl rfl rfl (fun _ => rfl) ⟨rfl, rfl⟩ ⟨Nat.le_of_ble_eq_true rfl, Nat.le_of_ble_eq_true rfl⟩ ⟨Nat.le_refl _, Nat.le_refl _⟩ (Nat.le_of_ble_eq_true rfl) dX8_doLines_131 (fun _ H locs hP hD hS => ?_)
            refine lv_pop hx hb dX8_doLines_134 rfl ?_
            refine lv_iinc hx hb dX8_doLines_135 hl (k := 5) (x := x3_7) rfl (kinc_1 _) (by decide) (lv' := [(3, .int (x3_7 + (1 : Int32))), (5, .ref (a0 8)), (4, .int (x3_7 * (5 : Int32))), (0, .ref (a0 0)), (1, .ref (a0 19)), (2, .int (Lg_total (Bd_ledger (Bk_board (OuB_books s0)))))]) rfl (fun ls hl => ?_)
            refine lv_goto hx hb dX8_doLines_138 (tgt := 41) rfl ?_
            exact ihn10 (x3_7 + (1 : Int32)) (OuB_w_books s0_8 (r20.2)) ls H locs hf (lv_sub hl [3, 4, 5, 0] rfl) hP hD hS
          · have hf := gif_t h14 hf
            refine lv_aload_n hx hb dX8_doLines_82 rfl (lv_at hl 3 rfl) ?_
            refine lv_aload hx hb dX8_doLines_83 (lv_at hl 0 rfl) ?_
            refine lv_iload hx hb dX8_doLines_85 (lv_at hl 1 rfl) ?_
            refine lv_iconst hx hb dX8_doLines_87 kci_4 ?_
            refine lv_iadd hx hb dX8_doLines_88 ?_
            obtain ⟨hg22, hf⟩ := ggd hf
            refine g_iald hE hP 8 (f := (Rd_lines (OuB_reader s0_8))) rfl hg22 dX8_doLines_89 ?_
            obtain ⟨r23, hc24, hf⟩ := gbd hf
            refine gm_callV1 (As := [.int ((Rd_lines (OuB_reader s0_8)) (ix ((x3_7 * (5 : Int32)) + (4 : Int32))))]) (rest := []) (st1 := fun _ => [.int (r23.1)]) (ws' := fun _ => (OuB_c g a0 v_shelf (OuB_w_books s0_8 (r23.2)))) hE hl.1 ml_X8_306 (c_X1_advance l g (fun k => a0 (k + 19)) (OuB_books s0_8) ((Rd_lines (OuB_reader s0_8)) (ix ((x3_7 * (5 : Int32)) + (4 : Int32)))) r23 hc24) hZ hP hD hS hA 19 44 rfl (fun _ => rfl) okX1 rfl rfl rfl (fun _ => rfl) ⟨rfl, rfl⟩ ⟨Nat.le_of_ble_eq_true rfl, Nat.le_of_ble_eq_true rfl⟩ ⟨Nat.le_refl _, Nat.le_refl _⟩ (Nat.le_of_ble_eq_true rfl) dX8_doLines_90 (fun _ H locs hP hD hS => ?_)
            refine lv_pop hx hb dX8_doLines_93 rfl ?_
            refine lv_goto hx hb dX8_doLines_94 (tgt := 135) rfl ?_
            refine lv_iinc hx hb dX8_doLines_135 hl (k := 5) (x := x3_7) rfl (kinc_1 _) (by decide) (lv' := [(3, .int (x3_7 + (1 : Int32))), (5, .ref (a0 8)), (4, .int (x3_7 * (5 : Int32))), (0, .ref (a0 0)), (1, .ref (a0 19)), (2, .int (Lg_total (Bd_ledger (Bk_board (OuB_books s0)))))]) rfl (fun ls hl => ?_)
            refine lv_goto hx hb dX8_doLines_138 (tgt := 41) rfl ?_
            exact ihn10 (x3_7 + (1 : Int32)) (OuB_w_books s0_8 (r23.2)) ls H locs hf (lv_sub hl [3, 4, 5, 0] rfl) hP hD hS
  exact lpn10 10000 (0 : Int32) (OuB_w_books s0 (Bk_w_values (Bk_w_keys (OuB_books s0) r1) r3)) ls H locs hf (lv_sub hl [2, 3, 1, 0] rfl) hP hD hS
theorem dX8_tryStore_0 : decode cX8_tryStore 0 = .ok (.aload_n 0, 1) := by decide +kernel
theorem dX8_tryStore_1 : decode cX8_tryStore 1 = .ok (.getfield 21, 3) := by decide +kernel
theorem dX8_tryStore_4 : decode cX8_tryStore 4 = .ok (.iload_n 2, 1) := by decide +kernel
theorem dX8_tryStore_5 : decode cX8_tryStore 5 = .ok (.invokevirtual 247, 3) := by decide +kernel
theorem dX8_tryStore_8 : decode cX8_tryStore 8 = .ok (.iconst 0, 1) := by decide +kernel
theorem dX8_tryStore_9 : decode cX8_tryStore 9 = .ok (.istore_n 3, 1) := by decide +kernel
theorem dX8_tryStore_10 : decode cX8_tryStore 10 = .ok (.iload_n 3, 1) := by decide +kernel
theorem dX8_tryStore_11 : decode cX8_tryStore 11 = .ok (.aload_n 1, 1) := by decide +kernel
theorem dX8_tryStore_12 : decode cX8_tryStore 12 = .ok (.getfield 283, 3) := by decide +kernel
theorem dX8_tryStore_15 : decode cX8_tryStore 15 = .ok (.if_icmp .ge 58, 3) := by decide +kernel
theorem dX8_tryStore_18 : decode cX8_tryStore 18 = .ok (.iload_n 3, 1) := by decide +kernel
theorem dX8_tryStore_19 : decode cX8_tryStore 19 = .ok (.bipush 60, 2) := by decide +kernel
theorem dX8_tryStore_21 : decode cX8_tryStore 21 = .ok (.if_icmp .ge 52, 3) := by decide +kernel
theorem dX8_tryStore_24 : decode cX8_tryStore 24 = .ok (.aload_n 0, 1) := by decide +kernel
theorem dX8_tryStore_25 : decode cX8_tryStore 25 = .ok (.getfield 27, 3) := by decide +kernel
theorem dX8_tryStore_28 : decode cX8_tryStore 28 = .ok (.iload_n 3, 1) := by decide +kernel
theorem dX8_tryStore_29 : decode cX8_tryStore 29 = .ok (.iaload, 1) := by decide +kernel
theorem dX8_tryStore_30 : decode cX8_tryStore 30 = .ok (.istore 4, 2) := by decide +kernel
theorem dX8_tryStore_32 : decode cX8_tryStore 32 = .ok (.aload_n 0, 1) := by decide +kernel
theorem dX8_tryStore_33 : decode cX8_tryStore 33 = .ok (.getfield 21, 3) := by decide +kernel
theorem dX8_tryStore_36 : decode cX8_tryStore 36 = .ok (.aload_n 1, 1) := by decide +kernel
theorem dX8_tryStore_37 : decode cX8_tryStore 37 = .ok (.getfield 349, 3) := by decide +kernel
theorem dX8_tryStore_40 : decode cX8_tryStore 40 = .ok (.iload 4, 2) := by decide +kernel
theorem dX8_tryStore_42 : decode cX8_tryStore 42 = .ok (.iaload, 1) := by decide +kernel
theorem dX8_tryStore_43 : decode cX8_tryStore 43 = .ok (.aload_n 1, 1) := by decide +kernel
theorem dX8_tryStore_44 : decode cX8_tryStore 44 = .ok (.getfield 352, 3) := by decide +kernel
theorem dX8_tryStore_47 : decode cX8_tryStore 47 = .ok (.iload 4, 2) := by decide +kernel
theorem dX8_tryStore_49 : decode cX8_tryStore 49 = .ok (.iaload, 1) := by decide +kernel
theorem dX8_tryStore_50 : decode cX8_tryStore 50 = .ok (.aload_n 1, 1) := by decide +kernel
theorem dX8_tryStore_51 : decode cX8_tryStore 51 = .ok (.getfield 354, 3) := by decide +kernel
theorem dX8_tryStore_54 : decode cX8_tryStore 54 = .ok (.iload 4, 2) := by decide +kernel
theorem dX8_tryStore_56 : decode cX8_tryStore 56 = .ok (.iaload, 1) := by decide +kernel
theorem dX8_tryStore_57 : decode cX8_tryStore 57 = .ok (.aload_n 1, 1) := by decide +kernel
theorem dX8_tryStore_58 : decode cX8_tryStore 58 = .ok (.getfield 356, 3) := by decide +kernel
theorem dX8_tryStore_61 : decode cX8_tryStore 61 = .ok (.iload 4, 2) := by decide +kernel
theorem dX8_tryStore_63 : decode cX8_tryStore 63 = .ok (.iaload, 1) := by decide +kernel
theorem dX8_tryStore_64 : decode cX8_tryStore 64 = .ok (.invokevirtual 265, 3) := by decide +kernel
theorem dX8_tryStore_67 : decode cX8_tryStore 67 = .ok (.iinc 3 1, 3) := by decide +kernel
theorem dX8_tryStore_70 : decode cX8_tryStore 70 = .ok (.goto (-60), 3) := by decide +kernel
theorem dX8_tryStore_73 : decode cX8_tryStore 73 = .ok (.return_, 1) := by decide +kernel
def f_X8_tryStore_B_L10_7 (K3 : (OuBT → Option (OuBT))) : Nat → Int32 → OuBT → Option (OuBT)
  | 0, _, _ => none
  | n8 + 1, x3_5, s0_6 => if (St_count (Bk_store (OuB_books s0_6))) ≤ x3_5 then K3 s0_6
  else if (60 : Int32) ≤ x3_5 then K3 s0_6
  else if inb x3_5 60 then if inb ((OuB_order s0_6) (ix x3_5)) 60 then if inb ((OuB_order s0_6) (ix x3_5)) 60 then if inb ((OuB_order s0_6) (ix x3_5)) 60 then if inb ((OuB_order s0_6) (ix x3_5)) 60 then (f_X0_change (OuB_trial s0_6) ((St_sides (Bk_store (OuB_books s0_6))) (ix ((OuB_order s0_6) (ix x3_5)))) ((St_keys (Bk_store (OuB_books s0_6))) (ix ((OuB_order s0_6) (ix x3_5)))) ((St_values (Bk_store (OuB_books s0_6))) (ix ((OuB_order s0_6) (ix x3_5)))) ((St_manies (Bk_store (OuB_books s0_6))) (ix ((OuB_order s0_6) (ix x3_5))))).bind fun r16 =>
  f_X8_tryStore_B_L10_7 K3 n8 (x3_5 + (1 : Int32)) (OuB_w_trial s0_6 r16) else none else none else none else none else none
def f_X8_tryStore_B (s0 : OuBT) (p1 : Int32) : Option (OuBT) :=
  (f_X0_clear (OuB_trial s0) p1).bind fun r1 =>
  glt (fun (s0_4 : OuBT) => some (s0_4)) fun K3 =>
  f_X8_tryStore_B_L10_7 K3 10000 (0 : Int32) (OuB_w_trial s0 r1)
abbrev rm_X8_tryStore_B : Room := { frames := 4, cells := 0, slots := 0, locals := 105 }
set_option maxHeartbeats 4000000 in
set_option maxRecDepth 100000 in
theorem c_X8_tryStore_B (l : Launch) (g : GK) (a0 : Nat → Nat) (v_shelf : Value) (s0 : OuBT) (p1 : Int32) (res : (OuBT)) (hf : f_X8_tryStore_B s0 p1 = some res) : gM l yX8_tryStore cX8_tryStore 5 none rm_X8_tryStore_B g [.ref (a0 0), .ref (a0 33), .int p1] (OuB_c g a0 v_shelf s0) (fun _ : Unit => none) (fun _ => (OuB_c g a0 v_shelf res)) 0 0 := by
  refine gM_introV RX8 (by decide) rfl (Nat.le_of_ble_eq_true rfl) (fun p e s m args below meth c Q H locs ls A hE hnm hZ hA hP hD hS hq hl => ?_)
  have hl : lv_has ls 5 [(0, .ref (a0 0)), (1, .ref (a0 33)), (2, .int p1)] := hl
  have hx := hE.1
  have hb := hE.2.1
  rw [f_X8_tryStore_B] at hf
  refine lv_aload_n hx hb dX8_tryStore_0 rfl (lv_at hl 0 rfl) ?_
  refine g_get hE okX8 fl_X8_21 hP 0 rfl (v := .ref (a0 9)) rfl dX8_tryStore_1 ?_
  refine lv_iload_n hx hb dX8_tryStore_4 rfl (lv_at hl 2 rfl) ?_
  obtain ⟨r1, hc2, hf⟩ := gbd hf
  refine gm_callV1 (As := [.int p1]) (rest := []) (st1 := fun _ => []) (ws' := fun _ => (OuB_c g a0 v_shelf (OuB_w_trial s0 r1))) hE hl.1 ml_X8_247 (c_X0_clear l g (fun k => a0 (k + 9)) (OuB_trial s0) p1 r1 hc2) hZ hP hD hS hA 9 18 rfl (fun _ => rfl) okX0 rfl rfl rfl (fun _ => rfl) ⟨rfl, rfl⟩ ⟨Nat.le_of_ble_eq_true rfl, Nat.le_of_ble_eq_true rfl⟩ ⟨Nat.le_refl _, Nat.le_refl _⟩ (Nat.le_of_ble_eq_true rfl) dX8_tryStore_5 (fun _ H locs hP hD hS => ?_)
  refine lv_iconst hx hb dX8_tryStore_8 kci_0 ?_
  refine lv_istore_n hx hb dX8_tryStore_9 rfl hl (by decide) (lv' := [(3, .int (0 : Int32)), (0, .ref (a0 0)), (1, .ref (a0 33)), (2, .int p1)]) rfl (fun ls hl => ?_)
  obtain ⟨K3, eK3, hf⟩ := gltd hf
  have kK3 : ∀ (s0_4 : OuBT) (ls : Array Slot) (H : Heap) (locs : List Loc), K3 s0_4 = some res → lv_has ls 5 [] → gP g (OuB_c g a0 v_shelf s0_4) H → va_D A (OuB_c g a0 v_shelf s0_4) → va_S A s.heap H locs → W p l e rm_X8_tryStore_B s m args below meth c H locs 0 0 Q (F0 m 73 ls []) := by
    intro s0_4 ls H locs hf hl hP hD hS
    rw [eK3] at hf
    cases hf
    exact hq () rfl hP hD hS dX8_tryStore_73
  have lpn8 : ∀ (n8 : Nat) (x3_5 : Int32) (s0_6 : OuBT) (ls : Array Slot) (H : Heap) (locs : List Loc), f_X8_tryStore_B_L10_7 K3 n8 x3_5 s0_6 = some res → lv_has ls 5 [(0, .ref (a0 0)), (1, .ref (a0 33)), (3, .int x3_5)] → gP g (OuB_c g a0 v_shelf s0_6) H → va_D A (OuB_c g a0 v_shelf s0_6) → va_S A s.heap H locs → W p l e rm_X8_tryStore_B s m args below meth c H locs 0 0 Q (F0 m 10 ls []) := by
    intro n8
    induction n8 with
    | zero => intro x3_5 s0_6 ls H locs hf hl hP hD hS; rw [f_X8_tryStore_B_L10_7] at hf; cases hf
    | succ n8 ihn8 =>
      intro x3_5 s0_6 ls H locs hf hl hP hD hS
      rw [f_X8_tryStore_B_L10_7] at hf
      refine lv_iload_n hx hb dX8_tryStore_10 rfl (lv_at hl 2 rfl) ?_
      refine lv_aload_n hx hb dX8_tryStore_11 rfl (lv_at hl 1 rfl) ?_
      refine g_get hE okX4 fl_X8_283 hP 33 rfl (v := .int (St_count (Bk_store (OuB_books s0_6)))) rfl dX8_tryStore_12 ?_
      refine lv_icmp_ge hx hb dX8_tryStore_15 (tgt := 73) rfl (fun h9 => ?_) (fun h9 => ?_)
      · have hf := gif_t h9 hf
        exact kK3 s0_6 ls H locs hf (lv_sub hl [] rfl) hP hD hS
      · have hf := gif_f h9 hf
        refine lv_iload_n hx hb dX8_tryStore_18 rfl (lv_at hl 2 rfl) ?_
        refine lv_bipush hx hb dX8_tryStore_19 kcb_60 ?_
        refine lv_icmp_ge hx hb dX8_tryStore_21 (tgt := 73) rfl (fun h10 => ?_) (fun h10 => ?_)
        · have hf := gif_t h10 hf
          exact kK3 s0_6 ls H locs hf (lv_sub hl [] rfl) hP hD hS
        · have hf := gif_f h10 hf
          refine lv_aload_n hx hb dX8_tryStore_24 rfl (lv_at hl 0 rfl) ?_
          refine g_get hE okX8 fl_X8_27 hP 0 rfl (v := .ref (a0 18)) rfl dX8_tryStore_25 ?_
          refine lv_iload_n hx hb dX8_tryStore_28 rfl (lv_at hl 2 rfl) ?_
          obtain ⟨hg11, hf⟩ := ggd hf
          refine g_iald hE hP 18 (f := (OuB_order s0_6)) rfl hg11 dX8_tryStore_29 ?_
          refine lv_istore hx hb dX8_tryStore_30 hl (by decide) (lv' := [(4, .int ((OuB_order s0_6) (ix x3_5))), (0, .ref (a0 0)), (1, .ref (a0 33)), (3, .int x3_5)]) rfl (fun ls hl => ?_)
          refine lv_aload_n hx hb dX8_tryStore_32 rfl (lv_at hl 1 rfl) ?_
          refine g_get hE okX8 fl_X8_21 hP 0 rfl (v := .ref (a0 9)) rfl dX8_tryStore_33 ?_
          refine lv_aload_n hx hb dX8_tryStore_36 rfl (lv_at hl 2 rfl) ?_
          refine g_get hE okX4 fl_X8_349 hP 33 rfl (v := .ref (a0 34)) rfl dX8_tryStore_37 ?_
          refine lv_iload hx hb dX8_tryStore_40 (lv_at hl 0 rfl) ?_
          obtain ⟨hg12, hf⟩ := ggd hf
          refine g_iald hE hP 34 (f := (St_sides (Bk_store (OuB_books s0_6)))) rfl hg12 dX8_tryStore_42 ?_
          refine lv_aload_n hx hb dX8_tryStore_43 rfl (lv_at hl 2 rfl) ?_
          refine g_get hE okX4 fl_X8_352 hP 33 rfl (v := .ref (a0 35)) rfl dX8_tryStore_44 ?_
          refine lv_iload hx hb dX8_tryStore_47 (lv_at hl 0 rfl) ?_
          obtain ⟨hg13, hf⟩ := ggd hf
          refine g_iald hE hP 35 (f := (St_keys (Bk_store (OuB_books s0_6)))) rfl hg13 dX8_tryStore_49 ?_
          refine lv_aload_n hx hb dX8_tryStore_50 rfl (lv_at hl 2 rfl) ?_
          refine g_get hE okX4 fl_X8_354 hP 33 rfl (v := .ref (a0 36)) rfl dX8_tryStore_51 ?_
          refine lv_iload hx hb dX8_tryStore_54 (lv_at hl 0 rfl) ?_
          obtain ⟨hg14, hf⟩ := ggd hf
          refine g_iald hE hP 36 (f := (St_values (Bk_store (OuB_books s0_6)))) rfl hg14 dX8_tryStore_56 ?_
          refine lv_aload_n hx hb dX8_tryStore_57 rfl (lv_at hl 2 rfl) ?_
          refine g_get hE okX4 fl_X8_356 hP 33 rfl (v := .ref (a0 37)) rfl dX8_tryStore_58 ?_
          refine lv_iload hx hb dX8_tryStore_61 (lv_at hl 0 rfl) ?_
          obtain ⟨hg15, hf⟩ := ggd hf
          refine g_iald hE hP 37 (f := (St_manies (Bk_store (OuB_books s0_6)))) rfl hg15 dX8_tryStore_63 ?_
          obtain ⟨r16, hc17, hf⟩ := gbd hf
          refine gm_callV1 (As := [.int ((St_sides (Bk_store (OuB_books s0_6))) (ix ((OuB_order s0_6) (ix x3_5)))), .int ((St_keys (Bk_store (OuB_books s0_6))) (ix ((OuB_order s0_6) (ix x3_5)))), .int ((St_values (Bk_store (OuB_books s0_6))) (ix ((OuB_order s0_6) (ix x3_5)))), .int ((St_manies (Bk_store (OuB_books s0_6))) (ix ((OuB_order s0_6) (ix x3_5))))]) (rest := []) (st1 := fun _ => []) (ws' := fun _ => (OuB_c g a0 v_shelf (OuB_w_trial s0_6 r16))) hE hl.1 ml_X8_265 (c_X0_change l g (fun k => a0 (k + 9)) (OuB_trial s0_6) ((St_sides (Bk_store (OuB_books s0_6))) (ix ((OuB_order s0_6) (ix x3_5)))) ((St_keys (Bk_store (OuB_books s0_6))) (ix ((OuB_order s0_6) (ix x3_5)))) ((St_values (Bk_store (OuB_books s0_6))) (ix ((OuB_order s0_6) (ix x3_5)))) ((St_manies (Bk_store (OuB_books s0_6))) (ix ((OuB_order s0_6) (ix x3_5)))) r16 hc17) hZ hP hD hS hA 9 18 rfl (fun _ => rfl) okX0 rfl rfl rfl (fun _ => rfl) ⟨rfl, rfl⟩ ⟨Nat.le_of_ble_eq_true rfl, Nat.le_of_ble_eq_true rfl⟩ ⟨Nat.le_refl _, Nat.le_refl _⟩ (Nat.le_of_ble_eq_true rfl) dX8_tryStore_64 (fun _ H locs hP hD hS => ?_)
          refine lv_iinc hx hb dX8_tryStore_67 hl (k := 3) (x := x3_5) rfl (kinc_1 _) (by decide) (lv' := [(3, .int (x3_5 + (1 : Int32))), (4, .int ((OuB_order s0_6) (ix x3_5))), (0, .ref (a0 0)), (1, .ref (a0 33))]) rfl (fun ls hl => ?_)
          refine lv_goto hx hb dX8_tryStore_70 (tgt := 10) rfl ?_
          exact ihn8 (x3_5 + (1 : Int32)) (OuB_w_trial s0_6 r16) ls H locs hf (lv_sub hl [2, 3, 0] rfl) hP hD hS
  exact lpn8 10000 (0 : Int32) (OuB_w_trial s0 r1) ls H locs hf (lv_sub hl [1, 2, 0] rfl) hP hD hS
def f_X8_feed_B (s0 : OuBT) (p1 : Int32) (p2 : Int32) (p3 : Int32) (p4 : Int32) (p5 : Int32) : Option (Int32 × OuBT) :=
  (f_X6_hasRoomFor (Rd_tape (OuB_reader s0)) (20 : Int32)).bind fun r1 =>
  if r1 = 0 then some ((-1 : Int32), s0)
  else (f_X6_put (Rd_tape (OuB_reader s0)) p1).bind fun r4 =>
  (f_X6_put r4 p2).bind fun r6 =>
  (f_X6_put r6 p3).bind fun r8 =>
  (f_X6_put r8 p4).bind fun r10 =>
  (f_X6_put r10 p5).bind fun r12 =>
  some ((Tp_length r12), (OuB_w_reader s0 (Rd_w_tape (OuB_reader s0) r12)))
abbrev rm_X8_feed_B : Room := { frames := 2, cells := 0, slots := 0, locals := 42 }
set_option maxHeartbeats 4000000 in
set_option maxRecDepth 100000 in
theorem c_X8_feed_B (l : Launch) (g : GK) (a0 : Nat → Nat) (v_shelf : Value) (s0 : OuBT) (p1 : Int32) (p2 : Int32) (p3 : Int32) (p4 : Int32) (p5 : Int32) (res : (Int32 × OuBT)) (hf : f_X8_feed_B s0 p1 p2 p3 p4 p5 = some res) : gM l yX8_feed cX8_feed 7 (some .int) rm_X8_feed_B g [.ref (a0 0), .int p1, .int p2, .int p3, .int p4, .int p5] (OuB_c g a0 v_shelf s0) (fun _ : Unit => (some (.int (res.1)))) (fun _ => (OuB_c g a0 v_shelf (res.2))) 0 0 := by
  refine gM_introI RX8 (by decide) rfl (Nat.le_of_ble_eq_true rfl) (fun p e s m args below meth c Q H locs ls A hE hZ hA hP hD hS hq hl => ?_)
  have hl : lv_has ls 7 [(0, .ref (a0 0)), (1, .int p1), (2, .int p2), (3, .int p3), (4, .int p4), (5, .int p5)] := hl
  have hx := hE.1
  have hb := hE.2.1
  rw [f_X8_feed_B] at hf
  refine lv_aload_n hx hb dX8_feed_0 rfl (lv_at hl 0 rfl) ?_
  refine g_get hE okX8 fl_X8_14 hP 0 rfl (v := .ref (a0 1)) rfl dX8_feed_1 ?_
  refine g_get hE okX3 fl_X8_52 hP 1 rfl (v := .ref (a0 2)) rfl dX8_feed_4 ?_
  refine lv_astore hx hb dX8_feed_7 hl (by decide) (lv' := [(6, .ref (a0 2)), (0, .ref (a0 0)), (1, .int p1), (2, .int p2), (3, .int p3), (4, .int p4), (5, .int p5)]) rfl (fun ls hl => ?_)
  refine lv_aload hx hb dX8_feed_9 (lv_at hl 0 rfl) ?_
  refine lv_bipush hx hb dX8_feed_11 kcb_20 ?_
  obtain ⟨r1, hc2, hf⟩ := gbd hf
  refine gr_callV (As := [.int (20 : Int32)]) (rest := []) (st1 := [.int r1]) hE hl.1 ml_X8_56 (c_X6_hasRoomFor l g (fun k => a0 (k + 2)) (Rd_tape (OuB_reader s0)) (20 : Int32) r1 hc2) hZ hS hP [(2, 2)] rfl okX6 rfl rfl rfl rfl ⟨rfl, rfl⟩ ⟨Nat.le_of_ble_eq_true rfl, Nat.le_of_ble_eq_true rfl⟩ ⟨Nat.le_refl _, Nat.le_refl _⟩ (Nat.le_of_ble_eq_true rfl) dX8_feed_13 ?_
  refine lv_if_ne hx hb dX8_feed_16 (tgt := 21) rfl (fun h3 => ?_) (fun h3 => ?_)
  · have hf := gif_f h3 hf
    refine lv_aload hx hb dX8_feed_21 (lv_at hl 0 rfl) ?_
    refine lv_iload_n hx hb dX8_feed_23 rfl (lv_at hl 2 rfl) ?_
    obtain ⟨r4, hc5, hf⟩ := gbd hf
    refine gm_callV1 (As := [.int p1]) (rest := []) (st1 := fun _ => []) (ws' := fun _ => (OuB_c g a0 v_shelf (OuB_w_reader s0 (Rd_w_tape (OuB_reader s0) r4)))) hE hl.1 ml_X8_62 (c_X6_put l g (fun k => a0 (k + 2)) (Rd_tape (OuB_reader s0)) p1 r4 hc5) hZ hP hD hS hA 2 4 rfl (fun _ => rfl) okX6 rfl rfl rfl (fun _ => rfl) ⟨rfl, rfl⟩ ⟨Nat.le_of_ble_eq_true rfl, Nat.le_of_ble_eq_true rfl⟩ ⟨Nat.le_refl _, Nat.le_refl _⟩ (Nat.le_of_ble_eq_true rfl) dX8_feed_24 (fun _ H locs hP hD hS => ?_)
    refine lv_aload hx hb dX8_feed_27 (lv_at hl 0 rfl) ?_
    refine lv_iload_n hx hb dX8_feed_29 rfl (lv_at hl 3 rfl) ?_
    obtain ⟨r6, hc7, hf⟩ := gbd hf
    refine gm_callV1 (As := [.int p2]) (rest := []) (st1 := fun _ => []) (ws' := fun _ => (OuB_c g a0 v_shelf (OuB_w_reader s0 (Rd_w_tape (OuB_reader s0) r6)))) hE hl.1 ml_X8_62 (c_X6_put l g (fun k => a0 (k + 2)) r4 p2 r6 hc7) hZ hP hD hS hA 2 4 rfl (fun _ => rfl) okX6 rfl rfl rfl (fun _ => rfl) ⟨rfl, rfl⟩ ⟨Nat.le_of_ble_eq_true rfl, Nat.le_of_ble_eq_true rfl⟩ ⟨Nat.le_refl _, Nat.le_refl _⟩ (Nat.le_of_ble_eq_true rfl) dX8_feed_30 (fun _ H locs hP hD hS => ?_)
    refine lv_aload hx hb dX8_feed_33 (lv_at hl 0 rfl) ?_
    refine lv_iload_n hx hb dX8_feed_35 rfl (lv_at hl 4 rfl) ?_
    obtain ⟨r8, hc9, hf⟩ := gbd hf
    refine gm_callV1 (As := [.int p3]) (rest := []) (st1 := fun _ => []) (ws' := fun _ => (OuB_c g a0 v_shelf (OuB_w_reader s0 (Rd_w_tape (OuB_reader s0) r8)))) hE hl.1 ml_X8_62 (c_X6_put l g (fun k => a0 (k + 2)) r6 p3 r8 hc9) hZ hP hD hS hA 2 4 rfl (fun _ => rfl) okX6 rfl rfl rfl (fun _ => rfl) ⟨rfl, rfl⟩ ⟨Nat.le_of_ble_eq_true rfl, Nat.le_of_ble_eq_true rfl⟩ ⟨Nat.le_refl _, Nat.le_refl _⟩ (Nat.le_of_ble_eq_true rfl) dX8_feed_36 (fun _ H locs hP hD hS => ?_)
    refine lv_aload hx hb dX8_feed_39 (lv_at hl 0 rfl) ?_
    refine lv_iload hx hb dX8_feed_41 (lv_at hl 5 rfl) ?_
    obtain ⟨r10, hc11, hf⟩ := gbd hf
    refine gm_callV1 (As := [.int p4]) (rest := []) (st1 := fun _ => []) (ws' := fun _ => (OuB_c g a0 v_shelf (OuB_w_reader s0 (Rd_w_tape (OuB_reader s0) r10)))) hE hl.1 ml_X8_62 (c_X6_put l g (fun k => a0 (k + 2)) r8 p4 r10 hc11) hZ hP hD hS hA 2 4 rfl (fun _ => rfl) okX6 rfl rfl rfl (fun _ => rfl) ⟨rfl, rfl⟩ ⟨Nat.le_of_ble_eq_true rfl, Nat.le_of_ble_eq_true rfl⟩ ⟨Nat.le_refl _, Nat.le_refl _⟩ (Nat.le_of_ble_eq_true rfl) dX8_feed_43 (fun _ H locs hP hD hS => ?_)
    refine lv_aload hx hb dX8_feed_46 (lv_at hl 0 rfl) ?_
    refine lv_iload hx hb dX8_feed_48 (lv_at hl 6 rfl) ?_
    obtain ⟨r12, hc13, hf⟩ := gbd hf
    refine gm_callV1 (As := [.int p5]) (rest := []) (st1 := fun _ => []) (ws' := fun _ => (OuB_c g a0 v_shelf (OuB_w_reader s0 (Rd_w_tape (OuB_reader s0) r12)))) hE hl.1 ml_X8_62 (c_X6_put l g (fun k => a0 (k + 2)) r10 p5 r12 hc13) hZ hP hD hS hA 2 4 rfl (fun _ => rfl) okX6 rfl rfl rfl (fun _ => rfl) ⟨rfl, rfl⟩ ⟨Nat.le_of_ble_eq_true rfl, Nat.le_of_ble_eq_true rfl⟩ ⟨Nat.le_refl _, Nat.le_refl _⟩ (Nat.le_of_ble_eq_true rfl) dX8_feed_50 (fun _ H locs hP hD hS => ?_)
    refine lv_aload hx hb dX8_feed_53 (lv_at hl 0 rfl) ?_
    refine g_get hE okX6 fl_X8_66 hP 2 rfl (v := .int (Tp_length r12)) rfl dX8_feed_55 ?_
    cases hf
    exact hq () rfl hP hD hS dX8_feed_58
  · have hf := gif_t h3 hf
    refine lv_iconst hx hb dX8_feed_19 kci_m1 ?_
    cases hf
    exact hq () rfl hP hD hS dX8_feed_20
def f_X8_desk_B (s0 : OuBT) (p1 : Int32) : Option (Int32 × OuBT) :=
  if p1 < 0 then (f_X8_refuse_B s0 (2 : Int32) (-1 : Int32)).bind fun r2 =>
  some ((r2.1), (r2.2))
  else if p1 ≤ (Tp_length (Rd_tape (OuB_reader s0))) then (f_X3_expectDesk (OuB_reader s0)).bind fun r5 =>
  (f_X3_readLines r5 p1).bind fun r7 =>
  (f_X8_tookText_B (OuB_w_reader s0 (r7.2)) (r7.1)).bind fun r9 =>
  if (r9.1) = 0 then (f_X8_refuse_B (r9.2) (4 : Int32) (-1 : Int32)).bind fun r18 =>
  some ((r18.1), (r18.2))
  else (f_X1_clear (OuB_books (r9.2)) (Rd_how (OuB_reader (r9.2))) (Rd_keep (OuB_reader (r9.2))) (Rd_late (OuB_reader (r9.2)))).bind fun r12 =>
  (f_X8_doLines_B (OuB_w_isKept (OuB_w_books (r9.2) r12) (0 : Int32))).bind fun r14 =>
  (f_X8_accept_B (r14.2) (r14.1)).bind fun r16 =>
  some ((r16.1), (r16.2))
  else (f_X8_refuse_B s0 (2 : Int32) (-1 : Int32)).bind fun r20 =>
  some ((r20.1), (r20.2))
abbrev rm_X8_desk_B : Room := { frames := 6, cells := 0, slots := 0, locals := 155 }
set_option maxHeartbeats 4000000 in
set_option maxRecDepth 100000 in
theorem c_X8_desk_B (l : Launch) (g : GK) (a0 : Nat → Nat) (v_shelf : Value) (s0 : OuBT) (p1 : Int32) (res : (Int32 × OuBT)) (hf : f_X8_desk_B s0 p1 = some res) : gM l yX8_desk cX8_desk 2 (some .int) rm_X8_desk_B g [.ref (a0 0), .int p1] (OuB_c g a0 v_shelf s0) (fun _ : Unit => (some (.int (res.1)))) (fun _ => (OuB_c g a0 v_shelf (res.2))) 0 0 := by
  refine gM_introI RX8 (by decide) rfl (Nat.le_of_ble_eq_true rfl) (fun p e s m args below meth c Q H locs ls A hE hZ hA hP hD hS hq hl => ?_)
  have hl : lv_has ls 2 [(0, .ref (a0 0)), (1, .int p1)] := hl
  have hx := hE.1
  have hb := hE.2.1
  rw [f_X8_desk_B] at hf
  refine lv_iload_n hx hb dX8_desk_0 rfl (lv_at hl 1 rfl) ?_
  refine lv_if_lt hx hb dX8_desk_1 (tgt := 18) rfl (fun h1 => ?_) (fun h1 => ?_)
  · have hf := gif_t h1 hf
    refine lv_aload_n hx hb dX8_desk_18 rfl (lv_at hl 0 rfl) ?_
    refine lv_iconst hx hb dX8_desk_19 kci_2 ?_
    refine lv_iconst hx hb dX8_desk_20 kci_m1 ?_
    obtain ⟨r2, hc3, hf⟩ := gbd hf
    refine gm_callV1 (As := [.int (2 : Int32), .int (-1 : Int32)]) (rest := []) (st1 := fun _ => [.int (r2.1)]) (ws' := fun _ => (OuB_c g a0 v_shelf (r2.2))) hE hl.1 ml_X8_69 (c_X8_refuse_B l g a0 v_shelf s0 (2 : Int32) (-1 : Int32) r2 hc3) hZ hP hD hS hA 0 44 rfl (fun _ => rfl) okX8 rfl rfl rfl (fun _ => rfl) ⟨rfl, rfl⟩ ⟨Nat.le_of_ble_eq_true rfl, Nat.le_of_ble_eq_true rfl⟩ ⟨Nat.le_refl _, Nat.le_refl _⟩ (Nat.le_of_ble_eq_true rfl) dX8_desk_21 (fun _ H locs hP hD hS => ?_)
    cases hf
    exact hq () rfl hP hD hS dX8_desk_24
  · have hf := gif_f h1 hf
    refine lv_iload_n hx hb dX8_desk_4 rfl (lv_at hl 1 rfl) ?_
    refine lv_aload_n hx hb dX8_desk_5 rfl (lv_at hl 0 rfl) ?_
    refine g_get hE okX8 fl_X8_14 hP 0 rfl (v := .ref (a0 1)) rfl dX8_desk_6 ?_
    refine g_get hE okX3 fl_X8_52 hP 1 rfl (v := .ref (a0 2)) rfl dX8_desk_9 ?_
    refine g_get hE okX6 fl_X8_66 hP 2 rfl (v := .int (Tp_length (Rd_tape (OuB_reader s0)))) rfl dX8_desk_12 ?_
    refine lv_icmp_le hx hb dX8_desk_15 (tgt := 25) rfl (fun h4 => ?_) (fun h4 => ?_)
    · have hf := gif_t h4 hf
      refine lv_aload_n hx hb dX8_desk_25 rfl (lv_at hl 0 rfl) ?_
      refine g_get hE okX8 fl_X8_14 hP 0 rfl (v := .ref (a0 1)) rfl dX8_desk_26 ?_
      obtain ⟨r5, hc6, hf⟩ := gbd hf
      refine gm_callV1 (As := []) (rest := []) (st1 := fun _ => []) (ws' := fun _ => (OuB_c g a0 v_shelf (OuB_w_reader s0 r5))) hE hl.1 ml_X8_73 (c_X3_expectDesk l g (fun k => a0 (k + 1)) (OuB_reader s0) r5 hc6) hZ hP hD hS hA 1 9 rfl (fun _ => rfl) okX3 rfl rfl rfl (fun _ => rfl) ⟨rfl, rfl⟩ ⟨Nat.le_of_ble_eq_true rfl, Nat.le_of_ble_eq_true rfl⟩ ⟨Nat.le_refl _, Nat.le_refl _⟩ (Nat.le_of_ble_eq_true rfl) dX8_desk_29 (fun _ H locs hP hD hS => ?_)
      refine lv_aload_n hx hb dX8_desk_32 rfl (lv_at hl 0 rfl) ?_
      refine lv_aload_n hx hb dX8_desk_33 rfl (lv_at hl 0 rfl) ?_
      refine g_get hE okX8 fl_X8_14 hP 0 rfl (v := .ref (a0 1)) rfl dX8_desk_34 ?_
      refine lv_iload_n hx hb dX8_desk_37 rfl (lv_at hl 1 rfl) ?_
      obtain ⟨r7, hc8, hf⟩ := gbd hf
      refine gm_callV1 (As := [.int p1]) (rest := [.ref (a0 0)]) (st1 := fun _ => [.int (r7.1), .ref (a0 0)]) (ws' := fun _ => (OuB_c g a0 v_shelf (OuB_w_reader s0 (r7.2)))) hE hl.1 ml_X8_76 (c_X3_readLines l g (fun k => a0 (k + 1)) r5 p1 r7 hc8) hZ hP hD hS hA 1 9 rfl (fun _ => rfl) okX3 rfl rfl rfl (fun _ => rfl) ⟨rfl, rfl⟩ ⟨Nat.le_of_ble_eq_true rfl, Nat.le_of_ble_eq_true rfl⟩ ⟨Nat.le_refl _, Nat.le_refl _⟩ (Nat.le_of_ble_eq_true rfl) dX8_desk_38 (fun _ H locs hP hD hS => ?_)
      obtain ⟨r9, hc10, hf⟩ := gbd hf
      refine gm_callV1 (As := [.int (r7.1)]) (rest := []) (st1 := fun _ => [.int (r9.1)]) (ws' := fun _ => (OuB_c g a0 v_shelf (r9.2))) hE hl.1 ml_X8_79 (c_X8_tookText_B l g a0 v_shelf (OuB_w_reader s0 (r7.2)) (r7.1) r9 hc10) hZ hP hD hS hA 0 44 rfl (fun _ => rfl) okX8 rfl rfl rfl (fun _ => rfl) ⟨rfl, rfl⟩ ⟨Nat.le_of_ble_eq_true rfl, Nat.le_of_ble_eq_true rfl⟩ ⟨Nat.le_refl _, Nat.le_refl _⟩ (Nat.le_of_ble_eq_true rfl) dX8_desk_41 (fun _ H locs hP hD hS => ?_)
      refine lv_if_ne hx hb dX8_desk_44 (tgt := 54) rfl (fun h11 => ?_) (fun h11 => ?_)
      · have hf := gif_f h11 hf
        refine lv_aload_n hx hb dX8_desk_54 rfl (lv_at hl 0 rfl) ?_
        refine g_get hE okX8 fl_X8_31 hP 0 rfl (v := .ref (a0 19)) rfl dX8_desk_55 ?_
        refine lv_ifnonnull hx hb dX8_desk_58 (tgt := 72) rfl ?_
        refine lv_aload_n hx hb dX8_desk_72 rfl (lv_at hl 0 rfl) ?_
        refine g_get hE okX8 fl_X8_31 hP 0 rfl (v := .ref (a0 19)) rfl dX8_desk_73 ?_
        refine lv_aload_n hx hb dX8_desk_76 rfl (lv_at hl 0 rfl) ?_
        refine g_get hE okX8 fl_X8_14 hP 0 rfl (v := .ref (a0 1)) rfl dX8_desk_77 ?_
        refine g_get hE okX3 fl_X8_86 hP 1 rfl (v := .int (Rd_how (OuB_reader (r9.2)))) rfl dX8_desk_80 ?_
        refine lv_aload_n hx hb dX8_desk_83 rfl (lv_at hl 0 rfl) ?_
        refine g_get hE okX8 fl_X8_14 hP 0 rfl (v := .ref (a0 1)) rfl dX8_desk_84 ?_
        refine g_get hE okX3 fl_X8_89 hP 1 rfl (v := .int (Rd_keep (OuB_reader (r9.2)))) rfl dX8_desk_87 ?_
        refine lv_aload_n hx hb dX8_desk_90 rfl (lv_at hl 0 rfl) ?_
        refine g_get hE okX8 fl_X8_14 hP 0 rfl (v := .ref (a0 1)) rfl dX8_desk_91 ?_
        refine g_get hE okX3 fl_X8_92 hP 1 rfl (v := .int (Rd_late (OuB_reader (r9.2)))) rfl dX8_desk_94 ?_
        obtain ⟨r12, hc13, hf⟩ := gbd hf
        refine gm_callV1 (As := [.int (Rd_how (OuB_reader (r9.2))), .int (Rd_keep (OuB_reader (r9.2))), .int (Rd_late (OuB_reader (r9.2)))]) (rest := []) (st1 := fun _ => []) (ws' := fun _ => (OuB_c g a0 v_shelf (OuB_w_books (r9.2) r12))) hE hl.1 ml_X8_95 (c_X1_clear l g (fun k => a0 (k + 19)) (OuB_books (r9.2)) (Rd_how (OuB_reader (r9.2))) (Rd_keep (OuB_reader (r9.2))) (Rd_late (OuB_reader (r9.2))) r12 hc13) hZ hP hD hS hA 19 44 rfl (fun _ => rfl) okX1 rfl rfl rfl (fun _ => rfl) ⟨rfl, rfl⟩ ⟨Nat.le_of_ble_eq_true rfl, Nat.le_of_ble_eq_true rfl⟩ ⟨Nat.le_refl _, Nat.le_refl _⟩ (Nat.le_of_ble_eq_true rfl) dX8_desk_97 (fun _ H locs hP hD hS => ?_)
        refine lv_aload_n hx hb dX8_desk_100 rfl (lv_at hl 0 rfl) ?_
        refine lv_iconst hx hb dX8_desk_101 kci_0 ?_
        refine g_put hE okX8 fl_X8_38 hP hD hS 0 rfl rfl rfl rfl (Nat.le_of_ble_eq_true rfl) (OuB_c g a0 v_shelf (OuB_w_isKept (OuB_w_books (r9.2) r12) (0 : Int32))) rfl dX8_desk_102 (fun H locs hP hD hS => ?_)
        refine lv_aload_n hx hb dX8_desk_105 rfl (lv_at hl 0 rfl) ?_
        refine lv_aload_n hx hb dX8_desk_106 rfl (lv_at hl 0 rfl) ?_
        refine lv_aload_n hx hb dX8_desk_107 rfl (lv_at hl 0 rfl) ?_
        refine g_get hE okX8 fl_X8_31 hP 0 rfl (v := .ref (a0 19)) rfl dX8_desk_108 ?_
        obtain ⟨r14, hc15, hf⟩ := gbd hf
        refine gm_callV1 (As := [.ref (a0 19)]) (rest := [.ref (a0 0)]) (st1 := fun _ => [.int (r14.1), .ref (a0 0)]) (ws' := fun _ => (OuB_c g a0 v_shelf (r14.2))) hE hl.1 ml_X8_99 (c_X8_doLines_B l g a0 v_shelf (OuB_w_isKept (OuB_w_books (r9.2) r12) (0 : Int32)) r14 hc15) hZ hP hD hS hA 0 44 rfl (fun _ => rfl) okX8 rfl rfl rfl (fun _ => rfl) ⟨rfl, rfl⟩ ⟨Nat.le_of_ble_eq_true rfl, Nat.le_of_ble_eq_true rfl⟩ ⟨Nat.le_refl _, Nat.le_refl _⟩ (Nat.le_of_ble_eq_true rfl) dX8_desk_111 (fun _ H locs hP hD hS => ?_)
        obtain ⟨r16, hc17, hf⟩ := gbd hf
        refine gm_callV1 (As := [.int (r14.1)]) (rest := []) (st1 := fun _ => [.int (r16.1)]) (ws' := fun _ => (OuB_c g a0 v_shelf (r16.2))) hE hl.1 ml_X8_103 (c_X8_accept_B l g a0 v_shelf (r14.2) (r14.1) r16 hc17) hZ hP hD hS hA 0 44 rfl (fun _ => rfl) okX8 rfl rfl rfl (fun _ => rfl) ⟨rfl, rfl⟩ ⟨Nat.le_of_ble_eq_true rfl, Nat.le_of_ble_eq_true rfl⟩ ⟨Nat.le_refl _, Nat.le_refl _⟩ (Nat.le_of_ble_eq_true rfl) dX8_desk_114 (fun _ H locs hP hD hS => ?_)
        cases hf
        exact hq () rfl hP hD hS dX8_desk_117
      · have hf := gif_t h11 hf
        refine lv_aload_n hx hb dX8_desk_47 rfl (lv_at hl 0 rfl) ?_
        refine lv_iconst hx hb dX8_desk_48 kci_4 ?_
        refine lv_iconst hx hb dX8_desk_49 kci_m1 ?_
        obtain ⟨r18, hc19, hf⟩ := gbd hf
        refine gm_callV1 (As := [.int (4 : Int32), .int (-1 : Int32)]) (rest := []) (st1 := fun _ => [.int (r18.1)]) (ws' := fun _ => (OuB_c g a0 v_shelf (r18.2))) hE hl.1 ml_X8_69 (c_X8_refuse_B l g a0 v_shelf (r9.2) (4 : Int32) (-1 : Int32) r18 hc19) hZ hP hD hS hA 0 44 rfl (fun _ => rfl) okX8 rfl rfl rfl (fun _ => rfl) ⟨rfl, rfl⟩ ⟨Nat.le_of_ble_eq_true rfl, Nat.le_of_ble_eq_true rfl⟩ ⟨Nat.le_refl _, Nat.le_refl _⟩ (Nat.le_of_ble_eq_true rfl) dX8_desk_50 (fun _ H locs hP hD hS => ?_)
        cases hf
        exact hq () rfl hP hD hS dX8_desk_53
    · have hf := gif_f h4 hf
      refine lv_aload_n hx hb dX8_desk_18 rfl (lv_at hl 0 rfl) ?_
      refine lv_iconst hx hb dX8_desk_19 kci_2 ?_
      refine lv_iconst hx hb dX8_desk_20 kci_m1 ?_
      obtain ⟨r20, hc21, hf⟩ := gbd hf
      refine gm_callV1 (As := [.int (2 : Int32), .int (-1 : Int32)]) (rest := []) (st1 := fun _ => [.int (r20.1)]) (ws' := fun _ => (OuB_c g a0 v_shelf (r20.2))) hE hl.1 ml_X8_69 (c_X8_refuse_B l g a0 v_shelf s0 (2 : Int32) (-1 : Int32) r20 hc21) hZ hP hD hS hA 0 44 rfl (fun _ => rfl) okX8 rfl rfl rfl (fun _ => rfl) ⟨rfl, rfl⟩ ⟨Nat.le_of_ble_eq_true rfl, Nat.le_of_ble_eq_true rfl⟩ ⟨Nat.le_refl _, Nat.le_refl _⟩ (Nat.le_of_ble_eq_true rfl) dX8_desk_21 (fun _ H locs hP hD hS => ?_)
      cases hf
      exact hq () rfl hP hD hS dX8_desk_24
def f_X8_more_B (s0 : OuBT) (p1 : Int32) : Option (Int32 × OuBT) :=
  if p1 < 0 then (f_X8_refuse_B s0 (2 : Int32) (-1 : Int32)).bind fun r2 =>
  some ((r2.1), (r2.2))
  else if p1 ≤ (Tp_length (Rd_tape (OuB_reader s0))) then (f_X3_expectMore (OuB_reader s0) (Bk_keys (OuB_books s0)) (Bk_values (OuB_books s0))).bind fun r5 =>
  (f_X3_readLines r5 p1).bind fun r7 =>
  (f_X8_tookText_B (OuB_w_reader s0 (r7.2)) (r7.1)).bind fun r9 =>
  if (r9.1) = 0 then (f_X8_refuse_B (r9.2) (4 : Int32) (-1 : Int32)).bind fun r16 =>
  some ((r16.1), (r16.2))
  else (f_X8_doLines_B (r9.2)).bind fun r12 =>
  (f_X8_accept_B (r12.2) (r12.1)).bind fun r14 =>
  some ((r14.1), (r14.2))
  else (f_X8_refuse_B s0 (2 : Int32) (-1 : Int32)).bind fun r18 =>
  some ((r18.1), (r18.2))
abbrev rm_X8_more_B : Room := { frames := 6, cells := 0, slots := 0, locals := 155 }
set_option maxHeartbeats 4000000 in
set_option maxRecDepth 100000 in
theorem c_X8_more_B (l : Launch) (g : GK) (a0 : Nat → Nat) (v_shelf : Value) (s0 : OuBT) (p1 : Int32) (res : (Int32 × OuBT)) (hf : f_X8_more_B s0 p1 = some res) : gM l yX8_more cX8_more 2 (some .int) rm_X8_more_B g [.ref (a0 0), .int p1] (OuB_c g a0 v_shelf s0) (fun _ : Unit => (some (.int (res.1)))) (fun _ => (OuB_c g a0 v_shelf (res.2))) 0 0 := by
  refine gM_introI RX8 (by decide) rfl (Nat.le_of_ble_eq_true rfl) (fun p e s m args below meth c Q H locs ls A hE hZ hA hP hD hS hq hl => ?_)
  have hl : lv_has ls 2 [(0, .ref (a0 0)), (1, .int p1)] := hl
  have hx := hE.1
  have hb := hE.2.1
  rw [f_X8_more_B] at hf
  refine lv_aload_n hx hb dX8_more_0 rfl (lv_at hl 0 rfl) ?_
  refine g_get hE okX8 fl_X8_31 hP 0 rfl (v := .ref (a0 19)) rfl dX8_more_1 ?_
  refine lv_ifnonnull hx hb dX8_more_4 (tgt := 14) rfl ?_
  refine lv_iload_n hx hb dX8_more_14 rfl (lv_at hl 1 rfl) ?_
  refine lv_if_lt hx hb dX8_more_15 (tgt := 32) rfl (fun h1 => ?_) (fun h1 => ?_)
  · have hf := gif_t h1 hf
    refine lv_aload_n hx hb dX8_more_32 rfl (lv_at hl 0 rfl) ?_
    refine lv_iconst hx hb dX8_more_33 kci_2 ?_
    refine lv_iconst hx hb dX8_more_34 kci_m1 ?_
    obtain ⟨r2, hc3, hf⟩ := gbd hf
    refine gm_callV1 (As := [.int (2 : Int32), .int (-1 : Int32)]) (rest := []) (st1 := fun _ => [.int (r2.1)]) (ws' := fun _ => (OuB_c g a0 v_shelf (r2.2))) hE hl.1 ml_X8_69 (c_X8_refuse_B l g a0 v_shelf s0 (2 : Int32) (-1 : Int32) r2 hc3) hZ hP hD hS hA 0 44 rfl (fun _ => rfl) okX8 rfl rfl rfl (fun _ => rfl) ⟨rfl, rfl⟩ ⟨Nat.le_of_ble_eq_true rfl, Nat.le_of_ble_eq_true rfl⟩ ⟨Nat.le_refl _, Nat.le_refl _⟩ (Nat.le_of_ble_eq_true rfl) dX8_more_35 (fun _ H locs hP hD hS => ?_)
    cases hf
    exact hq () rfl hP hD hS dX8_more_38
  · have hf := gif_f h1 hf
    refine lv_iload_n hx hb dX8_more_18 rfl (lv_at hl 1 rfl) ?_
    refine lv_aload_n hx hb dX8_more_19 rfl (lv_at hl 0 rfl) ?_
    refine g_get hE okX8 fl_X8_14 hP 0 rfl (v := .ref (a0 1)) rfl dX8_more_20 ?_
    refine g_get hE okX3 fl_X8_52 hP 1 rfl (v := .ref (a0 2)) rfl dX8_more_23 ?_
    refine g_get hE okX6 fl_X8_66 hP 2 rfl (v := .int (Tp_length (Rd_tape (OuB_reader s0)))) rfl dX8_more_26 ?_
    refine lv_icmp_le hx hb dX8_more_29 (tgt := 39) rfl (fun h4 => ?_) (fun h4 => ?_)
    · have hf := gif_t h4 hf
      refine lv_aload_n hx hb dX8_more_39 rfl (lv_at hl 0 rfl) ?_
      refine g_get hE okX8 fl_X8_14 hP 0 rfl (v := .ref (a0 1)) rfl dX8_more_40 ?_
      refine lv_aload_n hx hb dX8_more_43 rfl (lv_at hl 0 rfl) ?_
      refine g_get hE okX8 fl_X8_31 hP 0 rfl (v := .ref (a0 19)) rfl dX8_more_44 ?_
      refine g_get hE okX1 fl_X8_107 hP 19 rfl (v := .ref (a0 20)) rfl dX8_more_47 ?_
      refine lv_aload_n hx hb dX8_more_50 rfl (lv_at hl 0 rfl) ?_
      refine g_get hE okX8 fl_X8_31 hP 0 rfl (v := .ref (a0 19)) rfl dX8_more_51 ?_
      refine g_get hE okX1 fl_X8_111 hP 19 rfl (v := .ref (a0 22)) rfl dX8_more_54 ?_
      obtain ⟨r5, hc6, hf⟩ := gbd hf
      refine gm_callV (As := [.ref (a0 20), .ref (a0 22)]) (rest := []) (st1 := fun _ => []) (ws' := fun _ => (OuB_c g a0 v_shelf (OuB_w_reader s0 r5))) hE hl.1 ml_X8_114 (c_X3_expectMore l g (fun k => a0 (k + 1)) (OuB_reader s0) (fun k => a0 (k + 20)) (Bk_keys (OuB_books s0)) (fun k => a0 (k + 22)) (Bk_values (OuB_books s0)) r5 hc6) hZ hP hD hS hA [1, 2, 3, 4, 5, 6, 7, 8, 20, 21, 22, 23] [0, 9, 10, 11, 12, 13, 14, 15, 16, 17, 18, 19, 24, 25, 26, 27, 28, 29, 30, 31, 32, 33, 34, 35, 36, 37, 38, 39, 40, 41, 42, 43] [0, 32, 33, 34, 35, 36, 37, 38, 39, 1, 2, 3, 4, 5, 6, 7, 8, 9, 10, 11, 40, 41, 42, 43, 12, 13, 14, 15, 16, 17, 18, 19, 20, 21, 22, 23, 24, 25, 26, 27, 28, 29, 30, 31] rfl rfl rfl rfl rfl (by decide) (fun _ => rfl) rfl okX3 rfl rfl rfl (fun _ => rfl) ⟨rfl, rfl⟩ ⟨Nat.le_of_ble_eq_true rfl, Nat.le_of_ble_eq_true rfl⟩ ⟨Nat.le_refl _, Nat.le_refl _⟩ (Nat.le_of_ble_eq_true rfl) dX8_more_57 (fun _ H locs hP hD hS => ?_)
      refine lv_aload_n hx hb dX8_more_60 rfl (lv_at hl 0 rfl) ?_
      refine lv_aload_n hx hb dX8_more_61 rfl (lv_at hl 0 rfl) ?_
      refine g_get hE okX8 fl_X8_14 hP 0 rfl (v := .ref (a0 1)) rfl dX8_more_62 ?_
      refine lv_iload_n hx hb dX8_more_65 rfl (lv_at hl 1 rfl) ?_
      obtain ⟨r7, hc8, hf⟩ := gbd hf
      refine gm_callV1 (As := [.int p1]) (rest := [.ref (a0 0)]) (st1 := fun _ => [.int (r7.1), .ref (a0 0)]) (ws' := fun _ => (OuB_c g a0 v_shelf (OuB_w_reader s0 (r7.2)))) hE hl.1 ml_X8_76 (c_X3_readLines l g (fun k => a0 (k + 1)) r5 p1 r7 hc8) hZ hP hD hS hA 1 9 rfl (fun _ => rfl) okX3 rfl rfl rfl (fun _ => rfl) ⟨rfl, rfl⟩ ⟨Nat.le_of_ble_eq_true rfl, Nat.le_of_ble_eq_true rfl⟩ ⟨Nat.le_refl _, Nat.le_refl _⟩ (Nat.le_of_ble_eq_true rfl) dX8_more_66 (fun _ H locs hP hD hS => ?_)
      obtain ⟨r9, hc10, hf⟩ := gbd hf
      refine gm_callV1 (As := [.int (r7.1)]) (rest := []) (st1 := fun _ => [.int (r9.1)]) (ws' := fun _ => (OuB_c g a0 v_shelf (r9.2))) hE hl.1 ml_X8_79 (c_X8_tookText_B l g a0 v_shelf (OuB_w_reader s0 (r7.2)) (r7.1) r9 hc10) hZ hP hD hS hA 0 44 rfl (fun _ => rfl) okX8 rfl rfl rfl (fun _ => rfl) ⟨rfl, rfl⟩ ⟨Nat.le_of_ble_eq_true rfl, Nat.le_of_ble_eq_true rfl⟩ ⟨Nat.le_refl _, Nat.le_refl _⟩ (Nat.le_of_ble_eq_true rfl) dX8_more_69 (fun _ H locs hP hD hS => ?_)
      refine lv_if_ne hx hb dX8_more_72 (tgt := 82) rfl (fun h11 => ?_) (fun h11 => ?_)
      · have hf := gif_f h11 hf
        refine lv_aload_n hx hb dX8_more_82 rfl (lv_at hl 0 rfl) ?_
        refine lv_aload_n hx hb dX8_more_83 rfl (lv_at hl 0 rfl) ?_
        refine lv_aload_n hx hb dX8_more_84 rfl (lv_at hl 0 rfl) ?_
        refine g_get hE okX8 fl_X8_31 hP 0 rfl (v := .ref (a0 19)) rfl dX8_more_85 ?_
        obtain ⟨r12, hc13, hf⟩ := gbd hf
        refine gm_callV1 (As := [.ref (a0 19)]) (rest := [.ref (a0 0)]) (st1 := fun _ => [.int (r12.1), .ref (a0 0)]) (ws' := fun _ => (OuB_c g a0 v_shelf (r12.2))) hE hl.1 ml_X8_99 (c_X8_doLines_B l g a0 v_shelf (r9.2) r12 hc13) hZ hP hD hS hA 0 44 rfl (fun _ => rfl) okX8 rfl rfl rfl (fun _ => rfl) ⟨rfl, rfl⟩ ⟨Nat.le_of_ble_eq_true rfl, Nat.le_of_ble_eq_true rfl⟩ ⟨Nat.le_refl _, Nat.le_refl _⟩ (Nat.le_of_ble_eq_true rfl) dX8_more_88 (fun _ H locs hP hD hS => ?_)
        obtain ⟨r14, hc15, hf⟩ := gbd hf
        refine gm_callV1 (As := [.int (r12.1)]) (rest := []) (st1 := fun _ => [.int (r14.1)]) (ws' := fun _ => (OuB_c g a0 v_shelf (r14.2))) hE hl.1 ml_X8_103 (c_X8_accept_B l g a0 v_shelf (r12.2) (r12.1) r14 hc15) hZ hP hD hS hA 0 44 rfl (fun _ => rfl) okX8 rfl rfl rfl (fun _ => rfl) ⟨rfl, rfl⟩ ⟨Nat.le_of_ble_eq_true rfl, Nat.le_of_ble_eq_true rfl⟩ ⟨Nat.le_refl _, Nat.le_refl _⟩ (Nat.le_of_ble_eq_true rfl) dX8_more_91 (fun _ H locs hP hD hS => ?_)
        cases hf
        exact hq () rfl hP hD hS dX8_more_94
      · have hf := gif_t h11 hf
        refine lv_aload_n hx hb dX8_more_75 rfl (lv_at hl 0 rfl) ?_
        refine lv_iconst hx hb dX8_more_76 kci_4 ?_
        refine lv_iconst hx hb dX8_more_77 kci_m1 ?_
        obtain ⟨r16, hc17, hf⟩ := gbd hf
        refine gm_callV1 (As := [.int (4 : Int32), .int (-1 : Int32)]) (rest := []) (st1 := fun _ => [.int (r16.1)]) (ws' := fun _ => (OuB_c g a0 v_shelf (r16.2))) hE hl.1 ml_X8_69 (c_X8_refuse_B l g a0 v_shelf (r9.2) (4 : Int32) (-1 : Int32) r16 hc17) hZ hP hD hS hA 0 44 rfl (fun _ => rfl) okX8 rfl rfl rfl (fun _ => rfl) ⟨rfl, rfl⟩ ⟨Nat.le_of_ble_eq_true rfl, Nat.le_of_ble_eq_true rfl⟩ ⟨Nat.le_refl _, Nat.le_refl _⟩ (Nat.le_of_ble_eq_true rfl) dX8_more_78 (fun _ H locs hP hD hS => ?_)
        cases hf
        exact hq () rfl hP hD hS dX8_more_81
    · have hf := gif_f h4 hf
      refine lv_aload_n hx hb dX8_more_32 rfl (lv_at hl 0 rfl) ?_
      refine lv_iconst hx hb dX8_more_33 kci_2 ?_
      refine lv_iconst hx hb dX8_more_34 kci_m1 ?_
      obtain ⟨r18, hc19, hf⟩ := gbd hf
      refine gm_callV1 (As := [.int (2 : Int32), .int (-1 : Int32)]) (rest := []) (st1 := fun _ => [.int (r18.1)]) (ws' := fun _ => (OuB_c g a0 v_shelf (r18.2))) hE hl.1 ml_X8_69 (c_X8_refuse_B l g a0 v_shelf s0 (2 : Int32) (-1 : Int32) r18 hc19) hZ hP hD hS hA 0 44 rfl (fun _ => rfl) okX8 rfl rfl rfl (fun _ => rfl) ⟨rfl, rfl⟩ ⟨Nat.le_of_ble_eq_true rfl, Nat.le_of_ble_eq_true rfl⟩ ⟨Nat.le_refl _, Nat.le_refl _⟩ (Nat.le_of_ble_eq_true rfl) dX8_more_35 (fun _ H locs hP hD hS => ?_)
      cases hf
      exact hq () rfl hP hD hS dX8_more_38
def f_X8_fault_B (s0 : OuBT) : Option (Int32) :=
  some ((OuB_fault s0))
abbrev rm_X8_fault_B : Room := { frames := 0, cells := 0, slots := 0, locals := 0 }
set_option maxHeartbeats 4000000 in
set_option maxRecDepth 100000 in
theorem c_X8_fault_B (l : Launch) (g : GK) (a0 : Nat → Nat) (v_shelf : Value) (s0 : OuBT) (res : (Int32)) (hf : f_X8_fault_B s0 = some res) : gR l yX8_fault cX8_fault 1 (some .int) rm_X8_fault_B g [.ref (a0 0)] (OuB_c g a0 v_shelf s0) (some (.int res)) := by
  refine gR_introI RX8 (by decide) rfl (Nat.le_of_ble_eq_true rfl) (fun p e s m args below meth c Q H locs ls hE hP hZ hS hq hl => ?_)
  have hl : lv_has ls 1 [(0, .ref (a0 0))] := hl
  have hx := hE.1
  have hb := hE.2.1
  rw [f_X8_fault_B] at hf
  refine lv_aload_n hx hb dX8_fault_0 rfl (lv_at hl 0 rfl) ?_
  refine g_get hE okX8 fl_X8_46 hP 0 rfl (v := .int (OuB_fault s0)) rfl dX8_fault_1 ?_
  cases hf
  exact hq rfl dX8_fault_4
def f_X8_where_B (s0 : OuBT) : Option (Int32) :=
  if (OuB_trouble s0) = (4 : Int32) then some ((OuB_place s0))
  else some ((-1 : Int32))
abbrev rm_X8_where_B : Room := { frames := 0, cells := 0, slots := 0, locals := 0 }
set_option maxHeartbeats 4000000 in
set_option maxRecDepth 100000 in
theorem c_X8_where_B (l : Launch) (g : GK) (a0 : Nat → Nat) (v_shelf : Value) (s0 : OuBT) (res : (Int32)) (hf : f_X8_where_B s0 = some res) : gR l yX8_where cX8_where 1 (some .int) rm_X8_where_B g [.ref (a0 0)] (OuB_c g a0 v_shelf s0) (some (.int res)) := by
  refine gR_introI RX8 (by decide) rfl (Nat.le_of_ble_eq_true rfl) (fun p e s m args below meth c Q H locs ls hE hP hZ hS hq hl => ?_)
  have hl : lv_has ls 1 [(0, .ref (a0 0))] := hl
  have hx := hE.1
  have hb := hE.2.1
  rw [f_X8_where_B] at hf
  refine lv_aload_n hx hb dX8_where_0 rfl (lv_at hl 0 rfl) ?_
  refine g_get hE okX8 fl_X8_42 hP 0 rfl (v := .int (OuB_trouble s0)) rfl dX8_where_1 ?_
  refine lv_iconst hx hb dX8_where_4 kci_4 ?_
  refine lv_icmp_ne hx hb dX8_where_5 (tgt := 15) rfl (fun h1 => ?_) (fun h1 => ?_)
  · have hf := gif_f h1 hf
    refine lv_iconst hx hb dX8_where_15 kci_m1 ?_
    cases hf
    exact hq rfl dX8_where_16
  · have hf := gif_t h1 hf
    refine lv_aload_n hx hb dX8_where_8 rfl (lv_at hl 0 rfl) ?_
    refine g_get hE okX8 fl_X8_49 hP 0 rfl (v := .int (OuB_place s0)) rfl dX8_where_9 ?_
    refine lv_goto hx hb dX8_where_12 (tgt := 16) rfl ?_
    cases hf
    exact hq rfl dX8_where_16
def f_X8_about_B (s0 : OuBT) (p1 : Int32) : Option (Int32 × OuBT) :=
  if p1 < 0 then (f_X8_refuse_B s0 (1 : Int32) (-1 : Int32)).bind fun r2 =>
  some ((r2.1), (r2.2))
  else if p1 ≤ (9 : Int32) then (f_X1_told (OuB_books s0) p1).bind fun r5 =>
  (f_X8_accept_B s0 r5).bind fun r7 =>
  some ((r7.1), (r7.2))
  else (f_X8_refuse_B s0 (1 : Int32) (-1 : Int32)).bind fun r9 =>
  some ((r9.1), (r9.2))
abbrev rm_X8_about_B : Room := { frames := 3, cells := 0, slots := 0, locals := 64 }
set_option maxHeartbeats 4000000 in
set_option maxRecDepth 100000 in
theorem c_X8_about_B (l : Launch) (g : GK) (a0 : Nat → Nat) (v_shelf : Value) (s0 : OuBT) (p1 : Int32) (res : (Int32 × OuBT)) (hf : f_X8_about_B s0 p1 = some res) : gM l yX8_about cX8_about 2 (some .int) rm_X8_about_B g [.ref (a0 0), .int p1] (OuB_c g a0 v_shelf s0) (fun _ : Unit => (some (.int (res.1)))) (fun _ => (OuB_c g a0 v_shelf (res.2))) 0 0 := by
  refine gM_introI RX8 (by decide) rfl (Nat.le_of_ble_eq_true rfl) (fun p e s m args below meth c Q H locs ls A hE hZ hA hP hD hS hq hl => ?_)
  have hl : lv_has ls 2 [(0, .ref (a0 0)), (1, .int p1)] := hl
  have hx := hE.1
  have hb := hE.2.1
  rw [f_X8_about_B] at hf
  refine lv_aload_n hx hb dX8_about_0 rfl (lv_at hl 0 rfl) ?_
  refine g_get hE okX8 fl_X8_31 hP 0 rfl (v := .ref (a0 19)) rfl dX8_about_1 ?_
  refine lv_ifnull hx hb dX8_about_4 ?_
  refine lv_iload_n hx hb dX8_about_7 rfl (lv_at hl 1 rfl) ?_
  refine lv_if_lt hx hb dX8_about_8 (tgt := 17) rfl (fun h1 => ?_) (fun h1 => ?_)
  · have hf := gif_t h1 hf
    refine lv_aload_n hx hb dX8_about_17 rfl (lv_at hl 0 rfl) ?_
    refine lv_iconst hx hb dX8_about_18 kci_1 ?_
    refine lv_iconst hx hb dX8_about_19 kci_m1 ?_
    obtain ⟨r2, hc3, hf⟩ := gbd hf
    refine gm_callV1 (As := [.int (1 : Int32), .int (-1 : Int32)]) (rest := []) (st1 := fun _ => [.int (r2.1)]) (ws' := fun _ => (OuB_c g a0 v_shelf (r2.2))) hE hl.1 ml_X8_69 (c_X8_refuse_B l g a0 v_shelf s0 (1 : Int32) (-1 : Int32) r2 hc3) hZ hP hD hS hA 0 44 rfl (fun _ => rfl) okX8 rfl rfl rfl (fun _ => rfl) ⟨rfl, rfl⟩ ⟨Nat.le_of_ble_eq_true rfl, Nat.le_of_ble_eq_true rfl⟩ ⟨Nat.le_refl _, Nat.le_refl _⟩ (Nat.le_of_ble_eq_true rfl) dX8_about_20 (fun _ H locs hP hD hS => ?_)
    cases hf
    exact hq () rfl hP hD hS dX8_about_23
  · have hf := gif_f h1 hf
    refine lv_iload_n hx hb dX8_about_11 rfl (lv_at hl 1 rfl) ?_
    refine lv_bipush hx hb dX8_about_12 kcb_9 ?_
    refine lv_icmp_le hx hb dX8_about_14 (tgt := 24) rfl (fun h4 => ?_) (fun h4 => ?_)
    · have hf := gif_t h4 hf
      refine lv_aload_n hx hb dX8_about_24 rfl (lv_at hl 0 rfl) ?_
      refine lv_aload_n hx hb dX8_about_25 rfl (lv_at hl 0 rfl) ?_
      refine g_get hE okX8 fl_X8_31 hP 0 rfl (v := .ref (a0 19)) rfl dX8_about_26 ?_
      refine lv_iload_n hx hb dX8_about_29 rfl (lv_at hl 1 rfl) ?_
      obtain ⟨r5, hc6, hf⟩ := gbd hf
      refine gr_callV (As := [.int p1]) (rest := [.ref (a0 0)]) (st1 := [.int r5, .ref (a0 0)]) hE hl.1 ml_X8_118 (c_X1_told l g (fun k => a0 (k + 19)) (OuB_books s0) p1 r5 hc6) hZ hS hP [(19, 25)] rfl okX1 rfl rfl rfl rfl ⟨rfl, rfl⟩ ⟨Nat.le_of_ble_eq_true rfl, Nat.le_of_ble_eq_true rfl⟩ ⟨Nat.le_refl _, Nat.le_refl _⟩ (Nat.le_of_ble_eq_true rfl) dX8_about_30 ?_
      obtain ⟨r7, hc8, hf⟩ := gbd hf
      refine gm_callV1 (As := [.int r5]) (rest := []) (st1 := fun _ => [.int (r7.1)]) (ws' := fun _ => (OuB_c g a0 v_shelf (r7.2))) hE hl.1 ml_X8_103 (c_X8_accept_B l g a0 v_shelf s0 r5 r7 hc8) hZ hP hD hS hA 0 44 rfl (fun _ => rfl) okX8 rfl rfl rfl (fun _ => rfl) ⟨rfl, rfl⟩ ⟨Nat.le_of_ble_eq_true rfl, Nat.le_of_ble_eq_true rfl⟩ ⟨Nat.le_refl _, Nat.le_refl _⟩ (Nat.le_of_ble_eq_true rfl) dX8_about_33 (fun _ H locs hP hD hS => ?_)
      cases hf
      exact hq () rfl hP hD hS dX8_about_36
    · have hf := gif_f h4 hf
      refine lv_aload_n hx hb dX8_about_17 rfl (lv_at hl 0 rfl) ?_
      refine lv_iconst hx hb dX8_about_18 kci_1 ?_
      refine lv_iconst hx hb dX8_about_19 kci_m1 ?_
      obtain ⟨r9, hc10, hf⟩ := gbd hf
      refine gm_callV1 (As := [.int (1 : Int32), .int (-1 : Int32)]) (rest := []) (st1 := fun _ => [.int (r9.1)]) (ws' := fun _ => (OuB_c g a0 v_shelf (r9.2))) hE hl.1 ml_X8_69 (c_X8_refuse_B l g a0 v_shelf s0 (1 : Int32) (-1 : Int32) r9 hc10) hZ hP hD hS hA 0 44 rfl (fun _ => rfl) okX8 rfl rfl rfl (fun _ => rfl) ⟨rfl, rfl⟩ ⟨Nat.le_of_ble_eq_true rfl, Nat.le_of_ble_eq_true rfl⟩ ⟨Nat.le_refl _, Nat.le_refl _⟩ (Nat.le_of_ble_eq_true rfl) dX8_about_20 (fun _ H locs hP hD hS => ?_)
      cases hf
      exact hq () rfl hP hD hS dX8_about_23
def f_X8_letter_B (s0 : OuBT) (p1 : Int32) (p2 : Int32) (p3 : Int32) : Option (Int32 × OuBT) :=
  if p1 < 0 then (f_X8_refuse_B s0 (1 : Int32) (-1 : Int32)).bind fun r2 =>
  some ((r2.1), (r2.2))
  else if (1 : Int32) < p1 then (f_X8_refuse_B s0 (1 : Int32) (-1 : Int32)).bind fun r5 =>
  some ((r5.1), (r5.2))
  else if 0 ≤ p3 then if p1 = 0 then (f_X7_knows (Bk_keys (OuB_books s0)) p2).bind fun r18 =>
  if r18 = 0 then (f_X8_refuse_B s0 (1 : Int32) (-1 : Int32)).bind fun r25 =>
  some ((r25.1), (r25.2))
  else (f_X7_letterAt (Bk_keys (OuB_books s0)) p2 p3).bind fun r21 =>
  (f_X8_accept_B s0 r21).bind fun r23 =>
  some ((r23.1), (r23.2))
  else (f_X7_knows (Bk_values (OuB_books s0)) p2).bind fun r9 =>
  if r9 = 0 then (f_X8_refuse_B s0 (1 : Int32) (-1 : Int32)).bind fun r16 =>
  some ((r16.1), (r16.2))
  else (f_X7_letterAt (Bk_values (OuB_books s0)) p2 p3).bind fun r12 =>
  (f_X8_accept_B s0 r12).bind fun r14 =>
  some ((r14.1), (r14.2))
  else (f_X8_refuse_B s0 (1 : Int32) (-1 : Int32)).bind fun r27 =>
  some ((r27.1), (r27.2))
abbrev rm_X8_letter_B : Room := { frames := 2, cells := 0, slots := 0, locals := 43 }
set_option maxHeartbeats 4000000 in
set_option maxRecDepth 100000 in
theorem c_X8_letter_B (l : Launch) (g : GK) (a0 : Nat → Nat) (v_shelf : Value) (s0 : OuBT) (p1 : Int32) (p2 : Int32) (p3 : Int32) (res : (Int32 × OuBT)) (hf : f_X8_letter_B s0 p1 p2 p3 = some res) : gM l yX8_letter cX8_letter 5 (some .int) rm_X8_letter_B g [.ref (a0 0), .int p1, .int p2, .int p3] (OuB_c g a0 v_shelf s0) (fun _ : Unit => (some (.int (res.1)))) (fun _ => (OuB_c g a0 v_shelf (res.2))) 0 0 := by
  refine gM_introI RX8 (by decide) rfl (Nat.le_of_ble_eq_true rfl) (fun p e s m args below meth c Q H locs ls A hE hZ hA hP hD hS hq hl => ?_)
  have hl : lv_has ls 5 [(0, .ref (a0 0)), (1, .int p1), (2, .int p2), (3, .int p3)] := hl
  have hx := hE.1
  have hb := hE.2.1
  rw [f_X8_letter_B] at hf
  refine lv_aload_n hx hb dX8_letter_0 rfl (lv_at hl 0 rfl) ?_
  refine g_get hE okX8 fl_X8_31 hP 0 rfl (v := .ref (a0 19)) rfl dX8_letter_1 ?_
  refine lv_ifnull hx hb dX8_letter_4 ?_
  refine lv_iload_n hx hb dX8_letter_7 rfl (lv_at hl 1 rfl) ?_
  refine lv_if_lt hx hb dX8_letter_8 (tgt := 20) rfl (fun h1 => ?_) (fun h1 => ?_)
  · have hf := gif_t h1 hf
    refine lv_aload_n hx hb dX8_letter_20 rfl (lv_at hl 0 rfl) ?_
    refine lv_iconst hx hb dX8_letter_21 kci_1 ?_
    refine lv_iconst hx hb dX8_letter_22 kci_m1 ?_
    obtain ⟨r2, hc3, hf⟩ := gbd hf
    refine gm_callV1 (As := [.int (1 : Int32), .int (-1 : Int32)]) (rest := []) (st1 := fun _ => [.int (r2.1)]) (ws' := fun _ => (OuB_c g a0 v_shelf (r2.2))) hE hl.1 ml_X8_69 (c_X8_refuse_B l g a0 v_shelf s0 (1 : Int32) (-1 : Int32) r2 hc3) hZ hP hD hS hA 0 44 rfl (fun _ => rfl) okX8 rfl rfl rfl (fun _ => rfl) ⟨rfl, rfl⟩ ⟨Nat.le_of_ble_eq_true rfl, Nat.le_of_ble_eq_true rfl⟩ ⟨Nat.le_refl _, Nat.le_refl _⟩ (Nat.le_of_ble_eq_true rfl) dX8_letter_23 (fun _ H locs hP hD hS => ?_)
    cases hf
    exact hq () rfl hP hD hS dX8_letter_26
  · have hf := gif_f h1 hf
    refine lv_iload_n hx hb dX8_letter_11 rfl (lv_at hl 1 rfl) ?_
    refine lv_iconst hx hb dX8_letter_12 kci_1 ?_
    refine lv_icmp_gt hx hb dX8_letter_13 (tgt := 20) rfl (fun h4 => ?_) (fun h4 => ?_)
    · have hf := gif_t h4 hf
      refine lv_aload_n hx hb dX8_letter_20 rfl (lv_at hl 0 rfl) ?_
      refine lv_iconst hx hb dX8_letter_21 kci_1 ?_
      refine lv_iconst hx hb dX8_letter_22 kci_m1 ?_
      obtain ⟨r5, hc6, hf⟩ := gbd hf
      refine gm_callV1 (As := [.int (1 : Int32), .int (-1 : Int32)]) (rest := []) (st1 := fun _ => [.int (r5.1)]) (ws' := fun _ => (OuB_c g a0 v_shelf (r5.2))) hE hl.1 ml_X8_69 (c_X8_refuse_B l g a0 v_shelf s0 (1 : Int32) (-1 : Int32) r5 hc6) hZ hP hD hS hA 0 44 rfl (fun _ => rfl) okX8 rfl rfl rfl (fun _ => rfl) ⟨rfl, rfl⟩ ⟨Nat.le_of_ble_eq_true rfl, Nat.le_of_ble_eq_true rfl⟩ ⟨Nat.le_refl _, Nat.le_refl _⟩ (Nat.le_of_ble_eq_true rfl) dX8_letter_23 (fun _ H locs hP hD hS => ?_)
      cases hf
      exact hq () rfl hP hD hS dX8_letter_26
    · have hf := gif_f h4 hf
      refine lv_iload_n hx hb dX8_letter_16 rfl (lv_at hl 3 rfl) ?_
      refine lv_if_ge hx hb dX8_letter_17 (tgt := 27) rfl (fun h7 => ?_) (fun h7 => ?_)
      · have hf := gif_t h7 hf
        refine lv_iload_n hx hb dX8_letter_27 rfl (lv_at hl 1 rfl) ?_
        refine lv_if_ne hx hb dX8_letter_28 (tgt := 41) rfl (fun h8 => ?_) (fun h8 => ?_)
        · have hf := gif_f h8 hf
          refine lv_aload_n hx hb dX8_letter_41 rfl (lv_at hl 0 rfl) ?_
          refine g_get hE okX8 fl_X8_31 hP 0 rfl (v := .ref (a0 19)) rfl dX8_letter_42 ?_
          refine g_get hE okX1 fl_X8_111 hP 19 rfl (v := .ref (a0 22)) rfl dX8_letter_45 ?_
          refine lv_astore hx hb dX8_letter_48 hl (by decide) (lv' := [(4, .ref (a0 22)), (0, .ref (a0 0)), (1, .int p1), (2, .int p2), (3, .int p3)]) rfl (fun ls hl => ?_)
          refine lv_aload hx hb dX8_letter_50 (lv_at hl 0 rfl) ?_
          refine lv_iload_n hx hb dX8_letter_52 rfl (lv_at hl 3 rfl) ?_
          obtain ⟨r9, hc10, hf⟩ := gbd hf
          refine gr_callV (As := [.int p2]) (rest := []) (st1 := [.int r9]) hE hl.1 ml_X8_121 (c_X7_knows l g (fun k => a0 (k + 22)) (Bk_values (OuB_books s0)) p2 r9 hc10) hZ hS hP [(22, 2)] rfl okX7 rfl rfl rfl rfl ⟨rfl, rfl⟩ ⟨Nat.le_of_ble_eq_true rfl, Nat.le_of_ble_eq_true rfl⟩ ⟨Nat.le_refl _, Nat.le_refl _⟩ (Nat.le_of_ble_eq_true rfl) dX8_letter_53 ?_
          refine lv_if_ne hx hb dX8_letter_56 (tgt := 66) rfl (fun h11 => ?_) (fun h11 => ?_)
          · have hf := gif_f h11 hf
            refine lv_aload_n hx hb dX8_letter_66 rfl (lv_at hl 1 rfl) ?_
            refine lv_aload hx hb dX8_letter_67 (lv_at hl 0 rfl) ?_
            refine lv_iload_n hx hb dX8_letter_69 rfl (lv_at hl 3 rfl) ?_
            refine lv_iload_n hx hb dX8_letter_70 rfl (lv_at hl 4 rfl) ?_
            obtain ⟨r12, hc13, hf⟩ := gbd hf
            refine gr_callV (As := [.int p2, .int p3]) (rest := [.ref (a0 0)]) (st1 := [.int r12, .ref (a0 0)]) hE hl.1 ml_X8_126 (c_X7_letterAt l g (fun k => a0 (k + 22)) (Bk_values (OuB_books s0)) p2 p3 r12 hc13) hZ hS hP [(22, 2)] rfl okX7 rfl rfl rfl rfl ⟨rfl, rfl⟩ ⟨Nat.le_of_ble_eq_true rfl, Nat.le_of_ble_eq_true rfl⟩ ⟨Nat.le_refl _, Nat.le_refl _⟩ (Nat.le_of_ble_eq_true rfl) dX8_letter_71 ?_
            obtain ⟨r14, hc15, hf⟩ := gbd hf
            refine gm_callV1 (As := [.int r12]) (rest := []) (st1 := fun _ => [.int (r14.1)]) (ws' := fun _ => (OuB_c g a0 v_shelf (r14.2))) hE hl.1 ml_X8_103 (c_X8_accept_B l g a0 v_shelf s0 r12 r14 hc15) hZ hP hD hS hA 0 44 rfl (fun _ => rfl) okX8 rfl rfl rfl (fun _ => rfl) ⟨rfl, rfl⟩ ⟨Nat.le_of_ble_eq_true rfl, Nat.le_of_ble_eq_true rfl⟩ ⟨Nat.le_refl _, Nat.le_refl _⟩ (Nat.le_of_ble_eq_true rfl) dX8_letter_74 (fun _ H locs hP hD hS => ?_)
            cases hf
            exact hq () rfl hP hD hS dX8_letter_77
          · have hf := gif_t h11 hf
            refine lv_aload_n hx hb dX8_letter_59 rfl (lv_at hl 1 rfl) ?_
            refine lv_iconst hx hb dX8_letter_60 kci_1 ?_
            refine lv_iconst hx hb dX8_letter_61 kci_m1 ?_
            obtain ⟨r16, hc17, hf⟩ := gbd hf
            refine gm_callV1 (As := [.int (1 : Int32), .int (-1 : Int32)]) (rest := []) (st1 := fun _ => [.int (r16.1)]) (ws' := fun _ => (OuB_c g a0 v_shelf (r16.2))) hE hl.1 ml_X8_69 (c_X8_refuse_B l g a0 v_shelf s0 (1 : Int32) (-1 : Int32) r16 hc17) hZ hP hD hS hA 0 44 rfl (fun _ => rfl) okX8 rfl rfl rfl (fun _ => rfl) ⟨rfl, rfl⟩ ⟨Nat.le_of_ble_eq_true rfl, Nat.le_of_ble_eq_true rfl⟩ ⟨Nat.le_refl _, Nat.le_refl _⟩ (Nat.le_of_ble_eq_true rfl) dX8_letter_62 (fun _ H locs hP hD hS => ?_)
            cases hf
            exact hq () rfl hP hD hS dX8_letter_65
        · have hf := gif_t h8 hf
          refine lv_aload_n hx hb dX8_letter_31 rfl (lv_at hl 0 rfl) ?_
          refine g_get hE okX8 fl_X8_31 hP 0 rfl (v := .ref (a0 19)) rfl dX8_letter_32 ?_
          refine g_get hE okX1 fl_X8_107 hP 19 rfl (v := .ref (a0 20)) rfl dX8_letter_35 ?_
          refine lv_goto hx hb dX8_letter_38 (tgt := 48) rfl ?_
          refine lv_astore hx hb dX8_letter_48 hl (by decide) (lv' := [(4, .ref (a0 20)), (0, .ref (a0 0)), (1, .int p1), (2, .int p2), (3, .int p3)]) rfl (fun ls hl => ?_)
          refine lv_aload hx hb dX8_letter_50 (lv_at hl 0 rfl) ?_
          refine lv_iload_n hx hb dX8_letter_52 rfl (lv_at hl 3 rfl) ?_
          obtain ⟨r18, hc19, hf⟩ := gbd hf
          refine gr_callV (As := [.int p2]) (rest := []) (st1 := [.int r18]) hE hl.1 ml_X8_121 (c_X7_knows l g (fun k => a0 (k + 20)) (Bk_keys (OuB_books s0)) p2 r18 hc19) hZ hS hP [(20, 2)] rfl okX7 rfl rfl rfl rfl ⟨rfl, rfl⟩ ⟨Nat.le_of_ble_eq_true rfl, Nat.le_of_ble_eq_true rfl⟩ ⟨Nat.le_refl _, Nat.le_refl _⟩ (Nat.le_of_ble_eq_true rfl) dX8_letter_53 ?_
          refine lv_if_ne hx hb dX8_letter_56 (tgt := 66) rfl (fun h20 => ?_) (fun h20 => ?_)
          · have hf := gif_f h20 hf
            refine lv_aload_n hx hb dX8_letter_66 rfl (lv_at hl 1 rfl) ?_
            refine lv_aload hx hb dX8_letter_67 (lv_at hl 0 rfl) ?_
            refine lv_iload_n hx hb dX8_letter_69 rfl (lv_at hl 3 rfl) ?_
            refine lv_iload_n hx hb dX8_letter_70 rfl (lv_at hl 4 rfl) ?_
            obtain ⟨r21, hc22, hf⟩ := gbd hf
            refine gr_callV (As := [.int p2, .int p3]) (rest := [.ref (a0 0)]) (st1 := [.int r21, .ref (a0 0)]) hE hl.1 ml_X8_126 (c_X7_letterAt l g (fun k => a0 (k + 20)) (Bk_keys (OuB_books s0)) p2 p3 r21 hc22) hZ hS hP [(20, 2)] rfl okX7 rfl rfl rfl rfl ⟨rfl, rfl⟩ ⟨Nat.le_of_ble_eq_true rfl, Nat.le_of_ble_eq_true rfl⟩ ⟨Nat.le_refl _, Nat.le_refl _⟩ (Nat.le_of_ble_eq_true rfl) dX8_letter_71 ?_
            obtain ⟨r23, hc24, hf⟩ := gbd hf
            refine gm_callV1 (As := [.int r21]) (rest := []) (st1 := fun _ => [.int (r23.1)]) (ws' := fun _ => (OuB_c g a0 v_shelf (r23.2))) hE hl.1 ml_X8_103 (c_X8_accept_B l g a0 v_shelf s0 r21 r23 hc24) hZ hP hD hS hA 0 44 rfl (fun _ => rfl) okX8 rfl rfl rfl (fun _ => rfl) ⟨rfl, rfl⟩ ⟨Nat.le_of_ble_eq_true rfl, Nat.le_of_ble_eq_true rfl⟩ ⟨Nat.le_refl _, Nat.le_refl _⟩ (Nat.le_of_ble_eq_true rfl) dX8_letter_74 (fun _ H locs hP hD hS => ?_)
            cases hf
            exact hq () rfl hP hD hS dX8_letter_77
          · have hf := gif_t h20 hf
            refine lv_aload_n hx hb dX8_letter_59 rfl (lv_at hl 1 rfl) ?_
            refine lv_iconst hx hb dX8_letter_60 kci_1 ?_
            refine lv_iconst hx hb dX8_letter_61 kci_m1 ?_
            obtain ⟨r25, hc26, hf⟩ := gbd hf
            refine gm_callV1 (As := [.int (1 : Int32), .int (-1 : Int32)]) (rest := []) (st1 := fun _ => [.int (r25.1)]) (ws' := fun _ => (OuB_c g a0 v_shelf (r25.2))) hE hl.1 ml_X8_69 (c_X8_refuse_B l g a0 v_shelf s0 (1 : Int32) (-1 : Int32) r25 hc26) hZ hP hD hS hA 0 44 rfl (fun _ => rfl) okX8 rfl rfl rfl (fun _ => rfl) ⟨rfl, rfl⟩ ⟨Nat.le_of_ble_eq_true rfl, Nat.le_of_ble_eq_true rfl⟩ ⟨Nat.le_refl _, Nat.le_refl _⟩ (Nat.le_of_ble_eq_true rfl) dX8_letter_62 (fun _ H locs hP hD hS => ?_)
            cases hf
            exact hq () rfl hP hD hS dX8_letter_65
      · have hf := gif_f h7 hf
        refine lv_aload_n hx hb dX8_letter_20 rfl (lv_at hl 0 rfl) ?_
        refine lv_iconst hx hb dX8_letter_21 kci_1 ?_
        refine lv_iconst hx hb dX8_letter_22 kci_m1 ?_
        obtain ⟨r27, hc28, hf⟩ := gbd hf
        refine gm_callV1 (As := [.int (1 : Int32), .int (-1 : Int32)]) (rest := []) (st1 := fun _ => [.int (r27.1)]) (ws' := fun _ => (OuB_c g a0 v_shelf (r27.2))) hE hl.1 ml_X8_69 (c_X8_refuse_B l g a0 v_shelf s0 (1 : Int32) (-1 : Int32) r27 hc28) hZ hP hD hS hA 0 44 rfl (fun _ => rfl) okX8 rfl rfl rfl (fun _ => rfl) ⟨rfl, rfl⟩ ⟨Nat.le_of_ble_eq_true rfl, Nat.le_of_ble_eq_true rfl⟩ ⟨Nat.le_refl _, Nat.le_refl _⟩ (Nat.le_of_ble_eq_true rfl) dX8_letter_23 (fun _ H locs hP hD hS => ?_)
        cases hf
        exact hq () rfl hP hD hS dX8_letter_26
def f_X8_net_B (s0 : OuBT) (p1 : Int32) (p2 : Int32) (p3 : Int32) : Option (Int32 × OuBT) :=
  (f_X8_isSide p1).bind fun r1 =>
  if r1 = 0 then (f_X8_refuse_B s0 (1 : Int32) (-2147483648 : Int32)).bind fun r4 =>
  some ((r4.1), (r4.2))
  else (f_X8_isKey_B s0 p2).bind fun r6 =>
  if r6 = 0 then (f_X8_refuse_B s0 (1 : Int32) (-2147483648 : Int32)).bind fun r9 =>
  some ((r9.1), (r9.2))
  else (f_X8_isValue_B s0 p3).bind fun r11 =>
  if r11 = 0 then (f_X8_refuse_B s0 (1 : Int32) (-2147483648 : Int32)).bind fun r18 =>
  some ((r18.1), (r18.2))
  else (f_X0_netOf (Bk_board (OuB_books s0)) p1 p2 p3).bind fun r14 =>
  (f_X8_accept_B s0 r14).bind fun r16 =>
  some ((r16.1), (r16.2))
abbrev rm_X8_net_B : Room := { frames := 2, cells := 0, slots := 0, locals := 45 }
set_option maxHeartbeats 4000000 in
set_option maxRecDepth 100000 in
theorem c_X8_net_B (l : Launch) (g : GK) (a0 : Nat → Nat) (v_shelf : Value) (s0 : OuBT) (p1 : Int32) (p2 : Int32) (p3 : Int32) (res : (Int32 × OuBT)) (hf : f_X8_net_B s0 p1 p2 p3 = some res) : gM l yX8_net cX8_net 4 (some .int) rm_X8_net_B g [.ref (a0 0), .int p1, .int p2, .int p3] (OuB_c g a0 v_shelf s0) (fun _ : Unit => (some (.int (res.1)))) (fun _ => (OuB_c g a0 v_shelf (res.2))) 0 0 := by
  refine gM_introI RX8 (by decide) rfl (Nat.le_of_ble_eq_true rfl) (fun p e s m args below meth c Q H locs ls A hE hZ hA hP hD hS hq hl => ?_)
  have hl : lv_has ls 4 [(0, .ref (a0 0)), (1, .int p1), (2, .int p2), (3, .int p3)] := hl
  have hx := hE.1
  have hb := hE.2.1
  rw [f_X8_net_B] at hf
  refine lv_iload_n hx hb dX8_net_0 rfl (lv_at hl 1 rfl) ?_
  obtain ⟨r1, hc2, hf⟩ := gbd hf
  refine gr_callS (As := [.int p1]) (rest := []) (st1 := [.int r1]) hE hl.1 ml_X8_129 (c_X8_isSide l g p1 r1 hc2) hZ hS hP [] rfl rfl rfl rfl ⟨rfl, rfl⟩ ⟨Nat.le_of_ble_eq_true rfl, Nat.le_of_ble_eq_true rfl⟩ ⟨Nat.le_refl _, Nat.le_refl _⟩ (Nat.le_of_ble_eq_true rfl) dX8_net_1 ?_
  refine lv_if_eq hx hb dX8_net_4 (tgt := 23) rfl (fun h3 => ?_) (fun h3 => ?_)
  · have hf := gif_t h3 hf
    refine lv_aload_n hx hb dX8_net_23 rfl (lv_at hl 0 rfl) ?_
    refine lv_iconst hx hb dX8_net_24 kci_1 ?_
    refine lv_ldc hx hb hE.2.2.2.2.2.1 (hE.2.2.2.2.2.2.1 _ kd_X8_138) dX8_net_25 ?_
    obtain ⟨r4, hc5, hf⟩ := gbd hf
    refine gm_callV1 (As := [.int (1 : Int32), .int (-2147483648 : Int32)]) (rest := []) (st1 := fun _ => [.int (r4.1)]) (ws' := fun _ => (OuB_c g a0 v_shelf (r4.2))) hE hl.1 ml_X8_69 (c_X8_refuse_B l g a0 v_shelf s0 (1 : Int32) (-2147483648 : Int32) r4 hc5) hZ hP hD hS hA 0 44 rfl (fun _ => rfl) okX8 rfl rfl rfl (fun _ => rfl) ⟨rfl, rfl⟩ ⟨Nat.le_of_ble_eq_true rfl, Nat.le_of_ble_eq_true rfl⟩ ⟨Nat.le_refl _, Nat.le_refl _⟩ (Nat.le_of_ble_eq_true rfl) dX8_net_27 (fun _ H locs hP hD hS => ?_)
    cases hf
    exact hq () rfl hP hD hS dX8_net_30
  · have hf := gif_f h3 hf
    refine lv_aload_n hx hb dX8_net_7 rfl (lv_at hl 0 rfl) ?_
    refine lv_iload_n hx hb dX8_net_8 rfl (lv_at hl 2 rfl) ?_
    obtain ⟨r6, hc7, hf⟩ := gbd hf
    refine gr_callV (As := [.int p2]) (rest := []) (st1 := [.int r6]) hE hl.1 ml_X8_132 (c_X8_isKey_B l g a0 v_shelf s0 p2 r6 hc7) hZ hS hP [(0, 44)] rfl okX8 rfl rfl rfl rfl ⟨rfl, rfl⟩ ⟨Nat.le_of_ble_eq_true rfl, Nat.le_of_ble_eq_true rfl⟩ ⟨Nat.le_refl _, Nat.le_refl _⟩ (Nat.le_of_ble_eq_true rfl) dX8_net_9 ?_
    refine lv_if_eq hx hb dX8_net_12 (tgt := 23) rfl (fun h8 => ?_) (fun h8 => ?_)
    · have hf := gif_t h8 hf
      refine lv_aload_n hx hb dX8_net_23 rfl (lv_at hl 0 rfl) ?_
      refine lv_iconst hx hb dX8_net_24 kci_1 ?_
      refine lv_ldc hx hb hE.2.2.2.2.2.1 (hE.2.2.2.2.2.2.1 _ kd_X8_138) dX8_net_25 ?_
      obtain ⟨r9, hc10, hf⟩ := gbd hf
      refine gm_callV1 (As := [.int (1 : Int32), .int (-2147483648 : Int32)]) (rest := []) (st1 := fun _ => [.int (r9.1)]) (ws' := fun _ => (OuB_c g a0 v_shelf (r9.2))) hE hl.1 ml_X8_69 (c_X8_refuse_B l g a0 v_shelf s0 (1 : Int32) (-2147483648 : Int32) r9 hc10) hZ hP hD hS hA 0 44 rfl (fun _ => rfl) okX8 rfl rfl rfl (fun _ => rfl) ⟨rfl, rfl⟩ ⟨Nat.le_of_ble_eq_true rfl, Nat.le_of_ble_eq_true rfl⟩ ⟨Nat.le_refl _, Nat.le_refl _⟩ (Nat.le_of_ble_eq_true rfl) dX8_net_27 (fun _ H locs hP hD hS => ?_)
      cases hf
      exact hq () rfl hP hD hS dX8_net_30
    · have hf := gif_f h8 hf
      refine lv_aload_n hx hb dX8_net_15 rfl (lv_at hl 0 rfl) ?_
      refine lv_iload_n hx hb dX8_net_16 rfl (lv_at hl 3 rfl) ?_
      obtain ⟨r11, hc12, hf⟩ := gbd hf
      refine gr_callV (As := [.int p3]) (rest := []) (st1 := [.int r11]) hE hl.1 ml_X8_135 (c_X8_isValue_B l g a0 v_shelf s0 p3 r11 hc12) hZ hS hP [(0, 44)] rfl okX8 rfl rfl rfl rfl ⟨rfl, rfl⟩ ⟨Nat.le_of_ble_eq_true rfl, Nat.le_of_ble_eq_true rfl⟩ ⟨Nat.le_refl _, Nat.le_refl _⟩ (Nat.le_of_ble_eq_true rfl) dX8_net_17 ?_
      refine lv_if_ne hx hb dX8_net_20 (tgt := 31) rfl (fun h13 => ?_) (fun h13 => ?_)
      · have hf := gif_f h13 hf
        refine lv_aload_n hx hb dX8_net_31 rfl (lv_at hl 0 rfl) ?_
        refine lv_aload_n hx hb dX8_net_32 rfl (lv_at hl 0 rfl) ?_
        refine g_get hE okX8 fl_X8_31 hP 0 rfl (v := .ref (a0 19)) rfl dX8_net_33 ?_
        refine g_get hE okX1 fl_X8_139 hP 19 rfl (v := .ref (a0 24)) rfl dX8_net_36 ?_
        refine lv_iload_n hx hb dX8_net_39 rfl (lv_at hl 1 rfl) ?_
        refine lv_iload_n hx hb dX8_net_40 rfl (lv_at hl 2 rfl) ?_
        refine lv_iload_n hx hb dX8_net_41 rfl (lv_at hl 3 rfl) ?_
        obtain ⟨r14, hc15, hf⟩ := gbd hf
        refine gr_callV (As := [.int p1, .int p2, .int p3]) (rest := [.ref (a0 0)]) (st1 := [.int r14, .ref (a0 0)]) hE hl.1 ml_X8_142 (c_X0_netOf l g (fun k => a0 (k + 24)) (Bk_board (OuB_books s0)) p1 p2 p3 r14 hc15) hZ hS hP [(24, 9)] rfl okX0 rfl rfl rfl rfl ⟨rfl, rfl⟩ ⟨Nat.le_of_ble_eq_true rfl, Nat.le_of_ble_eq_true rfl⟩ ⟨Nat.le_refl _, Nat.le_refl _⟩ (Nat.le_of_ble_eq_true rfl) dX8_net_42 ?_
        obtain ⟨r16, hc17, hf⟩ := gbd hf
        refine gm_callV1 (As := [.int r14]) (rest := []) (st1 := fun _ => [.int (r16.1)]) (ws' := fun _ => (OuB_c g a0 v_shelf (r16.2))) hE hl.1 ml_X8_103 (c_X8_accept_B l g a0 v_shelf s0 r14 r16 hc17) hZ hP hD hS hA 0 44 rfl (fun _ => rfl) okX8 rfl rfl rfl (fun _ => rfl) ⟨rfl, rfl⟩ ⟨Nat.le_of_ble_eq_true rfl, Nat.le_of_ble_eq_true rfl⟩ ⟨Nat.le_refl _, Nat.le_refl _⟩ (Nat.le_of_ble_eq_true rfl) dX8_net_45 (fun _ H locs hP hD hS => ?_)
        cases hf
        exact hq () rfl hP hD hS dX8_net_48
      · have hf := gif_t h13 hf
        refine lv_aload_n hx hb dX8_net_23 rfl (lv_at hl 0 rfl) ?_
        refine lv_iconst hx hb dX8_net_24 kci_1 ?_
        refine lv_ldc hx hb hE.2.2.2.2.2.1 (hE.2.2.2.2.2.2.1 _ kd_X8_138) dX8_net_25 ?_
        obtain ⟨r18, hc19, hf⟩ := gbd hf
        refine gm_callV1 (As := [.int (1 : Int32), .int (-2147483648 : Int32)]) (rest := []) (st1 := fun _ => [.int (r18.1)]) (ws' := fun _ => (OuB_c g a0 v_shelf (r18.2))) hE hl.1 ml_X8_69 (c_X8_refuse_B l g a0 v_shelf s0 (1 : Int32) (-2147483648 : Int32) r18 hc19) hZ hP hD hS hA 0 44 rfl (fun _ => rfl) okX8 rfl rfl rfl (fun _ => rfl) ⟨rfl, rfl⟩ ⟨Nat.le_of_ble_eq_true rfl, Nat.le_of_ble_eq_true rfl⟩ ⟨Nat.le_refl _, Nat.le_refl _⟩ (Nat.le_of_ble_eq_true rfl) dX8_net_27 (fun _ H locs hP hD hS => ?_)
        cases hf
        exact hq () rfl hP hD hS dX8_net_30
def f_X8_there_B (s0 : OuBT) (p1 : Int32) (p2 : Int32) : Option (Int32 × OuBT) :=
  (f_X8_isSide p1).bind fun r1 =>
  if r1 = 0 then (f_X8_refuse_B s0 (1 : Int32) (-1 : Int32)).bind fun r4 =>
  some ((r4.1), (r4.2))
  else (f_X8_isKey_B s0 p2).bind fun r6 =>
  if r6 = 0 then (f_X8_refuse_B s0 (1 : Int32) (-1 : Int32)).bind fun r13 =>
  some ((r13.1), (r13.2))
  else (f_X0_thereOfAll (Bk_board (OuB_books s0)) p1 p2).bind fun r9 =>
  (f_X8_accept_B s0 r9).bind fun r11 =>
  some ((r11.1), (r11.2))
abbrev rm_X8_there_B : Room := { frames := 3, cells := 0, slots := 0, locals := 70 }
set_option maxHeartbeats 4000000 in
set_option maxRecDepth 100000 in
theorem c_X8_there_B (l : Launch) (g : GK) (a0 : Nat → Nat) (v_shelf : Value) (s0 : OuBT) (p1 : Int32) (p2 : Int32) (res : (Int32 × OuBT)) (hf : f_X8_there_B s0 p1 p2 = some res) : gM l yX8_there cX8_there 3 (some .int) rm_X8_there_B g [.ref (a0 0), .int p1, .int p2] (OuB_c g a0 v_shelf s0) (fun _ : Unit => (some (.int (res.1)))) (fun _ => (OuB_c g a0 v_shelf (res.2))) 0 0 := by
  refine gM_introI RX8 (by decide) rfl (Nat.le_of_ble_eq_true rfl) (fun p e s m args below meth c Q H locs ls A hE hZ hA hP hD hS hq hl => ?_)
  have hl : lv_has ls 3 [(0, .ref (a0 0)), (1, .int p1), (2, .int p2)] := hl
  have hx := hE.1
  have hb := hE.2.1
  rw [f_X8_there_B] at hf
  refine lv_iload_n hx hb dX8_there_0 rfl (lv_at hl 1 rfl) ?_
  obtain ⟨r1, hc2, hf⟩ := gbd hf
  refine gr_callS (As := [.int p1]) (rest := []) (st1 := [.int r1]) hE hl.1 ml_X8_129 (c_X8_isSide l g p1 r1 hc2) hZ hS hP [] rfl rfl rfl rfl ⟨rfl, rfl⟩ ⟨Nat.le_of_ble_eq_true rfl, Nat.le_of_ble_eq_true rfl⟩ ⟨Nat.le_refl _, Nat.le_refl _⟩ (Nat.le_of_ble_eq_true rfl) dX8_there_1 ?_
  refine lv_if_eq hx hb dX8_there_4 (tgt := 15) rfl (fun h3 => ?_) (fun h3 => ?_)
  · have hf := gif_t h3 hf
    refine lv_aload_n hx hb dX8_there_15 rfl (lv_at hl 0 rfl) ?_
    refine lv_iconst hx hb dX8_there_16 kci_1 ?_
    refine lv_iconst hx hb dX8_there_17 kci_m1 ?_
    obtain ⟨r4, hc5, hf⟩ := gbd hf
    refine gm_callV1 (As := [.int (1 : Int32), .int (-1 : Int32)]) (rest := []) (st1 := fun _ => [.int (r4.1)]) (ws' := fun _ => (OuB_c g a0 v_shelf (r4.2))) hE hl.1 ml_X8_69 (c_X8_refuse_B l g a0 v_shelf s0 (1 : Int32) (-1 : Int32) r4 hc5) hZ hP hD hS hA 0 44 rfl (fun _ => rfl) okX8 rfl rfl rfl (fun _ => rfl) ⟨rfl, rfl⟩ ⟨Nat.le_of_ble_eq_true rfl, Nat.le_of_ble_eq_true rfl⟩ ⟨Nat.le_refl _, Nat.le_refl _⟩ (Nat.le_of_ble_eq_true rfl) dX8_there_18 (fun _ H locs hP hD hS => ?_)
    cases hf
    exact hq () rfl hP hD hS dX8_there_21
  · have hf := gif_f h3 hf
    refine lv_aload_n hx hb dX8_there_7 rfl (lv_at hl 0 rfl) ?_
    refine lv_iload_n hx hb dX8_there_8 rfl (lv_at hl 2 rfl) ?_
    obtain ⟨r6, hc7, hf⟩ := gbd hf
    refine gr_callV (As := [.int p2]) (rest := []) (st1 := [.int r6]) hE hl.1 ml_X8_132 (c_X8_isKey_B l g a0 v_shelf s0 p2 r6 hc7) hZ hS hP [(0, 44)] rfl okX8 rfl rfl rfl rfl ⟨rfl, rfl⟩ ⟨Nat.le_of_ble_eq_true rfl, Nat.le_of_ble_eq_true rfl⟩ ⟨Nat.le_refl _, Nat.le_refl _⟩ (Nat.le_of_ble_eq_true rfl) dX8_there_9 ?_
    refine lv_if_ne hx hb dX8_there_12 (tgt := 22) rfl (fun h8 => ?_) (fun h8 => ?_)
    · have hf := gif_f h8 hf
      refine lv_aload_n hx hb dX8_there_22 rfl (lv_at hl 0 rfl) ?_
      refine lv_aload_n hx hb dX8_there_23 rfl (lv_at hl 0 rfl) ?_
      refine g_get hE okX8 fl_X8_31 hP 0 rfl (v := .ref (a0 19)) rfl dX8_there_24 ?_
      refine g_get hE okX1 fl_X8_139 hP 19 rfl (v := .ref (a0 24)) rfl dX8_there_27 ?_
      refine lv_iload_n hx hb dX8_there_30 rfl (lv_at hl 1 rfl) ?_
      refine lv_iload_n hx hb dX8_there_31 rfl (lv_at hl 2 rfl) ?_
      obtain ⟨r9, hc10, hf⟩ := gbd hf
      refine gr_callV (As := [.int p1, .int p2]) (rest := [.ref (a0 0)]) (st1 := [.int r9, .ref (a0 0)]) hE hl.1 ml_X8_146 (c_X0_thereOfAll l g (fun k => a0 (k + 24)) (Bk_board (OuB_books s0)) p1 p2 r9 hc10) hZ hS hP [(24, 9)] rfl okX0 rfl rfl rfl rfl ⟨rfl, rfl⟩ ⟨Nat.le_of_ble_eq_true rfl, Nat.le_of_ble_eq_true rfl⟩ ⟨Nat.le_refl _, Nat.le_refl _⟩ (Nat.le_of_ble_eq_true rfl) dX8_there_32 ?_
      obtain ⟨r11, hc12, hf⟩ := gbd hf
      refine gm_callV1 (As := [.int r9]) (rest := []) (st1 := fun _ => [.int (r11.1)]) (ws' := fun _ => (OuB_c g a0 v_shelf (r11.2))) hE hl.1 ml_X8_103 (c_X8_accept_B l g a0 v_shelf s0 r9 r11 hc12) hZ hP hD hS hA 0 44 rfl (fun _ => rfl) okX8 rfl rfl rfl (fun _ => rfl) ⟨rfl, rfl⟩ ⟨Nat.le_of_ble_eq_true rfl, Nat.le_of_ble_eq_true rfl⟩ ⟨Nat.le_refl _, Nat.le_refl _⟩ (Nat.le_of_ble_eq_true rfl) dX8_there_35 (fun _ H locs hP hD hS => ?_)
      cases hf
      exact hq () rfl hP hD hS dX8_there_38
    · have hf := gif_t h8 hf
      refine lv_aload_n hx hb dX8_there_15 rfl (lv_at hl 0 rfl) ?_
      refine lv_iconst hx hb dX8_there_16 kci_1 ?_
      refine lv_iconst hx hb dX8_there_17 kci_m1 ?_
      obtain ⟨r13, hc14, hf⟩ := gbd hf
      refine gm_callV1 (As := [.int (1 : Int32), .int (-1 : Int32)]) (rest := []) (st1 := fun _ => [.int (r13.1)]) (ws' := fun _ => (OuB_c g a0 v_shelf (r13.2))) hE hl.1 ml_X8_69 (c_X8_refuse_B l g a0 v_shelf s0 (1 : Int32) (-1 : Int32) r13 hc14) hZ hP hD hS hA 0 44 rfl (fun _ => rfl) okX8 rfl rfl rfl (fun _ => rfl) ⟨rfl, rfl⟩ ⟨Nat.le_of_ble_eq_true rfl, Nat.le_of_ble_eq_true rfl⟩ ⟨Nat.le_refl _, Nat.le_refl _⟩ (Nat.le_of_ble_eq_true rfl) dX8_there_18 (fun _ H locs hP hD hS => ?_)
      cases hf
      exact hq () rfl hP hD hS dX8_there_21
def f_X8_key_B (s0 : OuBT) (p1 : Int32) (p2 : Int32) : Option (Int32 × OuBT) :=
  (f_X8_isKey_B s0 p1).bind fun r1 =>
  if r1 = 0 then (f_X8_refuse_B s0 (1 : Int32) (-1 : Int32)).bind fun r4 =>
  some ((r4.1), (r4.2))
  else if p2 < 0 then (f_X8_refuse_B s0 (1 : Int32) (-1 : Int32)).bind fun r7 =>
  some ((r7.1), (r7.2))
  else if p2 ≤ (4 : Int32) then (f_X1_toldOfKey (OuB_books s0) p1 p2).bind fun r10 =>
  (f_X8_accept_B s0 r10).bind fun r12 =>
  some ((r12.1), (r12.2))
  else (f_X8_refuse_B s0 (1 : Int32) (-1 : Int32)).bind fun r14 =>
  some ((r14.1), (r14.2))
abbrev rm_X8_key_B : Room := { frames := 2, cells := 0, slots := 0, locals := 43 }
set_option maxHeartbeats 4000000 in
set_option maxRecDepth 100000 in
theorem c_X8_key_B (l : Launch) (g : GK) (a0 : Nat → Nat) (v_shelf : Value) (s0 : OuBT) (p1 : Int32) (p2 : Int32) (res : (Int32 × OuBT)) (hf : f_X8_key_B s0 p1 p2 = some res) : gM l yX8_key cX8_key 3 (some .int) rm_X8_key_B g [.ref (a0 0), .int p1, .int p2] (OuB_c g a0 v_shelf s0) (fun _ : Unit => (some (.int (res.1)))) (fun _ => (OuB_c g a0 v_shelf (res.2))) 0 0 := by
  refine gM_introI RX8 (by decide) rfl (Nat.le_of_ble_eq_true rfl) (fun p e s m args below meth c Q H locs ls A hE hZ hA hP hD hS hq hl => ?_)
  have hl : lv_has ls 3 [(0, .ref (a0 0)), (1, .int p1), (2, .int p2)] := hl
  have hx := hE.1
  have hb := hE.2.1
  rw [f_X8_key_B] at hf
  refine lv_aload_n hx hb dX8_key_0 rfl (lv_at hl 0 rfl) ?_
  refine lv_iload_n hx hb dX8_key_1 rfl (lv_at hl 1 rfl) ?_
  obtain ⟨r1, hc2, hf⟩ := gbd hf
  refine gr_callV (As := [.int p1]) (rest := []) (st1 := [.int r1]) hE hl.1 ml_X8_132 (c_X8_isKey_B l g a0 v_shelf s0 p1 r1 hc2) hZ hS hP [(0, 44)] rfl okX8 rfl rfl rfl rfl ⟨rfl, rfl⟩ ⟨Nat.le_of_ble_eq_true rfl, Nat.le_of_ble_eq_true rfl⟩ ⟨Nat.le_refl _, Nat.le_refl _⟩ (Nat.le_of_ble_eq_true rfl) dX8_key_2 ?_
  refine lv_if_eq hx hb dX8_key_5 (tgt := 17) rfl (fun h3 => ?_) (fun h3 => ?_)
  · have hf := gif_t h3 hf
    refine lv_aload_n hx hb dX8_key_17 rfl (lv_at hl 0 rfl) ?_
    refine lv_iconst hx hb dX8_key_18 kci_1 ?_
    refine lv_iconst hx hb dX8_key_19 kci_m1 ?_
    obtain ⟨r4, hc5, hf⟩ := gbd hf
    refine gm_callV1 (As := [.int (1 : Int32), .int (-1 : Int32)]) (rest := []) (st1 := fun _ => [.int (r4.1)]) (ws' := fun _ => (OuB_c g a0 v_shelf (r4.2))) hE hl.1 ml_X8_69 (c_X8_refuse_B l g a0 v_shelf s0 (1 : Int32) (-1 : Int32) r4 hc5) hZ hP hD hS hA 0 44 rfl (fun _ => rfl) okX8 rfl rfl rfl (fun _ => rfl) ⟨rfl, rfl⟩ ⟨Nat.le_of_ble_eq_true rfl, Nat.le_of_ble_eq_true rfl⟩ ⟨Nat.le_refl _, Nat.le_refl _⟩ (Nat.le_of_ble_eq_true rfl) dX8_key_20 (fun _ H locs hP hD hS => ?_)
    cases hf
    exact hq () rfl hP hD hS dX8_key_23
  · have hf := gif_f h3 hf
    refine lv_iload_n hx hb dX8_key_8 rfl (lv_at hl 2 rfl) ?_
    refine lv_if_lt hx hb dX8_key_9 (tgt := 17) rfl (fun h6 => ?_) (fun h6 => ?_)
    · have hf := gif_t h6 hf
      refine lv_aload_n hx hb dX8_key_17 rfl (lv_at hl 0 rfl) ?_
      refine lv_iconst hx hb dX8_key_18 kci_1 ?_
      refine lv_iconst hx hb dX8_key_19 kci_m1 ?_
      obtain ⟨r7, hc8, hf⟩ := gbd hf
      refine gm_callV1 (As := [.int (1 : Int32), .int (-1 : Int32)]) (rest := []) (st1 := fun _ => [.int (r7.1)]) (ws' := fun _ => (OuB_c g a0 v_shelf (r7.2))) hE hl.1 ml_X8_69 (c_X8_refuse_B l g a0 v_shelf s0 (1 : Int32) (-1 : Int32) r7 hc8) hZ hP hD hS hA 0 44 rfl (fun _ => rfl) okX8 rfl rfl rfl (fun _ => rfl) ⟨rfl, rfl⟩ ⟨Nat.le_of_ble_eq_true rfl, Nat.le_of_ble_eq_true rfl⟩ ⟨Nat.le_refl _, Nat.le_refl _⟩ (Nat.le_of_ble_eq_true rfl) dX8_key_20 (fun _ H locs hP hD hS => ?_)
      cases hf
      exact hq () rfl hP hD hS dX8_key_23
    · have hf := gif_f h6 hf
      refine lv_iload_n hx hb dX8_key_12 rfl (lv_at hl 2 rfl) ?_
      refine lv_iconst hx hb dX8_key_13 kci_4 ?_
      refine lv_icmp_le hx hb dX8_key_14 (tgt := 24) rfl (fun h9 => ?_) (fun h9 => ?_)
      · have hf := gif_t h9 hf
        refine lv_aload_n hx hb dX8_key_24 rfl (lv_at hl 0 rfl) ?_
        refine lv_aload_n hx hb dX8_key_25 rfl (lv_at hl 0 rfl) ?_
        refine g_get hE okX8 fl_X8_31 hP 0 rfl (v := .ref (a0 19)) rfl dX8_key_26 ?_
        refine lv_iload_n hx hb dX8_key_29 rfl (lv_at hl 1 rfl) ?_
        refine lv_iload_n hx hb dX8_key_30 rfl (lv_at hl 2 rfl) ?_
        obtain ⟨r10, hc11, hf⟩ := gbd hf
        refine gr_callV (As := [.int p1, .int p2]) (rest := [.ref (a0 0)]) (st1 := [.int r10, .ref (a0 0)]) hE hl.1 ml_X8_149 (c_X1_toldOfKey l g (fun k => a0 (k + 19)) (OuB_books s0) p1 p2 r10 hc11) hZ hS hP [(19, 25)] rfl okX1 rfl rfl rfl rfl ⟨rfl, rfl⟩ ⟨Nat.le_of_ble_eq_true rfl, Nat.le_of_ble_eq_true rfl⟩ ⟨Nat.le_refl _, Nat.le_refl _⟩ (Nat.le_of_ble_eq_true rfl) dX8_key_31 ?_
        obtain ⟨r12, hc13, hf⟩ := gbd hf
        refine gm_callV1 (As := [.int r10]) (rest := []) (st1 := fun _ => [.int (r12.1)]) (ws' := fun _ => (OuB_c g a0 v_shelf (r12.2))) hE hl.1 ml_X8_103 (c_X8_accept_B l g a0 v_shelf s0 r10 r12 hc13) hZ hP hD hS hA 0 44 rfl (fun _ => rfl) okX8 rfl rfl rfl (fun _ => rfl) ⟨rfl, rfl⟩ ⟨Nat.le_of_ble_eq_true rfl, Nat.le_of_ble_eq_true rfl⟩ ⟨Nat.le_refl _, Nat.le_refl _⟩ (Nat.le_of_ble_eq_true rfl) dX8_key_34 (fun _ H locs hP hD hS => ?_)
        cases hf
        exact hq () rfl hP hD hS dX8_key_37
      · have hf := gif_f h9 hf
        refine lv_aload_n hx hb dX8_key_17 rfl (lv_at hl 0 rfl) ?_
        refine lv_iconst hx hb dX8_key_18 kci_1 ?_
        refine lv_iconst hx hb dX8_key_19 kci_m1 ?_
        obtain ⟨r14, hc15, hf⟩ := gbd hf
        refine gm_callV1 (As := [.int (1 : Int32), .int (-1 : Int32)]) (rest := []) (st1 := fun _ => [.int (r14.1)]) (ws' := fun _ => (OuB_c g a0 v_shelf (r14.2))) hE hl.1 ml_X8_69 (c_X8_refuse_B l g a0 v_shelf s0 (1 : Int32) (-1 : Int32) r14 hc15) hZ hP hD hS hA 0 44 rfl (fun _ => rfl) okX8 rfl rfl rfl (fun _ => rfl) ⟨rfl, rfl⟩ ⟨Nat.le_of_ble_eq_true rfl, Nat.le_of_ble_eq_true rfl⟩ ⟨Nat.le_refl _, Nat.le_refl _⟩ (Nat.le_of_ble_eq_true rfl) dX8_key_20 (fun _ H locs hP hD hS => ?_)
        cases hf
        exact hq () rfl hP hD hS dX8_key_23
def f_X8_debts_B (s0 : OuBT) (p1 : Int32) : Option (Int32 × OuBT) :=
  (f_X8_isSide p1).bind fun r1 =>
  if r1 = 0 then (f_X8_refuse_B s0 (1 : Int32) (-1 : Int32)).bind fun r8 =>
  some ((r8.1), (r8.2))
  else (f_X0_countDebts (Bk_board (OuB_books s0)) p1).bind fun r4 =>
  (f_X8_accept_B s0 r4).bind fun r6 =>
  some ((r6.1), (r6.2))
abbrev rm_X8_debts_B : Room := { frames := 1, cells := 0, slots := 0, locals := 23 }
set_option maxHeartbeats 4000000 in
set_option maxRecDepth 100000 in
theorem c_X8_debts_B (l : Launch) (g : GK) (a0 : Nat → Nat) (v_shelf : Value) (s0 : OuBT) (p1 : Int32) (res : (Int32 × OuBT)) (hf : f_X8_debts_B s0 p1 = some res) : gM l yX8_debts cX8_debts 2 (some .int) rm_X8_debts_B g [.ref (a0 0), .int p1] (OuB_c g a0 v_shelf s0) (fun _ : Unit => (some (.int (res.1)))) (fun _ => (OuB_c g a0 v_shelf (res.2))) 0 0 := by
  refine gM_introI RX8 (by decide) rfl (Nat.le_of_ble_eq_true rfl) (fun p e s m args below meth c Q H locs ls A hE hZ hA hP hD hS hq hl => ?_)
  have hl : lv_has ls 2 [(0, .ref (a0 0)), (1, .int p1)] := hl
  have hx := hE.1
  have hb := hE.2.1
  rw [f_X8_debts_B] at hf
  refine lv_aload_n hx hb dX8_debts_0 rfl (lv_at hl 0 rfl) ?_
  refine g_get hE okX8 fl_X8_31 hP 0 rfl (v := .ref (a0 19)) rfl dX8_debts_1 ?_
  refine lv_ifnull hx hb dX8_debts_4 ?_
  refine lv_iload_n hx hb dX8_debts_7 rfl (lv_at hl 1 rfl) ?_
  obtain ⟨r1, hc2, hf⟩ := gbd hf
  refine gr_callS (As := [.int p1]) (rest := []) (st1 := [.int r1]) hE hl.1 ml_X8_129 (c_X8_isSide l g p1 r1 hc2) hZ hS hP [] rfl rfl rfl rfl ⟨rfl, rfl⟩ ⟨Nat.le_of_ble_eq_true rfl, Nat.le_of_ble_eq_true rfl⟩ ⟨Nat.le_refl _, Nat.le_refl _⟩ (Nat.le_of_ble_eq_true rfl) dX8_debts_8 ?_
  refine lv_if_ne hx hb dX8_debts_11 (tgt := 21) rfl (fun h3 => ?_) (fun h3 => ?_)
  · have hf := gif_f h3 hf
    refine lv_aload_n hx hb dX8_debts_21 rfl (lv_at hl 0 rfl) ?_
    refine lv_aload_n hx hb dX8_debts_22 rfl (lv_at hl 0 rfl) ?_
    refine g_get hE okX8 fl_X8_31 hP 0 rfl (v := .ref (a0 19)) rfl dX8_debts_23 ?_
    refine g_get hE okX1 fl_X8_139 hP 19 rfl (v := .ref (a0 24)) rfl dX8_debts_26 ?_
    refine lv_iload_n hx hb dX8_debts_29 rfl (lv_at hl 1 rfl) ?_
    obtain ⟨r4, hc5, hf⟩ := gbd hf
    refine gr_callV (As := [.int p1]) (rest := [.ref (a0 0)]) (st1 := [.int r4, .ref (a0 0)]) hE hl.1 ml_X8_152 (c_X0_countDebts l g (fun k => a0 (k + 24)) (Bk_board (OuB_books s0)) p1 r4 hc5) hZ hS hP [(24, 9)] rfl okX0 rfl rfl rfl rfl ⟨rfl, rfl⟩ ⟨Nat.le_of_ble_eq_true rfl, Nat.le_of_ble_eq_true rfl⟩ ⟨Nat.le_refl _, Nat.le_refl _⟩ (Nat.le_of_ble_eq_true rfl) dX8_debts_30 ?_
    obtain ⟨r6, hc7, hf⟩ := gbd hf
    refine gm_callV1 (As := [.int r4]) (rest := []) (st1 := fun _ => [.int (r6.1)]) (ws' := fun _ => (OuB_c g a0 v_shelf (r6.2))) hE hl.1 ml_X8_103 (c_X8_accept_B l g a0 v_shelf s0 r4 r6 hc7) hZ hP hD hS hA 0 44 rfl (fun _ => rfl) okX8 rfl rfl rfl (fun _ => rfl) ⟨rfl, rfl⟩ ⟨Nat.le_of_ble_eq_true rfl, Nat.le_of_ble_eq_true rfl⟩ ⟨Nat.le_refl _, Nat.le_refl _⟩ (Nat.le_of_ble_eq_true rfl) dX8_debts_33 (fun _ H locs hP hD hS => ?_)
    cases hf
    exact hq () rfl hP hD hS dX8_debts_36
  · have hf := gif_t h3 hf
    refine lv_aload_n hx hb dX8_debts_14 rfl (lv_at hl 0 rfl) ?_
    refine lv_iconst hx hb dX8_debts_15 kci_1 ?_
    refine lv_iconst hx hb dX8_debts_16 kci_m1 ?_
    obtain ⟨r8, hc9, hf⟩ := gbd hf
    refine gm_callV1 (As := [.int (1 : Int32), .int (-1 : Int32)]) (rest := []) (st1 := fun _ => [.int (r8.1)]) (ws' := fun _ => (OuB_c g a0 v_shelf (r8.2))) hE hl.1 ml_X8_69 (c_X8_refuse_B l g a0 v_shelf s0 (1 : Int32) (-1 : Int32) r8 hc9) hZ hP hD hS hA 0 44 rfl (fun _ => rfl) okX8 rfl rfl rfl (fun _ => rfl) ⟨rfl, rfl⟩ ⟨Nat.le_of_ble_eq_true rfl, Nat.le_of_ble_eq_true rfl⟩ ⟨Nat.le_refl _, Nat.le_refl _⟩ (Nat.le_of_ble_eq_true rfl) dX8_debts_17 (fun _ H locs hP hD hS => ?_)
    cases hf
    exact hq () rfl hP hD hS dX8_debts_20
def f_X8_sent_B (s0 : OuBT) (p1 : Int32) (p2 : Int32) (p3 : Int32) : Option (Int32 × OuBT) :=
  (f_X8_isRow_B s0 p1 p2 p3).bind fun r1 =>
  if r1 = 0 then (f_X8_refuse_B s0 (1 : Int32) (-2147483648 : Int32)).bind fun r9 =>
  some ((r9.1), (r9.2))
  else (f_X8_placeOf p1 p2 p3).bind fun r4 =>
  if inb r4 648 then (f_X8_accept_B s0 ((Bd_sums (Bk_board (OuB_books s0))) (ix r4))).bind fun r7 =>
  some ((r7.1), (r7.2)) else none
abbrev rm_X8_sent_B : Room := { frames := 3, cells := 0, slots := 0, locals := 65 }
set_option maxHeartbeats 4000000 in
set_option maxRecDepth 100000 in
theorem c_X8_sent_B (l : Launch) (g : GK) (a0 : Nat → Nat) (v_shelf : Value) (s0 : OuBT) (p1 : Int32) (p2 : Int32) (p3 : Int32) (res : (Int32 × OuBT)) (hf : f_X8_sent_B s0 p1 p2 p3 = some res) : gM l yX8_sent cX8_sent 4 (some .int) rm_X8_sent_B g [.ref (a0 0), .int p1, .int p2, .int p3] (OuB_c g a0 v_shelf s0) (fun _ : Unit => (some (.int (res.1)))) (fun _ => (OuB_c g a0 v_shelf (res.2))) 0 0 := by
  refine gM_introI RX8 (by decide) rfl (Nat.le_of_ble_eq_true rfl) (fun p e s m args below meth c Q H locs ls A hE hZ hA hP hD hS hq hl => ?_)
  have hl : lv_has ls 4 [(0, .ref (a0 0)), (1, .int p1), (2, .int p2), (3, .int p3)] := hl
  have hx := hE.1
  have hb := hE.2.1
  rw [f_X8_sent_B] at hf
  refine lv_aload_n hx hb dX8_sent_0 rfl (lv_at hl 0 rfl) ?_
  refine lv_iload_n hx hb dX8_sent_1 rfl (lv_at hl 1 rfl) ?_
  refine lv_iload_n hx hb dX8_sent_2 rfl (lv_at hl 2 rfl) ?_
  refine lv_iload_n hx hb dX8_sent_3 rfl (lv_at hl 3 rfl) ?_
  obtain ⟨r1, hc2, hf⟩ := gbd hf
  refine gr_callV (As := [.int p1, .int p2, .int p3]) (rest := []) (st1 := [.int r1]) hE hl.1 ml_X8_155 (c_X8_isRow_B l g a0 v_shelf s0 p1 p2 p3 r1 hc2) hZ hS hP [(0, 44)] rfl okX8 rfl rfl rfl rfl ⟨rfl, rfl⟩ ⟨Nat.le_of_ble_eq_true rfl, Nat.le_of_ble_eq_true rfl⟩ ⟨Nat.le_refl _, Nat.le_refl _⟩ (Nat.le_of_ble_eq_true rfl) dX8_sent_4 ?_
  refine lv_if_ne hx hb dX8_sent_7 (tgt := 18) rfl (fun h3 => ?_) (fun h3 => ?_)
  · have hf := gif_f h3 hf
    refine lv_aload_n hx hb dX8_sent_18 rfl (lv_at hl 0 rfl) ?_
    refine lv_aload_n hx hb dX8_sent_19 rfl (lv_at hl 0 rfl) ?_
    refine g_get hE okX8 fl_X8_31 hP 0 rfl (v := .ref (a0 19)) rfl dX8_sent_20 ?_
    refine g_get hE okX1 fl_X8_139 hP 19 rfl (v := .ref (a0 24)) rfl dX8_sent_23 ?_
    refine g_get hE okX0 fl_X8_159 hP 24 rfl (v := .ref (a0 26)) rfl dX8_sent_26 ?_
    refine lv_iload_n hx hb dX8_sent_29 rfl (lv_at hl 1 rfl) ?_
    refine lv_iload_n hx hb dX8_sent_30 rfl (lv_at hl 2 rfl) ?_
    refine lv_iload_n hx hb dX8_sent_31 rfl (lv_at hl 3 rfl) ?_
    obtain ⟨r4, hc5, hf⟩ := gbd hf
    refine gr_callS (As := [.int p1, .int p2, .int p3]) (rest := [.ref (a0 26), .ref (a0 0)]) (st1 := [.int r4, .ref (a0 26), .ref (a0 0)]) hE hl.1 ml_X8_162 (c_X8_placeOf l g p1 p2 p3 r4 hc5) hZ hS hP [] rfl rfl rfl rfl ⟨rfl, rfl⟩ ⟨Nat.le_of_ble_eq_true rfl, Nat.le_of_ble_eq_true rfl⟩ ⟨Nat.le_refl _, Nat.le_refl _⟩ (Nat.le_of_ble_eq_true rfl) dX8_sent_32 ?_
    obtain ⟨hg6, hf⟩ := ggd hf
    refine g_iald hE hP 26 (f := (Bd_sums (Bk_board (OuB_books s0)))) rfl hg6 dX8_sent_35 ?_
    obtain ⟨r7, hc8, hf⟩ := gbd hf
    refine gm_callV1 (As := [.int ((Bd_sums (Bk_board (OuB_books s0))) (ix r4))]) (rest := []) (st1 := fun _ => [.int (r7.1)]) (ws' := fun _ => (OuB_c g a0 v_shelf (r7.2))) hE hl.1 ml_X8_103 (c_X8_accept_B l g a0 v_shelf s0 ((Bd_sums (Bk_board (OuB_books s0))) (ix r4)) r7 hc8) hZ hP hD hS hA 0 44 rfl (fun _ => rfl) okX8 rfl rfl rfl (fun _ => rfl) ⟨rfl, rfl⟩ ⟨Nat.le_of_ble_eq_true rfl, Nat.le_of_ble_eq_true rfl⟩ ⟨Nat.le_refl _, Nat.le_refl _⟩ (Nat.le_of_ble_eq_true rfl) dX8_sent_36 (fun _ H locs hP hD hS => ?_)
    cases hf
    exact hq () rfl hP hD hS dX8_sent_39
  · have hf := gif_t h3 hf
    refine lv_aload_n hx hb dX8_sent_10 rfl (lv_at hl 0 rfl) ?_
    refine lv_iconst hx hb dX8_sent_11 kci_1 ?_
    refine lv_ldc hx hb hE.2.2.2.2.2.1 (hE.2.2.2.2.2.2.1 _ kd_X8_138) dX8_sent_12 ?_
    obtain ⟨r9, hc10, hf⟩ := gbd hf
    refine gm_callV1 (As := [.int (1 : Int32), .int (-2147483648 : Int32)]) (rest := []) (st1 := fun _ => [.int (r9.1)]) (ws' := fun _ => (OuB_c g a0 v_shelf (r9.2))) hE hl.1 ml_X8_69 (c_X8_refuse_B l g a0 v_shelf s0 (1 : Int32) (-2147483648 : Int32) r9 hc10) hZ hP hD hS hA 0 44 rfl (fun _ => rfl) okX8 rfl rfl rfl (fun _ => rfl) ⟨rfl, rfl⟩ ⟨Nat.le_of_ble_eq_true rfl, Nat.le_of_ble_eq_true rfl⟩ ⟨Nat.le_refl _, Nat.le_refl _⟩ (Nat.le_of_ble_eq_true rfl) dX8_sent_14 (fun _ H locs hP hD hS => ?_)
    cases hf
    exact hq () rfl hP hD hS dX8_sent_17
def f_X8_join_B (s0 : OuBT) (p1 : Int32) (p2 : Int32) (p3 : Int32) : Option (Int32 × OuBT) :=
  (f_X8_isRow_B s0 p1 p2 p3).bind fun r1 =>
  if r1 = 0 then (f_X8_refuse_B s0 (1 : Int32) (-1 : Int32)).bind fun r8 =>
  some ((r8.1), (r8.2))
  else (f_X0_joined (Bk_board (OuB_books s0)) p1 p2 p3).bind fun r4 =>
  (f_X8_accept_B s0 r4).bind fun r6 =>
  some ((r6.1), (r6.2))
abbrev rm_X8_join_B : Room := { frames := 4, cells := 0, slots := 0, locals := 92 }
set_option maxHeartbeats 4000000 in
set_option maxRecDepth 100000 in
theorem c_X8_join_B (l : Launch) (g : GK) (a0 : Nat → Nat) (v_shelf : Value) (s0 : OuBT) (p1 : Int32) (p2 : Int32) (p3 : Int32) (res : (Int32 × OuBT)) (hf : f_X8_join_B s0 p1 p2 p3 = some res) : gM l yX8_join cX8_join 4 (some .int) rm_X8_join_B g [.ref (a0 0), .int p1, .int p2, .int p3] (OuB_c g a0 v_shelf s0) (fun _ : Unit => (some (.int (res.1)))) (fun _ => (OuB_c g a0 v_shelf (res.2))) 0 0 := by
  refine gM_introI RX8 (by decide) rfl (Nat.le_of_ble_eq_true rfl) (fun p e s m args below meth c Q H locs ls A hE hZ hA hP hD hS hq hl => ?_)
  have hl : lv_has ls 4 [(0, .ref (a0 0)), (1, .int p1), (2, .int p2), (3, .int p3)] := hl
  have hx := hE.1
  have hb := hE.2.1
  rw [f_X8_join_B] at hf
  refine lv_aload_n hx hb dX8_join_0 rfl (lv_at hl 0 rfl) ?_
  refine lv_iload_n hx hb dX8_join_1 rfl (lv_at hl 1 rfl) ?_
  refine lv_iload_n hx hb dX8_join_2 rfl (lv_at hl 2 rfl) ?_
  refine lv_iload_n hx hb dX8_join_3 rfl (lv_at hl 3 rfl) ?_
  obtain ⟨r1, hc2, hf⟩ := gbd hf
  refine gr_callV (As := [.int p1, .int p2, .int p3]) (rest := []) (st1 := [.int r1]) hE hl.1 ml_X8_155 (c_X8_isRow_B l g a0 v_shelf s0 p1 p2 p3 r1 hc2) hZ hS hP [(0, 44)] rfl okX8 rfl rfl rfl rfl ⟨rfl, rfl⟩ ⟨Nat.le_of_ble_eq_true rfl, Nat.le_of_ble_eq_true rfl⟩ ⟨Nat.le_refl _, Nat.le_refl _⟩ (Nat.le_of_ble_eq_true rfl) dX8_join_4 ?_
  refine lv_if_ne hx hb dX8_join_7 (tgt := 17) rfl (fun h3 => ?_) (fun h3 => ?_)
  · have hf := gif_f h3 hf
    refine lv_aload_n hx hb dX8_join_17 rfl (lv_at hl 0 rfl) ?_
    refine lv_aload_n hx hb dX8_join_18 rfl (lv_at hl 0 rfl) ?_
    refine g_get hE okX8 fl_X8_31 hP 0 rfl (v := .ref (a0 19)) rfl dX8_join_19 ?_
    refine g_get hE okX1 fl_X8_139 hP 19 rfl (v := .ref (a0 24)) rfl dX8_join_22 ?_
    refine lv_iload_n hx hb dX8_join_25 rfl (lv_at hl 1 rfl) ?_
    refine lv_iload_n hx hb dX8_join_26 rfl (lv_at hl 2 rfl) ?_
    refine lv_iload_n hx hb dX8_join_27 rfl (lv_at hl 3 rfl) ?_
    obtain ⟨r4, hc5, hf⟩ := gbd hf
    refine gr_callV (As := [.int p1, .int p2, .int p3]) (rest := [.ref (a0 0)]) (st1 := [.int r4, .ref (a0 0)]) hE hl.1 ml_X8_165 (c_X0_joined l g (fun k => a0 (k + 24)) (Bk_board (OuB_books s0)) p1 p2 p3 r4 hc5) hZ hS hP [(24, 9)] rfl okX0 rfl rfl rfl rfl ⟨rfl, rfl⟩ ⟨Nat.le_of_ble_eq_true rfl, Nat.le_of_ble_eq_true rfl⟩ ⟨Nat.le_refl _, Nat.le_refl _⟩ (Nat.le_of_ble_eq_true rfl) dX8_join_28 ?_
    obtain ⟨r6, hc7, hf⟩ := gbd hf
    refine gm_callV1 (As := [.int r4]) (rest := []) (st1 := fun _ => [.int (r6.1)]) (ws' := fun _ => (OuB_c g a0 v_shelf (r6.2))) hE hl.1 ml_X8_103 (c_X8_accept_B l g a0 v_shelf s0 r4 r6 hc7) hZ hP hD hS hA 0 44 rfl (fun _ => rfl) okX8 rfl rfl rfl (fun _ => rfl) ⟨rfl, rfl⟩ ⟨Nat.le_of_ble_eq_true rfl, Nat.le_of_ble_eq_true rfl⟩ ⟨Nat.le_refl _, Nat.le_refl _⟩ (Nat.le_of_ble_eq_true rfl) dX8_join_31 (fun _ H locs hP hD hS => ?_)
    cases hf
    exact hq () rfl hP hD hS dX8_join_34
  · have hf := gif_t h3 hf
    refine lv_aload_n hx hb dX8_join_10 rfl (lv_at hl 0 rfl) ?_
    refine lv_iconst hx hb dX8_join_11 kci_1 ?_
    refine lv_iconst hx hb dX8_join_12 kci_m1 ?_
    obtain ⟨r8, hc9, hf⟩ := gbd hf
    refine gm_callV1 (As := [.int (1 : Int32), .int (-1 : Int32)]) (rest := []) (st1 := fun _ => [.int (r8.1)]) (ws' := fun _ => (OuB_c g a0 v_shelf (r8.2))) hE hl.1 ml_X8_69 (c_X8_refuse_B l g a0 v_shelf s0 (1 : Int32) (-1 : Int32) r8 hc9) hZ hP hD hS hA 0 44 rfl (fun _ => rfl) okX8 rfl rfl rfl (fun _ => rfl) ⟨rfl, rfl⟩ ⟨Nat.le_of_ble_eq_true rfl, Nat.le_of_ble_eq_true rfl⟩ ⟨Nat.le_refl _, Nat.le_refl _⟩ (Nat.le_of_ble_eq_true rfl) dX8_join_13 (fun _ H locs hP hD hS => ?_)
    cases hf
    exact hq () rfl hP hD hS dX8_join_16
def f_X8_closed_B (s0 : OuBT) (p1 : Int32) (p2 : Int32) (p3 : Int32) : Option (Int32 × OuBT) :=
  (f_X8_isRow_B s0 p1 p2 p3).bind fun r1 =>
  if r1 = 0 then (f_X8_refuse_B s0 (1 : Int32) (-2147483648 : Int32)).bind fun r11 =>
  some ((r11.1), (r11.2))
  else (f_X8_placeOf p1 p2 p3).bind fun r4 =>
  if inb r4 648 then (f_X0_joined (Bk_board (OuB_books s0)) p1 p2 p3).bind fun r7 =>
  (f_X8_accept_B s0 (((Bd_sums (Bk_board (OuB_books s0))) (ix r4)) - r7)).bind fun r9 =>
  some ((r9.1), (r9.2)) else none
abbrev rm_X8_closed_B : Room := { frames := 4, cells := 0, slots := 0, locals := 92 }
set_option maxHeartbeats 4000000 in
set_option maxRecDepth 100000 in
theorem c_X8_closed_B (l : Launch) (g : GK) (a0 : Nat → Nat) (v_shelf : Value) (s0 : OuBT) (p1 : Int32) (p2 : Int32) (p3 : Int32) (res : (Int32 × OuBT)) (hf : f_X8_closed_B s0 p1 p2 p3 = some res) : gM l yX8_closed cX8_closed 5 (some .int) rm_X8_closed_B g [.ref (a0 0), .int p1, .int p2, .int p3] (OuB_c g a0 v_shelf s0) (fun _ : Unit => (some (.int (res.1)))) (fun _ => (OuB_c g a0 v_shelf (res.2))) 0 0 := by
  refine gM_introI RX8 (by decide) rfl (Nat.le_of_ble_eq_true rfl) (fun p e s m args below meth c Q H locs ls A hE hZ hA hP hD hS hq hl => ?_)
  have hl : lv_has ls 5 [(0, .ref (a0 0)), (1, .int p1), (2, .int p2), (3, .int p3)] := hl
  have hx := hE.1
  have hb := hE.2.1
  rw [f_X8_closed_B] at hf
  refine lv_aload_n hx hb dX8_closed_0 rfl (lv_at hl 0 rfl) ?_
  refine lv_iload_n hx hb dX8_closed_1 rfl (lv_at hl 1 rfl) ?_
  refine lv_iload_n hx hb dX8_closed_2 rfl (lv_at hl 2 rfl) ?_
  refine lv_iload_n hx hb dX8_closed_3 rfl (lv_at hl 3 rfl) ?_
  obtain ⟨r1, hc2, hf⟩ := gbd hf
  refine gr_callV (As := [.int p1, .int p2, .int p3]) (rest := []) (st1 := [.int r1]) hE hl.1 ml_X8_155 (c_X8_isRow_B l g a0 v_shelf s0 p1 p2 p3 r1 hc2) hZ hS hP [(0, 44)] rfl okX8 rfl rfl rfl rfl ⟨rfl, rfl⟩ ⟨Nat.le_of_ble_eq_true rfl, Nat.le_of_ble_eq_true rfl⟩ ⟨Nat.le_refl _, Nat.le_refl _⟩ (Nat.le_of_ble_eq_true rfl) dX8_closed_4 ?_
  refine lv_if_ne hx hb dX8_closed_7 (tgt := 18) rfl (fun h3 => ?_) (fun h3 => ?_)
  · have hf := gif_f h3 hf
    refine lv_aload_n hx hb dX8_closed_18 rfl (lv_at hl 0 rfl) ?_
    refine g_get hE okX8 fl_X8_31 hP 0 rfl (v := .ref (a0 19)) rfl dX8_closed_19 ?_
    refine g_get hE okX1 fl_X8_139 hP 19 rfl (v := .ref (a0 24)) rfl dX8_closed_22 ?_
    refine lv_astore hx hb dX8_closed_25 hl (by decide) (lv' := [(4, .ref (a0 24)), (0, .ref (a0 0)), (1, .int p1), (2, .int p2), (3, .int p3)]) rfl (fun ls hl => ?_)
    refine lv_aload_n hx hb dX8_closed_27 rfl (lv_at hl 1 rfl) ?_
    refine lv_aload hx hb dX8_closed_28 (lv_at hl 0 rfl) ?_
    refine g_get hE okX0 fl_X8_159 hP 24 rfl (v := .ref (a0 26)) rfl dX8_closed_30 ?_
    refine lv_iload_n hx hb dX8_closed_33 rfl (lv_at hl 2 rfl) ?_
    refine lv_iload_n hx hb dX8_closed_34 rfl (lv_at hl 3 rfl) ?_
    refine lv_iload_n hx hb dX8_closed_35 rfl (lv_at hl 4 rfl) ?_
    obtain ⟨r4, hc5, hf⟩ := gbd hf
    refine gr_callS (As := [.int p1, .int p2, .int p3]) (rest := [.ref (a0 26), .ref (a0 0)]) (st1 := [.int r4, .ref (a0 26), .ref (a0 0)]) hE hl.1 ml_X8_162 (c_X8_placeOf l g p1 p2 p3 r4 hc5) hZ hS hP [] rfl rfl rfl rfl ⟨rfl, rfl⟩ ⟨Nat.le_of_ble_eq_true rfl, Nat.le_of_ble_eq_true rfl⟩ ⟨Nat.le_refl _, Nat.le_refl _⟩ (Nat.le_of_ble_eq_true rfl) dX8_closed_36 ?_
    obtain ⟨hg6, hf⟩ := ggd hf
    refine g_iald hE hP 26 (f := (Bd_sums (Bk_board (OuB_books s0)))) rfl hg6 dX8_closed_39 ?_
    refine lv_aload hx hb dX8_closed_40 (lv_at hl 0 rfl) ?_
    refine lv_iload_n hx hb dX8_closed_42 rfl (lv_at hl 2 rfl) ?_
    refine lv_iload_n hx hb dX8_closed_43 rfl (lv_at hl 3 rfl) ?_
    refine lv_iload_n hx hb dX8_closed_44 rfl (lv_at hl 4 rfl) ?_
    obtain ⟨r7, hc8, hf⟩ := gbd hf
    refine gr_callV (As := [.int p1, .int p2, .int p3]) (rest := [.int ((Bd_sums (Bk_board (OuB_books s0))) (ix r4)), .ref (a0 0)]) (st1 := [.int r7, .int ((Bd_sums (Bk_board (OuB_books s0))) (ix r4)), .ref (a0 0)]) hE hl.1 ml_X8_165 (c_X0_joined l g (fun k => a0 (k + 24)) (Bk_board (OuB_books s0)) p1 p2 p3 r7 hc8) hZ hS hP [(24, 9)] rfl okX0 rfl rfl rfl rfl ⟨rfl, rfl⟩ ⟨Nat.le_of_ble_eq_true rfl, Nat.le_of_ble_eq_true rfl⟩ ⟨Nat.le_refl _, Nat.le_refl _⟩ (Nat.le_of_ble_eq_true rfl) dX8_closed_45 ?_
    refine lv_isub hx hb dX8_closed_48 ?_
    obtain ⟨r9, hc10, hf⟩ := gbd hf
    refine gm_callV1 (As := [.int (((Bd_sums (Bk_board (OuB_books s0))) (ix r4)) - r7)]) (rest := []) (st1 := fun _ => [.int (r9.1)]) (ws' := fun _ => (OuB_c g a0 v_shelf (r9.2))) hE hl.1 ml_X8_103 (c_X8_accept_B l g a0 v_shelf s0 (((Bd_sums (Bk_board (OuB_books s0))) (ix r4)) - r7) r9 hc10) hZ hP hD hS hA 0 44 rfl (fun _ => rfl) okX8 rfl rfl rfl (fun _ => rfl) ⟨rfl, rfl⟩ ⟨Nat.le_of_ble_eq_true rfl, Nat.le_of_ble_eq_true rfl⟩ ⟨Nat.le_refl _, Nat.le_refl _⟩ (Nat.le_of_ble_eq_true rfl) dX8_closed_49 (fun _ H locs hP hD hS => ?_)
    cases hf
    exact hq () rfl hP hD hS dX8_closed_52
  · have hf := gif_t h3 hf
    refine lv_aload_n hx hb dX8_closed_10 rfl (lv_at hl 0 rfl) ?_
    refine lv_iconst hx hb dX8_closed_11 kci_1 ?_
    refine lv_ldc hx hb hE.2.2.2.2.2.1 (hE.2.2.2.2.2.2.1 _ kd_X8_138) dX8_closed_12 ?_
    obtain ⟨r11, hc12, hf⟩ := gbd hf
    refine gm_callV1 (As := [.int (1 : Int32), .int (-2147483648 : Int32)]) (rest := []) (st1 := fun _ => [.int (r11.1)]) (ws' := fun _ => (OuB_c g a0 v_shelf (r11.2))) hE hl.1 ml_X8_69 (c_X8_refuse_B l g a0 v_shelf s0 (1 : Int32) (-2147483648 : Int32) r11 hc12) hZ hP hD hS hA 0 44 rfl (fun _ => rfl) okX8 rfl rfl rfl (fun _ => rfl) ⟨rfl, rfl⟩ ⟨Nat.le_of_ble_eq_true rfl, Nat.le_of_ble_eq_true rfl⟩ ⟨Nat.le_refl _, Nat.le_refl _⟩ (Nat.le_of_ble_eq_true rfl) dX8_closed_14 (fun _ H locs hP hD hS => ?_)
    cases hf
    exact hq () rfl hP hD hS dX8_closed_17
def f_X8_rows_B (s0 : OuBT) : Option (Int32 × OuBT) :=
  (f_X8_countFilled 648 (Bd_sums (Bk_board (OuB_books s0))) (0 : Int32)).bind fun r1 =>
  (f_X8_accept_B s0 r1).bind fun r3 =>
  some ((r3.1), (r3.2))
abbrev rm_X8_rows_B : Room := { frames := 1, cells := 0, slots := 0, locals := 23 }
set_option maxHeartbeats 4000000 in
set_option maxRecDepth 100000 in
theorem c_X8_rows_B (l : Launch) (g : GK) (a0 : Nat → Nat) (v_shelf : Value) (s0 : OuBT) (res : (Int32 × OuBT)) (hf : f_X8_rows_B s0 = some res) : gM l yX8_rows cX8_rows 1 (some .int) rm_X8_rows_B g [.ref (a0 0)] (OuB_c g a0 v_shelf s0) (fun _ : Unit => (some (.int (res.1)))) (fun _ => (OuB_c g a0 v_shelf (res.2))) 0 0 := by
  refine gM_introI RX8 (by decide) rfl (Nat.le_of_ble_eq_true rfl) (fun p e s m args below meth c Q H locs ls A hE hZ hA hP hD hS hq hl => ?_)
  have hl : lv_has ls 1 [(0, .ref (a0 0))] := hl
  have hx := hE.1
  have hb := hE.2.1
  rw [f_X8_rows_B] at hf
  refine lv_aload_n hx hb dX8_rows_0 rfl (lv_at hl 0 rfl) ?_
  refine g_get hE okX8 fl_X8_31 hP 0 rfl (v := .ref (a0 19)) rfl dX8_rows_1 ?_
  refine lv_ifnonnull hx hb dX8_rows_4 (tgt := 14) rfl ?_
  refine lv_aload_n hx hb dX8_rows_14 rfl (lv_at hl 0 rfl) ?_
  refine lv_aload_n hx hb dX8_rows_15 rfl (lv_at hl 0 rfl) ?_
  refine g_get hE okX8 fl_X8_31 hP 0 rfl (v := .ref (a0 19)) rfl dX8_rows_16 ?_
  refine g_get hE okX1 fl_X8_139 hP 19 rfl (v := .ref (a0 24)) rfl dX8_rows_19 ?_
  refine g_get hE okX0 fl_X8_159 hP 24 rfl (v := .ref (a0 26)) rfl dX8_rows_22 ?_
  refine lv_iconst hx hb dX8_rows_25 kci_0 ?_
  obtain ⟨r1, hc2, hf⟩ := gbd hf
  refine gr_callS (As := [.ref (a0 26), .int (0 : Int32)]) (rest := [.ref (a0 0)]) (st1 := [.int r1, .ref (a0 0)]) hE hl.1 ml_X8_168 (c_X8_countFilled l g (a0 26) 648 (Bd_sums (Bk_board (OuB_books s0))) (0 : Int32) r1 hc2) hZ hS hP [(26, 1)] rfl rfl rfl rfl ⟨rfl, rfl⟩ ⟨Nat.le_of_ble_eq_true rfl, Nat.le_of_ble_eq_true rfl⟩ ⟨Nat.le_refl _, Nat.le_refl _⟩ (Nat.le_of_ble_eq_true rfl) dX8_rows_26 ?_
  obtain ⟨r3, hc4, hf⟩ := gbd hf
  refine gm_callV1 (As := [.int r1]) (rest := []) (st1 := fun _ => [.int (r3.1)]) (ws' := fun _ => (OuB_c g a0 v_shelf (r3.2))) hE hl.1 ml_X8_103 (c_X8_accept_B l g a0 v_shelf s0 r1 r3 hc4) hZ hP hD hS hA 0 44 rfl (fun _ => rfl) okX8 rfl rfl rfl (fun _ => rfl) ⟨rfl, rfl⟩ ⟨Nat.le_of_ble_eq_true rfl, Nat.le_of_ble_eq_true rfl⟩ ⟨Nat.le_refl _, Nat.le_refl _⟩ (Nat.le_of_ble_eq_true rfl) dX8_rows_29 (fun _ H locs hP hD hS => ?_)
  cases hf
  exact hq () rfl hP hD hS dX8_rows_32
def f_X8_row_B (s0 : OuBT) (p1 : Int32) (p2 : Int32) : Option (Int32 × OuBT) :=
  if p2 < 0 then (f_X8_refuse_B s0 (1 : Int32) (-2147483648 : Int32)).bind fun r2 =>
  some ((r2.1), (r2.2))
  else if p2 ≤ (3 : Int32) then (f_X8_filledPlace 648 (Bd_sums (Bk_board (OuB_books s0))) (0 : Int32) p1).bind fun r5 =>
  if r5 = (-1 : Int32) then (f_X8_refuse_B s0 (1 : Int32) (-2147483648 : Int32)).bind fun r13 =>
  some ((r13.1), (r13.2))
  else if inb r5 648 then (f_X8_partOfRow r5 p2 ((Bd_sums (Bk_board (OuB_books s0))) (ix r5))).bind fun r9 =>
  (f_X8_accept_B s0 r9).bind fun r11 =>
  some ((r11.1), (r11.2)) else none
  else (f_X8_refuse_B s0 (1 : Int32) (-2147483648 : Int32)).bind fun r15 =>
  some ((r15.1), (r15.2))
abbrev rm_X8_row_B : Room := { frames := 2, cells := 0, slots := 0, locals := 43 }
set_option maxHeartbeats 4000000 in
set_option maxRecDepth 100000 in
theorem c_X8_row_B (l : Launch) (g : GK) (a0 : Nat → Nat) (v_shelf : Value) (s0 : OuBT) (p1 : Int32) (p2 : Int32) (res : (Int32 × OuBT)) (hf : f_X8_row_B s0 p1 p2 = some res) : gM l yX8_row cX8_row 4 (some .int) rm_X8_row_B g [.ref (a0 0), .int p1, .int p2] (OuB_c g a0 v_shelf s0) (fun _ : Unit => (some (.int (res.1)))) (fun _ => (OuB_c g a0 v_shelf (res.2))) 0 0 := by
  refine gM_introI RX8 (by decide) rfl (Nat.le_of_ble_eq_true rfl) (fun p e s m args below meth c Q H locs ls A hE hZ hA hP hD hS hq hl => ?_)
  have hl : lv_has ls 4 [(0, .ref (a0 0)), (1, .int p1), (2, .int p2)] := hl
  have hx := hE.1
  have hb := hE.2.1
  rw [f_X8_row_B] at hf
  refine lv_aload_n hx hb dX8_row_0 rfl (lv_at hl 0 rfl) ?_
  refine g_get hE okX8 fl_X8_31 hP 0 rfl (v := .ref (a0 19)) rfl dX8_row_1 ?_
  refine lv_ifnull hx hb dX8_row_4 ?_
  refine lv_iload_n hx hb dX8_row_7 rfl (lv_at hl 2 rfl) ?_
  refine lv_if_lt hx hb dX8_row_8 (tgt := 16) rfl (fun h1 => ?_) (fun h1 => ?_)
  · have hf := gif_t h1 hf
    refine lv_aload_n hx hb dX8_row_16 rfl (lv_at hl 0 rfl) ?_
    refine lv_iconst hx hb dX8_row_17 kci_1 ?_
    refine lv_ldc hx hb hE.2.2.2.2.2.1 (hE.2.2.2.2.2.2.1 _ kd_X8_138) dX8_row_18 ?_
    obtain ⟨r2, hc3, hf⟩ := gbd hf
    refine gm_callV1 (As := [.int (1 : Int32), .int (-2147483648 : Int32)]) (rest := []) (st1 := fun _ => [.int (r2.1)]) (ws' := fun _ => (OuB_c g a0 v_shelf (r2.2))) hE hl.1 ml_X8_69 (c_X8_refuse_B l g a0 v_shelf s0 (1 : Int32) (-2147483648 : Int32) r2 hc3) hZ hP hD hS hA 0 44 rfl (fun _ => rfl) okX8 rfl rfl rfl (fun _ => rfl) ⟨rfl, rfl⟩ ⟨Nat.le_of_ble_eq_true rfl, Nat.le_of_ble_eq_true rfl⟩ ⟨Nat.le_refl _, Nat.le_refl _⟩ (Nat.le_of_ble_eq_true rfl) dX8_row_20 (fun _ H locs hP hD hS => ?_)
    cases hf
    exact hq () rfl hP hD hS dX8_row_23
  · have hf := gif_f h1 hf
    refine lv_iload_n hx hb dX8_row_11 rfl (lv_at hl 2 rfl) ?_
    refine lv_iconst hx hb dX8_row_12 kci_3 ?_
    refine lv_icmp_le hx hb dX8_row_13 (tgt := 24) rfl (fun h4 => ?_) (fun h4 => ?_)
    · have hf := gif_t h4 hf
      refine lv_aload_n hx hb dX8_row_24 rfl (lv_at hl 0 rfl) ?_
      refine g_get hE okX8 fl_X8_31 hP 0 rfl (v := .ref (a0 19)) rfl dX8_row_25 ?_
      refine g_get hE okX1 fl_X8_139 hP 19 rfl (v := .ref (a0 24)) rfl dX8_row_28 ?_
      refine g_get hE okX0 fl_X8_159 hP 24 rfl (v := .ref (a0 26)) rfl dX8_row_31 ?_
      refine lv_iconst hx hb dX8_row_34 kci_0 ?_
      refine lv_iload_n hx hb dX8_row_35 rfl (lv_at hl 1 rfl) ?_
      obtain ⟨r5, hc6, hf⟩ := gbd hf
      refine gr_callS (As := [.ref (a0 26), .int (0 : Int32), .int p1]) (rest := []) (st1 := [.int r5]) hE hl.1 ml_X8_172 (c_X8_filledPlace l g (a0 26) 648 (Bd_sums (Bk_board (OuB_books s0))) (0 : Int32) p1 r5 hc6) hZ hS hP [(26, 1)] rfl rfl rfl rfl ⟨rfl, rfl⟩ ⟨Nat.le_of_ble_eq_true rfl, Nat.le_of_ble_eq_true rfl⟩ ⟨Nat.le_refl _, Nat.le_refl _⟩ (Nat.le_of_ble_eq_true rfl) dX8_row_36 ?_
      refine lv_istore_n hx hb dX8_row_39 rfl hl (by decide) (lv' := [(3, .int r5), (0, .ref (a0 0)), (1, .int p1), (2, .int p2)]) rfl (fun ls hl => ?_)
      refine lv_iload_n hx hb dX8_row_40 rfl (lv_at hl 0 rfl) ?_
      refine lv_iconst hx hb dX8_row_41 kci_m1 ?_
      refine lv_icmp_ne hx hb dX8_row_42 (tgt := 53) rfl (fun h7 => ?_) (fun h7 => ?_)
      · have hf := gif_f h7 hf
        refine lv_aload_n hx hb dX8_row_53 rfl (lv_at hl 1 rfl) ?_
        refine lv_iload_n hx hb dX8_row_54 rfl (lv_at hl 0 rfl) ?_
        refine lv_iload_n hx hb dX8_row_55 rfl (lv_at hl 3 rfl) ?_
        refine lv_aload_n hx hb dX8_row_56 rfl (lv_at hl 1 rfl) ?_
        refine g_get hE okX8 fl_X8_31 hP 0 rfl (v := .ref (a0 19)) rfl dX8_row_57 ?_
        refine g_get hE okX1 fl_X8_139 hP 19 rfl (v := .ref (a0 24)) rfl dX8_row_60 ?_
        refine g_get hE okX0 fl_X8_159 hP 24 rfl (v := .ref (a0 26)) rfl dX8_row_63 ?_
        refine lv_iload_n hx hb dX8_row_66 rfl (lv_at hl 0 rfl) ?_
        obtain ⟨hg8, hf⟩ := ggd hf
        refine g_iald hE hP 26 (f := (Bd_sums (Bk_board (OuB_books s0)))) rfl hg8 dX8_row_67 ?_
        obtain ⟨r9, hc10, hf⟩ := gbd hf
        refine gr_callS (As := [.int r5, .int p2, .int ((Bd_sums (Bk_board (OuB_books s0))) (ix r5))]) (rest := [.ref (a0 0)]) (st1 := [.int r9, .ref (a0 0)]) hE hl.1 ml_X8_176 (c_X8_partOfRow l g r5 p2 ((Bd_sums (Bk_board (OuB_books s0))) (ix r5)) r9 hc10) hZ hS hP [] rfl rfl rfl rfl ⟨rfl, rfl⟩ ⟨Nat.le_of_ble_eq_true rfl, Nat.le_of_ble_eq_true rfl⟩ ⟨Nat.le_refl _, Nat.le_refl _⟩ (Nat.le_of_ble_eq_true rfl) dX8_row_68 ?_
        obtain ⟨r11, hc12, hf⟩ := gbd hf
        refine gm_callV1 (As := [.int r9]) (rest := []) (st1 := fun _ => [.int (r11.1)]) (ws' := fun _ => (OuB_c g a0 v_shelf (r11.2))) hE hl.1 ml_X8_103 (c_X8_accept_B l g a0 v_shelf s0 r9 r11 hc12) hZ hP hD hS hA 0 44 rfl (fun _ => rfl) okX8 rfl rfl rfl (fun _ => rfl) ⟨rfl, rfl⟩ ⟨Nat.le_of_ble_eq_true rfl, Nat.le_of_ble_eq_true rfl⟩ ⟨Nat.le_refl _, Nat.le_refl _⟩ (Nat.le_of_ble_eq_true rfl) dX8_row_71 (fun _ H locs hP hD hS => ?_)
        cases hf
        exact hq () rfl hP hD hS dX8_row_74
      · have hf := gif_t h7 hf
        refine lv_aload_n hx hb dX8_row_45 rfl (lv_at hl 1 rfl) ?_
        refine lv_iconst hx hb dX8_row_46 kci_1 ?_
        refine lv_ldc hx hb hE.2.2.2.2.2.1 (hE.2.2.2.2.2.2.1 _ kd_X8_138) dX8_row_47 ?_
        obtain ⟨r13, hc14, hf⟩ := gbd hf
        refine gm_callV1 (As := [.int (1 : Int32), .int (-2147483648 : Int32)]) (rest := []) (st1 := fun _ => [.int (r13.1)]) (ws' := fun _ => (OuB_c g a0 v_shelf (r13.2))) hE hl.1 ml_X8_69 (c_X8_refuse_B l g a0 v_shelf s0 (1 : Int32) (-2147483648 : Int32) r13 hc14) hZ hP hD hS hA 0 44 rfl (fun _ => rfl) okX8 rfl rfl rfl (fun _ => rfl) ⟨rfl, rfl⟩ ⟨Nat.le_of_ble_eq_true rfl, Nat.le_of_ble_eq_true rfl⟩ ⟨Nat.le_refl _, Nat.le_refl _⟩ (Nat.le_of_ble_eq_true rfl) dX8_row_49 (fun _ H locs hP hD hS => ?_)
        cases hf
        exact hq () rfl hP hD hS dX8_row_52
    · have hf := gif_f h4 hf
      refine lv_aload_n hx hb dX8_row_16 rfl (lv_at hl 0 rfl) ?_
      refine lv_iconst hx hb dX8_row_17 kci_1 ?_
      refine lv_ldc hx hb hE.2.2.2.2.2.1 (hE.2.2.2.2.2.2.1 _ kd_X8_138) dX8_row_18 ?_
      obtain ⟨r15, hc16, hf⟩ := gbd hf
      refine gm_callV1 (As := [.int (1 : Int32), .int (-2147483648 : Int32)]) (rest := []) (st1 := fun _ => [.int (r15.1)]) (ws' := fun _ => (OuB_c g a0 v_shelf (r15.2))) hE hl.1 ml_X8_69 (c_X8_refuse_B l g a0 v_shelf s0 (1 : Int32) (-2147483648 : Int32) r15 hc16) hZ hP hD hS hA 0 44 rfl (fun _ => rfl) okX8 rfl rfl rfl (fun _ => rfl) ⟨rfl, rfl⟩ ⟨Nat.le_of_ble_eq_true rfl, Nat.le_of_ble_eq_true rfl⟩ ⟨Nat.le_refl _, Nat.le_refl _⟩ (Nat.le_of_ble_eq_true rfl) dX8_row_20 (fun _ H locs hP hD hS => ?_)
      cases hf
      exact hq () rfl hP hD hS dX8_row_23
def f_X8_traffic_B (s0 : OuBT) (p1 : Int32) : Option (Int32 × OuBT) :=
  if p1 < 0 then (f_X8_refuse_B s0 (1 : Int32) (-1 : Int32)).bind fun r2 =>
  some ((r2.1), (r2.2))
  else if p1 ≤ (3 : Int32) then (f_X2_told (Bd_ledger (Bk_board (OuB_books s0))) p1).bind fun r5 =>
  (f_X8_accept_B s0 r5).bind fun r7 =>
  some ((r7.1), (r7.2))
  else (f_X8_refuse_B s0 (1 : Int32) (-1 : Int32)).bind fun r9 =>
  some ((r9.1), (r9.2))
abbrev rm_X8_traffic_B : Room := { frames := 1, cells := 0, slots := 0, locals := 22 }
set_option maxHeartbeats 4000000 in
set_option maxRecDepth 100000 in
theorem c_X8_traffic_B (l : Launch) (g : GK) (a0 : Nat → Nat) (v_shelf : Value) (s0 : OuBT) (p1 : Int32) (res : (Int32 × OuBT)) (hf : f_X8_traffic_B s0 p1 = some res) : gM l yX8_traffic cX8_traffic 2 (some .int) rm_X8_traffic_B g [.ref (a0 0), .int p1] (OuB_c g a0 v_shelf s0) (fun _ : Unit => (some (.int (res.1)))) (fun _ => (OuB_c g a0 v_shelf (res.2))) 0 0 := by
  refine gM_introI RX8 (by decide) rfl (Nat.le_of_ble_eq_true rfl) (fun p e s m args below meth c Q H locs ls A hE hZ hA hP hD hS hq hl => ?_)
  have hl : lv_has ls 2 [(0, .ref (a0 0)), (1, .int p1)] := hl
  have hx := hE.1
  have hb := hE.2.1
  rw [f_X8_traffic_B] at hf
  refine lv_aload_n hx hb dX8_traffic_0 rfl (lv_at hl 0 rfl) ?_
  refine g_get hE okX8 fl_X8_31 hP 0 rfl (v := .ref (a0 19)) rfl dX8_traffic_1 ?_
  refine lv_ifnull hx hb dX8_traffic_4 ?_
  refine lv_iload_n hx hb dX8_traffic_7 rfl (lv_at hl 1 rfl) ?_
  refine lv_if_lt hx hb dX8_traffic_8 (tgt := 16) rfl (fun h1 => ?_) (fun h1 => ?_)
  · have hf := gif_t h1 hf
    refine lv_aload_n hx hb dX8_traffic_16 rfl (lv_at hl 0 rfl) ?_
    refine lv_iconst hx hb dX8_traffic_17 kci_1 ?_
    refine lv_iconst hx hb dX8_traffic_18 kci_m1 ?_
    obtain ⟨r2, hc3, hf⟩ := gbd hf
    refine gm_callV1 (As := [.int (1 : Int32), .int (-1 : Int32)]) (rest := []) (st1 := fun _ => [.int (r2.1)]) (ws' := fun _ => (OuB_c g a0 v_shelf (r2.2))) hE hl.1 ml_X8_69 (c_X8_refuse_B l g a0 v_shelf s0 (1 : Int32) (-1 : Int32) r2 hc3) hZ hP hD hS hA 0 44 rfl (fun _ => rfl) okX8 rfl rfl rfl (fun _ => rfl) ⟨rfl, rfl⟩ ⟨Nat.le_of_ble_eq_true rfl, Nat.le_of_ble_eq_true rfl⟩ ⟨Nat.le_refl _, Nat.le_refl _⟩ (Nat.le_of_ble_eq_true rfl) dX8_traffic_19 (fun _ H locs hP hD hS => ?_)
    cases hf
    exact hq () rfl hP hD hS dX8_traffic_22
  · have hf := gif_f h1 hf
    refine lv_iload_n hx hb dX8_traffic_11 rfl (lv_at hl 1 rfl) ?_
    refine lv_iconst hx hb dX8_traffic_12 kci_3 ?_
    refine lv_icmp_le hx hb dX8_traffic_13 (tgt := 23) rfl (fun h4 => ?_) (fun h4 => ?_)
    · have hf := gif_t h4 hf
      refine lv_aload_n hx hb dX8_traffic_23 rfl (lv_at hl 0 rfl) ?_
      refine lv_aload_n hx hb dX8_traffic_24 rfl (lv_at hl 0 rfl) ?_
      refine g_get hE okX8 fl_X8_31 hP 0 rfl (v := .ref (a0 19)) rfl dX8_traffic_25 ?_
      refine g_get hE okX1 fl_X8_139 hP 19 rfl (v := .ref (a0 24)) rfl dX8_traffic_28 ?_
      refine g_get hE okX0 fl_X8_192 hP 24 rfl (v := .ref (a0 28)) rfl dX8_traffic_31 ?_
      refine lv_iload_n hx hb dX8_traffic_34 rfl (lv_at hl 1 rfl) ?_
      obtain ⟨r5, hc6, hf⟩ := gbd hf
      refine gr_callV (As := [.int p1]) (rest := [.ref (a0 0)]) (st1 := [.int r5, .ref (a0 0)]) hE hl.1 ml_X8_196 (c_X2_told l g (fun k => a0 (k + 28)) (Bd_ledger (Bk_board (OuB_books s0))) p1 r5 hc6) hZ hS hP [(28, 5)] rfl okX2 rfl rfl rfl rfl ⟨rfl, rfl⟩ ⟨Nat.le_of_ble_eq_true rfl, Nat.le_of_ble_eq_true rfl⟩ ⟨Nat.le_refl _, Nat.le_refl _⟩ (Nat.le_of_ble_eq_true rfl) dX8_traffic_35 ?_
      obtain ⟨r7, hc8, hf⟩ := gbd hf
      refine gm_callV1 (As := [.int r5]) (rest := []) (st1 := fun _ => [.int (r7.1)]) (ws' := fun _ => (OuB_c g a0 v_shelf (r7.2))) hE hl.1 ml_X8_103 (c_X8_accept_B l g a0 v_shelf s0 r5 r7 hc8) hZ hP hD hS hA 0 44 rfl (fun _ => rfl) okX8 rfl rfl rfl (fun _ => rfl) ⟨rfl, rfl⟩ ⟨Nat.le_of_ble_eq_true rfl, Nat.le_of_ble_eq_true rfl⟩ ⟨Nat.le_refl _, Nat.le_refl _⟩ (Nat.le_of_ble_eq_true rfl) dX8_traffic_38 (fun _ H locs hP hD hS => ?_)
      cases hf
      exact hq () rfl hP hD hS dX8_traffic_41
    · have hf := gif_f h4 hf
      refine lv_aload_n hx hb dX8_traffic_16 rfl (lv_at hl 0 rfl) ?_
      refine lv_iconst hx hb dX8_traffic_17 kci_1 ?_
      refine lv_iconst hx hb dX8_traffic_18 kci_m1 ?_
      obtain ⟨r9, hc10, hf⟩ := gbd hf
      refine gm_callV1 (As := [.int (1 : Int32), .int (-1 : Int32)]) (rest := []) (st1 := fun _ => [.int (r9.1)]) (ws' := fun _ => (OuB_c g a0 v_shelf (r9.2))) hE hl.1 ml_X8_69 (c_X8_refuse_B l g a0 v_shelf s0 (1 : Int32) (-1 : Int32) r9 hc10) hZ hP hD hS hA 0 44 rfl (fun _ => rfl) okX8 rfl rfl rfl (fun _ => rfl) ⟨rfl, rfl⟩ ⟨Nat.le_of_ble_eq_true rfl, Nat.le_of_ble_eq_true rfl⟩ ⟨Nat.le_refl _, Nat.le_refl _⟩ (Nat.le_of_ble_eq_true rfl) dX8_traffic_19 (fun _ H locs hP hD hS => ?_)
      cases hf
      exact hq () rfl hP hD hS dX8_traffic_22
def f_X8_log_B (s0 : OuBT) (p1 : Int32) (p2 : Int32) : Option (Int32 × OuBT) :=
  if p2 < 0 then (f_X8_refuse_B s0 (1 : Int32) (-2147483648 : Int32)).bind fun r2 =>
  some ((r2.1), (r2.2))
  else if (4 : Int32) < p2 then (f_X8_refuse_B s0 (1 : Int32) (-2147483648 : Int32)).bind fun r5 =>
  some ((r5.1), (r5.2))
  else (f_X2_remembers (Bd_ledger (Bk_board (OuB_books s0))) p1).bind fun r7 =>
  if r7 = 0 then (f_X8_refuse_B s0 (1 : Int32) (-2147483648 : Int32)).bind fun r14 =>
  some ((r14.1), (r14.2))
  else (f_X2_toldOfChange (Bd_ledger (Bk_board (OuB_books s0))) p1 p2).bind fun r10 =>
  (f_X8_accept_B s0 r10).bind fun r12 =>
  some ((r12.1), (r12.2))
abbrev rm_X8_log_B : Room := { frames := 4, cells := 0, slots := 0, locals := 85 }
set_option maxHeartbeats 4000000 in
set_option maxRecDepth 100000 in
theorem c_X8_log_B (l : Launch) (g : GK) (a0 : Nat → Nat) (v_shelf : Value) (s0 : OuBT) (p1 : Int32) (p2 : Int32) (res : (Int32 × OuBT)) (hf : f_X8_log_B s0 p1 p2 = some res) : gM l yX8_log cX8_log 3 (some .int) rm_X8_log_B g [.ref (a0 0), .int p1, .int p2] (OuB_c g a0 v_shelf s0) (fun _ : Unit => (some (.int (res.1)))) (fun _ => (OuB_c g a0 v_shelf (res.2))) 0 0 := by
  refine gM_introI RX8 (by decide) rfl (Nat.le_of_ble_eq_true rfl) (fun p e s m args below meth c Q H locs ls A hE hZ hA hP hD hS hq hl => ?_)
  have hl : lv_has ls 3 [(0, .ref (a0 0)), (1, .int p1), (2, .int p2)] := hl
  have hx := hE.1
  have hb := hE.2.1
  rw [f_X8_log_B] at hf
  refine lv_aload_n hx hb dX8_log_0 rfl (lv_at hl 0 rfl) ?_
  refine g_get hE okX8 fl_X8_31 hP 0 rfl (v := .ref (a0 19)) rfl dX8_log_1 ?_
  refine lv_ifnull hx hb dX8_log_4 ?_
  refine lv_iload_n hx hb dX8_log_7 rfl (lv_at hl 2 rfl) ?_
  refine lv_if_lt hx hb dX8_log_8 (tgt := 33) rfl (fun h1 => ?_) (fun h1 => ?_)
  · have hf := gif_t h1 hf
    refine lv_aload_n hx hb dX8_log_33 rfl (lv_at hl 0 rfl) ?_
    refine lv_iconst hx hb dX8_log_34 kci_1 ?_
    refine lv_ldc hx hb hE.2.2.2.2.2.1 (hE.2.2.2.2.2.2.1 _ kd_X8_138) dX8_log_35 ?_
    obtain ⟨r2, hc3, hf⟩ := gbd hf
    refine gm_callV1 (As := [.int (1 : Int32), .int (-2147483648 : Int32)]) (rest := []) (st1 := fun _ => [.int (r2.1)]) (ws' := fun _ => (OuB_c g a0 v_shelf (r2.2))) hE hl.1 ml_X8_69 (c_X8_refuse_B l g a0 v_shelf s0 (1 : Int32) (-2147483648 : Int32) r2 hc3) hZ hP hD hS hA 0 44 rfl (fun _ => rfl) okX8 rfl rfl rfl (fun _ => rfl) ⟨rfl, rfl⟩ ⟨Nat.le_of_ble_eq_true rfl, Nat.le_of_ble_eq_true rfl⟩ ⟨Nat.le_refl _, Nat.le_refl _⟩ (Nat.le_of_ble_eq_true rfl) dX8_log_37 (fun _ H locs hP hD hS => ?_)
    cases hf
    exact hq () rfl hP hD hS dX8_log_40
  · have hf := gif_f h1 hf
    refine lv_iload_n hx hb dX8_log_11 rfl (lv_at hl 2 rfl) ?_
    refine lv_iconst hx hb dX8_log_12 kci_4 ?_
    refine lv_icmp_gt hx hb dX8_log_13 (tgt := 33) rfl (fun h4 => ?_) (fun h4 => ?_)
    · have hf := gif_t h4 hf
      refine lv_aload_n hx hb dX8_log_33 rfl (lv_at hl 0 rfl) ?_
      refine lv_iconst hx hb dX8_log_34 kci_1 ?_
      refine lv_ldc hx hb hE.2.2.2.2.2.1 (hE.2.2.2.2.2.2.1 _ kd_X8_138) dX8_log_35 ?_
      obtain ⟨r5, hc6, hf⟩ := gbd hf
      refine gm_callV1 (As := [.int (1 : Int32), .int (-2147483648 : Int32)]) (rest := []) (st1 := fun _ => [.int (r5.1)]) (ws' := fun _ => (OuB_c g a0 v_shelf (r5.2))) hE hl.1 ml_X8_69 (c_X8_refuse_B l g a0 v_shelf s0 (1 : Int32) (-2147483648 : Int32) r5 hc6) hZ hP hD hS hA 0 44 rfl (fun _ => rfl) okX8 rfl rfl rfl (fun _ => rfl) ⟨rfl, rfl⟩ ⟨Nat.le_of_ble_eq_true rfl, Nat.le_of_ble_eq_true rfl⟩ ⟨Nat.le_refl _, Nat.le_refl _⟩ (Nat.le_of_ble_eq_true rfl) dX8_log_37 (fun _ H locs hP hD hS => ?_)
      cases hf
      exact hq () rfl hP hD hS dX8_log_40
    · have hf := gif_f h4 hf
      refine lv_aload_n hx hb dX8_log_16 rfl (lv_at hl 0 rfl) ?_
      refine g_get hE okX8 fl_X8_31 hP 0 rfl (v := .ref (a0 19)) rfl dX8_log_17 ?_
      refine g_get hE okX1 fl_X8_139 hP 19 rfl (v := .ref (a0 24)) rfl dX8_log_20 ?_
      refine g_get hE okX0 fl_X8_192 hP 24 rfl (v := .ref (a0 28)) rfl dX8_log_23 ?_
      refine lv_iload_n hx hb dX8_log_26 rfl (lv_at hl 1 rfl) ?_
      obtain ⟨r7, hc8, hf⟩ := gbd hf
      refine gr_callV (As := [.int p1]) (rest := []) (st1 := [.int r7]) hE hl.1 ml_X8_199 (c_X2_remembers l g (fun k => a0 (k + 28)) (Bd_ledger (Bk_board (OuB_books s0))) p1 r7 hc8) hZ hS hP [(28, 5)] rfl okX2 rfl rfl rfl rfl ⟨rfl, rfl⟩ ⟨Nat.le_of_ble_eq_true rfl, Nat.le_of_ble_eq_true rfl⟩ ⟨Nat.le_refl _, Nat.le_refl _⟩ (Nat.le_of_ble_eq_true rfl) dX8_log_27 ?_
      refine lv_if_ne hx hb dX8_log_30 (tgt := 41) rfl (fun h9 => ?_) (fun h9 => ?_)
      · have hf := gif_f h9 hf
        refine lv_aload_n hx hb dX8_log_41 rfl (lv_at hl 0 rfl) ?_
        refine lv_aload_n hx hb dX8_log_42 rfl (lv_at hl 0 rfl) ?_
        refine g_get hE okX8 fl_X8_31 hP 0 rfl (v := .ref (a0 19)) rfl dX8_log_43 ?_
        refine g_get hE okX1 fl_X8_139 hP 19 rfl (v := .ref (a0 24)) rfl dX8_log_46 ?_
        refine g_get hE okX0 fl_X8_192 hP 24 rfl (v := .ref (a0 28)) rfl dX8_log_49 ?_
        refine lv_iload_n hx hb dX8_log_52 rfl (lv_at hl 1 rfl) ?_
        refine lv_iload_n hx hb dX8_log_53 rfl (lv_at hl 2 rfl) ?_
        obtain ⟨r10, hc11, hf⟩ := gbd hf
        refine gr_callV (As := [.int p1, .int p2]) (rest := [.ref (a0 0)]) (st1 := [.int r10, .ref (a0 0)]) hE hl.1 ml_X8_202 (c_X2_toldOfChange l g (fun k => a0 (k + 28)) (Bd_ledger (Bk_board (OuB_books s0))) p1 p2 r10 hc11) hZ hS hP [(28, 5)] rfl okX2 rfl rfl rfl rfl ⟨rfl, rfl⟩ ⟨Nat.le_of_ble_eq_true rfl, Nat.le_of_ble_eq_true rfl⟩ ⟨Nat.le_refl _, Nat.le_refl _⟩ (Nat.le_of_ble_eq_true rfl) dX8_log_54 ?_
        obtain ⟨r12, hc13, hf⟩ := gbd hf
        refine gm_callV1 (As := [.int r10]) (rest := []) (st1 := fun _ => [.int (r12.1)]) (ws' := fun _ => (OuB_c g a0 v_shelf (r12.2))) hE hl.1 ml_X8_103 (c_X8_accept_B l g a0 v_shelf s0 r10 r12 hc13) hZ hP hD hS hA 0 44 rfl (fun _ => rfl) okX8 rfl rfl rfl (fun _ => rfl) ⟨rfl, rfl⟩ ⟨Nat.le_of_ble_eq_true rfl, Nat.le_of_ble_eq_true rfl⟩ ⟨Nat.le_refl _, Nat.le_refl _⟩ (Nat.le_of_ble_eq_true rfl) dX8_log_57 (fun _ H locs hP hD hS => ?_)
        cases hf
        exact hq () rfl hP hD hS dX8_log_60
      · have hf := gif_t h9 hf
        refine lv_aload_n hx hb dX8_log_33 rfl (lv_at hl 0 rfl) ?_
        refine lv_iconst hx hb dX8_log_34 kci_1 ?_
        refine lv_ldc hx hb hE.2.2.2.2.2.1 (hE.2.2.2.2.2.2.1 _ kd_X8_138) dX8_log_35 ?_
        obtain ⟨r14, hc15, hf⟩ := gbd hf
        refine gm_callV1 (As := [.int (1 : Int32), .int (-2147483648 : Int32)]) (rest := []) (st1 := fun _ => [.int (r14.1)]) (ws' := fun _ => (OuB_c g a0 v_shelf (r14.2))) hE hl.1 ml_X8_69 (c_X8_refuse_B l g a0 v_shelf s0 (1 : Int32) (-2147483648 : Int32) r14 hc15) hZ hP hD hS hA 0 44 rfl (fun _ => rfl) okX8 rfl rfl rfl (fun _ => rfl) ⟨rfl, rfl⟩ ⟨Nat.le_of_ble_eq_true rfl, Nat.le_of_ble_eq_true rfl⟩ ⟨Nat.le_refl _, Nat.le_refl _⟩ (Nat.le_of_ble_eq_true rfl) dX8_log_37 (fun _ H locs hP hD hS => ?_)
        cases hf
        exact hq () rfl hP hD hS dX8_log_40
def f_X8_flips_B (s0 : OuBT) (p1 : Int32) (p2 : Int32) : Option (Int32 × OuBT) :=
  (f_X8_isSide p1).bind fun r1 =>
  if r1 = 0 then (f_X8_refuse_B s0 (1 : Int32) (-1 : Int32)).bind fun r4 =>
  some ((r4.1), (r4.2))
  else (f_X8_isKey_B s0 p2).bind fun r6 =>
  if r6 = 0 then (f_X8_refuse_B s0 (1 : Int32) (-1 : Int32)).bind fun r12 =>
  some ((r12.1), (r12.2))
  else if inb ((p1 * (8 : Int32)) + p2) 16 then (f_X8_accept_B s0 ((Bd_turns (Bk_board (OuB_books s0))) (ix ((p1 * (8 : Int32)) + p2)))).bind fun r10 =>
  some ((r10.1), (r10.2)) else none
abbrev rm_X8_flips_B : Room := { frames := 2, cells := 0, slots := 0, locals := 42 }
set_option maxHeartbeats 4000000 in
set_option maxRecDepth 100000 in
theorem c_X8_flips_B (l : Launch) (g : GK) (a0 : Nat → Nat) (v_shelf : Value) (s0 : OuBT) (p1 : Int32) (p2 : Int32) (res : (Int32 × OuBT)) (hf : f_X8_flips_B s0 p1 p2 = some res) : gM l yX8_flips cX8_flips 3 (some .int) rm_X8_flips_B g [.ref (a0 0), .int p1, .int p2] (OuB_c g a0 v_shelf s0) (fun _ : Unit => (some (.int (res.1)))) (fun _ => (OuB_c g a0 v_shelf (res.2))) 0 0 := by
  refine gM_introI RX8 (by decide) rfl (Nat.le_of_ble_eq_true rfl) (fun p e s m args below meth c Q H locs ls A hE hZ hA hP hD hS hq hl => ?_)
  have hl : lv_has ls 3 [(0, .ref (a0 0)), (1, .int p1), (2, .int p2)] := hl
  have hx := hE.1
  have hb := hE.2.1
  rw [f_X8_flips_B] at hf
  refine lv_iload_n hx hb dX8_flips_0 rfl (lv_at hl 1 rfl) ?_
  obtain ⟨r1, hc2, hf⟩ := gbd hf
  refine gr_callS (As := [.int p1]) (rest := []) (st1 := [.int r1]) hE hl.1 ml_X8_129 (c_X8_isSide l g p1 r1 hc2) hZ hS hP [] rfl rfl rfl rfl ⟨rfl, rfl⟩ ⟨Nat.le_of_ble_eq_true rfl, Nat.le_of_ble_eq_true rfl⟩ ⟨Nat.le_refl _, Nat.le_refl _⟩ (Nat.le_of_ble_eq_true rfl) dX8_flips_1 ?_
  refine lv_if_eq hx hb dX8_flips_4 (tgt := 15) rfl (fun h3 => ?_) (fun h3 => ?_)
  · have hf := gif_t h3 hf
    refine lv_aload_n hx hb dX8_flips_15 rfl (lv_at hl 0 rfl) ?_
    refine lv_iconst hx hb dX8_flips_16 kci_1 ?_
    refine lv_iconst hx hb dX8_flips_17 kci_m1 ?_
    obtain ⟨r4, hc5, hf⟩ := gbd hf
    refine gm_callV1 (As := [.int (1 : Int32), .int (-1 : Int32)]) (rest := []) (st1 := fun _ => [.int (r4.1)]) (ws' := fun _ => (OuB_c g a0 v_shelf (r4.2))) hE hl.1 ml_X8_69 (c_X8_refuse_B l g a0 v_shelf s0 (1 : Int32) (-1 : Int32) r4 hc5) hZ hP hD hS hA 0 44 rfl (fun _ => rfl) okX8 rfl rfl rfl (fun _ => rfl) ⟨rfl, rfl⟩ ⟨Nat.le_of_ble_eq_true rfl, Nat.le_of_ble_eq_true rfl⟩ ⟨Nat.le_refl _, Nat.le_refl _⟩ (Nat.le_of_ble_eq_true rfl) dX8_flips_18 (fun _ H locs hP hD hS => ?_)
    cases hf
    exact hq () rfl hP hD hS dX8_flips_21
  · have hf := gif_f h3 hf
    refine lv_aload_n hx hb dX8_flips_7 rfl (lv_at hl 0 rfl) ?_
    refine lv_iload_n hx hb dX8_flips_8 rfl (lv_at hl 2 rfl) ?_
    obtain ⟨r6, hc7, hf⟩ := gbd hf
    refine gr_callV (As := [.int p2]) (rest := []) (st1 := [.int r6]) hE hl.1 ml_X8_132 (c_X8_isKey_B l g a0 v_shelf s0 p2 r6 hc7) hZ hS hP [(0, 44)] rfl okX8 rfl rfl rfl rfl ⟨rfl, rfl⟩ ⟨Nat.le_of_ble_eq_true rfl, Nat.le_of_ble_eq_true rfl⟩ ⟨Nat.le_refl _, Nat.le_refl _⟩ (Nat.le_of_ble_eq_true rfl) dX8_flips_9 ?_
    refine lv_if_ne hx hb dX8_flips_12 (tgt := 22) rfl (fun h8 => ?_) (fun h8 => ?_)
    · have hf := gif_f h8 hf
      refine lv_aload_n hx hb dX8_flips_22 rfl (lv_at hl 0 rfl) ?_
      refine lv_aload_n hx hb dX8_flips_23 rfl (lv_at hl 0 rfl) ?_
      refine g_get hE okX8 fl_X8_31 hP 0 rfl (v := .ref (a0 19)) rfl dX8_flips_24 ?_
      refine g_get hE okX1 fl_X8_139 hP 19 rfl (v := .ref (a0 24)) rfl dX8_flips_27 ?_
      refine g_get hE okX0 fl_X8_205 hP 24 rfl (v := .ref (a0 27)) rfl dX8_flips_30 ?_
      refine lv_iload_n hx hb dX8_flips_33 rfl (lv_at hl 1 rfl) ?_
      refine lv_bipush hx hb dX8_flips_34 kcb_8 ?_
      refine lv_imul hx hb dX8_flips_36 ?_
      refine lv_iload_n hx hb dX8_flips_37 rfl (lv_at hl 2 rfl) ?_
      refine lv_iadd hx hb dX8_flips_38 ?_
      obtain ⟨hg9, hf⟩ := ggd hf
      refine g_iald hE hP 27 (f := (Bd_turns (Bk_board (OuB_books s0)))) rfl hg9 dX8_flips_39 ?_
      obtain ⟨r10, hc11, hf⟩ := gbd hf
      refine gm_callV1 (As := [.int ((Bd_turns (Bk_board (OuB_books s0))) (ix ((p1 * (8 : Int32)) + p2)))]) (rest := []) (st1 := fun _ => [.int (r10.1)]) (ws' := fun _ => (OuB_c g a0 v_shelf (r10.2))) hE hl.1 ml_X8_103 (c_X8_accept_B l g a0 v_shelf s0 ((Bd_turns (Bk_board (OuB_books s0))) (ix ((p1 * (8 : Int32)) + p2))) r10 hc11) hZ hP hD hS hA 0 44 rfl (fun _ => rfl) okX8 rfl rfl rfl (fun _ => rfl) ⟨rfl, rfl⟩ ⟨Nat.le_of_ble_eq_true rfl, Nat.le_of_ble_eq_true rfl⟩ ⟨Nat.le_refl _, Nat.le_refl _⟩ (Nat.le_of_ble_eq_true rfl) dX8_flips_40 (fun _ H locs hP hD hS => ?_)
      cases hf
      exact hq () rfl hP hD hS dX8_flips_43
    · have hf := gif_t h8 hf
      refine lv_aload_n hx hb dX8_flips_15 rfl (lv_at hl 0 rfl) ?_
      refine lv_iconst hx hb dX8_flips_16 kci_1 ?_
      refine lv_iconst hx hb dX8_flips_17 kci_m1 ?_
      obtain ⟨r12, hc13, hf⟩ := gbd hf
      refine gm_callV1 (As := [.int (1 : Int32), .int (-1 : Int32)]) (rest := []) (st1 := fun _ => [.int (r12.1)]) (ws' := fun _ => (OuB_c g a0 v_shelf (r12.2))) hE hl.1 ml_X8_69 (c_X8_refuse_B l g a0 v_shelf s0 (1 : Int32) (-1 : Int32) r12 hc13) hZ hP hD hS hA 0 44 rfl (fun _ => rfl) okX8 rfl rfl rfl (fun _ => rfl) ⟨rfl, rfl⟩ ⟨Nat.le_of_ble_eq_true rfl, Nat.le_of_ble_eq_true rfl⟩ ⟨Nat.le_refl _, Nat.le_refl _⟩ (Nat.le_of_ble_eq_true rfl) dX8_flips_18 (fun _ H locs hP hD hS => ?_)
      cases hf
      exact hq () rfl hP hD hS dX8_flips_21
def f_X8_busiest_B (s0 : OuBT) : Option (Int32 × OuBT) :=
  (f_X2_keyOfMost (Bd_ledger (Bk_board (OuB_books s0)))).bind fun r1 =>
  (f_X8_accept_B s0 r1).bind fun r3 =>
  some ((r3.1), (r3.2))
abbrev rm_X8_busiest_B : Room := { frames := 1, cells := 0, slots := 0, locals := 22 }
set_option maxHeartbeats 4000000 in
set_option maxRecDepth 100000 in
theorem c_X8_busiest_B (l : Launch) (g : GK) (a0 : Nat → Nat) (v_shelf : Value) (s0 : OuBT) (res : (Int32 × OuBT)) (hf : f_X8_busiest_B s0 = some res) : gM l yX8_busiest cX8_busiest 1 (some .int) rm_X8_busiest_B g [.ref (a0 0)] (OuB_c g a0 v_shelf s0) (fun _ : Unit => (some (.int (res.1)))) (fun _ => (OuB_c g a0 v_shelf (res.2))) 0 0 := by
  refine gM_introI RX8 (by decide) rfl (Nat.le_of_ble_eq_true rfl) (fun p e s m args below meth c Q H locs ls A hE hZ hA hP hD hS hq hl => ?_)
  have hl : lv_has ls 1 [(0, .ref (a0 0))] := hl
  have hx := hE.1
  have hb := hE.2.1
  rw [f_X8_busiest_B] at hf
  refine lv_aload_n hx hb dX8_busiest_0 rfl (lv_at hl 0 rfl) ?_
  refine g_get hE okX8 fl_X8_31 hP 0 rfl (v := .ref (a0 19)) rfl dX8_busiest_1 ?_
  refine lv_ifnonnull hx hb dX8_busiest_4 (tgt := 14) rfl ?_
  refine lv_aload_n hx hb dX8_busiest_14 rfl (lv_at hl 0 rfl) ?_
  refine lv_aload_n hx hb dX8_busiest_15 rfl (lv_at hl 0 rfl) ?_
  refine g_get hE okX8 fl_X8_31 hP 0 rfl (v := .ref (a0 19)) rfl dX8_busiest_16 ?_
  refine g_get hE okX1 fl_X8_139 hP 19 rfl (v := .ref (a0 24)) rfl dX8_busiest_19 ?_
  refine g_get hE okX0 fl_X8_192 hP 24 rfl (v := .ref (a0 28)) rfl dX8_busiest_22 ?_
  obtain ⟨r1, hc2, hf⟩ := gbd hf
  refine gr_callV (As := []) (rest := [.ref (a0 0)]) (st1 := [.int r1, .ref (a0 0)]) hE hl.1 ml_X8_208 (c_X2_keyOfMost l g (fun k => a0 (k + 28)) (Bd_ledger (Bk_board (OuB_books s0))) r1 hc2) hZ hS hP [(28, 5)] rfl okX2 rfl rfl rfl rfl ⟨rfl, rfl⟩ ⟨Nat.le_of_ble_eq_true rfl, Nat.le_of_ble_eq_true rfl⟩ ⟨Nat.le_refl _, Nat.le_refl _⟩ (Nat.le_of_ble_eq_true rfl) dX8_busiest_25 ?_
  obtain ⟨r3, hc4, hf⟩ := gbd hf
  refine gm_callV1 (As := [.int r1]) (rest := []) (st1 := fun _ => [.int (r3.1)]) (ws' := fun _ => (OuB_c g a0 v_shelf (r3.2))) hE hl.1 ml_X8_103 (c_X8_accept_B l g a0 v_shelf s0 r1 r3 hc4) hZ hP hD hS hA 0 44 rfl (fun _ => rfl) okX8 rfl rfl rfl (fun _ => rfl) ⟨rfl, rfl⟩ ⟨Nat.le_of_ble_eq_true rfl, Nat.le_of_ble_eq_true rfl⟩ ⟨Nat.le_refl _, Nat.le_refl _⟩ (Nat.le_of_ble_eq_true rfl) dX8_busiest_28 (fun _ H locs hP hD hS => ?_)
  cases hf
  exact hq () rfl hP hD hS dX8_busiest_31
def f_X8_dearest_B (s0 : OuBT) : Option (Int32 × OuBT) :=
  (f_X8_accept_B s0 (Lg_actOfMost (Bd_ledger (Bk_board (OuB_books s0))))).bind fun r1 =>
  some ((r1.1), (r1.2))
abbrev rm_X8_dearest_B : Room := { frames := 1, cells := 0, slots := 0, locals := 22 }
set_option maxHeartbeats 4000000 in
set_option maxRecDepth 100000 in
theorem c_X8_dearest_B (l : Launch) (g : GK) (a0 : Nat → Nat) (v_shelf : Value) (s0 : OuBT) (res : (Int32 × OuBT)) (hf : f_X8_dearest_B s0 = some res) : gM l yX8_dearest cX8_dearest 1 (some .int) rm_X8_dearest_B g [.ref (a0 0)] (OuB_c g a0 v_shelf s0) (fun _ : Unit => (some (.int (res.1)))) (fun _ => (OuB_c g a0 v_shelf (res.2))) 0 0 := by
  refine gM_introI RX8 (by decide) rfl (Nat.le_of_ble_eq_true rfl) (fun p e s m args below meth c Q H locs ls A hE hZ hA hP hD hS hq hl => ?_)
  have hl : lv_has ls 1 [(0, .ref (a0 0))] := hl
  have hx := hE.1
  have hb := hE.2.1
  rw [f_X8_dearest_B] at hf
  refine lv_aload_n hx hb dX8_dearest_0 rfl (lv_at hl 0 rfl) ?_
  refine g_get hE okX8 fl_X8_31 hP 0 rfl (v := .ref (a0 19)) rfl dX8_dearest_1 ?_
  refine lv_ifnonnull hx hb dX8_dearest_4 (tgt := 14) rfl ?_
  refine lv_aload_n hx hb dX8_dearest_14 rfl (lv_at hl 0 rfl) ?_
  refine lv_aload_n hx hb dX8_dearest_15 rfl (lv_at hl 0 rfl) ?_
  refine g_get hE okX8 fl_X8_31 hP 0 rfl (v := .ref (a0 19)) rfl dX8_dearest_16 ?_
  refine g_get hE okX1 fl_X8_139 hP 19 rfl (v := .ref (a0 24)) rfl dX8_dearest_19 ?_
  refine g_get hE okX0 fl_X8_192 hP 24 rfl (v := .ref (a0 28)) rfl dX8_dearest_22 ?_
  refine g_get hE okX2 fl_X8_211 hP 28 rfl (v := .int (Lg_actOfMost (Bd_ledger (Bk_board (OuB_books s0))))) rfl dX8_dearest_25 ?_
  obtain ⟨r1, hc2, hf⟩ := gbd hf
  refine gm_callV1 (As := [.int (Lg_actOfMost (Bd_ledger (Bk_board (OuB_books s0))))]) (rest := []) (st1 := fun _ => [.int (r1.1)]) (ws' := fun _ => (OuB_c g a0 v_shelf (r1.2))) hE hl.1 ml_X8_103 (c_X8_accept_B l g a0 v_shelf s0 (Lg_actOfMost (Bd_ledger (Bk_board (OuB_books s0)))) r1 hc2) hZ hP hD hS hA 0 44 rfl (fun _ => rfl) okX8 rfl rfl rfl (fun _ => rfl) ⟨rfl, rfl⟩ ⟨Nat.le_of_ble_eq_true rfl, Nat.le_of_ble_eq_true rfl⟩ ⟨Nat.le_refl _, Nat.le_refl _⟩ (Nat.le_of_ble_eq_true rfl) dX8_dearest_28 (fun _ H locs hP hD hS => ?_)
  cases hf
  exact hq () rfl hP hD hS dX8_dearest_31
def f_X8_begin_B (s0 : OuBT) (p1 : Int32) : Option (Int32 × OuBT) :=
  if p1 < 0 then (f_X8_refuse_B s0 (1 : Int32) (-1 : Int32)).bind fun r2 =>
  some ((r2.1), (r2.2))
  else if p1 < (4 : Int32) then (f_X5_start (Bk_subscribers (OuB_books s0)) (Bk_board (OuB_books s0)) p1).bind fun r5 =>
  (f_X8_countFilled 648 (Bd_sums (Bk_board (OuB_books s0))) (0 : Int32)).bind fun r7 =>
  (f_X8_accept_B (OuB_w_books s0 (Bk_w_subscribers (OuB_books s0) r5)) r7).bind fun r9 =>
  some ((r9.1), (r9.2))
  else (f_X8_refuse_B s0 (1 : Int32) (-1 : Int32)).bind fun r11 =>
  some ((r11.1), (r11.2))
abbrev rm_X8_begin_B : Room := { frames := 2, cells := 0, slots := 0, locals := 47 }
set_option maxHeartbeats 4000000 in
set_option maxRecDepth 100000 in
theorem c_X8_begin_B (l : Launch) (g : GK) (a0 : Nat → Nat) (v_shelf : Value) (s0 : OuBT) (p1 : Int32) (res : (Int32 × OuBT)) (hf : f_X8_begin_B s0 p1 = some res) : gM l yX8_begin cX8_begin 2 (some .int) rm_X8_begin_B g [.ref (a0 0), .int p1] (OuB_c g a0 v_shelf s0) (fun _ : Unit => (some (.int (res.1)))) (fun _ => (OuB_c g a0 v_shelf (res.2))) 0 0 := by
  refine gM_introI RX8 (by decide) rfl (Nat.le_of_ble_eq_true rfl) (fun p e s m args below meth c Q H locs ls A hE hZ hA hP hD hS hq hl => ?_)
  have hl : lv_has ls 2 [(0, .ref (a0 0)), (1, .int p1)] := hl
  have hx := hE.1
  have hb := hE.2.1
  rw [f_X8_begin_B] at hf
  refine lv_aload_n hx hb dX8_begin_0 rfl (lv_at hl 0 rfl) ?_
  refine g_get hE okX8 fl_X8_31 hP 0 rfl (v := .ref (a0 19)) rfl dX8_begin_1 ?_
  refine lv_ifnull hx hb dX8_begin_4 ?_
  refine lv_iload_n hx hb dX8_begin_7 rfl (lv_at hl 1 rfl) ?_
  refine lv_if_lt hx hb dX8_begin_8 (tgt := 16) rfl (fun h1 => ?_) (fun h1 => ?_)
  · have hf := gif_t h1 hf
    refine lv_aload_n hx hb dX8_begin_16 rfl (lv_at hl 0 rfl) ?_
    refine lv_iconst hx hb dX8_begin_17 kci_1 ?_
    refine lv_iconst hx hb dX8_begin_18 kci_m1 ?_
    obtain ⟨r2, hc3, hf⟩ := gbd hf
    refine gm_callV1 (As := [.int (1 : Int32), .int (-1 : Int32)]) (rest := []) (st1 := fun _ => [.int (r2.1)]) (ws' := fun _ => (OuB_c g a0 v_shelf (r2.2))) hE hl.1 ml_X8_69 (c_X8_refuse_B l g a0 v_shelf s0 (1 : Int32) (-1 : Int32) r2 hc3) hZ hP hD hS hA 0 44 rfl (fun _ => rfl) okX8 rfl rfl rfl (fun _ => rfl) ⟨rfl, rfl⟩ ⟨Nat.le_of_ble_eq_true rfl, Nat.le_of_ble_eq_true rfl⟩ ⟨Nat.le_refl _, Nat.le_refl _⟩ (Nat.le_of_ble_eq_true rfl) dX8_begin_19 (fun _ H locs hP hD hS => ?_)
    cases hf
    exact hq () rfl hP hD hS dX8_begin_22
  · have hf := gif_f h1 hf
    refine lv_iload_n hx hb dX8_begin_11 rfl (lv_at hl 1 rfl) ?_
    refine lv_iconst hx hb dX8_begin_12 kci_4 ?_
    refine lv_icmp_lt hx hb dX8_begin_13 (tgt := 23) rfl (fun h4 => ?_) (fun h4 => ?_)
    · have hf := gif_t h4 hf
      refine lv_aload_n hx hb dX8_begin_23 rfl (lv_at hl 0 rfl) ?_
      refine g_get hE okX8 fl_X8_31 hP 0 rfl (v := .ref (a0 19)) rfl dX8_begin_24 ?_
      refine g_get hE okX1 fl_X8_216 hP 19 rfl (v := .ref (a0 38)) rfl dX8_begin_27 ?_
      refine lv_iload_n hx hb dX8_begin_30 rfl (lv_at hl 1 rfl) ?_
      refine lv_aload_n hx hb dX8_begin_31 rfl (lv_at hl 0 rfl) ?_
      refine g_get hE okX8 fl_X8_31 hP 0 rfl (v := .ref (a0 19)) rfl dX8_begin_32 ?_
      refine g_get hE okX1 fl_X8_139 hP 19 rfl (v := .ref (a0 24)) rfl dX8_begin_35 ?_
      obtain ⟨r5, hc6, hf⟩ := gbd hf
      refine gm_callV2r (As := [.int p1, .ref (a0 24)]) (rest := []) (st1 := fun _ => []) (ws' := fun _ => (OuB_c g a0 v_shelf (OuB_w_books s0 (Bk_w_subscribers (OuB_books s0) r5)))) hE hl.1 ml_X8_220 (c_X5_start l g (fun k => a0 (k + 38)) (Bk_subscribers (OuB_books s0)) (fun k => a0 (k + 24)) (Bk_board (OuB_books s0)) p1 r5 hc6) hZ hP hD hS hA 24 33 5 42 rfl (fun _ => rfl) okX5 rfl rfl rfl (fun _ => rfl) ⟨rfl, rfl⟩ ⟨Nat.le_of_ble_eq_true rfl, Nat.le_of_ble_eq_true rfl⟩ ⟨Nat.le_refl _, Nat.le_refl _⟩ (Nat.le_of_ble_eq_true rfl) dX8_begin_38 (fun _ H locs hP hD hS => ?_)
      refine lv_aload_n hx hb dX8_begin_41 rfl (lv_at hl 0 rfl) ?_
      refine lv_aload_n hx hb dX8_begin_42 rfl (lv_at hl 0 rfl) ?_
      refine g_get hE okX8 fl_X8_31 hP 0 rfl (v := .ref (a0 19)) rfl dX8_begin_43 ?_
      refine g_get hE okX1 fl_X8_139 hP 19 rfl (v := .ref (a0 24)) rfl dX8_begin_46 ?_
      refine g_get hE okX0 fl_X8_159 hP 24 rfl (v := .ref (a0 26)) rfl dX8_begin_49 ?_
      refine lv_iconst hx hb dX8_begin_52 kci_0 ?_
      obtain ⟨r7, hc8, hf⟩ := gbd hf
      refine gr_callS (As := [.ref (a0 26), .int (0 : Int32)]) (rest := [.ref (a0 0)]) (st1 := [.int r7, .ref (a0 0)]) hE hl.1 ml_X8_168 (c_X8_countFilled l g (a0 26) 648 (Bd_sums (Bk_board (OuB_books s0))) (0 : Int32) r7 hc8) hZ hS hP [(26, 1)] rfl rfl rfl rfl ⟨rfl, rfl⟩ ⟨Nat.le_of_ble_eq_true rfl, Nat.le_of_ble_eq_true rfl⟩ ⟨Nat.le_refl _, Nat.le_refl _⟩ (Nat.le_of_ble_eq_true rfl) dX8_begin_53 ?_
      obtain ⟨r9, hc10, hf⟩ := gbd hf
      refine gm_callV1 (As := [.int r7]) (rest := []) (st1 := fun _ => [.int (r9.1)]) (ws' := fun _ => (OuB_c g a0 v_shelf (r9.2))) hE hl.1 ml_X8_103 (c_X8_accept_B l g a0 v_shelf (OuB_w_books s0 (Bk_w_subscribers (OuB_books s0) r5)) r7 r9 hc10) hZ hP hD hS hA 0 44 rfl (fun _ => rfl) okX8 rfl rfl rfl (fun _ => rfl) ⟨rfl, rfl⟩ ⟨Nat.le_of_ble_eq_true rfl, Nat.le_of_ble_eq_true rfl⟩ ⟨Nat.le_refl _, Nat.le_refl _⟩ (Nat.le_of_ble_eq_true rfl) dX8_begin_56 (fun _ H locs hP hD hS => ?_)
      cases hf
      exact hq () rfl hP hD hS dX8_begin_59
    · have hf := gif_f h4 hf
      refine lv_aload_n hx hb dX8_begin_16 rfl (lv_at hl 0 rfl) ?_
      refine lv_iconst hx hb dX8_begin_17 kci_1 ?_
      refine lv_iconst hx hb dX8_begin_18 kci_m1 ?_
      obtain ⟨r11, hc12, hf⟩ := gbd hf
      refine gm_callV1 (As := [.int (1 : Int32), .int (-1 : Int32)]) (rest := []) (st1 := fun _ => [.int (r11.1)]) (ws' := fun _ => (OuB_c g a0 v_shelf (r11.2))) hE hl.1 ml_X8_69 (c_X8_refuse_B l g a0 v_shelf s0 (1 : Int32) (-1 : Int32) r11 hc12) hZ hP hD hS hA 0 44 rfl (fun _ => rfl) okX8 rfl rfl rfl (fun _ => rfl) ⟨rfl, rfl⟩ ⟨Nat.le_of_ble_eq_true rfl, Nat.le_of_ble_eq_true rfl⟩ ⟨Nat.le_refl _, Nat.le_refl _⟩ (Nat.le_of_ble_eq_true rfl) dX8_begin_19 (fun _ H locs hP hD hS => ?_)
      cases hf
      exact hq () rfl hP hD hS dX8_begin_22
def f_X8_pull_B (s0 : OuBT) (p1 : Int32) : Option (Int32 × OuBT) :=
  (f_X8_isSubscribed_B s0 p1).bind fun r1 =>
  if r1 = 0 then (f_X8_refuse_B s0 (1 : Int32) (-1 : Int32)).bind fun r10 =>
  some ((r10.1), (r10.2))
  else (f_X5_catchUp (Bk_subscribers (OuB_books s0)) (Bk_board (OuB_books s0)) p1).bind fun r4 =>
  (f_X8_countFilled 2592 (Sb_differences r4) (p1 * (648 : Int32))).bind fun r6 =>
  (f_X8_accept_B (OuB_w_books s0 (Bk_w_subscribers (OuB_books s0) r4)) r6).bind fun r8 =>
  some ((r8.1), (r8.2))
abbrev rm_X8_pull_B : Room := { frames := 2, cells := 0, slots := 0, locals := 42 }
set_option maxHeartbeats 4000000 in
set_option maxRecDepth 100000 in
theorem c_X8_pull_B (l : Launch) (g : GK) (a0 : Nat → Nat) (v_shelf : Value) (s0 : OuBT) (p1 : Int32) (res : (Int32 × OuBT)) (hf : f_X8_pull_B s0 p1 = some res) : gM l yX8_pull cX8_pull 2 (some .int) rm_X8_pull_B g [.ref (a0 0), .int p1] (OuB_c g a0 v_shelf s0) (fun _ : Unit => (some (.int (res.1)))) (fun _ => (OuB_c g a0 v_shelf (res.2))) 0 0 := by
  refine gM_introI RX8 (by decide) rfl (Nat.le_of_ble_eq_true rfl) (fun p e s m args below meth c Q H locs ls A hE hZ hA hP hD hS hq hl => ?_)
  have hl : lv_has ls 2 [(0, .ref (a0 0)), (1, .int p1)] := hl
  have hx := hE.1
  have hb := hE.2.1
  rw [f_X8_pull_B] at hf
  refine lv_aload_n hx hb dX8_pull_0 rfl (lv_at hl 0 rfl) ?_
  refine lv_iload_n hx hb dX8_pull_1 rfl (lv_at hl 1 rfl) ?_
  obtain ⟨r1, hc2, hf⟩ := gbd hf
  refine gr_callV (As := [.int p1]) (rest := []) (st1 := [.int r1]) hE hl.1 ml_X8_224 (c_X8_isSubscribed_B l g a0 v_shelf s0 p1 r1 hc2) hZ hS hP [(0, 44)] rfl okX8 rfl rfl rfl rfl ⟨rfl, rfl⟩ ⟨Nat.le_of_ble_eq_true rfl, Nat.le_of_ble_eq_true rfl⟩ ⟨Nat.le_refl _, Nat.le_refl _⟩ (Nat.le_of_ble_eq_true rfl) dX8_pull_2 ?_
  refine lv_if_ne hx hb dX8_pull_5 (tgt := 15) rfl (fun h3 => ?_) (fun h3 => ?_)
  · have hf := gif_f h3 hf
    refine lv_aload_n hx hb dX8_pull_15 rfl (lv_at hl 0 rfl) ?_
    refine g_get hE okX8 fl_X8_31 hP 0 rfl (v := .ref (a0 19)) rfl dX8_pull_16 ?_
    refine g_get hE okX1 fl_X8_216 hP 19 rfl (v := .ref (a0 38)) rfl dX8_pull_19 ?_
    refine lv_iload_n hx hb dX8_pull_22 rfl (lv_at hl 1 rfl) ?_
    refine lv_aload_n hx hb dX8_pull_23 rfl (lv_at hl 0 rfl) ?_
    refine g_get hE okX8 fl_X8_31 hP 0 rfl (v := .ref (a0 19)) rfl dX8_pull_24 ?_
    refine g_get hE okX1 fl_X8_139 hP 19 rfl (v := .ref (a0 24)) rfl dX8_pull_27 ?_
    obtain ⟨r4, hc5, hf⟩ := gbd hf
    refine gm_callV2r (As := [.int p1, .ref (a0 24)]) (rest := []) (st1 := fun _ => []) (ws' := fun _ => (OuB_c g a0 v_shelf (OuB_w_books s0 (Bk_w_subscribers (OuB_books s0) r4)))) hE hl.1 ml_X8_227 (c_X5_catchUp l g (fun k => a0 (k + 38)) (Bk_subscribers (OuB_books s0)) (fun k => a0 (k + 24)) (Bk_board (OuB_books s0)) p1 r4 hc5) hZ hP hD hS hA 24 33 5 42 rfl (fun _ => rfl) okX5 rfl rfl rfl (fun _ => rfl) ⟨rfl, rfl⟩ ⟨Nat.le_of_ble_eq_true rfl, Nat.le_of_ble_eq_true rfl⟩ ⟨Nat.le_refl _, Nat.le_refl _⟩ (Nat.le_of_ble_eq_true rfl) dX8_pull_30 (fun _ H locs hP hD hS => ?_)
    refine lv_aload_n hx hb dX8_pull_33 rfl (lv_at hl 0 rfl) ?_
    refine lv_aload_n hx hb dX8_pull_34 rfl (lv_at hl 0 rfl) ?_
    refine g_get hE okX8 fl_X8_31 hP 0 rfl (v := .ref (a0 19)) rfl dX8_pull_35 ?_
    refine g_get hE okX1 fl_X8_216 hP 19 rfl (v := .ref (a0 38)) rfl dX8_pull_38 ?_
    refine g_get hE okX5 fl_X8_230 hP 38 rfl (v := .ref (a0 41)) rfl dX8_pull_41 ?_
    refine lv_iload_n hx hb dX8_pull_44 rfl (lv_at hl 1 rfl) ?_
    refine lv_sipush hx hb dX8_pull_45 kcs_648 ?_
    refine lv_imul hx hb dX8_pull_48 ?_
    obtain ⟨r6, hc7, hf⟩ := gbd hf
    refine gr_callS (As := [.ref (a0 41), .int (p1 * (648 : Int32))]) (rest := [.ref (a0 0)]) (st1 := [.int r6, .ref (a0 0)]) hE hl.1 ml_X8_168 (c_X8_countFilled l g (a0 41) 2592 (Sb_differences r4) (p1 * (648 : Int32)) r6 hc7) hZ hS hP [(41, 1)] rfl rfl rfl rfl ⟨rfl, rfl⟩ ⟨Nat.le_of_ble_eq_true rfl, Nat.le_of_ble_eq_true rfl⟩ ⟨Nat.le_refl _, Nat.le_refl _⟩ (Nat.le_of_ble_eq_true rfl) dX8_pull_49 ?_
    obtain ⟨r8, hc9, hf⟩ := gbd hf
    refine gm_callV1 (As := [.int r6]) (rest := []) (st1 := fun _ => [.int (r8.1)]) (ws' := fun _ => (OuB_c g a0 v_shelf (r8.2))) hE hl.1 ml_X8_103 (c_X8_accept_B l g a0 v_shelf (OuB_w_books s0 (Bk_w_subscribers (OuB_books s0) r4)) r6 r8 hc9) hZ hP hD hS hA 0 44 rfl (fun _ => rfl) okX8 rfl rfl rfl (fun _ => rfl) ⟨rfl, rfl⟩ ⟨Nat.le_of_ble_eq_true rfl, Nat.le_of_ble_eq_true rfl⟩ ⟨Nat.le_refl _, Nat.le_refl _⟩ (Nat.le_of_ble_eq_true rfl) dX8_pull_52 (fun _ H locs hP hD hS => ?_)
    cases hf
    exact hq () rfl hP hD hS dX8_pull_55
  · have hf := gif_t h3 hf
    refine lv_aload_n hx hb dX8_pull_8 rfl (lv_at hl 0 rfl) ?_
    refine lv_iconst hx hb dX8_pull_9 kci_1 ?_
    refine lv_iconst hx hb dX8_pull_10 kci_m1 ?_
    obtain ⟨r10, hc11, hf⟩ := gbd hf
    refine gm_callV1 (As := [.int (1 : Int32), .int (-1 : Int32)]) (rest := []) (st1 := fun _ => [.int (r10.1)]) (ws' := fun _ => (OuB_c g a0 v_shelf (r10.2))) hE hl.1 ml_X8_69 (c_X8_refuse_B l g a0 v_shelf s0 (1 : Int32) (-1 : Int32) r10 hc11) hZ hP hD hS hA 0 44 rfl (fun _ => rfl) okX8 rfl rfl rfl (fun _ => rfl) ⟨rfl, rfl⟩ ⟨Nat.le_of_ble_eq_true rfl, Nat.le_of_ble_eq_true rfl⟩ ⟨Nat.le_refl _, Nat.le_refl _⟩ (Nat.le_of_ble_eq_true rfl) dX8_pull_11 (fun _ H locs hP hD hS => ?_)
    cases hf
    exact hq () rfl hP hD hS dX8_pull_14
def f_X8_pulled_B (s0 : OuBT) (p1 : Int32) (p2 : Int32) (p3 : Int32) : Option (Int32 × OuBT) :=
  (f_X8_isSubscribed_B s0 p1).bind fun r1 =>
  if r1 = 0 then (f_X8_refuse_B s0 (1 : Int32) (-2147483648 : Int32)).bind fun r4 =>
  some ((r4.1), (r4.2))
  else if p3 < 0 then (f_X8_refuse_B s0 (1 : Int32) (-2147483648 : Int32)).bind fun r7 =>
  some ((r7.1), (r7.2))
  else if p3 ≤ (3 : Int32) then (f_X8_filledPlace 2592 (Sb_differences (Bk_subscribers (OuB_books s0))) (p1 * (648 : Int32)) p2).bind fun r10 =>
  if r10 = (-1 : Int32) then (f_X8_refuse_B s0 (1 : Int32) (-2147483648 : Int32)).bind fun r18 =>
  some ((r18.1), (r18.2))
  else if inb ((p1 * (648 : Int32)) + r10) 2592 then (f_X8_partOfRow r10 p3 ((Sb_differences (Bk_subscribers (OuB_books s0))) (ix ((p1 * (648 : Int32)) + r10)))).bind fun r14 =>
  (f_X8_accept_B s0 r14).bind fun r16 =>
  some ((r16.1), (r16.2)) else none
  else (f_X8_refuse_B s0 (1 : Int32) (-2147483648 : Int32)).bind fun r20 =>
  some ((r20.1), (r20.2))
abbrev rm_X8_pulled_B : Room := { frames := 2, cells := 0, slots := 0, locals := 43 }
set_option maxHeartbeats 4000000 in
set_option maxRecDepth 100000 in
theorem c_X8_pulled_B (l : Launch) (g : GK) (a0 : Nat → Nat) (v_shelf : Value) (s0 : OuBT) (p1 : Int32) (p2 : Int32) (p3 : Int32) (res : (Int32 × OuBT)) (hf : f_X8_pulled_B s0 p1 p2 p3 = some res) : gM l yX8_pulled cX8_pulled 6 (some .int) rm_X8_pulled_B g [.ref (a0 0), .int p1, .int p2, .int p3] (OuB_c g a0 v_shelf s0) (fun _ : Unit => (some (.int (res.1)))) (fun _ => (OuB_c g a0 v_shelf (res.2))) 0 0 := by
  refine gM_introI RX8 (by decide) rfl (Nat.le_of_ble_eq_true rfl) (fun p e s m args below meth c Q H locs ls A hE hZ hA hP hD hS hq hl => ?_)
  have hl : lv_has ls 6 [(0, .ref (a0 0)), (1, .int p1), (2, .int p2), (3, .int p3)] := hl
  have hx := hE.1
  have hb := hE.2.1
  rw [f_X8_pulled_B] at hf
  refine lv_aload_n hx hb dX8_pulled_0 rfl (lv_at hl 0 rfl) ?_
  refine lv_iload_n hx hb dX8_pulled_1 rfl (lv_at hl 1 rfl) ?_
  obtain ⟨r1, hc2, hf⟩ := gbd hf
  refine gr_callV (As := [.int p1]) (rest := []) (st1 := [.int r1]) hE hl.1 ml_X8_224 (c_X8_isSubscribed_B l g a0 v_shelf s0 p1 r1 hc2) hZ hS hP [(0, 44)] rfl okX8 rfl rfl rfl rfl ⟨rfl, rfl⟩ ⟨Nat.le_of_ble_eq_true rfl, Nat.le_of_ble_eq_true rfl⟩ ⟨Nat.le_refl _, Nat.le_refl _⟩ (Nat.le_of_ble_eq_true rfl) dX8_pulled_2 ?_
  refine lv_if_eq hx hb dX8_pulled_5 (tgt := 17) rfl (fun h3 => ?_) (fun h3 => ?_)
  · have hf := gif_t h3 hf
    refine lv_aload_n hx hb dX8_pulled_17 rfl (lv_at hl 0 rfl) ?_
    refine lv_iconst hx hb dX8_pulled_18 kci_1 ?_
    refine lv_ldc hx hb hE.2.2.2.2.2.1 (hE.2.2.2.2.2.2.1 _ kd_X8_138) dX8_pulled_19 ?_
    obtain ⟨r4, hc5, hf⟩ := gbd hf
    refine gm_callV1 (As := [.int (1 : Int32), .int (-2147483648 : Int32)]) (rest := []) (st1 := fun _ => [.int (r4.1)]) (ws' := fun _ => (OuB_c g a0 v_shelf (r4.2))) hE hl.1 ml_X8_69 (c_X8_refuse_B l g a0 v_shelf s0 (1 : Int32) (-2147483648 : Int32) r4 hc5) hZ hP hD hS hA 0 44 rfl (fun _ => rfl) okX8 rfl rfl rfl (fun _ => rfl) ⟨rfl, rfl⟩ ⟨Nat.le_of_ble_eq_true rfl, Nat.le_of_ble_eq_true rfl⟩ ⟨Nat.le_refl _, Nat.le_refl _⟩ (Nat.le_of_ble_eq_true rfl) dX8_pulled_21 (fun _ H locs hP hD hS => ?_)
    cases hf
    exact hq () rfl hP hD hS dX8_pulled_24
  · have hf := gif_f h3 hf
    refine lv_iload_n hx hb dX8_pulled_8 rfl (lv_at hl 3 rfl) ?_
    refine lv_if_lt hx hb dX8_pulled_9 (tgt := 17) rfl (fun h6 => ?_) (fun h6 => ?_)
    · have hf := gif_t h6 hf
      refine lv_aload_n hx hb dX8_pulled_17 rfl (lv_at hl 0 rfl) ?_
      refine lv_iconst hx hb dX8_pulled_18 kci_1 ?_
      refine lv_ldc hx hb hE.2.2.2.2.2.1 (hE.2.2.2.2.2.2.1 _ kd_X8_138) dX8_pulled_19 ?_
      obtain ⟨r7, hc8, hf⟩ := gbd hf
      refine gm_callV1 (As := [.int (1 : Int32), .int (-2147483648 : Int32)]) (rest := []) (st1 := fun _ => [.int (r7.1)]) (ws' := fun _ => (OuB_c g a0 v_shelf (r7.2))) hE hl.1 ml_X8_69 (c_X8_refuse_B l g a0 v_shelf s0 (1 : Int32) (-2147483648 : Int32) r7 hc8) hZ hP hD hS hA 0 44 rfl (fun _ => rfl) okX8 rfl rfl rfl (fun _ => rfl) ⟨rfl, rfl⟩ ⟨Nat.le_of_ble_eq_true rfl, Nat.le_of_ble_eq_true rfl⟩ ⟨Nat.le_refl _, Nat.le_refl _⟩ (Nat.le_of_ble_eq_true rfl) dX8_pulled_21 (fun _ H locs hP hD hS => ?_)
      cases hf
      exact hq () rfl hP hD hS dX8_pulled_24
    · have hf := gif_f h6 hf
      refine lv_iload_n hx hb dX8_pulled_12 rfl (lv_at hl 3 rfl) ?_
      refine lv_iconst hx hb dX8_pulled_13 kci_3 ?_
      refine lv_icmp_le hx hb dX8_pulled_14 (tgt := 25) rfl (fun h9 => ?_) (fun h9 => ?_)
      · have hf := gif_t h9 hf
        refine lv_aload_n hx hb dX8_pulled_25 rfl (lv_at hl 0 rfl) ?_
        refine g_get hE okX8 fl_X8_31 hP 0 rfl (v := .ref (a0 19)) rfl dX8_pulled_26 ?_
        refine g_get hE okX1 fl_X8_216 hP 19 rfl (v := .ref (a0 38)) rfl dX8_pulled_29 ?_
        refine g_get hE okX5 fl_X8_230 hP 38 rfl (v := .ref (a0 41)) rfl dX8_pulled_32 ?_
        refine lv_astore hx hb dX8_pulled_35 hl (by decide) (lv' := [(4, .ref (a0 41)), (0, .ref (a0 0)), (1, .int p1), (2, .int p2), (3, .int p3)]) rfl (fun ls hl => ?_)
        refine lv_aload hx hb dX8_pulled_37 (lv_at hl 0 rfl) ?_
        refine lv_iload_n hx hb dX8_pulled_39 rfl (lv_at hl 2 rfl) ?_
        refine lv_sipush hx hb dX8_pulled_40 kcs_648 ?_
        refine lv_imul hx hb dX8_pulled_43 ?_
        refine lv_iload_n hx hb dX8_pulled_44 rfl (lv_at hl 3 rfl) ?_
        obtain ⟨r10, hc11, hf⟩ := gbd hf
        refine gr_callS (As := [.ref (a0 41), .int (p1 * (648 : Int32)), .int p2]) (rest := []) (st1 := [.int r10]) hE hl.1 ml_X8_172 (c_X8_filledPlace l g (a0 41) 2592 (Sb_differences (Bk_subscribers (OuB_books s0))) (p1 * (648 : Int32)) p2 r10 hc11) hZ hS hP [(41, 1)] rfl rfl rfl rfl ⟨rfl, rfl⟩ ⟨Nat.le_of_ble_eq_true rfl, Nat.le_of_ble_eq_true rfl⟩ ⟨Nat.le_refl _, Nat.le_refl _⟩ (Nat.le_of_ble_eq_true rfl) dX8_pulled_45 ?_
        refine lv_istore hx hb dX8_pulled_48 hl (by decide) (lv' := [(5, .int r10), (4, .ref (a0 41)), (0, .ref (a0 0)), (1, .int p1), (2, .int p2), (3, .int p3)]) rfl (fun ls hl => ?_)
        refine lv_iload hx hb dX8_pulled_50 (lv_at hl 0 rfl) ?_
        refine lv_iconst hx hb dX8_pulled_52 kci_m1 ?_
        refine lv_icmp_ne hx hb dX8_pulled_53 (tgt := 64) rfl (fun h12 => ?_) (fun h12 => ?_)
        · have hf := gif_f h12 hf
          refine lv_aload_n hx hb dX8_pulled_64 rfl (lv_at hl 2 rfl) ?_
          refine lv_iload hx hb dX8_pulled_65 (lv_at hl 0 rfl) ?_
          refine lv_iload_n hx hb dX8_pulled_67 rfl (lv_at hl 5 rfl) ?_
          refine lv_aload hx hb dX8_pulled_68 (lv_at hl 1 rfl) ?_
          refine lv_iload_n hx hb dX8_pulled_70 rfl (lv_at hl 3 rfl) ?_
          refine lv_sipush hx hb dX8_pulled_71 kcs_648 ?_
          refine lv_imul hx hb dX8_pulled_74 ?_
          refine lv_iload hx hb dX8_pulled_75 (lv_at hl 0 rfl) ?_
          refine lv_iadd hx hb dX8_pulled_77 ?_
          obtain ⟨hg13, hf⟩ := ggd hf
          refine g_iald hE hP 41 (f := (Sb_differences (Bk_subscribers (OuB_books s0)))) rfl hg13 dX8_pulled_78 ?_
          obtain ⟨r14, hc15, hf⟩ := gbd hf
          refine gr_callS (As := [.int r10, .int p3, .int ((Sb_differences (Bk_subscribers (OuB_books s0))) (ix ((p1 * (648 : Int32)) + r10)))]) (rest := [.ref (a0 0)]) (st1 := [.int r14, .ref (a0 0)]) hE hl.1 ml_X8_176 (c_X8_partOfRow l g r10 p3 ((Sb_differences (Bk_subscribers (OuB_books s0))) (ix ((p1 * (648 : Int32)) + r10))) r14 hc15) hZ hS hP [] rfl rfl rfl rfl ⟨rfl, rfl⟩ ⟨Nat.le_of_ble_eq_true rfl, Nat.le_of_ble_eq_true rfl⟩ ⟨Nat.le_refl _, Nat.le_refl _⟩ (Nat.le_of_ble_eq_true rfl) dX8_pulled_79 ?_
          obtain ⟨r16, hc17, hf⟩ := gbd hf
          refine gm_callV1 (As := [.int r14]) (rest := []) (st1 := fun _ => [.int (r16.1)]) (ws' := fun _ => (OuB_c g a0 v_shelf (r16.2))) hE hl.1 ml_X8_103 (c_X8_accept_B l g a0 v_shelf s0 r14 r16 hc17) hZ hP hD hS hA 0 44 rfl (fun _ => rfl) okX8 rfl rfl rfl (fun _ => rfl) ⟨rfl, rfl⟩ ⟨Nat.le_of_ble_eq_true rfl, Nat.le_of_ble_eq_true rfl⟩ ⟨Nat.le_refl _, Nat.le_refl _⟩ (Nat.le_of_ble_eq_true rfl) dX8_pulled_82 (fun _ H locs hP hD hS => ?_)
          cases hf
          exact hq () rfl hP hD hS dX8_pulled_85
        · have hf := gif_t h12 hf
          refine lv_aload_n hx hb dX8_pulled_56 rfl (lv_at hl 2 rfl) ?_
          refine lv_iconst hx hb dX8_pulled_57 kci_1 ?_
          refine lv_ldc hx hb hE.2.2.2.2.2.1 (hE.2.2.2.2.2.2.1 _ kd_X8_138) dX8_pulled_58 ?_
          obtain ⟨r18, hc19, hf⟩ := gbd hf
          refine gm_callV1 (As := [.int (1 : Int32), .int (-2147483648 : Int32)]) (rest := []) (st1 := fun _ => [.int (r18.1)]) (ws' := fun _ => (OuB_c g a0 v_shelf (r18.2))) hE hl.1 ml_X8_69 (c_X8_refuse_B l g a0 v_shelf s0 (1 : Int32) (-2147483648 : Int32) r18 hc19) hZ hP hD hS hA 0 44 rfl (fun _ => rfl) okX8 rfl rfl rfl (fun _ => rfl) ⟨rfl, rfl⟩ ⟨Nat.le_of_ble_eq_true rfl, Nat.le_of_ble_eq_true rfl⟩ ⟨Nat.le_refl _, Nat.le_refl _⟩ (Nat.le_of_ble_eq_true rfl) dX8_pulled_60 (fun _ H locs hP hD hS => ?_)
          cases hf
          exact hq () rfl hP hD hS dX8_pulled_63
      · have hf := gif_f h9 hf
        refine lv_aload_n hx hb dX8_pulled_17 rfl (lv_at hl 0 rfl) ?_
        refine lv_iconst hx hb dX8_pulled_18 kci_1 ?_
        refine lv_ldc hx hb hE.2.2.2.2.2.1 (hE.2.2.2.2.2.2.1 _ kd_X8_138) dX8_pulled_19 ?_
        obtain ⟨r20, hc21, hf⟩ := gbd hf
        refine gm_callV1 (As := [.int (1 : Int32), .int (-2147483648 : Int32)]) (rest := []) (st1 := fun _ => [.int (r20.1)]) (ws' := fun _ => (OuB_c g a0 v_shelf (r20.2))) hE hl.1 ml_X8_69 (c_X8_refuse_B l g a0 v_shelf s0 (1 : Int32) (-2147483648 : Int32) r20 hc21) hZ hP hD hS hA 0 44 rfl (fun _ => rfl) okX8 rfl rfl rfl (fun _ => rfl) ⟨rfl, rfl⟩ ⟨Nat.le_of_ble_eq_true rfl, Nat.le_of_ble_eq_true rfl⟩ ⟨Nat.le_refl _, Nat.le_refl _⟩ (Nat.le_of_ble_eq_true rfl) dX8_pulled_21 (fun _ H locs hP hD hS => ?_)
        cases hf
        exact hq () rfl hP hD hS dX8_pulled_24
def f_X8_held_B (s0 : OuBT) (p1 : Int32) (p2 : Int32) (p3 : Int32) (p4 : Int32) : Option (Int32 × OuBT) :=
  (f_X8_isSubscribed_B s0 p1).bind fun r1 =>
  if r1 = 0 then (f_X8_refuse_B s0 (1 : Int32) (-2147483648 : Int32)).bind fun r4 =>
  some ((r4.1), (r4.2))
  else (f_X8_isRow_B s0 p2 p3 p4).bind fun r6 =>
  if r6 = 0 then (f_X8_refuse_B s0 (1 : Int32) (-2147483648 : Int32)).bind fun r14 =>
  some ((r14.1), (r14.2))
  else (f_X8_placeOf p2 p3 p4).bind fun r9 =>
  if inb ((p1 * (648 : Int32)) + r9) 2592 then (f_X8_accept_B s0 ((Sb_holds (Bk_subscribers (OuB_books s0))) (ix ((p1 * (648 : Int32)) + r9)))).bind fun r12 =>
  some ((r12.1), (r12.2)) else none
abbrev rm_X8_held_B : Room := { frames := 3, cells := 0, slots := 0, locals := 65 }
set_option maxHeartbeats 4000000 in
set_option maxRecDepth 100000 in
theorem c_X8_held_B (l : Launch) (g : GK) (a0 : Nat → Nat) (v_shelf : Value) (s0 : OuBT) (p1 : Int32) (p2 : Int32) (p3 : Int32) (p4 : Int32) (res : (Int32 × OuBT)) (hf : f_X8_held_B s0 p1 p2 p3 p4 = some res) : gM l yX8_held cX8_held 5 (some .int) rm_X8_held_B g [.ref (a0 0), .int p1, .int p2, .int p3, .int p4] (OuB_c g a0 v_shelf s0) (fun _ : Unit => (some (.int (res.1)))) (fun _ => (OuB_c g a0 v_shelf (res.2))) 0 0 := by
  refine gM_introI RX8 (by decide) rfl (Nat.le_of_ble_eq_true rfl) (fun p e s m args below meth c Q H locs ls A hE hZ hA hP hD hS hq hl => ?_)
  have hl : lv_has ls 5 [(0, .ref (a0 0)), (1, .int p1), (2, .int p2), (3, .int p3), (4, .int p4)] := hl
  have hx := hE.1
  have hb := hE.2.1
  rw [f_X8_held_B] at hf
  refine lv_aload_n hx hb dX8_held_0 rfl (lv_at hl 0 rfl) ?_
  refine lv_iload_n hx hb dX8_held_1 rfl (lv_at hl 1 rfl) ?_
  obtain ⟨r1, hc2, hf⟩ := gbd hf
  refine gr_callV (As := [.int p1]) (rest := []) (st1 := [.int r1]) hE hl.1 ml_X8_224 (c_X8_isSubscribed_B l g a0 v_shelf s0 p1 r1 hc2) hZ hS hP [(0, 44)] rfl okX8 rfl rfl rfl rfl ⟨rfl, rfl⟩ ⟨Nat.le_of_ble_eq_true rfl, Nat.le_of_ble_eq_true rfl⟩ ⟨Nat.le_refl _, Nat.le_refl _⟩ (Nat.le_of_ble_eq_true rfl) dX8_held_2 ?_
  refine lv_if_eq hx hb dX8_held_5 (tgt := 19) rfl (fun h3 => ?_) (fun h3 => ?_)
  · have hf := gif_t h3 hf
    refine lv_aload_n hx hb dX8_held_19 rfl (lv_at hl 0 rfl) ?_
    refine lv_iconst hx hb dX8_held_20 kci_1 ?_
    refine lv_ldc hx hb hE.2.2.2.2.2.1 (hE.2.2.2.2.2.2.1 _ kd_X8_138) dX8_held_21 ?_
    obtain ⟨r4, hc5, hf⟩ := gbd hf
    refine gm_callV1 (As := [.int (1 : Int32), .int (-2147483648 : Int32)]) (rest := []) (st1 := fun _ => [.int (r4.1)]) (ws' := fun _ => (OuB_c g a0 v_shelf (r4.2))) hE hl.1 ml_X8_69 (c_X8_refuse_B l g a0 v_shelf s0 (1 : Int32) (-2147483648 : Int32) r4 hc5) hZ hP hD hS hA 0 44 rfl (fun _ => rfl) okX8 rfl rfl rfl (fun _ => rfl) ⟨rfl, rfl⟩ ⟨Nat.le_of_ble_eq_true rfl, Nat.le_of_ble_eq_true rfl⟩ ⟨Nat.le_refl _, Nat.le_refl _⟩ (Nat.le_of_ble_eq_true rfl) dX8_held_23 (fun _ H locs hP hD hS => ?_)
    cases hf
    exact hq () rfl hP hD hS dX8_held_26
  · have hf := gif_f h3 hf
    refine lv_aload_n hx hb dX8_held_8 rfl (lv_at hl 0 rfl) ?_
    refine lv_iload_n hx hb dX8_held_9 rfl (lv_at hl 2 rfl) ?_
    refine lv_iload_n hx hb dX8_held_10 rfl (lv_at hl 3 rfl) ?_
    refine lv_iload hx hb dX8_held_11 (lv_at hl 4 rfl) ?_
    obtain ⟨r6, hc7, hf⟩ := gbd hf
    refine gr_callV (As := [.int p2, .int p3, .int p4]) (rest := []) (st1 := [.int r6]) hE hl.1 ml_X8_155 (c_X8_isRow_B l g a0 v_shelf s0 p2 p3 p4 r6 hc7) hZ hS hP [(0, 44)] rfl okX8 rfl rfl rfl rfl ⟨rfl, rfl⟩ ⟨Nat.le_of_ble_eq_true rfl, Nat.le_of_ble_eq_true rfl⟩ ⟨Nat.le_refl _, Nat.le_refl _⟩ (Nat.le_of_ble_eq_true rfl) dX8_held_13 ?_
    refine lv_if_ne hx hb dX8_held_16 (tgt := 27) rfl (fun h8 => ?_) (fun h8 => ?_)
    · have hf := gif_f h8 hf
      refine lv_aload_n hx hb dX8_held_27 rfl (lv_at hl 0 rfl) ?_
      refine lv_aload_n hx hb dX8_held_28 rfl (lv_at hl 0 rfl) ?_
      refine g_get hE okX8 fl_X8_31 hP 0 rfl (v := .ref (a0 19)) rfl dX8_held_29 ?_
      refine g_get hE okX1 fl_X8_216 hP 19 rfl (v := .ref (a0 38)) rfl dX8_held_32 ?_
      refine g_get hE okX5 fl_X8_233 hP 38 rfl (v := .ref (a0 40)) rfl dX8_held_35 ?_
      refine lv_iload_n hx hb dX8_held_38 rfl (lv_at hl 1 rfl) ?_
      refine lv_sipush hx hb dX8_held_39 kcs_648 ?_
      refine lv_imul hx hb dX8_held_42 ?_
      refine lv_iload_n hx hb dX8_held_43 rfl (lv_at hl 2 rfl) ?_
      refine lv_iload_n hx hb dX8_held_44 rfl (lv_at hl 3 rfl) ?_
      refine lv_iload hx hb dX8_held_45 (lv_at hl 4 rfl) ?_
      obtain ⟨r9, hc10, hf⟩ := gbd hf
      refine gr_callS (As := [.int p2, .int p3, .int p4]) (rest := [.int (p1 * (648 : Int32)), .ref (a0 40), .ref (a0 0)]) (st1 := [.int r9, .int (p1 * (648 : Int32)), .ref (a0 40), .ref (a0 0)]) hE hl.1 ml_X8_162 (c_X8_placeOf l g p2 p3 p4 r9 hc10) hZ hS hP [] rfl rfl rfl rfl ⟨rfl, rfl⟩ ⟨Nat.le_of_ble_eq_true rfl, Nat.le_of_ble_eq_true rfl⟩ ⟨Nat.le_refl _, Nat.le_refl _⟩ (Nat.le_of_ble_eq_true rfl) dX8_held_47 ?_
      refine lv_iadd hx hb dX8_held_50 ?_
      obtain ⟨hg11, hf⟩ := ggd hf
      refine g_iald hE hP 40 (f := (Sb_holds (Bk_subscribers (OuB_books s0)))) rfl hg11 dX8_held_51 ?_
      obtain ⟨r12, hc13, hf⟩ := gbd hf
      refine gm_callV1 (As := [.int ((Sb_holds (Bk_subscribers (OuB_books s0))) (ix ((p1 * (648 : Int32)) + r9)))]) (rest := []) (st1 := fun _ => [.int (r12.1)]) (ws' := fun _ => (OuB_c g a0 v_shelf (r12.2))) hE hl.1 ml_X8_103 (c_X8_accept_B l g a0 v_shelf s0 ((Sb_holds (Bk_subscribers (OuB_books s0))) (ix ((p1 * (648 : Int32)) + r9))) r12 hc13) hZ hP hD hS hA 0 44 rfl (fun _ => rfl) okX8 rfl rfl rfl (fun _ => rfl) ⟨rfl, rfl⟩ ⟨Nat.le_of_ble_eq_true rfl, Nat.le_of_ble_eq_true rfl⟩ ⟨Nat.le_refl _, Nat.le_refl _⟩ (Nat.le_of_ble_eq_true rfl) dX8_held_52 (fun _ H locs hP hD hS => ?_)
      cases hf
      exact hq () rfl hP hD hS dX8_held_55
    · have hf := gif_t h8 hf
      refine lv_aload_n hx hb dX8_held_19 rfl (lv_at hl 0 rfl) ?_
      refine lv_iconst hx hb dX8_held_20 kci_1 ?_
      refine lv_ldc hx hb hE.2.2.2.2.2.1 (hE.2.2.2.2.2.2.1 _ kd_X8_138) dX8_held_21 ?_
      obtain ⟨r14, hc15, hf⟩ := gbd hf
      refine gm_callV1 (As := [.int (1 : Int32), .int (-2147483648 : Int32)]) (rest := []) (st1 := fun _ => [.int (r14.1)]) (ws' := fun _ => (OuB_c g a0 v_shelf (r14.2))) hE hl.1 ml_X8_69 (c_X8_refuse_B l g a0 v_shelf s0 (1 : Int32) (-2147483648 : Int32) r14 hc15) hZ hP hD hS hA 0 44 rfl (fun _ => rfl) okX8 rfl rfl rfl (fun _ => rfl) ⟨rfl, rfl⟩ ⟨Nat.le_of_ble_eq_true rfl, Nat.le_of_ble_eq_true rfl⟩ ⟨Nat.le_refl _, Nat.le_refl _⟩ (Nat.le_of_ble_eq_true rfl) dX8_held_23 (fun _ H locs hP hD hS => ?_)
      cases hf
      exact hq () rfl hP hD hS dX8_held_26
def f_X8_lag_B (s0 : OuBT) (p1 : Int32) (p2 : Int32) : Option (Int32 × OuBT) :=
  (f_X8_isSubscribed_B s0 p1).bind fun r1 =>
  if r1 = 0 then (f_X8_refuse_B s0 (1 : Int32) (-1 : Int32)).bind fun r4 =>
  some ((r4.1), (r4.2))
  else if p2 < 0 then (f_X8_refuse_B s0 (1 : Int32) (-1 : Int32)).bind fun r7 =>
  some ((r7.1), (r7.2))
  else if p2 ≤ (3 : Int32) then (f_X5_told (Bk_subscribers (OuB_books s0)) (Bk_board (OuB_books s0)) p1 p2).bind fun r10 =>
  (f_X8_accept_B s0 r10).bind fun r12 =>
  some ((r12.1), (r12.2))
  else (f_X8_refuse_B s0 (1 : Int32) (-1 : Int32)).bind fun r14 =>
  some ((r14.1), (r14.2))
abbrev rm_X8_lag_B : Room := { frames := 3, cells := 0, slots := 0, locals := 65 }
set_option maxHeartbeats 4000000 in
set_option maxRecDepth 100000 in
theorem c_X8_lag_B (l : Launch) (g : GK) (a0 : Nat → Nat) (v_shelf : Value) (s0 : OuBT) (p1 : Int32) (p2 : Int32) (res : (Int32 × OuBT)) (hf : f_X8_lag_B s0 p1 p2 = some res) : gM l yX8_lag cX8_lag 3 (some .int) rm_X8_lag_B g [.ref (a0 0), .int p1, .int p2] (OuB_c g a0 v_shelf s0) (fun _ : Unit => (some (.int (res.1)))) (fun _ => (OuB_c g a0 v_shelf (res.2))) 0 0 := by
  refine gM_introI RX8 (by decide) rfl (Nat.le_of_ble_eq_true rfl) (fun p e s m args below meth c Q H locs ls A hE hZ hA hP hD hS hq hl => ?_)
  have hl : lv_has ls 3 [(0, .ref (a0 0)), (1, .int p1), (2, .int p2)] := hl
  have hx := hE.1
  have hb := hE.2.1
  rw [f_X8_lag_B] at hf
  refine lv_aload_n hx hb dX8_lag_0 rfl (lv_at hl 0 rfl) ?_
  refine lv_iload_n hx hb dX8_lag_1 rfl (lv_at hl 1 rfl) ?_
  obtain ⟨r1, hc2, hf⟩ := gbd hf
  refine gr_callV (As := [.int p1]) (rest := []) (st1 := [.int r1]) hE hl.1 ml_X8_224 (c_X8_isSubscribed_B l g a0 v_shelf s0 p1 r1 hc2) hZ hS hP [(0, 44)] rfl okX8 rfl rfl rfl rfl ⟨rfl, rfl⟩ ⟨Nat.le_of_ble_eq_true rfl, Nat.le_of_ble_eq_true rfl⟩ ⟨Nat.le_refl _, Nat.le_refl _⟩ (Nat.le_of_ble_eq_true rfl) dX8_lag_2 ?_
  refine lv_if_eq hx hb dX8_lag_5 (tgt := 17) rfl (fun h3 => ?_) (fun h3 => ?_)
  · have hf := gif_t h3 hf
    refine lv_aload_n hx hb dX8_lag_17 rfl (lv_at hl 0 rfl) ?_
    refine lv_iconst hx hb dX8_lag_18 kci_1 ?_
    refine lv_iconst hx hb dX8_lag_19 kci_m1 ?_
    obtain ⟨r4, hc5, hf⟩ := gbd hf
    refine gm_callV1 (As := [.int (1 : Int32), .int (-1 : Int32)]) (rest := []) (st1 := fun _ => [.int (r4.1)]) (ws' := fun _ => (OuB_c g a0 v_shelf (r4.2))) hE hl.1 ml_X8_69 (c_X8_refuse_B l g a0 v_shelf s0 (1 : Int32) (-1 : Int32) r4 hc5) hZ hP hD hS hA 0 44 rfl (fun _ => rfl) okX8 rfl rfl rfl (fun _ => rfl) ⟨rfl, rfl⟩ ⟨Nat.le_of_ble_eq_true rfl, Nat.le_of_ble_eq_true rfl⟩ ⟨Nat.le_refl _, Nat.le_refl _⟩ (Nat.le_of_ble_eq_true rfl) dX8_lag_20 (fun _ H locs hP hD hS => ?_)
    cases hf
    exact hq () rfl hP hD hS dX8_lag_23
  · have hf := gif_f h3 hf
    refine lv_iload_n hx hb dX8_lag_8 rfl (lv_at hl 2 rfl) ?_
    refine lv_if_lt hx hb dX8_lag_9 (tgt := 17) rfl (fun h6 => ?_) (fun h6 => ?_)
    · have hf := gif_t h6 hf
      refine lv_aload_n hx hb dX8_lag_17 rfl (lv_at hl 0 rfl) ?_
      refine lv_iconst hx hb dX8_lag_18 kci_1 ?_
      refine lv_iconst hx hb dX8_lag_19 kci_m1 ?_
      obtain ⟨r7, hc8, hf⟩ := gbd hf
      refine gm_callV1 (As := [.int (1 : Int32), .int (-1 : Int32)]) (rest := []) (st1 := fun _ => [.int (r7.1)]) (ws' := fun _ => (OuB_c g a0 v_shelf (r7.2))) hE hl.1 ml_X8_69 (c_X8_refuse_B l g a0 v_shelf s0 (1 : Int32) (-1 : Int32) r7 hc8) hZ hP hD hS hA 0 44 rfl (fun _ => rfl) okX8 rfl rfl rfl (fun _ => rfl) ⟨rfl, rfl⟩ ⟨Nat.le_of_ble_eq_true rfl, Nat.le_of_ble_eq_true rfl⟩ ⟨Nat.le_refl _, Nat.le_refl _⟩ (Nat.le_of_ble_eq_true rfl) dX8_lag_20 (fun _ H locs hP hD hS => ?_)
      cases hf
      exact hq () rfl hP hD hS dX8_lag_23
    · have hf := gif_f h6 hf
      refine lv_iload_n hx hb dX8_lag_12 rfl (lv_at hl 2 rfl) ?_
      refine lv_iconst hx hb dX8_lag_13 kci_3 ?_
      refine lv_icmp_le hx hb dX8_lag_14 (tgt := 24) rfl (fun h9 => ?_) (fun h9 => ?_)
      · have hf := gif_t h9 hf
        refine lv_aload_n hx hb dX8_lag_24 rfl (lv_at hl 0 rfl) ?_
        refine lv_aload_n hx hb dX8_lag_25 rfl (lv_at hl 0 rfl) ?_
        refine g_get hE okX8 fl_X8_31 hP 0 rfl (v := .ref (a0 19)) rfl dX8_lag_26 ?_
        refine g_get hE okX1 fl_X8_216 hP 19 rfl (v := .ref (a0 38)) rfl dX8_lag_29 ?_
        refine lv_iload_n hx hb dX8_lag_32 rfl (lv_at hl 1 rfl) ?_
        refine lv_iload_n hx hb dX8_lag_33 rfl (lv_at hl 2 rfl) ?_
        refine lv_aload_n hx hb dX8_lag_34 rfl (lv_at hl 0 rfl) ?_
        refine g_get hE okX8 fl_X8_31 hP 0 rfl (v := .ref (a0 19)) rfl dX8_lag_35 ?_
        refine g_get hE okX1 fl_X8_139 hP 19 rfl (v := .ref (a0 24)) rfl dX8_lag_38 ?_
        obtain ⟨r10, hc11, hf⟩ := gbd hf
        refine gr_callV (As := [.int p1, .int p2, .ref (a0 24)]) (rest := [.ref (a0 0)]) (st1 := [.int r10, .ref (a0 0)]) hE hl.1 ml_X8_236 (c_X5_told l g (fun k => a0 (k + 38)) (Bk_subscribers (OuB_books s0)) (fun k => a0 (k + 24)) (Bk_board (OuB_books s0)) p1 p2 r10 hc11) hZ hS hP [(38, 4), (24, 9)] rfl okX5 rfl rfl rfl rfl ⟨rfl, rfl⟩ ⟨Nat.le_of_ble_eq_true rfl, Nat.le_of_ble_eq_true rfl⟩ ⟨Nat.le_refl _, Nat.le_refl _⟩ (Nat.le_of_ble_eq_true rfl) dX8_lag_41 ?_
        obtain ⟨r12, hc13, hf⟩ := gbd hf
        refine gm_callV1 (As := [.int r10]) (rest := []) (st1 := fun _ => [.int (r12.1)]) (ws' := fun _ => (OuB_c g a0 v_shelf (r12.2))) hE hl.1 ml_X8_103 (c_X8_accept_B l g a0 v_shelf s0 r10 r12 hc13) hZ hP hD hS hA 0 44 rfl (fun _ => rfl) okX8 rfl rfl rfl (fun _ => rfl) ⟨rfl, rfl⟩ ⟨Nat.le_of_ble_eq_true rfl, Nat.le_of_ble_eq_true rfl⟩ ⟨Nat.le_refl _, Nat.le_refl _⟩ (Nat.le_of_ble_eq_true rfl) dX8_lag_44 (fun _ H locs hP hD hS => ?_)
        cases hf
        exact hq () rfl hP hD hS dX8_lag_47
      · have hf := gif_f h9 hf
        refine lv_aload_n hx hb dX8_lag_17 rfl (lv_at hl 0 rfl) ?_
        refine lv_iconst hx hb dX8_lag_18 kci_1 ?_
        refine lv_iconst hx hb dX8_lag_19 kci_m1 ?_
        obtain ⟨r14, hc15, hf⟩ := gbd hf
        refine gm_callV1 (As := [.int (1 : Int32), .int (-1 : Int32)]) (rest := []) (st1 := fun _ => [.int (r14.1)]) (ws' := fun _ => (OuB_c g a0 v_shelf (r14.2))) hE hl.1 ml_X8_69 (c_X8_refuse_B l g a0 v_shelf s0 (1 : Int32) (-1 : Int32) r14 hc15) hZ hP hD hS hA 0 44 rfl (fun _ => rfl) okX8 rfl rfl rfl (fun _ => rfl) ⟨rfl, rfl⟩ ⟨Nat.le_of_ble_eq_true rfl, Nat.le_of_ble_eq_true rfl⟩ ⟨Nat.le_refl _, Nat.le_refl _⟩ (Nat.le_of_ble_eq_true rfl) dX8_lag_20 (fun _ H locs hP hD hS => ?_)
        cases hf
        exact hq () rfl hP hD hS dX8_lag_23
def f_X8_would_B (s0 : OuBT) (p1 : Int32) (p2 : Int32) (p3 : Int32) (p4 : Int32) (p5 : Int32) : Option (Int32 × OuBT) :=
  (f_X8_refusalOfEvent_B s0 p1 p2 p3 p4 p5).bind fun r1 =>
  if r1 = 0 then (f_X1_isTooLate (OuB_books s0) p5).bind fun r4 =>
  if r4 = 0 then (f_X0_clear (OuB_trial s0) (Bd_how (Bk_board (OuB_books s0)))).bind fun r7 =>
  (f_X1_lapsesAt (OuB_books s0) p2 (if (Bk_clock (OuB_books s0)) < p5 then p5 else (Bk_clock (OuB_books s0)))).bind fun r9 =>
  glt (fun (s0_12 : OuBT) => (f_X0_change (OuB_trial s0_12) p1 p2 p3 p4).bind fun r13 =>
  (f_X8_accept_B (OuB_w_trial s0_12 r13) (Lg_total (Bd_ledger r13))).bind fun r15 =>
  some ((r15.1), (r15.2))) fun J11 =>
  if r9 = 0 then (f_X0_takeKeyFrom r7 (Bk_board (OuB_books s0)) p2).bind fun r18 =>
  J11 (OuB_w_trial s0 r18)
  else J11 (OuB_w_trial s0 r7)
  else (f_X8_accept_B s0 (-2 : Int32)).bind fun r20 =>
  some ((r20.1), (r20.2))
  else (f_X8_refuse_B s0 r1 (-1 : Int32)).bind fun r22 =>
  some ((r22.1), (r22.2))
abbrev rm_X8_would_B : Room := { frames := 4, cells := 0, slots := 0, locals := 105 }
set_option maxHeartbeats 4000000 in
set_option maxRecDepth 100000 in
theorem c_X8_would_B (l : Launch) (g : GK) (a0 : Nat → Nat) (v_shelf : Value) (s0 : OuBT) (p1 : Int32) (p2 : Int32) (p3 : Int32) (p4 : Int32) (p5 : Int32) (res : (Int32 × OuBT)) (hf : f_X8_would_B s0 p1 p2 p3 p4 p5 = some res) : gM l yX8_would cX8_would 7 (some .int) rm_X8_would_B g [.ref (a0 0), .int p1, .int p2, .int p3, .int p4, .int p5] (OuB_c g a0 v_shelf s0) (fun _ : Unit => (some (.int (res.1)))) (fun _ => (OuB_c g a0 v_shelf (res.2))) 0 0 := by
  refine gM_introI RX8 (by decide) rfl (Nat.le_of_ble_eq_true rfl) (fun p e s m args below meth c Q H locs ls A hE hZ hA hP hD hS hq hl => ?_)
  have hl : lv_has ls 7 [(0, .ref (a0 0)), (1, .int p1), (2, .int p2), (3, .int p3), (4, .int p4), (5, .int p5)] := hl
  have hx := hE.1
  have hb := hE.2.1
  rw [f_X8_would_B] at hf
  refine lv_aload_n hx hb dX8_would_0 rfl (lv_at hl 0 rfl) ?_
  refine lv_iload_n hx hb dX8_would_1 rfl (lv_at hl 1 rfl) ?_
  refine lv_iload_n hx hb dX8_would_2 rfl (lv_at hl 2 rfl) ?_
  refine lv_iload_n hx hb dX8_would_3 rfl (lv_at hl 3 rfl) ?_
  refine lv_iload hx hb dX8_would_4 (lv_at hl 4 rfl) ?_
  refine lv_iload hx hb dX8_would_6 (lv_at hl 5 rfl) ?_
  obtain ⟨r1, hc2, hf⟩ := gbd hf
  refine gr_callV (As := [.int p1, .int p2, .int p3, .int p4, .int p5]) (rest := []) (st1 := [.int r1]) hE hl.1 ml_X8_239 (c_X8_refusalOfEvent_B l g a0 v_shelf s0 p1 p2 p3 p4 p5 r1 hc2) hZ hS hP [(0, 44)] rfl okX8 rfl rfl rfl rfl ⟨rfl, rfl⟩ ⟨Nat.le_of_ble_eq_true rfl, Nat.le_of_ble_eq_true rfl⟩ ⟨Nat.le_refl _, Nat.le_refl _⟩ (Nat.le_of_ble_eq_true rfl) dX8_would_8 ?_
  refine lv_istore hx hb dX8_would_11 hl (by decide) (lv' := [(6, .int r1), (0, .ref (a0 0)), (1, .int p1), (2, .int p2), (3, .int p3), (4, .int p4), (5, .int p5)]) rfl (fun ls hl => ?_)
  refine lv_iload hx hb dX8_would_13 (lv_at hl 0 rfl) ?_
  refine lv_if_eq hx hb dX8_would_15 (tgt := 26) rfl (fun h3 => ?_) (fun h3 => ?_)
  · have hf := gif_t h3 hf
    refine lv_aload_n hx hb dX8_would_26 rfl (lv_at hl 1 rfl) ?_
    refine g_get hE okX8 fl_X8_31 hP 0 rfl (v := .ref (a0 19)) rfl dX8_would_27 ?_
    refine lv_iload hx hb dX8_would_30 (lv_at hl 6 rfl) ?_
    obtain ⟨r4, hc5, hf⟩ := gbd hf
    refine gr_callV (As := [.int p5]) (rest := []) (st1 := [.int r4]) hE hl.1 ml_X8_243 (c_X1_isTooLate l g (fun k => a0 (k + 19)) (OuB_books s0) p5 r4 hc5) hZ hS hP [(19, 25)] rfl okX1 rfl rfl rfl rfl ⟨rfl, rfl⟩ ⟨Nat.le_of_ble_eq_true rfl, Nat.le_of_ble_eq_true rfl⟩ ⟨Nat.le_refl _, Nat.le_refl _⟩ (Nat.le_of_ble_eq_true rfl) dX8_would_32 ?_
    refine lv_if_eq hx hb dX8_would_35 (tgt := 45) rfl (fun h6 => ?_) (fun h6 => ?_)
    · have hf := gif_t h6 hf
      refine lv_aload_n hx hb dX8_would_45 rfl (lv_at hl 1 rfl) ?_
      refine g_get hE okX8 fl_X8_21 hP 0 rfl (v := .ref (a0 9)) rfl dX8_would_46 ?_
      refine lv_aload_n hx hb dX8_would_49 rfl (lv_at hl 1 rfl) ?_
      refine g_get hE okX8 fl_X8_31 hP 0 rfl (v := .ref (a0 19)) rfl dX8_would_50 ?_
      refine g_get hE okX1 fl_X8_139 hP 19 rfl (v := .ref (a0 24)) rfl dX8_would_53 ?_
      refine g_get hE okX0 fl_X8_246 hP 24 rfl (v := .int (Bd_how (Bk_board (OuB_books s0)))) rfl dX8_would_56 ?_
      obtain ⟨r7, hc8, hf⟩ := gbd hf
      refine gm_callV1 (As := [.int (Bd_how (Bk_board (OuB_books s0)))]) (rest := []) (st1 := fun _ => []) (ws' := fun _ => (OuB_c g a0 v_shelf (OuB_w_trial s0 r7))) hE hl.1 ml_X8_247 (c_X0_clear l g (fun k => a0 (k + 9)) (OuB_trial s0) (Bd_how (Bk_board (OuB_books s0))) r7 hc8) hZ hP hD hS hA 9 18 rfl (fun _ => rfl) okX0 rfl rfl rfl (fun _ => rfl) ⟨rfl, rfl⟩ ⟨Nat.le_of_ble_eq_true rfl, Nat.le_of_ble_eq_true rfl⟩ ⟨Nat.le_refl _, Nat.le_refl _⟩ (Nat.le_of_ble_eq_true rfl) dX8_would_59 (fun _ H locs hP hD hS => ?_)
      refine lv_aload_n hx hb dX8_would_62 rfl (lv_at hl 1 rfl) ?_
      refine g_get hE okX8 fl_X8_31 hP 0 rfl (v := .ref (a0 19)) rfl dX8_would_63 ?_
      refine lv_iload_n hx hb dX8_would_66 rfl (lv_at hl 3 rfl) ?_
      refine lv_aload_n hx hb dX8_would_67 rfl (lv_at hl 1 rfl) ?_
      refine g_get hE okX8 fl_X8_31 hP 0 rfl (v := .ref (a0 19)) rfl dX8_would_68 ?_
      refine g_get hE okX1 fl_X8_249 hP 19 rfl (v := .int (Bk_clock (OuB_books s0))) rfl dX8_would_71 ?_
      refine lv_iload hx hb dX8_would_74 (lv_at hl 6 rfl) ?_
      refine g_mmax hE hl.1 km_X8_252 (Nat.le_of_ble_eq_true rfl) (rest := [.int p2, .ref (a0 19)]) (Nat.le_of_ble_eq_true rfl) ⟨Nat.le_refl _, Nat.le_refl _⟩ dX8_would_76 ?_
      obtain ⟨r9, hc10, hf⟩ := gbd hf
      refine gr_callV (As := [.int p2, .int (if (Bk_clock (OuB_books s0)) < p5 then p5 else (Bk_clock (OuB_books s0)))]) (rest := []) (st1 := [.int r9]) hE hl.1 ml_X8_257 (c_X1_lapsesAt l g (fun k => a0 (k + 19)) (OuB_books s0) p2 (if (Bk_clock (OuB_books s0)) < p5 then p5 else (Bk_clock (OuB_books s0))) r9 hc10) hZ hS hP [(19, 25)] rfl okX1 rfl rfl rfl rfl ⟨rfl, rfl⟩ ⟨Nat.le_of_ble_eq_true rfl, Nat.le_of_ble_eq_true rfl⟩ ⟨Nat.le_refl _, Nat.le_refl _⟩ (Nat.le_of_ble_eq_true rfl) dX8_would_79 ?_
      obtain ⟨J11, eJ11, hf⟩ := gltd hf
      have kJ11 : ∀ (s0_12 : OuBT) (ls : Array Slot) (H : Heap) (locs : List Loc), J11 s0_12 = some res → lv_has ls 7 [(0, .ref (a0 0)), (1, .int p1), (2, .int p2), (3, .int p3), (4, .int p4)] → gP g (OuB_c g a0 v_shelf s0_12) H → va_D A (OuB_c g a0 v_shelf s0_12) → va_S A s.heap H locs → W p l e rm_X8_would_B s m args below meth c H locs 0 0 Q (F0 m 100 ls []) := by
        intro s0_12 ls H locs hf hl hP hD hS
        rw [eJ11] at hf
        refine lv_aload_n hx hb dX8_would_100 rfl (lv_at hl 0 rfl) ?_
        refine g_get hE okX8 fl_X8_21 hP 0 rfl (v := .ref (a0 9)) rfl dX8_would_101 ?_
        refine lv_iload_n hx hb dX8_would_104 rfl (lv_at hl 1 rfl) ?_
        refine lv_iload_n hx hb dX8_would_105 rfl (lv_at hl 2 rfl) ?_
        refine lv_iload_n hx hb dX8_would_106 rfl (lv_at hl 3 rfl) ?_
        refine lv_iload hx hb dX8_would_107 (lv_at hl 4 rfl) ?_
        obtain ⟨r13, hc14, hf⟩ := gbd hf
        refine gm_callV1 (As := [.int p1, .int p2, .int p3, .int p4]) (rest := []) (st1 := fun _ => []) (ws' := fun _ => (OuB_c g a0 v_shelf (OuB_w_trial s0_12 r13))) hE hl.1 ml_X8_265 (c_X0_change l g (fun k => a0 (k + 9)) (OuB_trial s0_12) p1 p2 p3 p4 r13 hc14) hZ hP hD hS hA 9 18 rfl (fun _ => rfl) okX0 rfl rfl rfl (fun _ => rfl) ⟨rfl, rfl⟩ ⟨Nat.le_of_ble_eq_true rfl, Nat.le_of_ble_eq_true rfl⟩ ⟨Nat.le_refl _, Nat.le_refl _⟩ (Nat.le_of_ble_eq_true rfl) dX8_would_109 (fun _ H locs hP hD hS => ?_)
        refine lv_aload_n hx hb dX8_would_112 rfl (lv_at hl 0 rfl) ?_
        refine lv_aload_n hx hb dX8_would_113 rfl (lv_at hl 0 rfl) ?_
        refine g_get hE okX8 fl_X8_21 hP 0 rfl (v := .ref (a0 9)) rfl dX8_would_114 ?_
        refine g_get hE okX0 fl_X8_192 hP 9 rfl (v := .ref (a0 13)) rfl dX8_would_117 ?_
        refine g_get hE okX2 fl_X8_269 hP 13 rfl (v := .int (Lg_total (Bd_ledger r13))) rfl dX8_would_120 ?_
        obtain ⟨r15, hc16, hf⟩ := gbd hf
        refine gm_callV1 (As := [.int (Lg_total (Bd_ledger r13))]) (rest := []) (st1 := fun _ => [.int (r15.1)]) (ws' := fun _ => (OuB_c g a0 v_shelf (r15.2))) hE hl.1 ml_X8_103 (c_X8_accept_B l g a0 v_shelf (OuB_w_trial s0_12 r13) (Lg_total (Bd_ledger r13)) r15 hc16) hZ hP hD hS hA 0 44 rfl (fun _ => rfl) okX8 rfl rfl rfl (fun _ => rfl) ⟨rfl, rfl⟩ ⟨Nat.le_of_ble_eq_true rfl, Nat.le_of_ble_eq_true rfl⟩ ⟨Nat.le_refl _, Nat.le_refl _⟩ (Nat.le_of_ble_eq_true rfl) dX8_would_123 (fun _ H locs hP hD hS => ?_)
        cases hf
        exact hq () rfl hP hD hS dX8_would_126
      refine lv_if_ne hx hb dX8_would_82 (tgt := 100) rfl (fun h17 => ?_) (fun h17 => ?_)
      · have hf := gif_f h17 hf
        exact kJ11 (OuB_w_trial s0 r7) ls H locs hf (lv_sub hl [1, 2, 3, 4, 5] rfl) hP hD hS
      · have hf := gif_t h17 hf
        refine lv_aload_n hx hb dX8_would_85 rfl (lv_at hl 1 rfl) ?_
        refine g_get hE okX8 fl_X8_21 hP 0 rfl (v := .ref (a0 9)) rfl dX8_would_86 ?_
        refine lv_aload_n hx hb dX8_would_89 rfl (lv_at hl 1 rfl) ?_
        refine g_get hE okX8 fl_X8_31 hP 0 rfl (v := .ref (a0 19)) rfl dX8_would_90 ?_
        refine g_get hE okX1 fl_X8_139 hP 19 rfl (v := .ref (a0 24)) rfl dX8_would_93 ?_
        refine lv_iload_n hx hb dX8_would_96 rfl (lv_at hl 3 rfl) ?_
        obtain ⟨r18, hc19, hf⟩ := gbd hf
        refine gm_callV2 (As := [.ref (a0 24), .int p2]) (rest := []) (st1 := fun _ => []) (ws' := fun _ => (OuB_c g a0 v_shelf (OuB_w_trial s0 r18))) hE hl.1 ml_X8_261 (c_X0_takeKeyFrom l g (fun k => a0 (k + 9)) r7 (fun k => a0 (k + 24)) (Bk_board (OuB_books s0)) p2 r18 hc19) hZ hP hD hS hA 9 18 6 33 rfl (fun _ => rfl) okX0 rfl rfl rfl (fun _ => rfl) ⟨rfl, rfl⟩ ⟨Nat.le_of_ble_eq_true rfl, Nat.le_of_ble_eq_true rfl⟩ ⟨Nat.le_refl _, Nat.le_refl _⟩ (Nat.le_of_ble_eq_true rfl) dX8_would_97 (fun _ H locs hP hD hS => ?_)
        exact kJ11 (OuB_w_trial s0 r18) ls H locs hf (lv_sub hl [1, 2, 3, 4, 5] rfl) hP hD hS
    · have hf := gif_f h6 hf
      refine lv_aload_n hx hb dX8_would_38 rfl (lv_at hl 1 rfl) ?_
      refine lv_bipush hx hb dX8_would_39 kcb_m2 ?_
      obtain ⟨r20, hc21, hf⟩ := gbd hf
      refine gm_callV1 (As := [.int (-2 : Int32)]) (rest := []) (st1 := fun _ => [.int (r20.1)]) (ws' := fun _ => (OuB_c g a0 v_shelf (r20.2))) hE hl.1 ml_X8_103 (c_X8_accept_B l g a0 v_shelf s0 (-2 : Int32) r20 hc21) hZ hP hD hS hA 0 44 rfl (fun _ => rfl) okX8 rfl rfl rfl (fun _ => rfl) ⟨rfl, rfl⟩ ⟨Nat.le_of_ble_eq_true rfl, Nat.le_of_ble_eq_true rfl⟩ ⟨Nat.le_refl _, Nat.le_refl _⟩ (Nat.le_of_ble_eq_true rfl) dX8_would_41 (fun _ H locs hP hD hS => ?_)
      cases hf
      exact hq () rfl hP hD hS dX8_would_44
  · have hf := gif_f h3 hf
    refine lv_aload_n hx hb dX8_would_18 rfl (lv_at hl 1 rfl) ?_
    refine lv_iload hx hb dX8_would_19 (lv_at hl 0 rfl) ?_
    refine lv_iconst hx hb dX8_would_21 kci_m1 ?_
    obtain ⟨r22, hc23, hf⟩ := gbd hf
    refine gm_callV1 (As := [.int r1, .int (-1 : Int32)]) (rest := []) (st1 := fun _ => [.int (r22.1)]) (ws' := fun _ => (OuB_c g a0 v_shelf (r22.2))) hE hl.1 ml_X8_69 (c_X8_refuse_B l g a0 v_shelf s0 r1 (-1 : Int32) r22 hc23) hZ hP hD hS hA 0 44 rfl (fun _ => rfl) okX8 rfl rfl rfl (fun _ => rfl) ⟨rfl, rfl⟩ ⟨Nat.le_of_ble_eq_true rfl, Nat.le_of_ble_eq_true rfl⟩ ⟨Nat.le_refl _, Nat.le_refl _⟩ (Nat.le_of_ble_eq_true rfl) dX8_would_22 (fun _ H locs hP hD hS => ?_)
    cases hf
    exact hq () rfl hP hD hS dX8_would_25
def f_X8_nextLapse_B (s0 : OuBT) : Option (Int32 × OuBT) :=
  (f_X1_keyOfNextLapse (OuB_books s0)).bind fun r1 =>
  (f_X8_accept_B s0 r1).bind fun r3 =>
  some ((r3.1), (r3.2))
abbrev rm_X8_nextLapse_B : Room := { frames := 2, cells := 0, slots := 0, locals := 43 }
set_option maxHeartbeats 4000000 in
set_option maxRecDepth 100000 in
theorem c_X8_nextLapse_B (l : Launch) (g : GK) (a0 : Nat → Nat) (v_shelf : Value) (s0 : OuBT) (res : (Int32 × OuBT)) (hf : f_X8_nextLapse_B s0 = some res) : gM l yX8_nextLapse cX8_nextLapse 1 (some .int) rm_X8_nextLapse_B g [.ref (a0 0)] (OuB_c g a0 v_shelf s0) (fun _ : Unit => (some (.int (res.1)))) (fun _ => (OuB_c g a0 v_shelf (res.2))) 0 0 := by
  refine gM_introI RX8 (by decide) rfl (Nat.le_of_ble_eq_true rfl) (fun p e s m args below meth c Q H locs ls A hE hZ hA hP hD hS hq hl => ?_)
  have hl : lv_has ls 1 [(0, .ref (a0 0))] := hl
  have hx := hE.1
  have hb := hE.2.1
  rw [f_X8_nextLapse_B] at hf
  refine lv_aload_n hx hb dX8_nextLapse_0 rfl (lv_at hl 0 rfl) ?_
  refine g_get hE okX8 fl_X8_31 hP 0 rfl (v := .ref (a0 19)) rfl dX8_nextLapse_1 ?_
  refine lv_ifnonnull hx hb dX8_nextLapse_4 (tgt := 14) rfl ?_
  refine lv_aload_n hx hb dX8_nextLapse_14 rfl (lv_at hl 0 rfl) ?_
  refine lv_aload_n hx hb dX8_nextLapse_15 rfl (lv_at hl 0 rfl) ?_
  refine g_get hE okX8 fl_X8_31 hP 0 rfl (v := .ref (a0 19)) rfl dX8_nextLapse_16 ?_
  obtain ⟨r1, hc2, hf⟩ := gbd hf
  refine gr_callV (As := []) (rest := [.ref (a0 0)]) (st1 := [.int r1, .ref (a0 0)]) hE hl.1 ml_X8_272 (c_X1_keyOfNextLapse l g (fun k => a0 (k + 19)) (OuB_books s0) r1 hc2) hZ hS hP [(19, 25)] rfl okX1 rfl rfl rfl rfl ⟨rfl, rfl⟩ ⟨Nat.le_of_ble_eq_true rfl, Nat.le_of_ble_eq_true rfl⟩ ⟨Nat.le_refl _, Nat.le_refl _⟩ (Nat.le_of_ble_eq_true rfl) dX8_nextLapse_19 ?_
  obtain ⟨r3, hc4, hf⟩ := gbd hf
  refine gm_callV1 (As := [.int r1]) (rest := []) (st1 := fun _ => [.int (r3.1)]) (ws' := fun _ => (OuB_c g a0 v_shelf (r3.2))) hE hl.1 ml_X8_103 (c_X8_accept_B l g a0 v_shelf s0 r1 r3 hc4) hZ hP hD hS hA 0 44 rfl (fun _ => rfl) okX8 rfl rfl rfl (fun _ => rfl) ⟨rfl, rfl⟩ ⟨Nat.le_of_ble_eq_true rfl, Nat.le_of_ble_eq_true rfl⟩ ⟨Nat.le_refl _, Nat.le_refl _⟩ (Nat.le_of_ble_eq_true rfl) dX8_nextLapse_22 (fun _ H locs hP hD hS => ?_)
  cases hf
  exact hq () rfl hP hD hS dX8_nextLapse_25
def f_X8_replay_B (s0 : OuBT) (p1 : Int32) (p2 : Int32) : Option (Int32 × OuBT) :=
  if p2 < 0 then (f_X8_refuse_B s0 (1 : Int32) (-2147483648 : Int32)).bind fun r2 =>
  some ((r2.1), (r2.2))
  else if p2 ≤ (2 : Int32) then if p1 < 0 then (f_X8_refuse_B s0 (2 : Int32) (-2147483648 : Int32)).bind fun r6 =>
  some ((r6.1), (r6.2))
  else if p1 ≤ (65536 : Int32) then (f_X8_orderAsStored_B s0).bind fun r9 =>
  (f_X8_mix_B r9 (St_count (Bk_store (OuB_books r9))) p1).bind fun r11 =>
  (f_X8_tryStore_B r11 (Bd_how (Bk_board (OuB_books r11)))).bind fun r13 =>
  if p2 = 0 then (f_X8_accept_B r13 (Lg_total (Bd_ledger (OuB_trial r13)))).bind fun r25 =>
  some ((r25.1), (r25.2))
  else if p2 = (1 : Int32) then (f_X8_countFilled 648 (Bd_sums (OuB_trial r13)) (0 : Int32)).bind fun r21 =>
  (f_X8_accept_B r13 r21).bind fun r23 =>
  some ((r23.1), (r23.2))
  else (f_X0_sumOfAll (OuB_trial r13)).bind fun r17 =>
  (f_X8_accept_B r13 r17).bind fun r19 =>
  some ((r19.1), (r19.2))
  else (f_X8_refuse_B s0 (2 : Int32) (-2147483648 : Int32)).bind fun r27 =>
  some ((r27.1), (r27.2))
  else (f_X8_refuse_B s0 (1 : Int32) (-2147483648 : Int32)).bind fun r29 =>
  some ((r29.1), (r29.2))
abbrev rm_X8_replay_B : Room := { frames := 5, cells := 0, slots := 0, locals := 129 }
set_option maxHeartbeats 4000000 in
set_option maxRecDepth 100000 in
theorem c_X8_replay_B (l : Launch) (g : GK) (a0 : Nat → Nat) (v_shelf : Value) (s0 : OuBT) (p1 : Int32) (p2 : Int32) (res : (Int32 × OuBT)) (hf : f_X8_replay_B s0 p1 p2 = some res) : gM l yX8_replay cX8_replay 3 (some .int) rm_X8_replay_B g [.ref (a0 0), .int p1, .int p2] (OuB_c g a0 v_shelf s0) (fun _ : Unit => (some (.int (res.1)))) (fun _ => (OuB_c g a0 v_shelf (res.2))) 0 0 := by
  refine gM_introI RX8 (by decide) rfl (Nat.le_of_ble_eq_true rfl) (fun p e s m args below meth c Q H locs ls A hE hZ hA hP hD hS hq hl => ?_)
  have hl : lv_has ls 3 [(0, .ref (a0 0)), (1, .int p1), (2, .int p2)] := hl
  have hx := hE.1
  have hb := hE.2.1
  rw [f_X8_replay_B] at hf
  refine lv_aload_n hx hb dX8_replay_0 rfl (lv_at hl 0 rfl) ?_
  refine g_get hE okX8 fl_X8_31 hP 0 rfl (v := .ref (a0 19)) rfl dX8_replay_1 ?_
  refine lv_ifnull hx hb dX8_replay_4 ?_
  refine lv_iload_n hx hb dX8_replay_7 rfl (lv_at hl 2 rfl) ?_
  refine lv_if_lt hx hb dX8_replay_8 (tgt := 16) rfl (fun h1 => ?_) (fun h1 => ?_)
  · have hf := gif_t h1 hf
    refine lv_aload_n hx hb dX8_replay_16 rfl (lv_at hl 0 rfl) ?_
    refine lv_iconst hx hb dX8_replay_17 kci_1 ?_
    refine lv_ldc hx hb hE.2.2.2.2.2.1 (hE.2.2.2.2.2.2.1 _ kd_X8_138) dX8_replay_18 ?_
    obtain ⟨r2, hc3, hf⟩ := gbd hf
    refine gm_callV1 (As := [.int (1 : Int32), .int (-2147483648 : Int32)]) (rest := []) (st1 := fun _ => [.int (r2.1)]) (ws' := fun _ => (OuB_c g a0 v_shelf (r2.2))) hE hl.1 ml_X8_69 (c_X8_refuse_B l g a0 v_shelf s0 (1 : Int32) (-2147483648 : Int32) r2 hc3) hZ hP hD hS hA 0 44 rfl (fun _ => rfl) okX8 rfl rfl rfl (fun _ => rfl) ⟨rfl, rfl⟩ ⟨Nat.le_of_ble_eq_true rfl, Nat.le_of_ble_eq_true rfl⟩ ⟨Nat.le_refl _, Nat.le_refl _⟩ (Nat.le_of_ble_eq_true rfl) dX8_replay_20 (fun _ H locs hP hD hS => ?_)
    cases hf
    exact hq () rfl hP hD hS dX8_replay_23
  · have hf := gif_f h1 hf
    refine lv_iload_n hx hb dX8_replay_11 rfl (lv_at hl 2 rfl) ?_
    refine lv_iconst hx hb dX8_replay_12 kci_2 ?_
    refine lv_icmp_le hx hb dX8_replay_13 (tgt := 24) rfl (fun h4 => ?_) (fun h4 => ?_)
    · have hf := gif_t h4 hf
      refine lv_iload_n hx hb dX8_replay_24 rfl (lv_at hl 1 rfl) ?_
      refine lv_if_lt hx hb dX8_replay_25 (tgt := 35) rfl (fun h5 => ?_) (fun h5 => ?_)
      · have hf := gif_t h5 hf
        refine lv_aload_n hx hb dX8_replay_35 rfl (lv_at hl 0 rfl) ?_
        refine lv_iconst hx hb dX8_replay_36 kci_2 ?_
        refine lv_ldc hx hb hE.2.2.2.2.2.1 (hE.2.2.2.2.2.2.1 _ kd_X8_138) dX8_replay_37 ?_
        obtain ⟨r6, hc7, hf⟩ := gbd hf
        refine gm_callV1 (As := [.int (2 : Int32), .int (-2147483648 : Int32)]) (rest := []) (st1 := fun _ => [.int (r6.1)]) (ws' := fun _ => (OuB_c g a0 v_shelf (r6.2))) hE hl.1 ml_X8_69 (c_X8_refuse_B l g a0 v_shelf s0 (2 : Int32) (-2147483648 : Int32) r6 hc7) hZ hP hD hS hA 0 44 rfl (fun _ => rfl) okX8 rfl rfl rfl (fun _ => rfl) ⟨rfl, rfl⟩ ⟨Nat.le_of_ble_eq_true rfl, Nat.le_of_ble_eq_true rfl⟩ ⟨Nat.le_refl _, Nat.le_refl _⟩ (Nat.le_of_ble_eq_true rfl) dX8_replay_39 (fun _ H locs hP hD hS => ?_)
        cases hf
        exact hq () rfl hP hD hS dX8_replay_42
      · have hf := gif_f h5 hf
        refine lv_iload_n hx hb dX8_replay_28 rfl (lv_at hl 1 rfl) ?_
        refine g_ldcw hE kd_X8_275 dX8_replay_29 ?_
        refine lv_icmp_le hx hb dX8_replay_32 (tgt := 43) rfl (fun h8 => ?_) (fun h8 => ?_)
        · have hf := gif_t h8 hf
          refine lv_aload_n hx hb dX8_replay_43 rfl (lv_at hl 0 rfl) ?_
          obtain ⟨r9, hc10, hf⟩ := gbd hf
          refine gm_callV1 (As := []) (rest := []) (st1 := fun _ => []) (ws' := fun _ => (OuB_c g a0 v_shelf r9)) hE hl.1 ml_X8_276 (c_X8_orderAsStored_B l g a0 v_shelf s0 r9 hc10) hZ hP hD hS hA 0 44 rfl (fun _ => rfl) okX8 rfl rfl rfl (fun _ => rfl) ⟨rfl, rfl⟩ ⟨Nat.le_of_ble_eq_true rfl, Nat.le_of_ble_eq_true rfl⟩ ⟨Nat.le_refl _, Nat.le_refl _⟩ (Nat.le_of_ble_eq_true rfl) dX8_replay_44 (fun _ H locs hP hD hS => ?_)
          refine lv_aload_n hx hb dX8_replay_47 rfl (lv_at hl 0 rfl) ?_
          refine lv_aload_n hx hb dX8_replay_48 rfl (lv_at hl 0 rfl) ?_
          refine g_get hE okX8 fl_X8_31 hP 0 rfl (v := .ref (a0 19)) rfl dX8_replay_49 ?_
          refine g_get hE okX1 fl_X8_279 hP 19 rfl (v := .ref (a0 33)) rfl dX8_replay_52 ?_
          refine g_get hE okX4 fl_X8_283 hP 33 rfl (v := .int (St_count (Bk_store (OuB_books r9)))) rfl dX8_replay_55 ?_
          refine lv_iload_n hx hb dX8_replay_58 rfl (lv_at hl 1 rfl) ?_
          obtain ⟨r11, hc12, hf⟩ := gbd hf
          refine gm_callV1 (As := [.int (St_count (Bk_store (OuB_books r9))), .int p1]) (rest := []) (st1 := fun _ => []) (ws' := fun _ => (OuB_c g a0 v_shelf r11)) hE hl.1 ml_X8_286 (c_X8_mix_B l g a0 v_shelf r9 (St_count (Bk_store (OuB_books r9))) p1 r11 hc12) hZ hP hD hS hA 0 44 rfl (fun _ => rfl) okX8 rfl rfl rfl (fun _ => rfl) ⟨rfl, rfl⟩ ⟨Nat.le_of_ble_eq_true rfl, Nat.le_of_ble_eq_true rfl⟩ ⟨Nat.le_refl _, Nat.le_refl _⟩ (Nat.le_of_ble_eq_true rfl) dX8_replay_59 (fun _ H locs hP hD hS => ?_)
          refine lv_aload_n hx hb dX8_replay_62 rfl (lv_at hl 0 rfl) ?_
          refine lv_aload_n hx hb dX8_replay_63 rfl (lv_at hl 0 rfl) ?_
          refine g_get hE okX8 fl_X8_31 hP 0 rfl (v := .ref (a0 19)) rfl dX8_replay_64 ?_
          refine g_get hE okX1 fl_X8_279 hP 19 rfl (v := .ref (a0 33)) rfl dX8_replay_67 ?_
          refine lv_aload_n hx hb dX8_replay_70 rfl (lv_at hl 0 rfl) ?_
          refine g_get hE okX8 fl_X8_31 hP 0 rfl (v := .ref (a0 19)) rfl dX8_replay_71 ?_
          refine g_get hE okX1 fl_X8_139 hP 19 rfl (v := .ref (a0 24)) rfl dX8_replay_74 ?_
          refine g_get hE okX0 fl_X8_246 hP 24 rfl (v := .int (Bd_how (Bk_board (OuB_books r11)))) rfl dX8_replay_77 ?_
          obtain ⟨r13, hc14, hf⟩ := gbd hf
          refine gm_callV1 (As := [.ref (a0 33), .int (Bd_how (Bk_board (OuB_books r11)))]) (rest := []) (st1 := fun _ => []) (ws' := fun _ => (OuB_c g a0 v_shelf r13)) hE hl.1 ml_X8_290 (c_X8_tryStore_B l g a0 v_shelf r11 (Bd_how (Bk_board (OuB_books r11))) r13 hc14) hZ hP hD hS hA 0 44 rfl (fun _ => rfl) okX8 rfl rfl rfl (fun _ => rfl) ⟨rfl, rfl⟩ ⟨Nat.le_of_ble_eq_true rfl, Nat.le_of_ble_eq_true rfl⟩ ⟨Nat.le_refl _, Nat.le_refl _⟩ (Nat.le_of_ble_eq_true rfl) dX8_replay_80 (fun _ H locs hP hD hS => ?_)
          refine lv_iload_n hx hb dX8_replay_83 rfl (lv_at hl 2 rfl) ?_
          refine lv_if_ne hx hb dX8_replay_84 (tgt := 102) rfl (fun h15 => ?_) (fun h15 => ?_)
          · have hf := gif_f h15 hf
            refine lv_aload_n hx hb dX8_replay_102 rfl (lv_at hl 0 rfl) ?_
            refine lv_iload_n hx hb dX8_replay_103 rfl (lv_at hl 2 rfl) ?_
            refine lv_iconst hx hb dX8_replay_104 kci_1 ?_
            refine lv_icmp_ne hx hb dX8_replay_105 (tgt := 122) rfl (fun h16 => ?_) (fun h16 => ?_)
            · have hf := gif_f h16 hf
              refine lv_aload_n hx hb dX8_replay_122 rfl (lv_at hl 0 rfl) ?_
              refine g_get hE okX8 fl_X8_21 hP 0 rfl (v := .ref (a0 9)) rfl dX8_replay_123 ?_
              obtain ⟨r17, hc18, hf⟩ := gbd hf
              refine gr_callV (As := []) (rest := [.ref (a0 0)]) (st1 := [.int r17, .ref (a0 0)]) hE hl.1 ml_X8_294 (c_X0_sumOfAll l g (fun k => a0 (k + 9)) (OuB_trial r13) r17 hc18) hZ hS hP [(9, 9)] rfl okX0 rfl rfl rfl rfl ⟨rfl, rfl⟩ ⟨Nat.le_of_ble_eq_true rfl, Nat.le_of_ble_eq_true rfl⟩ ⟨Nat.le_refl _, Nat.le_refl _⟩ (Nat.le_of_ble_eq_true rfl) dX8_replay_126 ?_
              obtain ⟨r19, hc20, hf⟩ := gbd hf
              refine gm_callV1 (As := [.int r17]) (rest := []) (st1 := fun _ => [.int (r19.1)]) (ws' := fun _ => (OuB_c g a0 v_shelf (r19.2))) hE hl.1 ml_X8_103 (c_X8_accept_B l g a0 v_shelf r13 r17 r19 hc20) hZ hP hD hS hA 0 44 rfl (fun _ => rfl) okX8 rfl rfl rfl (fun _ => rfl) ⟨rfl, rfl⟩ ⟨Nat.le_of_ble_eq_true rfl, Nat.le_of_ble_eq_true rfl⟩ ⟨Nat.le_refl _, Nat.le_refl _⟩ (Nat.le_of_ble_eq_true rfl) dX8_replay_129 (fun _ H locs hP hD hS => ?_)
              cases hf
              exact hq () rfl hP hD hS dX8_replay_132
            · have hf := gif_t h16 hf
              refine lv_aload_n hx hb dX8_replay_108 rfl (lv_at hl 0 rfl) ?_
              refine g_get hE okX8 fl_X8_21 hP 0 rfl (v := .ref (a0 9)) rfl dX8_replay_109 ?_
              refine g_get hE okX0 fl_X8_159 hP 9 rfl (v := .ref (a0 11)) rfl dX8_replay_112 ?_
              refine lv_iconst hx hb dX8_replay_115 kci_0 ?_
              obtain ⟨r21, hc22, hf⟩ := gbd hf
              refine gr_callS (As := [.ref (a0 11), .int (0 : Int32)]) (rest := [.ref (a0 0)]) (st1 := [.int r21, .ref (a0 0)]) hE hl.1 ml_X8_168 (c_X8_countFilled l g (a0 11) 648 (Bd_sums (OuB_trial r13)) (0 : Int32) r21 hc22) hZ hS hP [(11, 1)] rfl rfl rfl rfl ⟨rfl, rfl⟩ ⟨Nat.le_of_ble_eq_true rfl, Nat.le_of_ble_eq_true rfl⟩ ⟨Nat.le_refl _, Nat.le_refl _⟩ (Nat.le_of_ble_eq_true rfl) dX8_replay_116 ?_
              refine lv_goto hx hb dX8_replay_119 (tgt := 129) rfl ?_
              obtain ⟨r23, hc24, hf⟩ := gbd hf
              refine gm_callV1 (As := [.int r21]) (rest := []) (st1 := fun _ => [.int (r23.1)]) (ws' := fun _ => (OuB_c g a0 v_shelf (r23.2))) hE hl.1 ml_X8_103 (c_X8_accept_B l g a0 v_shelf r13 r21 r23 hc24) hZ hP hD hS hA 0 44 rfl (fun _ => rfl) okX8 rfl rfl rfl (fun _ => rfl) ⟨rfl, rfl⟩ ⟨Nat.le_of_ble_eq_true rfl, Nat.le_of_ble_eq_true rfl⟩ ⟨Nat.le_refl _, Nat.le_refl _⟩ (Nat.le_of_ble_eq_true rfl) dX8_replay_129 (fun _ H locs hP hD hS => ?_)
              cases hf
              exact hq () rfl hP hD hS dX8_replay_132
          · have hf := gif_t h15 hf
            refine lv_aload_n hx hb dX8_replay_87 rfl (lv_at hl 0 rfl) ?_
            refine lv_aload_n hx hb dX8_replay_88 rfl (lv_at hl 0 rfl) ?_
            refine g_get hE okX8 fl_X8_21 hP 0 rfl (v := .ref (a0 9)) rfl dX8_replay_89 ?_
            refine g_get hE okX0 fl_X8_192 hP 9 rfl (v := .ref (a0 13)) rfl dX8_replay_92 ?_
            refine g_get hE okX2 fl_X8_269 hP 13 rfl (v := .int (Lg_total (Bd_ledger (OuB_trial r13)))) rfl dX8_replay_95 ?_
            obtain ⟨r25, hc26, hf⟩ := gbd hf
            refine gm_callV1 (As := [.int (Lg_total (Bd_ledger (OuB_trial r13)))]) (rest := []) (st1 := fun _ => [.int (r25.1)]) (ws' := fun _ => (OuB_c g a0 v_shelf (r25.2))) hE hl.1 ml_X8_103 (c_X8_accept_B l g a0 v_shelf r13 (Lg_total (Bd_ledger (OuB_trial r13))) r25 hc26) hZ hP hD hS hA 0 44 rfl (fun _ => rfl) okX8 rfl rfl rfl (fun _ => rfl) ⟨rfl, rfl⟩ ⟨Nat.le_of_ble_eq_true rfl, Nat.le_of_ble_eq_true rfl⟩ ⟨Nat.le_refl _, Nat.le_refl _⟩ (Nat.le_of_ble_eq_true rfl) dX8_replay_98 (fun _ H locs hP hD hS => ?_)
            cases hf
            exact hq () rfl hP hD hS dX8_replay_101
        · have hf := gif_f h8 hf
          refine lv_aload_n hx hb dX8_replay_35 rfl (lv_at hl 0 rfl) ?_
          refine lv_iconst hx hb dX8_replay_36 kci_2 ?_
          refine lv_ldc hx hb hE.2.2.2.2.2.1 (hE.2.2.2.2.2.2.1 _ kd_X8_138) dX8_replay_37 ?_
          obtain ⟨r27, hc28, hf⟩ := gbd hf
          refine gm_callV1 (As := [.int (2 : Int32), .int (-2147483648 : Int32)]) (rest := []) (st1 := fun _ => [.int (r27.1)]) (ws' := fun _ => (OuB_c g a0 v_shelf (r27.2))) hE hl.1 ml_X8_69 (c_X8_refuse_B l g a0 v_shelf s0 (2 : Int32) (-2147483648 : Int32) r27 hc28) hZ hP hD hS hA 0 44 rfl (fun _ => rfl) okX8 rfl rfl rfl (fun _ => rfl) ⟨rfl, rfl⟩ ⟨Nat.le_of_ble_eq_true rfl, Nat.le_of_ble_eq_true rfl⟩ ⟨Nat.le_refl _, Nat.le_refl _⟩ (Nat.le_of_ble_eq_true rfl) dX8_replay_39 (fun _ H locs hP hD hS => ?_)
          cases hf
          exact hq () rfl hP hD hS dX8_replay_42
    · have hf := gif_f h4 hf
      refine lv_aload_n hx hb dX8_replay_16 rfl (lv_at hl 0 rfl) ?_
      refine lv_iconst hx hb dX8_replay_17 kci_1 ?_
      refine lv_ldc hx hb hE.2.2.2.2.2.1 (hE.2.2.2.2.2.2.1 _ kd_X8_138) dX8_replay_18 ?_
      obtain ⟨r29, hc30, hf⟩ := gbd hf
      refine gm_callV1 (As := [.int (1 : Int32), .int (-2147483648 : Int32)]) (rest := []) (st1 := fun _ => [.int (r29.1)]) (ws' := fun _ => (OuB_c g a0 v_shelf (r29.2))) hE hl.1 ml_X8_69 (c_X8_refuse_B l g a0 v_shelf s0 (1 : Int32) (-2147483648 : Int32) r29 hc30) hZ hP hD hS hA 0 44 rfl (fun _ => rfl) okX8 rfl rfl rfl (fun _ => rfl) ⟨rfl, rfl⟩ ⟨Nat.le_of_ble_eq_true rfl, Nat.le_of_ble_eq_true rfl⟩ ⟨Nat.le_refl _, Nat.le_refl _⟩ (Nat.le_of_ble_eq_true rfl) dX8_replay_20 (fun _ H locs hP hD hS => ?_)
      cases hf
      exact hq () rfl hP hD hS dX8_replay_23
def f_X8_cost_B (s0 : OuBT) (p1 : Int32) : Option (Int32 × OuBT) :=
  (f_X8_isHow p1).bind fun r1 =>
  if r1 = 0 then (f_X8_refuse_B s0 (2 : Int32) (-1 : Int32)).bind fun r10 =>
  some ((r10.1), (r10.2))
  else (f_X8_orderAsStored_B s0).bind fun r4 =>
  (f_X8_tryStore_B r4 p1).bind fun r6 =>
  (f_X8_accept_B r6 (Lg_total (Bd_ledger (OuB_trial r6)))).bind fun r8 =>
  some ((r8.1), (r8.2))
abbrev rm_X8_cost_B : Room := { frames := 5, cells := 0, slots := 0, locals := 129 }
set_option maxHeartbeats 4000000 in
set_option maxRecDepth 100000 in
theorem c_X8_cost_B (l : Launch) (g : GK) (a0 : Nat → Nat) (v_shelf : Value) (s0 : OuBT) (p1 : Int32) (res : (Int32 × OuBT)) (hf : f_X8_cost_B s0 p1 = some res) : gM l yX8_cost cX8_cost 2 (some .int) rm_X8_cost_B g [.ref (a0 0), .int p1] (OuB_c g a0 v_shelf s0) (fun _ : Unit => (some (.int (res.1)))) (fun _ => (OuB_c g a0 v_shelf (res.2))) 0 0 := by
  refine gM_introI RX8 (by decide) rfl (Nat.le_of_ble_eq_true rfl) (fun p e s m args below meth c Q H locs ls A hE hZ hA hP hD hS hq hl => ?_)
  have hl : lv_has ls 2 [(0, .ref (a0 0)), (1, .int p1)] := hl
  have hx := hE.1
  have hb := hE.2.1
  rw [f_X8_cost_B] at hf
  refine lv_aload_n hx hb dX8_cost_0 rfl (lv_at hl 0 rfl) ?_
  refine g_get hE okX8 fl_X8_31 hP 0 rfl (v := .ref (a0 19)) rfl dX8_cost_1 ?_
  refine lv_ifnonnull hx hb dX8_cost_4 (tgt := 14) rfl ?_
  refine lv_iload_n hx hb dX8_cost_14 rfl (lv_at hl 1 rfl) ?_
  obtain ⟨r1, hc2, hf⟩ := gbd hf
  refine gr_callS (As := [.int p1]) (rest := []) (st1 := [.int r1]) hE hl.1 ml_X8_297 (c_X8_isHow l g p1 r1 hc2) hZ hS hP [] rfl rfl rfl rfl ⟨rfl, rfl⟩ ⟨Nat.le_of_ble_eq_true rfl, Nat.le_of_ble_eq_true rfl⟩ ⟨Nat.le_refl _, Nat.le_refl _⟩ (Nat.le_of_ble_eq_true rfl) dX8_cost_15 ?_
  refine lv_if_ne hx hb dX8_cost_18 (tgt := 28) rfl (fun h3 => ?_) (fun h3 => ?_)
  · have hf := gif_f h3 hf
    refine lv_aload_n hx hb dX8_cost_28 rfl (lv_at hl 0 rfl) ?_
    obtain ⟨r4, hc5, hf⟩ := gbd hf
    refine gm_callV1 (As := []) (rest := []) (st1 := fun _ => []) (ws' := fun _ => (OuB_c g a0 v_shelf r4)) hE hl.1 ml_X8_276 (c_X8_orderAsStored_B l g a0 v_shelf s0 r4 hc5) hZ hP hD hS hA 0 44 rfl (fun _ => rfl) okX8 rfl rfl rfl (fun _ => rfl) ⟨rfl, rfl⟩ ⟨Nat.le_of_ble_eq_true rfl, Nat.le_of_ble_eq_true rfl⟩ ⟨Nat.le_refl _, Nat.le_refl _⟩ (Nat.le_of_ble_eq_true rfl) dX8_cost_29 (fun _ H locs hP hD hS => ?_)
    refine lv_aload_n hx hb dX8_cost_32 rfl (lv_at hl 0 rfl) ?_
    refine lv_aload_n hx hb dX8_cost_33 rfl (lv_at hl 0 rfl) ?_
    refine g_get hE okX8 fl_X8_31 hP 0 rfl (v := .ref (a0 19)) rfl dX8_cost_34 ?_
    refine g_get hE okX1 fl_X8_279 hP 19 rfl (v := .ref (a0 33)) rfl dX8_cost_37 ?_
    refine lv_iload_n hx hb dX8_cost_40 rfl (lv_at hl 1 rfl) ?_
    obtain ⟨r6, hc7, hf⟩ := gbd hf
    refine gm_callV1 (As := [.ref (a0 33), .int p1]) (rest := []) (st1 := fun _ => []) (ws' := fun _ => (OuB_c g a0 v_shelf r6)) hE hl.1 ml_X8_290 (c_X8_tryStore_B l g a0 v_shelf r4 p1 r6 hc7) hZ hP hD hS hA 0 44 rfl (fun _ => rfl) okX8 rfl rfl rfl (fun _ => rfl) ⟨rfl, rfl⟩ ⟨Nat.le_of_ble_eq_true rfl, Nat.le_of_ble_eq_true rfl⟩ ⟨Nat.le_refl _, Nat.le_refl _⟩ (Nat.le_of_ble_eq_true rfl) dX8_cost_41 (fun _ H locs hP hD hS => ?_)
    refine lv_aload_n hx hb dX8_cost_44 rfl (lv_at hl 0 rfl) ?_
    refine lv_aload_n hx hb dX8_cost_45 rfl (lv_at hl 0 rfl) ?_
    refine g_get hE okX8 fl_X8_21 hP 0 rfl (v := .ref (a0 9)) rfl dX8_cost_46 ?_
    refine g_get hE okX0 fl_X8_192 hP 9 rfl (v := .ref (a0 13)) rfl dX8_cost_49 ?_
    refine g_get hE okX2 fl_X8_269 hP 13 rfl (v := .int (Lg_total (Bd_ledger (OuB_trial r6)))) rfl dX8_cost_52 ?_
    obtain ⟨r8, hc9, hf⟩ := gbd hf
    refine gm_callV1 (As := [.int (Lg_total (Bd_ledger (OuB_trial r6)))]) (rest := []) (st1 := fun _ => [.int (r8.1)]) (ws' := fun _ => (OuB_c g a0 v_shelf (r8.2))) hE hl.1 ml_X8_103 (c_X8_accept_B l g a0 v_shelf r6 (Lg_total (Bd_ledger (OuB_trial r6))) r8 hc9) hZ hP hD hS hA 0 44 rfl (fun _ => rfl) okX8 rfl rfl rfl (fun _ => rfl) ⟨rfl, rfl⟩ ⟨Nat.le_of_ble_eq_true rfl, Nat.le_of_ble_eq_true rfl⟩ ⟨Nat.le_refl _, Nat.le_refl _⟩ (Nat.le_of_ble_eq_true rfl) dX8_cost_55 (fun _ H locs hP hD hS => ?_)
    cases hf
    exact hq () rfl hP hD hS dX8_cost_58
  · have hf := gif_t h3 hf
    refine lv_aload_n hx hb dX8_cost_21 rfl (lv_at hl 0 rfl) ?_
    refine lv_iconst hx hb dX8_cost_22 kci_2 ?_
    refine lv_iconst hx hb dX8_cost_23 kci_m1 ?_
    obtain ⟨r10, hc11, hf⟩ := gbd hf
    refine gm_callV1 (As := [.int (2 : Int32), .int (-1 : Int32)]) (rest := []) (st1 := fun _ => [.int (r10.1)]) (ws' := fun _ => (OuB_c g a0 v_shelf (r10.2))) hE hl.1 ml_X8_69 (c_X8_refuse_B l g a0 v_shelf s0 (2 : Int32) (-1 : Int32) r10 hc11) hZ hP hD hS hA 0 44 rfl (fun _ => rfl) okX8 rfl rfl rfl (fun _ => rfl) ⟨rfl, rfl⟩ ⟨Nat.le_of_ble_eq_true rfl, Nat.le_of_ble_eq_true rfl⟩ ⟨Nat.le_refl _, Nat.le_refl _⟩ (Nat.le_of_ble_eq_true rfl) dX8_cost_24 (fun _ H locs hP hD hS => ?_)
    cases hf
    exact hq () rfl hP hD hS dX8_cost_27
def f_X8_event_B (s0 : OuBT) (p1 : Int32) (p2 : Int32) (p3 : Int32) (p4 : Int32) (p5 : Int32) : Option (Int32 × OuBT) :=
  (f_X8_refusalOfEvent_B s0 p1 p2 p3 p4 p5).bind fun r1 =>
  if r1 = 0 then (f_X1_happen (OuB_books s0) p1 p2 p3 p4 p5).bind fun r4 =>
  (f_X8_accept_B (OuB_w_books s0 (r4.2)) (r4.1)).bind fun r6 =>
  some ((r6.1), (r6.2))
  else (f_X8_refuse_B s0 r1 (-1 : Int32)).bind fun r8 =>
  some ((r8.1), (r8.2))
abbrev rm_X8_event_B : Room := { frames := 5, cells := 0, slots := 0, locals := 130 }
set_option maxHeartbeats 4000000 in
set_option maxRecDepth 100000 in
theorem c_X8_event_B (l : Launch) (g : GK) (a0 : Nat → Nat) (v_shelf : Value) (s0 : OuBT) (p1 : Int32) (p2 : Int32) (p3 : Int32) (p4 : Int32) (p5 : Int32) (res : (Int32 × OuBT)) (hf : f_X8_event_B s0 p1 p2 p3 p4 p5 = some res) : gM l yX8_event cX8_event 7 (some .int) rm_X8_event_B g [.ref (a0 0), .int p1, .int p2, .int p3, .int p4, .int p5] (OuB_c g a0 v_shelf s0) (fun _ : Unit => (some (.int (res.1)))) (fun _ => (OuB_c g a0 v_shelf (res.2))) 0 0 := by
  refine gM_introI RX8 (by decide) rfl (Nat.le_of_ble_eq_true rfl) (fun p e s m args below meth c Q H locs ls A hE hZ hA hP hD hS hq hl => ?_)
  have hl : lv_has ls 7 [(0, .ref (a0 0)), (1, .int p1), (2, .int p2), (3, .int p3), (4, .int p4), (5, .int p5)] := hl
  have hx := hE.1
  have hb := hE.2.1
  rw [f_X8_event_B] at hf
  refine lv_aload_n hx hb dX8_event_0 rfl (lv_at hl 0 rfl) ?_
  refine lv_iload_n hx hb dX8_event_1 rfl (lv_at hl 1 rfl) ?_
  refine lv_iload_n hx hb dX8_event_2 rfl (lv_at hl 2 rfl) ?_
  refine lv_iload_n hx hb dX8_event_3 rfl (lv_at hl 3 rfl) ?_
  refine lv_iload hx hb dX8_event_4 (lv_at hl 4 rfl) ?_
  refine lv_iload hx hb dX8_event_6 (lv_at hl 5 rfl) ?_
  obtain ⟨r1, hc2, hf⟩ := gbd hf
  refine gr_callV (As := [.int p1, .int p2, .int p3, .int p4, .int p5]) (rest := []) (st1 := [.int r1]) hE hl.1 ml_X8_239 (c_X8_refusalOfEvent_B l g a0 v_shelf s0 p1 p2 p3 p4 p5 r1 hc2) hZ hS hP [(0, 44)] rfl okX8 rfl rfl rfl rfl ⟨rfl, rfl⟩ ⟨Nat.le_of_ble_eq_true rfl, Nat.le_of_ble_eq_true rfl⟩ ⟨Nat.le_refl _, Nat.le_refl _⟩ (Nat.le_of_ble_eq_true rfl) dX8_event_8 ?_
  refine lv_istore hx hb dX8_event_11 hl (by decide) (lv' := [(6, .int r1), (0, .ref (a0 0)), (1, .int p1), (2, .int p2), (3, .int p3), (4, .int p4), (5, .int p5)]) rfl (fun ls hl => ?_)
  refine lv_iload hx hb dX8_event_13 (lv_at hl 0 rfl) ?_
  refine lv_if_eq hx hb dX8_event_15 (tgt := 26) rfl (fun h3 => ?_) (fun h3 => ?_)
  · have hf := gif_t h3 hf
    refine lv_aload_n hx hb dX8_event_26 rfl (lv_at hl 1 rfl) ?_
    refine lv_aload_n hx hb dX8_event_27 rfl (lv_at hl 1 rfl) ?_
    refine g_get hE okX8 fl_X8_31 hP 0 rfl (v := .ref (a0 19)) rfl dX8_event_28 ?_
    refine lv_iload_n hx hb dX8_event_31 rfl (lv_at hl 2 rfl) ?_
    refine lv_iload_n hx hb dX8_event_32 rfl (lv_at hl 3 rfl) ?_
    refine lv_iload_n hx hb dX8_event_33 rfl (lv_at hl 4 rfl) ?_
    refine lv_iload hx hb dX8_event_34 (lv_at hl 5 rfl) ?_
    refine lv_iload hx hb dX8_event_36 (lv_at hl 6 rfl) ?_
    obtain ⟨r4, hc5, hf⟩ := gbd hf
    refine gm_callV1 (As := [.int p1, .int p2, .int p3, .int p4, .int p5]) (rest := [.ref (a0 0)]) (st1 := fun _ => [.int (r4.1), .ref (a0 0)]) (ws' := fun _ => (OuB_c g a0 v_shelf (OuB_w_books s0 (r4.2)))) hE hl.1 ml_X8_300 (c_X1_happen l g (fun k => a0 (k + 19)) (OuB_books s0) p1 p2 p3 p4 p5 r4 hc5) hZ hP hD hS hA 19 44 rfl (fun _ => rfl) okX1 rfl rfl rfl (fun _ => rfl) ⟨rfl, rfl⟩ ⟨Nat.le_of_ble_eq_true rfl, Nat.le_of_ble_eq_true rfl⟩ ⟨Nat.le_refl _, Nat.le_refl _⟩ (Nat.le_of_ble_eq_true rfl) dX8_event_38 (fun _ H locs hP hD hS => ?_)
    obtain ⟨r6, hc7, hf⟩ := gbd hf
    refine gm_callV1 (As := [.int (r4.1)]) (rest := []) (st1 := fun _ => [.int (r6.1)]) (ws' := fun _ => (OuB_c g a0 v_shelf (r6.2))) hE hl.1 ml_X8_103 (c_X8_accept_B l g a0 v_shelf (OuB_w_books s0 (r4.2)) (r4.1) r6 hc7) hZ hP hD hS hA 0 44 rfl (fun _ => rfl) okX8 rfl rfl rfl (fun _ => rfl) ⟨rfl, rfl⟩ ⟨Nat.le_of_ble_eq_true rfl, Nat.le_of_ble_eq_true rfl⟩ ⟨Nat.le_refl _, Nat.le_refl _⟩ (Nat.le_of_ble_eq_true rfl) dX8_event_41 (fun _ H locs hP hD hS => ?_)
    cases hf
    exact hq () rfl hP hD hS dX8_event_44
  · have hf := gif_f h3 hf
    refine lv_aload_n hx hb dX8_event_18 rfl (lv_at hl 1 rfl) ?_
    refine lv_iload hx hb dX8_event_19 (lv_at hl 0 rfl) ?_
    refine lv_iconst hx hb dX8_event_21 kci_m1 ?_
    obtain ⟨r8, hc9, hf⟩ := gbd hf
    refine gm_callV1 (As := [.int r1, .int (-1 : Int32)]) (rest := []) (st1 := fun _ => [.int (r8.1)]) (ws' := fun _ => (OuB_c g a0 v_shelf (r8.2))) hE hl.1 ml_X8_69 (c_X8_refuse_B l g a0 v_shelf s0 r1 (-1 : Int32) r8 hc9) hZ hP hD hS hA 0 44 rfl (fun _ => rfl) okX8 rfl rfl rfl (fun _ => rfl) ⟨rfl, rfl⟩ ⟨Nat.le_of_ble_eq_true rfl, Nat.le_of_ble_eq_true rfl⟩ ⟨Nat.le_refl _, Nat.le_refl _⟩ (Nat.le_of_ble_eq_true rfl) dX8_event_22 (fun _ H locs hP hD hS => ?_)
    cases hf
    exact hq () rfl hP hD hS dX8_event_25
def f_X8_tick_B (s0 : OuBT) (p1 : Int32) : Option (Int32 × OuBT) :=
  (f_X8_isTime p1).bind fun r1 =>
  if r1 = 0 then (f_X8_refuse_B s0 (2 : Int32) (-1 : Int32)).bind fun r8 =>
  some ((r8.1), (r8.2))
  else (f_X1_advance (OuB_books s0) p1).bind fun r4 =>
  (f_X8_accept_B (OuB_w_books s0 (r4.2)) (r4.1)).bind fun r6 =>
  some ((r6.1), (r6.2))
abbrev rm_X8_tick_B : Room := { frames := 4, cells := 0, slots := 0, locals := 91 }
set_option maxHeartbeats 4000000 in
set_option maxRecDepth 100000 in
theorem c_X8_tick_B (l : Launch) (g : GK) (a0 : Nat → Nat) (v_shelf : Value) (s0 : OuBT) (p1 : Int32) (res : (Int32 × OuBT)) (hf : f_X8_tick_B s0 p1 = some res) : gM l yX8_tick cX8_tick 2 (some .int) rm_X8_tick_B g [.ref (a0 0), .int p1] (OuB_c g a0 v_shelf s0) (fun _ : Unit => (some (.int (res.1)))) (fun _ => (OuB_c g a0 v_shelf (res.2))) 0 0 := by
  refine gM_introI RX8 (by decide) rfl (Nat.le_of_ble_eq_true rfl) (fun p e s m args below meth c Q H locs ls A hE hZ hA hP hD hS hq hl => ?_)
  have hl : lv_has ls 2 [(0, .ref (a0 0)), (1, .int p1)] := hl
  have hx := hE.1
  have hb := hE.2.1
  rw [f_X8_tick_B] at hf
  refine lv_aload_n hx hb dX8_tick_0 rfl (lv_at hl 0 rfl) ?_
  refine g_get hE okX8 fl_X8_31 hP 0 rfl (v := .ref (a0 19)) rfl dX8_tick_1 ?_
  refine lv_ifnonnull hx hb dX8_tick_4 (tgt := 14) rfl ?_
  refine lv_iload_n hx hb dX8_tick_14 rfl (lv_at hl 1 rfl) ?_
  obtain ⟨r1, hc2, hf⟩ := gbd hf
  refine gr_callS (As := [.int p1]) (rest := []) (st1 := [.int r1]) hE hl.1 ml_X8_303 (c_X8_isTime l g p1 r1 hc2) hZ hS hP [] rfl rfl rfl rfl ⟨rfl, rfl⟩ ⟨Nat.le_of_ble_eq_true rfl, Nat.le_of_ble_eq_true rfl⟩ ⟨Nat.le_refl _, Nat.le_refl _⟩ (Nat.le_of_ble_eq_true rfl) dX8_tick_15 ?_
  refine lv_if_ne hx hb dX8_tick_18 (tgt := 28) rfl (fun h3 => ?_) (fun h3 => ?_)
  · have hf := gif_f h3 hf
    refine lv_aload_n hx hb dX8_tick_28 rfl (lv_at hl 0 rfl) ?_
    refine lv_aload_n hx hb dX8_tick_29 rfl (lv_at hl 0 rfl) ?_
    refine g_get hE okX8 fl_X8_31 hP 0 rfl (v := .ref (a0 19)) rfl dX8_tick_30 ?_
    refine lv_iload_n hx hb dX8_tick_33 rfl (lv_at hl 1 rfl) ?_
    obtain ⟨r4, hc5, hf⟩ := gbd hf
    refine gm_callV1 (As := [.int p1]) (rest := [.ref (a0 0)]) (st1 := fun _ => [.int (r4.1), .ref (a0 0)]) (ws' := fun _ => (OuB_c g a0 v_shelf (OuB_w_books s0 (r4.2)))) hE hl.1 ml_X8_306 (c_X1_advance l g (fun k => a0 (k + 19)) (OuB_books s0) p1 r4 hc5) hZ hP hD hS hA 19 44 rfl (fun _ => rfl) okX1 rfl rfl rfl (fun _ => rfl) ⟨rfl, rfl⟩ ⟨Nat.le_of_ble_eq_true rfl, Nat.le_of_ble_eq_true rfl⟩ ⟨Nat.le_refl _, Nat.le_refl _⟩ (Nat.le_of_ble_eq_true rfl) dX8_tick_34 (fun _ H locs hP hD hS => ?_)
    obtain ⟨r6, hc7, hf⟩ := gbd hf
    refine gm_callV1 (As := [.int (r4.1)]) (rest := []) (st1 := fun _ => [.int (r6.1)]) (ws' := fun _ => (OuB_c g a0 v_shelf (r6.2))) hE hl.1 ml_X8_103 (c_X8_accept_B l g a0 v_shelf (OuB_w_books s0 (r4.2)) (r4.1) r6 hc7) hZ hP hD hS hA 0 44 rfl (fun _ => rfl) okX8 rfl rfl rfl (fun _ => rfl) ⟨rfl, rfl⟩ ⟨Nat.le_of_ble_eq_true rfl, Nat.le_of_ble_eq_true rfl⟩ ⟨Nat.le_refl _, Nat.le_refl _⟩ (Nat.le_of_ble_eq_true rfl) dX8_tick_37 (fun _ H locs hP hD hS => ?_)
    cases hf
    exact hq () rfl hP hD hS dX8_tick_40
  · have hf := gif_t h3 hf
    refine lv_aload_n hx hb dX8_tick_21 rfl (lv_at hl 0 rfl) ?_
    refine lv_iconst hx hb dX8_tick_22 kci_2 ?_
    refine lv_iconst hx hb dX8_tick_23 kci_m1 ?_
    obtain ⟨r8, hc9, hf⟩ := gbd hf
    refine gm_callV1 (As := [.int (2 : Int32), .int (-1 : Int32)]) (rest := []) (st1 := fun _ => [.int (r8.1)]) (ws' := fun _ => (OuB_c g a0 v_shelf (r8.2))) hE hl.1 ml_X8_69 (c_X8_refuse_B l g a0 v_shelf s0 (2 : Int32) (-1 : Int32) r8 hc9) hZ hP hD hS hA 0 44 rfl (fun _ => rfl) okX8 rfl rfl rfl (fun _ => rfl) ⟨rfl, rfl⟩ ⟨Nat.le_of_ble_eq_true rfl, Nat.le_of_ble_eq_true rfl⟩ ⟨Nat.le_refl _, Nat.le_refl _⟩ (Nat.le_of_ble_eq_true rfl) dX8_tick_24 (fun _ H locs hP hD hS => ?_)
    cases hf
    exact hq () rfl hP hD hS dX8_tick_27
def f_X8_how_B (s0 : OuBT) (p1 : Int32) : Option (Int32 × OuBT) :=
  (f_X8_isHow p1).bind fun r1 =>
  if r1 = 0 then (f_X8_refuse_B s0 (2 : Int32) (-1 : Int32)).bind fun r8 =>
  some ((r8.1), (r8.2))
  else (f_X1_exchange (OuB_books s0) p1).bind fun r4 =>
  (f_X8_accept_B (OuB_w_books s0 (r4.2)) (r4.1)).bind fun r6 =>
  some ((r6.1), (r6.2))
abbrev rm_X8_how_B : Room := { frames := 5, cells := 0, slots := 0, locals := 119 }
set_option maxHeartbeats 4000000 in
set_option maxRecDepth 100000 in
theorem c_X8_how_B (l : Launch) (g : GK) (a0 : Nat → Nat) (v_shelf : Value) (s0 : OuBT) (p1 : Int32) (res : (Int32 × OuBT)) (hf : f_X8_how_B s0 p1 = some res) : gM l yX8_how cX8_how 2 (some .int) rm_X8_how_B g [.ref (a0 0), .int p1] (OuB_c g a0 v_shelf s0) (fun _ : Unit => (some (.int (res.1)))) (fun _ => (OuB_c g a0 v_shelf (res.2))) 0 0 := by
  refine gM_introI RX8 (by decide) rfl (Nat.le_of_ble_eq_true rfl) (fun p e s m args below meth c Q H locs ls A hE hZ hA hP hD hS hq hl => ?_)
  have hl : lv_has ls 2 [(0, .ref (a0 0)), (1, .int p1)] := hl
  have hx := hE.1
  have hb := hE.2.1
  rw [f_X8_how_B] at hf
  refine lv_aload_n hx hb dX8_how_0 rfl (lv_at hl 0 rfl) ?_
  refine g_get hE okX8 fl_X8_31 hP 0 rfl (v := .ref (a0 19)) rfl dX8_how_1 ?_
  refine lv_ifnonnull hx hb dX8_how_4 (tgt := 14) rfl ?_
  refine lv_iload_n hx hb dX8_how_14 rfl (lv_at hl 1 rfl) ?_
  obtain ⟨r1, hc2, hf⟩ := gbd hf
  refine gr_callS (As := [.int p1]) (rest := []) (st1 := [.int r1]) hE hl.1 ml_X8_297 (c_X8_isHow l g p1 r1 hc2) hZ hS hP [] rfl rfl rfl rfl ⟨rfl, rfl⟩ ⟨Nat.le_of_ble_eq_true rfl, Nat.le_of_ble_eq_true rfl⟩ ⟨Nat.le_refl _, Nat.le_refl _⟩ (Nat.le_of_ble_eq_true rfl) dX8_how_15 ?_
  refine lv_if_ne hx hb dX8_how_18 (tgt := 28) rfl (fun h3 => ?_) (fun h3 => ?_)
  · have hf := gif_f h3 hf
    refine lv_aload_n hx hb dX8_how_28 rfl (lv_at hl 0 rfl) ?_
    refine lv_aload_n hx hb dX8_how_29 rfl (lv_at hl 0 rfl) ?_
    refine g_get hE okX8 fl_X8_31 hP 0 rfl (v := .ref (a0 19)) rfl dX8_how_30 ?_
    refine lv_iload_n hx hb dX8_how_33 rfl (lv_at hl 1 rfl) ?_
    obtain ⟨r4, hc5, hf⟩ := gbd hf
    refine gm_callV1 (As := [.int p1]) (rest := [.ref (a0 0)]) (st1 := fun _ => [.int (r4.1), .ref (a0 0)]) (ws' := fun _ => (OuB_c g a0 v_shelf (OuB_w_books s0 (r4.2)))) hE hl.1 ml_X8_309 (c_X1_exchange l g (fun k => a0 (k + 19)) (OuB_books s0) p1 r4 hc5) hZ hP hD hS hA 19 44 rfl (fun _ => rfl) okX1 rfl rfl rfl (fun _ => rfl) ⟨rfl, rfl⟩ ⟨Nat.le_of_ble_eq_true rfl, Nat.le_of_ble_eq_true rfl⟩ ⟨Nat.le_refl _, Nat.le_refl _⟩ (Nat.le_of_ble_eq_true rfl) dX8_how_34 (fun _ H locs hP hD hS => ?_)
    obtain ⟨r6, hc7, hf⟩ := gbd hf
    refine gm_callV1 (As := [.int (r4.1)]) (rest := []) (st1 := fun _ => [.int (r6.1)]) (ws' := fun _ => (OuB_c g a0 v_shelf (r6.2))) hE hl.1 ml_X8_103 (c_X8_accept_B l g a0 v_shelf (OuB_w_books s0 (r4.2)) (r4.1) r6 hc7) hZ hP hD hS hA 0 44 rfl (fun _ => rfl) okX8 rfl rfl rfl (fun _ => rfl) ⟨rfl, rfl⟩ ⟨Nat.le_of_ble_eq_true rfl, Nat.le_of_ble_eq_true rfl⟩ ⟨Nat.le_refl _, Nat.le_refl _⟩ (Nat.le_of_ble_eq_true rfl) dX8_how_37 (fun _ H locs hP hD hS => ?_)
    cases hf
    exact hq () rfl hP hD hS dX8_how_40
  · have hf := gif_t h3 hf
    refine lv_aload_n hx hb dX8_how_21 rfl (lv_at hl 0 rfl) ?_
    refine lv_iconst hx hb dX8_how_22 kci_2 ?_
    refine lv_iconst hx hb dX8_how_23 kci_m1 ?_
    obtain ⟨r8, hc9, hf⟩ := gbd hf
    refine gm_callV1 (As := [.int (2 : Int32), .int (-1 : Int32)]) (rest := []) (st1 := fun _ => [.int (r8.1)]) (ws' := fun _ => (OuB_c g a0 v_shelf (r8.2))) hE hl.1 ml_X8_69 (c_X8_refuse_B l g a0 v_shelf s0 (2 : Int32) (-1 : Int32) r8 hc9) hZ hP hD hS hA 0 44 rfl (fun _ => rfl) okX8 rfl rfl rfl (fun _ => rfl) ⟨rfl, rfl⟩ ⟨Nat.le_of_ble_eq_true rfl, Nat.le_of_ble_eq_true rfl⟩ ⟨Nat.le_refl _, Nat.le_refl _⟩ (Nat.le_of_ble_eq_true rfl) dX8_how_24 (fun _ H locs hP hD hS => ?_)
    cases hf
    exact hq () rfl hP hD hS dX8_how_27
def f_X8_bounds_B (s0 : OuBT) (p1 : Int32) (p2 : Int32) : Option (Int32 × OuBT) :=
  glt (fun (_ : Unit) => (f_X8_refuse_B s0 (2 : Int32) (0 : Int32)).bind fun r2 =>
  if (r2.1) = 0 then some ((0 : Int32), (r2.2))
  else some ((1 : Int32), (r2.2))) fun J1 =>
  if p1 < (1 : Int32) then J1 ()
  else if (999 : Int32) < p1 then J1 ()
  else if p2 < 0 then J1 ()
  else if p2 ≤ (999 : Int32) then (f_X8_accept_B (OuB_w_books s0 (Bk_w_late (Bk_w_keep (OuB_books s0) p1) p2)) (1 : Int32)).bind fun r9 =>
  if (r9.1) = 0 then some ((0 : Int32), (r9.2))
  else some ((1 : Int32), (r9.2))
  else J1 ()
abbrev rm_X8_bounds_B : Room := { frames := 1, cells := 0, slots := 0, locals := 22 }
set_option maxHeartbeats 4000000 in
set_option maxRecDepth 100000 in
theorem c_X8_bounds_B (l : Launch) (g : GK) (a0 : Nat → Nat) (v_shelf : Value) (s0 : OuBT) (p1 : Int32) (p2 : Int32) (res : (Int32 × OuBT)) (hf : f_X8_bounds_B s0 p1 p2 = some res) : gM l yX8_bounds cX8_bounds 3 (some .boolean) rm_X8_bounds_B g [.ref (a0 0), .int p1, .int p2] (OuB_c g a0 v_shelf s0) (fun _ : Unit => (some (.int (res.1)))) (fun _ => (OuB_c g a0 v_shelf (res.2))) 0 0 := by
  refine gM_introZ RX8 (by decide) rfl (Nat.le_of_ble_eq_true rfl) (fun p e s m args below meth c Q H locs ls A hE hZ hA hP hD hS hq hl => ?_)
  have hl : lv_has ls 3 [(0, .ref (a0 0)), (1, .int p1), (2, .int p2)] := hl
  have hx := hE.1
  have hb := hE.2.1
  rw [f_X8_bounds_B] at hf
  refine lv_aload_n hx hb dX8_bounds_0 rfl (lv_at hl 0 rfl) ?_
  refine g_get hE okX8 fl_X8_31 hP 0 rfl (v := .ref (a0 19)) rfl dX8_bounds_1 ?_
  refine lv_ifnonnull hx hb dX8_bounds_4 (tgt := 22) rfl ?_
  refine lv_iload_n hx hb dX8_bounds_22 rfl (lv_at hl 1 rfl) ?_
  refine lv_iconst hx hb dX8_bounds_23 kci_1 ?_
  obtain ⟨J1, eJ1, hf⟩ := gltd hf
  have kJ1 : ∀ (_ : Unit) (ls : Array Slot) (H : Heap) (locs : List Loc), J1 () = some res → lv_has ls 3 [(0, .ref (a0 0))] → gP g (OuB_c g a0 v_shelf s0) H → va_D A (OuB_c g a0 v_shelf s0) → va_S A s.heap H locs → W p l e rm_X8_bounds_B s m args below meth c H locs 0 0 Q (F0 m 45 ls []) := by
    intro _ ls H locs hf hl hP hD hS
    rw [eJ1] at hf
    refine lv_aload_n hx hb dX8_bounds_45 rfl (lv_at hl 0 rfl) ?_
    refine lv_iconst hx hb dX8_bounds_46 kci_2 ?_
    refine lv_iconst hx hb dX8_bounds_47 kci_0 ?_
    obtain ⟨r2, hc3, hf⟩ := gbd hf
    refine gm_callV1 (As := [.int (2 : Int32), .int (0 : Int32)]) (rest := []) (st1 := fun _ => [.int (r2.1)]) (ws' := fun _ => (OuB_c g a0 v_shelf (r2.2))) hE hl.1 ml_X8_69 (c_X8_refuse_B l g a0 v_shelf s0 (2 : Int32) (0 : Int32) r2 hc3) hZ hP hD hS hA 0 44 rfl (fun _ => rfl) okX8 rfl rfl rfl (fun _ => rfl) ⟨rfl, rfl⟩ ⟨Nat.le_of_ble_eq_true rfl, Nat.le_of_ble_eq_true rfl⟩ ⟨Nat.le_refl _, Nat.le_refl _⟩ (Nat.le_of_ble_eq_true rfl) dX8_bounds_48 (fun _ H locs hP hD hS => ?_)
    refine lv_if_eq hx hb dX8_bounds_51 (tgt := 58) rfl (fun h4 => ?_) (fun h4 => ?_)
    · have hf := gif_t h4 hf
      refine lv_iconst hx hb dX8_bounds_58 kci_0 ?_
      cases hf
      exact hq () (by decide) rfl hP hD hS dX8_bounds_59
    · have hf := gif_f h4 hf
      refine lv_iconst hx hb dX8_bounds_54 kci_1 ?_
      refine lv_goto hx hb dX8_bounds_55 (tgt := 59) rfl ?_
      cases hf
      exact hq () (by decide) rfl hP hD hS dX8_bounds_59
  refine lv_icmp_lt hx hb dX8_bounds_24 (tgt := 45) rfl (fun h5 => ?_) (fun h5 => ?_)
  · have hf := gif_t h5 hf
    exact kJ1 () ls H locs hf (lv_sub hl [0] rfl) hP hD hS
  · have hf := gif_f h5 hf
    refine lv_iload_n hx hb dX8_bounds_27 rfl (lv_at hl 1 rfl) ?_
    refine lv_sipush hx hb dX8_bounds_28 kcs_999 ?_
    refine lv_icmp_gt hx hb dX8_bounds_31 (tgt := 45) rfl (fun h6 => ?_) (fun h6 => ?_)
    · have hf := gif_t h6 hf
      exact kJ1 () ls H locs hf (lv_sub hl [0] rfl) hP hD hS
    · have hf := gif_f h6 hf
      refine lv_iload_n hx hb dX8_bounds_34 rfl (lv_at hl 2 rfl) ?_
      refine lv_if_lt hx hb dX8_bounds_35 (tgt := 45) rfl (fun h7 => ?_) (fun h7 => ?_)
      · have hf := gif_t h7 hf
        exact kJ1 () ls H locs hf (lv_sub hl [0] rfl) hP hD hS
      · have hf := gif_f h7 hf
        refine lv_iload_n hx hb dX8_bounds_38 rfl (lv_at hl 2 rfl) ?_
        refine lv_sipush hx hb dX8_bounds_39 kcs_999 ?_
        refine lv_icmp_le hx hb dX8_bounds_42 (tgt := 60) rfl (fun h8 => ?_) (fun h8 => ?_)
        · have hf := gif_t h8 hf
          refine lv_aload_n hx hb dX8_bounds_60 rfl (lv_at hl 0 rfl) ?_
          refine g_get hE okX8 fl_X8_31 hP 0 rfl (v := .ref (a0 19)) rfl dX8_bounds_61 ?_
          refine lv_iload_n hx hb dX8_bounds_64 rfl (lv_at hl 1 rfl) ?_
          refine g_put hE okX1 fl_X8_312 hP hD hS 19 rfl rfl rfl rfl (Nat.le_of_ble_eq_true rfl) (OuB_c g a0 v_shelf (OuB_w_books s0 (Bk_w_keep (OuB_books s0) p1))) rfl dX8_bounds_65 (fun H locs hP hD hS => ?_)
          refine lv_aload_n hx hb dX8_bounds_68 rfl (lv_at hl 0 rfl) ?_
          refine g_get hE okX8 fl_X8_31 hP 0 rfl (v := .ref (a0 19)) rfl dX8_bounds_69 ?_
          refine lv_iload_n hx hb dX8_bounds_72 rfl (lv_at hl 2 rfl) ?_
          refine g_put hE okX1 fl_X8_313 hP hD hS 19 rfl rfl rfl rfl (Nat.le_of_ble_eq_true rfl) (OuB_c g a0 v_shelf (OuB_w_books s0 (Bk_w_late (Bk_w_keep (OuB_books s0) p1) p2))) rfl dX8_bounds_73 (fun H locs hP hD hS => ?_)
          refine lv_aload_n hx hb dX8_bounds_76 rfl (lv_at hl 0 rfl) ?_
          refine lv_iconst hx hb dX8_bounds_77 kci_1 ?_
          obtain ⟨r9, hc10, hf⟩ := gbd hf
          refine gm_callV1 (As := [.int (1 : Int32)]) (rest := []) (st1 := fun _ => [.int (r9.1)]) (ws' := fun _ => (OuB_c g a0 v_shelf (r9.2))) hE hl.1 ml_X8_103 (c_X8_accept_B l g a0 v_shelf (OuB_w_books s0 (Bk_w_late (Bk_w_keep (OuB_books s0) p1) p2)) (1 : Int32) r9 hc10) hZ hP hD hS hA 0 44 rfl (fun _ => rfl) okX8 rfl rfl rfl (fun _ => rfl) ⟨rfl, rfl⟩ ⟨Nat.le_of_ble_eq_true rfl, Nat.le_of_ble_eq_true rfl⟩ ⟨Nat.le_refl _, Nat.le_refl _⟩ (Nat.le_of_ble_eq_true rfl) dX8_bounds_78 (fun _ H locs hP hD hS => ?_)
          refine lv_if_eq hx hb dX8_bounds_81 (tgt := 88) rfl (fun h11 => ?_) (fun h11 => ?_)
          · have hf := gif_t h11 hf
            refine lv_iconst hx hb dX8_bounds_88 kci_0 ?_
            cases hf
            exact hq () (by decide) rfl hP hD hS dX8_bounds_89
          · have hf := gif_f h11 hf
            refine lv_iconst hx hb dX8_bounds_84 kci_1 ?_
            refine lv_goto hx hb dX8_bounds_85 (tgt := 89) rfl ?_
            cases hf
            exact hq () (by decide) rfl hP hD hS dX8_bounds_89
        · have hf := gif_f h8 hf
          exact kJ1 () ls H locs hf (lv_sub hl [0] rfl) hP hD hS
def f_X8_size_B (s0 : OuBT) (p1 : Int32) : Option (Int32) :=
  if p1 = (0 : Int32) then some ((Tp_length (Rd_tape (OuB_reader s0))))
  else if p1 = (1 : Int32) then (f_X2_remembered (Bd_ledger (Bk_board (OuB_books s0)))).bind fun r3 =>
  some (r3)
  else if p1 = (2 : Int32) then some ((St_count (Bk_store (OuB_books s0))))
  else if p1 = (3 : Int32) then if (OuB_isKept s0) = 0 then some ((0 : Int32))
  else some ((1 : Int32))
  else if p1 = (4 : Int32) then (f_X5_countBegun (Bk_subscribers (OuB_books s0))).bind fun r9 =>
  some (r9)
  else some ((-1 : Int32))
abbrev rm_X8_size_B : Room := { frames := 2, cells := 0, slots := 0, locals := 43 }
set_option maxHeartbeats 4000000 in
set_option maxRecDepth 100000 in
theorem c_X8_size_B (l : Launch) (g : GK) (a0 : Nat → Nat) (v_shelf : Value) (s0 : OuBT) (p1 : Int32) (res : (Int32)) (hf : f_X8_size_B s0 p1 = some res) : gR l yX8_size cX8_size 2 (some .int) rm_X8_size_B g [.ref (a0 0), .int p1] (OuB_c g a0 v_shelf s0) (some (.int res)) := by
  refine gR_introI RX8 (by decide) rfl (Nat.le_of_ble_eq_true rfl) (fun p e s m args below meth c Q H locs ls hE hP hZ hS hq hl => ?_)
  have hl : lv_has ls 2 [(0, .ref (a0 0)), (1, .int p1)] := hl
  have hx := hE.1
  have hb := hE.2.1
  rw [f_X8_size_B] at hf
  refine lv_iload_n hx hb dX8_size_0 rfl (lv_at hl 1 rfl) ?_
  by_cases h1 : p1 = (0 : Int32)
  · have hf := gif_t h1 hf
    refine g_swIn hE h1 dX8_size_1 (0) ⟨by decide, by decide⟩ (by decide) (off := 35) rfl (tgt := 36) rfl ?_
    refine lv_aload_n hx hb dX8_size_36 rfl (lv_at hl 0 rfl) ?_
    refine g_get hE okX8 fl_X8_14 hP 0 rfl (v := .ref (a0 1)) rfl dX8_size_37 ?_
    refine g_get hE okX3 fl_X8_52 hP 1 rfl (v := .ref (a0 2)) rfl dX8_size_40 ?_
    refine g_get hE okX6 fl_X8_66 hP 2 rfl (v := .int (Tp_length (Rd_tape (OuB_reader s0)))) rfl dX8_size_43 ?_
    cases hf
    exact hq rfl dX8_size_46
  have hf := gif_f h1 hf
  by_cases h2 : p1 = (1 : Int32)
  · have hf := gif_t h2 hf
    refine g_swIn hE h2 dX8_size_1 (1) ⟨by decide, by decide⟩ (by decide) (off := 46) rfl (tgt := 47) rfl ?_
    refine lv_aload_n hx hb dX8_size_47 rfl (lv_at hl 0 rfl) ?_
    refine g_get hE okX8 fl_X8_31 hP 0 rfl (v := .ref (a0 19)) rfl dX8_size_48 ?_
    refine lv_ifnonnull hx hb dX8_size_51 (tgt := 58) rfl ?_
    refine lv_aload_n hx hb dX8_size_58 rfl (lv_at hl 0 rfl) ?_
    refine g_get hE okX8 fl_X8_31 hP 0 rfl (v := .ref (a0 19)) rfl dX8_size_59 ?_
    refine g_get hE okX1 fl_X8_139 hP 19 rfl (v := .ref (a0 24)) rfl dX8_size_62 ?_
    refine g_get hE okX0 fl_X8_192 hP 24 rfl (v := .ref (a0 28)) rfl dX8_size_65 ?_
    obtain ⟨r3, hc4, hf⟩ := gbd hf
    refine gr_callV (As := []) (rest := []) (st1 := [.int r3]) hE hl.1 ml_X8_328 (c_X2_remembered l g (fun k => a0 (k + 28)) (Bd_ledger (Bk_board (OuB_books s0))) r3 hc4) hZ hS hP [(28, 5)] rfl okX2 rfl rfl rfl rfl ⟨rfl, rfl⟩ ⟨Nat.le_of_ble_eq_true rfl, Nat.le_of_ble_eq_true rfl⟩ ⟨Nat.le_refl _, Nat.le_refl _⟩ (Nat.le_of_ble_eq_true rfl) dX8_size_68 ?_
    cases hf
    exact hq rfl dX8_size_71
  have hf := gif_f h2 hf
  by_cases h5 : p1 = (2 : Int32)
  · have hf := gif_t h5 hf
    refine g_swIn hE h5 dX8_size_1 (2) ⟨by decide, by decide⟩ (by decide) (off := 71) rfl (tgt := 72) rfl ?_
    refine lv_aload_n hx hb dX8_size_72 rfl (lv_at hl 0 rfl) ?_
    refine g_get hE okX8 fl_X8_31 hP 0 rfl (v := .ref (a0 19)) rfl dX8_size_73 ?_
    refine lv_ifnonnull hx hb dX8_size_76 (tgt := 83) rfl ?_
    refine lv_aload_n hx hb dX8_size_83 rfl (lv_at hl 0 rfl) ?_
    refine g_get hE okX8 fl_X8_31 hP 0 rfl (v := .ref (a0 19)) rfl dX8_size_84 ?_
    refine g_get hE okX1 fl_X8_279 hP 19 rfl (v := .ref (a0 33)) rfl dX8_size_87 ?_
    refine g_get hE okX4 fl_X8_283 hP 33 rfl (v := .int (St_count (Bk_store (OuB_books s0)))) rfl dX8_size_90 ?_
    cases hf
    exact hq rfl dX8_size_93
  have hf := gif_f h5 hf
  by_cases h6 : p1 = (3 : Int32)
  · have hf := gif_t h6 hf
    refine g_swIn hE h6 dX8_size_1 (3) ⟨by decide, by decide⟩ (by decide) (off := 93) rfl (tgt := 94) rfl ?_
    refine lv_aload_n hx hb dX8_size_94 rfl (lv_at hl 0 rfl) ?_
    refine g_get hE okX8 fl_X8_38 hP 0 rfl (v := .int (OuB_isKept s0)) rfl dX8_size_95 ?_
    refine lv_if_eq hx hb dX8_size_98 (tgt := 105) rfl (fun h7 => ?_) (fun h7 => ?_)
    · have hf := gif_t h7 hf
      refine lv_iconst hx hb dX8_size_105 kci_0 ?_
      cases hf
      exact hq rfl dX8_size_106
    · have hf := gif_f h7 hf
      refine lv_iconst hx hb dX8_size_101 kci_1 ?_
      refine lv_goto hx hb dX8_size_102 (tgt := 106) rfl ?_
      cases hf
      exact hq rfl dX8_size_106
  have hf := gif_f h6 hf
  by_cases h8 : p1 = (4 : Int32)
  · have hf := gif_t h8 hf
    refine g_swIn hE h8 dX8_size_1 (4) ⟨by decide, by decide⟩ (by decide) (off := 106) rfl (tgt := 107) rfl ?_
    refine lv_aload_n hx hb dX8_size_107 rfl (lv_at hl 0 rfl) ?_
    refine g_get hE okX8 fl_X8_31 hP 0 rfl (v := .ref (a0 19)) rfl dX8_size_108 ?_
    refine lv_ifnonnull hx hb dX8_size_111 (tgt := 118) rfl ?_
    refine lv_aload_n hx hb dX8_size_118 rfl (lv_at hl 0 rfl) ?_
    refine g_get hE okX8 fl_X8_31 hP 0 rfl (v := .ref (a0 19)) rfl dX8_size_119 ?_
    refine g_get hE okX1 fl_X8_216 hP 19 rfl (v := .ref (a0 38)) rfl dX8_size_122 ?_
    obtain ⟨r9, hc10, hf⟩ := gbd hf
    refine gr_callV (As := []) (rest := []) (st1 := [.int r9]) hE hl.1 ml_X8_331 (c_X5_countBegun l g (fun k => a0 (k + 38)) (Bk_subscribers (OuB_books s0)) r9 hc10) hZ hS hP [(38, 4)] rfl okX5 rfl rfl rfl rfl ⟨rfl, rfl⟩ ⟨Nat.le_of_ble_eq_true rfl, Nat.le_of_ble_eq_true rfl⟩ ⟨Nat.le_refl _, Nat.le_refl _⟩ (Nat.le_of_ble_eq_true rfl) dX8_size_125 ?_
    cases hf
    exact hq rfl dX8_size_128
  have hf := gif_f h8 hf
  refine lv_tableOut hx hb dX8_size_1 (by have := nti h1 (k := 0) (by decide); have := nti h2 (k := 1) (by decide); have := nti h5 (k := 2) (by decide); have := nti h6 (k := 3) (by decide); have := nti h8 (k := 4) (by decide); omega) (tgt := 129) rfl ?_
  refine lv_iconst hx hb dX8_size_129 kci_m1 ?_
  cases hf
  exact hq rfl dX8_size_130
def f_X8_trouble_B (s0 : OuBT) : Option (Int32) :=
  some ((OuB_trouble s0))
abbrev rm_X8_trouble_B : Room := { frames := 0, cells := 0, slots := 0, locals := 0 }
set_option maxHeartbeats 4000000 in
set_option maxRecDepth 100000 in
theorem c_X8_trouble_B (l : Launch) (g : GK) (a0 : Nat → Nat) (v_shelf : Value) (s0 : OuBT) (res : (Int32)) (hf : f_X8_trouble_B s0 = some res) : gR l yX8_trouble cX8_trouble 1 (some .int) rm_X8_trouble_B g [.ref (a0 0)] (OuB_c g a0 v_shelf s0) (some (.int res)) := by
  refine gR_introI RX8 (by decide) rfl (Nat.le_of_ble_eq_true rfl) (fun p e s m args below meth c Q H locs ls hE hP hZ hS hq hl => ?_)
  have hl : lv_has ls 1 [(0, .ref (a0 0))] := hl
  have hx := hE.1
  have hb := hE.2.1
  rw [f_X8_trouble_B] at hf
  refine lv_aload_n hx hb dX8_trouble_0 rfl (lv_at hl 0 rfl) ?_
  refine g_get hE okX8 fl_X8_42 hP 0 rfl (v := .int (OuB_trouble s0)) rfl dX8_trouble_1 ?_
  cases hf
  exact hq rfl dX8_trouble_4
