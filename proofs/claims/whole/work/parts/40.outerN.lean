abbrev OuNT : Type := RdT × BdT × (Nat → Int32) × Int32 × Int32 × Int32 × Int32
abbrev OuN_reader (s : OuNT) : RdT := s.1
abbrev OuN_trial (s : OuNT) : BdT := s.2.1
abbrev OuN_order (s : OuNT) : (Nat → Int32) := s.2.2.1
abbrev OuN_isKept (s : OuNT) : Int32 := s.2.2.2.1
abbrev OuN_trouble (s : OuNT) : Int32 := s.2.2.2.2.1
abbrev OuN_fault (s : OuNT) : Int32 := s.2.2.2.2.2.1
abbrev OuN_place (s : OuNT) : Int32 := s.2.2.2.2.2.2
abbrev OuN_mk (x0 : RdT) (x1 : BdT) (x2 : (Nat → Int32)) (x3 : Int32) (x4 : Int32) (x5 : Int32) (x6 : Int32) : OuNT := (x0, x1, x2, x3, x4, x5, x6)
abbrev OuN_w_reader (s : OuNT) (v : RdT) : OuNT := (v, s.2.1, s.2.2.1, s.2.2.2.1, s.2.2.2.2.1, s.2.2.2.2.2.1, s.2.2.2.2.2.2)
abbrev OuN_w_trial (s : OuNT) (v : BdT) : OuNT := (s.1, v, s.2.2.1, s.2.2.2.1, s.2.2.2.2.1, s.2.2.2.2.2.1, s.2.2.2.2.2.2)
abbrev OuN_w_order (s : OuNT) (v : (Nat → Int32)) : OuNT := (s.1, s.2.1, v, s.2.2.2.1, s.2.2.2.2.1, s.2.2.2.2.2.1, s.2.2.2.2.2.2)
abbrev OuN_w_isKept (s : OuNT) (v : Int32) : OuNT := (s.1, s.2.1, s.2.2.1, v, s.2.2.2.2.1, s.2.2.2.2.2.1, s.2.2.2.2.2.2)
abbrev OuN_w_trouble (s : OuNT) (v : Int32) : OuNT := (s.1, s.2.1, s.2.2.1, s.2.2.2.1, v, s.2.2.2.2.2.1, s.2.2.2.2.2.2)
abbrev OuN_w_fault (s : OuNT) (v : Int32) : OuNT := (s.1, s.2.1, s.2.2.1, s.2.2.2.1, s.2.2.2.2.1, v, s.2.2.2.2.2.2)
abbrev OuN_w_place (s : OuNT) (v : Int32) : OuNT := (s.1, s.2.1, s.2.2.1, s.2.2.2.1, s.2.2.2.2.1, s.2.2.2.2.2.1, v)
abbrev OuN_c (g : GK) (a : Nat → Nat) (s : OuNT) : va_W := [(a 0, .inr (9, [.ref (a 1), .ref (a 9), .ref (a 18), .null, .null, .int (OuN_isKept s), .int (OuN_trouble s), .int (OuN_fault s), .int (OuN_place s)])), (a 1, .inr (4, [.ref (a 2), .ref (a 4), .ref (a 6), .ref (a 8), .int (Rd_count (OuN_reader s)), .int (Rd_hasDesk (OuN_reader s)), .int (Rd_how (OuN_reader s)), .int (Rd_keep (OuN_reader s)), .int (Rd_late (OuN_reader s)), .int (Rd_number (OuN_reader s)), .int (Rd_fault (OuN_reader s)), .int (Rd_place (OuN_reader s))])), (a 2, .inr (7, [.ref (a 3), .int (Tp_length (Rd_tape (OuN_reader s))), .int (Tp_end (Rd_tape (OuN_reader s))), .int (Tp_at (Rd_tape (OuN_reader s))), .int (Tp_kind (Rd_tape (OuN_reader s))), .int (Tp_start (Rd_tape (OuN_reader s))), .long (Tp_word (Rd_tape (OuN_reader s))), .int (Tp_whole (Rd_tape (OuN_reader s)))])), (a 3, .inl (g.2.2.2.1, 900, .inl (Tp_bytes (Rd_tape (OuN_reader s))))), (a 4, .inr (8, [.ref (a 5), .int (Wd_count (Rd_keys (OuN_reader s)))])), (a 5, .inl (g.2.2.1, 8, .inr (.inl (Wd_packs (Rd_keys (OuN_reader s)))))), (a 6, .inr (8, [.ref (a 7), .int (Wd_count (Rd_values (OuN_reader s)))])), (a 7, .inl (g.2.2.1, 8, .inr (.inl (Wd_packs (Rd_values (OuN_reader s)))))), (a 8, .inl (g.2.1, 200, .inl (Rd_lines (OuN_reader s)))), (a 9, .inr (1, [.ref (a 10), .ref (a 11), .ref (a 12), .ref (a 13), .int (Bd_how (OuN_trial s))])), (a 10, .inl (g.2.1, 128, .inl (Bd_nets (OuN_trial s)))), (a 11, .inl (g.2.1, 648, .inl (Bd_sums (OuN_trial s)))), (a 12, .inl (g.2.1, 16, .inl (Bd_turns (OuN_trial s)))), (a 13, .inr (3, [.ref (a 14), .ref (a 15), .ref (a 16), .ref (a 17), .int (Lg_total (Bd_ledger (OuN_trial s))), .int (Lg_came (Bd_ledger (OuN_trial s))), .int (Lg_went (Bd_ledger (OuN_trial s))), .int (Lg_acts (Bd_ledger (OuN_trial s))), .int (Lg_inAct (Bd_ledger (OuN_trial s))), .int (Lg_most (Bd_ledger (OuN_trial s))), .int (Lg_actOfMost (Bd_ledger (OuN_trial s)))])), (a 14, .inl (g.2.1, 60, .inl (Lg_places (Bd_ledger (OuN_trial s))))), (a 15, .inl (g.2.1, 60, .inl (Lg_amounts (Bd_ledger (OuN_trial s))))), (a 16, .inl (g.2.1, 60, .inl (Lg_numbers (Bd_ledger (OuN_trial s))))), (a 17, .inl (g.2.1, 8, .inl (Lg_byKey (Bd_ledger (OuN_trial s))))), (a 18, .inl (g.2.1, 60, .inl (OuN_order s)))]
theorem kcb_m9 : (Int8.ofInt (-9)).toInt32 = (-9 : Int32) := by decide
theorem kcb_20 : (Int8.ofInt (20)).toInt32 = (20 : Int32) := by decide
theorem kd_X8_138 : Cond.constant RX8 138 (-2147483648 : Int32) ∈ TBL := tb (in3 (List.mem_of_getElem? (i := 171) (by decide +kernel))) (by decide +kernel)
theorem dX8_isKey_0 : decode cX8_isKey 0 = .ok (.aload_n 0, 1) := by decide +kernel
theorem dX8_isKey_1 : decode cX8_isKey 1 = .ok (.getfield 31, 3) := by decide +kernel
theorem dX8_isKey_4 : decode cX8_isKey 4 = .ok (.ifnull 21, 3) := by decide +kernel
theorem dX8_isKey_7 : decode cX8_isKey 7 = .ok (.aload_n 0, 1) := by decide +kernel
theorem dX8_isKey_8 : decode cX8_isKey 8 = .ok (.getfield 31, 3) := by decide +kernel
theorem dX8_isKey_11 : decode cX8_isKey 11 = .ok (.getfield 107, 3) := by decide +kernel
theorem dX8_isKey_14 : decode cX8_isKey 14 = .ok (.iload_n 1, 1) := by decide +kernel
theorem dX8_isKey_15 : decode cX8_isKey 15 = .ok (.invokevirtual 121, 3) := by decide +kernel
theorem dX8_isKey_18 : decode cX8_isKey 18 = .ok (.ifCond .eq 7, 3) := by decide +kernel
theorem dX8_isKey_21 : decode cX8_isKey 21 = .ok (.iconst 1, 1) := by decide +kernel
theorem dX8_isKey_22 : decode cX8_isKey 22 = .ok (.goto 4, 3) := by decide +kernel
theorem dX8_isKey_25 : decode cX8_isKey 25 = .ok (.iconst 0, 1) := by decide +kernel
theorem dX8_isKey_26 : decode cX8_isKey 26 = .ok (.ireturn, 1) := by decide +kernel
def f_X8_isKey_N (s0 : OuNT) (p1 : Int32) : Option (Int32) :=
  some ((0 : Int32))
abbrev rm_X8_isKey_N : Room := { frames := 1, cells := 0, slots := 0, locals := 21 }
set_option maxHeartbeats 4000000 in
set_option maxRecDepth 100000 in
theorem c_X8_isKey_N (l : Launch) (g : GK) (a0 : Nat → Nat) (s0 : OuNT) (p1 : Int32) (res : (Int32)) (hf : f_X8_isKey_N s0 p1 = some res) : gR l yX8_isKey cX8_isKey 2 (some .boolean) rm_X8_isKey_N g [.ref (a0 0), .int p1] (OuN_c g a0 s0) (some (.int res)) := by
  refine gR_introZ RX8 (by decide) rfl (Nat.le_of_ble_eq_true rfl) (fun p e s m args below meth c Q H locs ls hE hP hZ hS hq hl => ?_)
  have hl : lv_has ls 2 [(0, .ref (a0 0)), (1, .int p1)] := hl
  have hx := hE.1
  have hb := hE.2.1
  rw [f_X8_isKey_N] at hf
  refine lv_aload_n hx hb dX8_isKey_0 rfl (lv_at hl 0 rfl) ?_
  refine g_get hE okX8 fl_X8_31 hP 0 rfl (v := .null) rfl dX8_isKey_1 ?_
  refine lv_ifnullN hx hb dX8_isKey_4 (tgt := 25) rfl ?_
  refine lv_iconst hx hb dX8_isKey_25 kci_0 ?_
  cases hf
  exact hq (by decide) rfl dX8_isKey_26
theorem dX8_isValue_0 : decode cX8_isValue 0 = .ok (.aload_n 0, 1) := by decide +kernel
theorem dX8_isValue_1 : decode cX8_isValue 1 = .ok (.getfield 31, 3) := by decide +kernel
theorem dX8_isValue_4 : decode cX8_isValue 4 = .ok (.ifnull 21, 3) := by decide +kernel
theorem dX8_isValue_7 : decode cX8_isValue 7 = .ok (.aload_n 0, 1) := by decide +kernel
theorem dX8_isValue_8 : decode cX8_isValue 8 = .ok (.getfield 31, 3) := by decide +kernel
theorem dX8_isValue_11 : decode cX8_isValue 11 = .ok (.getfield 111, 3) := by decide +kernel
theorem dX8_isValue_14 : decode cX8_isValue 14 = .ok (.iload_n 1, 1) := by decide +kernel
theorem dX8_isValue_15 : decode cX8_isValue 15 = .ok (.invokevirtual 121, 3) := by decide +kernel
theorem dX8_isValue_18 : decode cX8_isValue 18 = .ok (.ifCond .eq 7, 3) := by decide +kernel
theorem dX8_isValue_21 : decode cX8_isValue 21 = .ok (.iconst 1, 1) := by decide +kernel
theorem dX8_isValue_22 : decode cX8_isValue 22 = .ok (.goto 4, 3) := by decide +kernel
theorem dX8_isValue_25 : decode cX8_isValue 25 = .ok (.iconst 0, 1) := by decide +kernel
theorem dX8_isValue_26 : decode cX8_isValue 26 = .ok (.ireturn, 1) := by decide +kernel
def f_X8_isValue_N (s0 : OuNT) (p1 : Int32) : Option (Int32) :=
  some ((0 : Int32))
abbrev rm_X8_isValue_N : Room := { frames := 1, cells := 0, slots := 0, locals := 21 }
set_option maxHeartbeats 4000000 in
set_option maxRecDepth 100000 in
theorem c_X8_isValue_N (l : Launch) (g : GK) (a0 : Nat → Nat) (s0 : OuNT) (p1 : Int32) (res : (Int32)) (hf : f_X8_isValue_N s0 p1 = some res) : gR l yX8_isValue cX8_isValue 2 (some .boolean) rm_X8_isValue_N g [.ref (a0 0), .int p1] (OuN_c g a0 s0) (some (.int res)) := by
  refine gR_introZ RX8 (by decide) rfl (Nat.le_of_ble_eq_true rfl) (fun p e s m args below meth c Q H locs ls hE hP hZ hS hq hl => ?_)
  have hl : lv_has ls 2 [(0, .ref (a0 0)), (1, .int p1)] := hl
  have hx := hE.1
  have hb := hE.2.1
  rw [f_X8_isValue_N] at hf
  refine lv_aload_n hx hb dX8_isValue_0 rfl (lv_at hl 0 rfl) ?_
  refine g_get hE okX8 fl_X8_31 hP 0 rfl (v := .null) rfl dX8_isValue_1 ?_
  refine lv_ifnullN hx hb dX8_isValue_4 (tgt := 25) rfl ?_
  refine lv_iconst hx hb dX8_isValue_25 kci_0 ?_
  cases hf
  exact hq (by decide) rfl dX8_isValue_26
theorem dX8_isRow_0 : decode cX8_isRow 0 = .ok (.aload_n 0, 1) := by decide +kernel
theorem dX8_isRow_1 : decode cX8_isRow 1 = .ok (.iload_n 1, 1) := by decide +kernel
theorem dX8_isRow_2 : decode cX8_isRow 2 = .ok (.invokevirtual 132, 3) := by decide +kernel
theorem dX8_isRow_5 : decode cX8_isRow 5 = .ok (.ifCond .eq 13, 3) := by decide +kernel
theorem dX8_isRow_8 : decode cX8_isRow 8 = .ok (.iload_n 2, 1) := by decide +kernel
theorem dX8_isRow_9 : decode cX8_isRow 9 = .ok (.iconst (-1), 1) := by decide +kernel
theorem dX8_isRow_10 : decode cX8_isRow 10 = .ok (.if_icmp .ne 10, 3) := by decide +kernel
theorem dX8_isRow_13 : decode cX8_isRow 13 = .ok (.iload_n 3, 1) := by decide +kernel
theorem dX8_isRow_14 : decode cX8_isRow 14 = .ok (.iconst (-1), 1) := by decide +kernel
theorem dX8_isRow_15 : decode cX8_isRow 15 = .ok (.if_icmp .ne 5, 3) := by decide +kernel
theorem dX8_isRow_18 : decode cX8_isRow 18 = .ok (.iconst 0, 1) := by decide +kernel
theorem dX8_isRow_19 : decode cX8_isRow 19 = .ok (.ireturn, 1) := by decide +kernel
theorem dX8_isRow_20 : decode cX8_isRow 20 = .ok (.iload_n 2, 1) := by decide +kernel
theorem dX8_isRow_21 : decode cX8_isRow 21 = .ok (.iconst (-1), 1) := by decide +kernel
theorem dX8_isRow_22 : decode cX8_isRow 22 = .ok (.if_icmp .eq 11, 3) := by decide +kernel
theorem dX8_isRow_25 : decode cX8_isRow 25 = .ok (.aload_n 0, 1) := by decide +kernel
theorem dX8_isRow_26 : decode cX8_isRow 26 = .ok (.iload_n 2, 1) := by decide +kernel
theorem dX8_isRow_27 : decode cX8_isRow 27 = .ok (.invokevirtual 135, 3) := by decide +kernel
theorem dX8_isRow_30 : decode cX8_isRow 30 = .ok (.ifCond .eq 20, 3) := by decide +kernel
theorem dX8_isRow_33 : decode cX8_isRow 33 = .ok (.iload_n 3, 1) := by decide +kernel
theorem dX8_isRow_34 : decode cX8_isRow 34 = .ok (.iconst (-1), 1) := by decide +kernel
theorem dX8_isRow_35 : decode cX8_isRow 35 = .ok (.if_icmp .eq 11, 3) := by decide +kernel
theorem dX8_isRow_38 : decode cX8_isRow 38 = .ok (.aload_n 0, 1) := by decide +kernel
theorem dX8_isRow_39 : decode cX8_isRow 39 = .ok (.iload_n 3, 1) := by decide +kernel
theorem dX8_isRow_40 : decode cX8_isRow 40 = .ok (.invokevirtual 135, 3) := by decide +kernel
theorem dX8_isRow_43 : decode cX8_isRow 43 = .ok (.ifCond .eq 7, 3) := by decide +kernel
theorem dX8_isRow_46 : decode cX8_isRow 46 = .ok (.iconst 1, 1) := by decide +kernel
theorem dX8_isRow_47 : decode cX8_isRow 47 = .ok (.goto 4, 3) := by decide +kernel
theorem dX8_isRow_50 : decode cX8_isRow 50 = .ok (.iconst 0, 1) := by decide +kernel
theorem dX8_isRow_51 : decode cX8_isRow 51 = .ok (.ireturn, 1) := by decide +kernel
def f_X8_isRow_N (s0 : OuNT) (p1 : Int32) (p2 : Int32) (p3 : Int32) : Option (Int32) :=
  (f_X8_isKey_N s0 p1).bind fun r1 =>
  if r1 = 0 then some ((0 : Int32))
  else glt (fun (_ : Unit) => glt (fun (_ : Unit) => if p3 = (-1 : Int32) then some ((1 : Int32))
  else (f_X8_isValue_N s0 p3).bind fun r7 =>
  if r7 = 0 then some ((0 : Int32))
  else some ((1 : Int32))) fun J5 =>
  if p2 = (-1 : Int32) then J5 ()
  else (f_X8_isValue_N s0 p2).bind fun r11 =>
  if r11 = 0 then some ((0 : Int32))
  else J5 ()) fun J4 =>
  if p2 = (-1 : Int32) then if p3 = (-1 : Int32) then some ((0 : Int32))
  else J4 ()
  else J4 ()
abbrev rm_X8_isRow_N : Room := { frames := 2, cells := 0, slots := 0, locals := 42 }
set_option maxHeartbeats 4000000 in
set_option maxRecDepth 100000 in
theorem c_X8_isRow_N (l : Launch) (g : GK) (a0 : Nat → Nat) (s0 : OuNT) (p1 : Int32) (p2 : Int32) (p3 : Int32) (res : (Int32)) (hf : f_X8_isRow_N s0 p1 p2 p3 = some res) : gR l yX8_isRow cX8_isRow 4 (some .boolean) rm_X8_isRow_N g [.ref (a0 0), .int p1, .int p2, .int p3] (OuN_c g a0 s0) (some (.int res)) := by
  refine gR_introZ RX8 (by decide) rfl (Nat.le_of_ble_eq_true rfl) (fun p e s m args below meth c Q H locs ls hE hP hZ hS hq hl => ?_)
  have hl : lv_has ls 4 [(0, .ref (a0 0)), (1, .int p1), (2, .int p2), (3, .int p3)] := hl
  have hx := hE.1
  have hb := hE.2.1
  rw [f_X8_isRow_N] at hf
  refine lv_aload_n hx hb dX8_isRow_0 rfl (lv_at hl 0 rfl) ?_
  refine lv_iload_n hx hb dX8_isRow_1 rfl (lv_at hl 1 rfl) ?_
  obtain ⟨r1, hc2, hf⟩ := gbd hf
  refine gr_callV (As := [.int p1]) (rest := []) (st1 := [.int r1]) hE hl.1 ml_X8_132 (c_X8_isKey_N l g a0 s0 p1 r1 hc2) hZ hS hP [(0, 19)] rfl okX8 rfl rfl rfl rfl ⟨rfl, rfl⟩ ⟨Nat.le_of_ble_eq_true rfl, Nat.le_of_ble_eq_true rfl⟩ ⟨Nat.le_refl _, Nat.le_refl _⟩ (Nat.le_of_ble_eq_true rfl) dX8_isRow_2 ?_
  refine lv_if_eq hx hb dX8_isRow_5 (tgt := 18) rfl (fun h3 => ?_) (fun h3 => ?_)
  · have hf := gif_t h3 hf
    refine lv_iconst hx hb dX8_isRow_18 kci_0 ?_
    cases hf
    exact hq (by decide) rfl dX8_isRow_19
  · have hf := gif_f h3 hf
    refine lv_iload_n hx hb dX8_isRow_8 rfl (lv_at hl 2 rfl) ?_
    refine lv_iconst hx hb dX8_isRow_9 kci_m1 ?_
    obtain ⟨J4, eJ4, hf⟩ := gltd hf
    have kJ4 : ∀ (_ : Unit) (ls : Array Slot), J4 () = some res → lv_has ls 4 [(0, .ref (a0 0)), (2, .int p2), (3, .int p3)] → W p l e rm_X8_isRow_N s m args below meth c H locs 0 0 Q (F0 m 20 ls []) := by
      intro _ ls hf hl
      rw [eJ4] at hf
      refine lv_iload_n hx hb dX8_isRow_20 rfl (lv_at hl 1 rfl) ?_
      refine lv_iconst hx hb dX8_isRow_21 kci_m1 ?_
      obtain ⟨J5, eJ5, hf⟩ := gltd hf
      have kJ5 : ∀ (_ : Unit) (ls : Array Slot), J5 () = some res → lv_has ls 4 [(0, .ref (a0 0)), (3, .int p3)] → W p l e rm_X8_isRow_N s m args below meth c H locs 0 0 Q (F0 m 33 ls []) := by
        intro _ ls hf hl
        rw [eJ5] at hf
        refine lv_iload_n hx hb dX8_isRow_33 rfl (lv_at hl 1 rfl) ?_
        refine lv_iconst hx hb dX8_isRow_34 kci_m1 ?_
        refine lv_icmp_eq hx hb dX8_isRow_35 (tgt := 46) rfl (fun h6 => ?_) (fun h6 => ?_)
        · have hf := gif_t h6 hf
          refine lv_iconst hx hb dX8_isRow_46 kci_1 ?_
          refine lv_goto hx hb dX8_isRow_47 (tgt := 51) rfl ?_
          cases hf
          exact hq (by decide) rfl dX8_isRow_51
        · have hf := gif_f h6 hf
          refine lv_aload_n hx hb dX8_isRow_38 rfl (lv_at hl 0 rfl) ?_
          refine lv_iload_n hx hb dX8_isRow_39 rfl (lv_at hl 1 rfl) ?_
          obtain ⟨r7, hc8, hf⟩ := gbd hf
          refine gr_callV (As := [.int p3]) (rest := []) (st1 := [.int r7]) hE hl.1 ml_X8_135 (c_X8_isValue_N l g a0 s0 p3 r7 hc8) hZ hS hP [(0, 19)] rfl okX8 rfl rfl rfl rfl ⟨rfl, rfl⟩ ⟨Nat.le_of_ble_eq_true rfl, Nat.le_of_ble_eq_true rfl⟩ ⟨Nat.le_refl _, Nat.le_refl _⟩ (Nat.le_of_ble_eq_true rfl) dX8_isRow_40 ?_
          refine lv_if_eq hx hb dX8_isRow_43 (tgt := 50) rfl (fun h9 => ?_) (fun h9 => ?_)
          · have hf := gif_t h9 hf
            refine lv_iconst hx hb dX8_isRow_50 kci_0 ?_
            cases hf
            exact hq (by decide) rfl dX8_isRow_51
          · have hf := gif_f h9 hf
            refine lv_iconst hx hb dX8_isRow_46 kci_1 ?_
            refine lv_goto hx hb dX8_isRow_47 (tgt := 51) rfl ?_
            cases hf
            exact hq (by decide) rfl dX8_isRow_51
      refine lv_icmp_eq hx hb dX8_isRow_22 (tgt := 33) rfl (fun h10 => ?_) (fun h10 => ?_)
      · have hf := gif_t h10 hf
        exact kJ5 () ls hf (lv_sub hl [0, 2] rfl)
      · have hf := gif_f h10 hf
        refine lv_aload_n hx hb dX8_isRow_25 rfl (lv_at hl 0 rfl) ?_
        refine lv_iload_n hx hb dX8_isRow_26 rfl (lv_at hl 1 rfl) ?_
        obtain ⟨r11, hc12, hf⟩ := gbd hf
        refine gr_callV (As := [.int p2]) (rest := []) (st1 := [.int r11]) hE hl.1 ml_X8_135 (c_X8_isValue_N l g a0 s0 p2 r11 hc12) hZ hS hP [(0, 19)] rfl okX8 rfl rfl rfl rfl ⟨rfl, rfl⟩ ⟨Nat.le_of_ble_eq_true rfl, Nat.le_of_ble_eq_true rfl⟩ ⟨Nat.le_refl _, Nat.le_refl _⟩ (Nat.le_of_ble_eq_true rfl) dX8_isRow_27 ?_
        refine lv_if_eq hx hb dX8_isRow_30 (tgt := 50) rfl (fun h13 => ?_) (fun h13 => ?_)
        · have hf := gif_t h13 hf
          refine lv_iconst hx hb dX8_isRow_50 kci_0 ?_
          cases hf
          exact hq (by decide) rfl dX8_isRow_51
        · have hf := gif_f h13 hf
          exact kJ5 () ls hf (lv_sub hl [0, 2] rfl)
    refine lv_icmp_ne hx hb dX8_isRow_10 (tgt := 20) rfl (fun h14 => ?_) (fun h14 => ?_)
    · have hf := gif_f h14 hf
      exact kJ4 () ls hf (lv_sub hl [0, 2, 3] rfl)
    · have hf := gif_t h14 hf
      refine lv_iload_n hx hb dX8_isRow_13 rfl (lv_at hl 3 rfl) ?_
      refine lv_iconst hx hb dX8_isRow_14 kci_m1 ?_
      refine lv_icmp_ne hx hb dX8_isRow_15 (tgt := 20) rfl (fun h15 => ?_) (fun h15 => ?_)
      · have hf := gif_f h15 hf
        exact kJ4 () ls hf (lv_sub hl [0, 2, 3] rfl)
      · have hf := gif_t h15 hf
        refine lv_iconst hx hb dX8_isRow_18 kci_0 ?_
        cases hf
        exact hq (by decide) rfl dX8_isRow_19
theorem dX8_isSubscribed_0 : decode cX8_isSubscribed 0 = .ok (.aload_n 0, 1) := by decide +kernel
theorem dX8_isSubscribed_1 : decode cX8_isSubscribed 1 = .ok (.getfield 31, 3) := by decide +kernel
theorem dX8_isSubscribed_4 : decode cX8_isSubscribed 4 = .ok (.ifnull 21, 3) := by decide +kernel
theorem dX8_isSubscribed_7 : decode cX8_isSubscribed 7 = .ok (.aload_n 0, 1) := by decide +kernel
theorem dX8_isSubscribed_8 : decode cX8_isSubscribed 8 = .ok (.getfield 31, 3) := by decide +kernel
theorem dX8_isSubscribed_11 : decode cX8_isSubscribed 11 = .ok (.getfield 216, 3) := by decide +kernel
theorem dX8_isSubscribed_14 : decode cX8_isSubscribed 14 = .ok (.iload_n 1, 1) := by decide +kernel
theorem dX8_isSubscribed_15 : decode cX8_isSubscribed 15 = .ok (.invokevirtual 334, 3) := by decide +kernel
theorem dX8_isSubscribed_18 : decode cX8_isSubscribed 18 = .ok (.ifCond .eq 7, 3) := by decide +kernel
theorem dX8_isSubscribed_21 : decode cX8_isSubscribed 21 = .ok (.iconst 1, 1) := by decide +kernel
theorem dX8_isSubscribed_22 : decode cX8_isSubscribed 22 = .ok (.goto 4, 3) := by decide +kernel
theorem dX8_isSubscribed_25 : decode cX8_isSubscribed 25 = .ok (.iconst 0, 1) := by decide +kernel
theorem dX8_isSubscribed_26 : decode cX8_isSubscribed 26 = .ok (.ireturn, 1) := by decide +kernel
def f_X8_isSubscribed_N (s0 : OuNT) (p1 : Int32) : Option (Int32) :=
  some ((0 : Int32))
abbrev rm_X8_isSubscribed_N : Room := { frames := 1, cells := 0, slots := 0, locals := 21 }
set_option maxHeartbeats 4000000 in
set_option maxRecDepth 100000 in
theorem c_X8_isSubscribed_N (l : Launch) (g : GK) (a0 : Nat → Nat) (s0 : OuNT) (p1 : Int32) (res : (Int32)) (hf : f_X8_isSubscribed_N s0 p1 = some res) : gR l yX8_isSubscribed cX8_isSubscribed 2 (some .boolean) rm_X8_isSubscribed_N g [.ref (a0 0), .int p1] (OuN_c g a0 s0) (some (.int res)) := by
  refine gR_introZ RX8 (by decide) rfl (Nat.le_of_ble_eq_true rfl) (fun p e s m args below meth c Q H locs ls hE hP hZ hS hq hl => ?_)
  have hl : lv_has ls 2 [(0, .ref (a0 0)), (1, .int p1)] := hl
  have hx := hE.1
  have hb := hE.2.1
  rw [f_X8_isSubscribed_N] at hf
  refine lv_aload_n hx hb dX8_isSubscribed_0 rfl (lv_at hl 0 rfl) ?_
  refine g_get hE okX8 fl_X8_31 hP 0 rfl (v := .null) rfl dX8_isSubscribed_1 ?_
  refine lv_ifnullN hx hb dX8_isSubscribed_4 (tgt := 25) rfl ?_
  refine lv_iconst hx hb dX8_isSubscribed_25 kci_0 ?_
  cases hf
  exact hq (by decide) rfl dX8_isSubscribed_26
theorem dX8_refusalOfEvent_0 : decode cX8_refusalOfEvent 0 = .ok (.iload_n 1, 1) := by decide +kernel
theorem dX8_refusalOfEvent_1 : decode cX8_refusalOfEvent 1 = .ok (.invokestatic 129, 3) := by decide +kernel
theorem dX8_refusalOfEvent_4 : decode cX8_refusalOfEvent 4 = .ok (.ifCond .eq 19, 3) := by decide +kernel
theorem dX8_refusalOfEvent_7 : decode cX8_refusalOfEvent 7 = .ok (.aload_n 0, 1) := by decide +kernel
theorem dX8_refusalOfEvent_8 : decode cX8_refusalOfEvent 8 = .ok (.iload_n 2, 1) := by decide +kernel
theorem dX8_refusalOfEvent_9 : decode cX8_refusalOfEvent 9 = .ok (.invokevirtual 132, 3) := by decide +kernel
theorem dX8_refusalOfEvent_12 : decode cX8_refusalOfEvent 12 = .ok (.ifCond .eq 11, 3) := by decide +kernel
theorem dX8_refusalOfEvent_15 : decode cX8_refusalOfEvent 15 = .ok (.aload_n 0, 1) := by decide +kernel
theorem dX8_refusalOfEvent_16 : decode cX8_refusalOfEvent 16 = .ok (.iload_n 3, 1) := by decide +kernel
theorem dX8_refusalOfEvent_17 : decode cX8_refusalOfEvent 17 = .ok (.invokevirtual 135, 3) := by decide +kernel
theorem dX8_refusalOfEvent_20 : decode cX8_refusalOfEvent 20 = .ok (.ifCond .ne 5, 3) := by decide +kernel
theorem dX8_refusalOfEvent_23 : decode cX8_refusalOfEvent 23 = .ok (.iconst 1, 1) := by decide +kernel
theorem dX8_refusalOfEvent_24 : decode cX8_refusalOfEvent 24 = .ok (.ireturn, 1) := by decide +kernel
theorem dX8_refusalOfEvent_25 : decode cX8_refusalOfEvent 25 = .ok (.iload 4, 2) := by decide +kernel
theorem dX8_refusalOfEvent_27 : decode cX8_refusalOfEvent 27 = .ok (.bipush (-9), 2) := by decide +kernel
theorem dX8_refusalOfEvent_29 : decode cX8_refusalOfEvent 29 = .ok (.if_icmp .lt 23, 3) := by decide +kernel
theorem dX8_refusalOfEvent_32 : decode cX8_refusalOfEvent 32 = .ok (.iload 4, 2) := by decide +kernel
theorem dX8_refusalOfEvent_34 : decode cX8_refusalOfEvent 34 = .ok (.bipush 9, 2) := by decide +kernel
theorem dX8_refusalOfEvent_36 : decode cX8_refusalOfEvent 36 = .ok (.if_icmp .gt 16, 3) := by decide +kernel
theorem dX8_refusalOfEvent_39 : decode cX8_refusalOfEvent 39 = .ok (.iload 4, 2) := by decide +kernel
theorem dX8_refusalOfEvent_41 : decode cX8_refusalOfEvent 41 = .ok (.ifCond .eq 11, 3) := by decide +kernel
theorem dX8_refusalOfEvent_44 : decode cX8_refusalOfEvent 44 = .ok (.iload 5, 2) := by decide +kernel
theorem dX8_refusalOfEvent_46 : decode cX8_refusalOfEvent 46 = .ok (.invokestatic 303, 3) := by decide +kernel
theorem dX8_refusalOfEvent_49 : decode cX8_refusalOfEvent 49 = .ok (.ifCond .ne 5, 3) := by decide +kernel
theorem dX8_refusalOfEvent_52 : decode cX8_refusalOfEvent 52 = .ok (.iconst 2, 1) := by decide +kernel
theorem dX8_refusalOfEvent_53 : decode cX8_refusalOfEvent 53 = .ok (.ireturn, 1) := by decide +kernel
theorem dX8_refusalOfEvent_54 : decode cX8_refusalOfEvent 54 = .ok (.iconst 0, 1) := by decide +kernel
theorem dX8_refusalOfEvent_55 : decode cX8_refusalOfEvent 55 = .ok (.ireturn, 1) := by decide +kernel
def f_X8_refusalOfEvent_N (s0 : OuNT) (p1 : Int32) (p2 : Int32) (p3 : Int32) (p4 : Int32) (p5 : Int32) : Option (Int32) :=
  (f_X8_isSide p1).bind fun r1 =>
  if r1 = 0 then some ((1 : Int32))
  else (f_X8_isKey_N s0 p2).bind fun r4 =>
  if r4 = 0 then some ((1 : Int32))
  else (f_X8_isValue_N s0 p3).bind fun r7 =>
  if r7 = 0 then some ((1 : Int32))
  else if p4 < (-9 : Int32) then some ((2 : Int32))
  else if (9 : Int32) < p4 then some ((2 : Int32))
  else if p4 = 0 then some ((2 : Int32))
  else (f_X8_isTime p5).bind fun r13 =>
  if r13 = 0 then some ((2 : Int32))
  else some ((0 : Int32))
abbrev rm_X8_refusalOfEvent_N : Room := { frames := 2, cells := 0, slots := 0, locals := 42 }
set_option maxHeartbeats 4000000 in
set_option maxRecDepth 100000 in
theorem c_X8_refusalOfEvent_N (l : Launch) (g : GK) (a0 : Nat → Nat) (s0 : OuNT) (p1 : Int32) (p2 : Int32) (p3 : Int32) (p4 : Int32) (p5 : Int32) (res : (Int32)) (hf : f_X8_refusalOfEvent_N s0 p1 p2 p3 p4 p5 = some res) : gR l yX8_refusalOfEvent cX8_refusalOfEvent 6 (some .int) rm_X8_refusalOfEvent_N g [.ref (a0 0), .int p1, .int p2, .int p3, .int p4, .int p5] (OuN_c g a0 s0) (some (.int res)) := by
  refine gR_introI RX8 (by decide) rfl (Nat.le_of_ble_eq_true rfl) (fun p e s m args below meth c Q H locs ls hE hP hZ hS hq hl => ?_)
  have hl : lv_has ls 6 [(0, .ref (a0 0)), (1, .int p1), (2, .int p2), (3, .int p3), (4, .int p4), (5, .int p5)] := hl
  have hx := hE.1
  have hb := hE.2.1
  rw [f_X8_refusalOfEvent_N] at hf
  refine lv_iload_n hx hb dX8_refusalOfEvent_0 rfl (lv_at hl 1 rfl) ?_
  obtain ⟨r1, hc2, hf⟩ := gbd hf
  refine gr_callS (As := [.int p1]) (rest := []) (st1 := [.int r1]) hE hl.1 ml_X8_129 (c_X8_isSide l g p1 r1 hc2) hZ hS hP [] rfl rfl rfl rfl ⟨rfl, rfl⟩ ⟨Nat.le_of_ble_eq_true rfl, Nat.le_of_ble_eq_true rfl⟩ ⟨Nat.le_refl _, Nat.le_refl _⟩ (Nat.le_of_ble_eq_true rfl) dX8_refusalOfEvent_1 ?_
  refine lv_if_eq hx hb dX8_refusalOfEvent_4 (tgt := 23) rfl (fun h3 => ?_) (fun h3 => ?_)
  · have hf := gif_t h3 hf
    refine lv_iconst hx hb dX8_refusalOfEvent_23 kci_1 ?_
    cases hf
    exact hq rfl dX8_refusalOfEvent_24
  · have hf := gif_f h3 hf
    refine lv_aload_n hx hb dX8_refusalOfEvent_7 rfl (lv_at hl 0 rfl) ?_
    refine lv_iload_n hx hb dX8_refusalOfEvent_8 rfl (lv_at hl 2 rfl) ?_
    obtain ⟨r4, hc5, hf⟩ := gbd hf
    refine gr_callV (As := [.int p2]) (rest := []) (st1 := [.int r4]) hE hl.1 ml_X8_132 (c_X8_isKey_N l g a0 s0 p2 r4 hc5) hZ hS hP [(0, 19)] rfl okX8 rfl rfl rfl rfl ⟨rfl, rfl⟩ ⟨Nat.le_of_ble_eq_true rfl, Nat.le_of_ble_eq_true rfl⟩ ⟨Nat.le_refl _, Nat.le_refl _⟩ (Nat.le_of_ble_eq_true rfl) dX8_refusalOfEvent_9 ?_
    refine lv_if_eq hx hb dX8_refusalOfEvent_12 (tgt := 23) rfl (fun h6 => ?_) (fun h6 => ?_)
    · have hf := gif_t h6 hf
      refine lv_iconst hx hb dX8_refusalOfEvent_23 kci_1 ?_
      cases hf
      exact hq rfl dX8_refusalOfEvent_24
    · have hf := gif_f h6 hf
      refine lv_aload_n hx hb dX8_refusalOfEvent_15 rfl (lv_at hl 0 rfl) ?_
      refine lv_iload_n hx hb dX8_refusalOfEvent_16 rfl (lv_at hl 3 rfl) ?_
      obtain ⟨r7, hc8, hf⟩ := gbd hf
      refine gr_callV (As := [.int p3]) (rest := []) (st1 := [.int r7]) hE hl.1 ml_X8_135 (c_X8_isValue_N l g a0 s0 p3 r7 hc8) hZ hS hP [(0, 19)] rfl okX8 rfl rfl rfl rfl ⟨rfl, rfl⟩ ⟨Nat.le_of_ble_eq_true rfl, Nat.le_of_ble_eq_true rfl⟩ ⟨Nat.le_refl _, Nat.le_refl _⟩ (Nat.le_of_ble_eq_true rfl) dX8_refusalOfEvent_17 ?_
      refine lv_if_ne hx hb dX8_refusalOfEvent_20 (tgt := 25) rfl (fun h9 => ?_) (fun h9 => ?_)
      · have hf := gif_f h9 hf
        refine lv_iload hx hb dX8_refusalOfEvent_25 (lv_at hl 4 rfl) ?_
        refine lv_bipush hx hb dX8_refusalOfEvent_27 kcb_m9 ?_
        refine lv_icmp_lt hx hb dX8_refusalOfEvent_29 (tgt := 52) rfl (fun h10 => ?_) (fun h10 => ?_)
        · have hf := gif_t h10 hf
          refine lv_iconst hx hb dX8_refusalOfEvent_52 kci_2 ?_
          cases hf
          exact hq rfl dX8_refusalOfEvent_53
        · have hf := gif_f h10 hf
          refine lv_iload hx hb dX8_refusalOfEvent_32 (lv_at hl 4 rfl) ?_
          refine lv_bipush hx hb dX8_refusalOfEvent_34 kcb_9 ?_
          refine lv_icmp_gt hx hb dX8_refusalOfEvent_36 (tgt := 52) rfl (fun h11 => ?_) (fun h11 => ?_)
          · have hf := gif_t h11 hf
            refine lv_iconst hx hb dX8_refusalOfEvent_52 kci_2 ?_
            cases hf
            exact hq rfl dX8_refusalOfEvent_53
          · have hf := gif_f h11 hf
            refine lv_iload hx hb dX8_refusalOfEvent_39 (lv_at hl 4 rfl) ?_
            refine lv_if_eq hx hb dX8_refusalOfEvent_41 (tgt := 52) rfl (fun h12 => ?_) (fun h12 => ?_)
            · have hf := gif_t h12 hf
              refine lv_iconst hx hb dX8_refusalOfEvent_52 kci_2 ?_
              cases hf
              exact hq rfl dX8_refusalOfEvent_53
            · have hf := gif_f h12 hf
              refine lv_iload hx hb dX8_refusalOfEvent_44 (lv_at hl 5 rfl) ?_
              obtain ⟨r13, hc14, hf⟩ := gbd hf
              refine gr_callS (As := [.int p5]) (rest := []) (st1 := [.int r13]) hE hl.1 ml_X8_303 (c_X8_isTime l g p5 r13 hc14) hZ hS hP [] rfl rfl rfl rfl ⟨rfl, rfl⟩ ⟨Nat.le_of_ble_eq_true rfl, Nat.le_of_ble_eq_true rfl⟩ ⟨Nat.le_refl _, Nat.le_refl _⟩ (Nat.le_of_ble_eq_true rfl) dX8_refusalOfEvent_46 ?_
              refine lv_if_ne hx hb dX8_refusalOfEvent_49 (tgt := 54) rfl (fun h15 => ?_) (fun h15 => ?_)
              · have hf := gif_f h15 hf
                refine lv_iconst hx hb dX8_refusalOfEvent_54 kci_0 ?_
                cases hf
                exact hq rfl dX8_refusalOfEvent_55
              · have hf := gif_t h15 hf
                refine lv_iconst hx hb dX8_refusalOfEvent_52 kci_2 ?_
                cases hf
                exact hq rfl dX8_refusalOfEvent_53
      · have hf := gif_t h9 hf
        refine lv_iconst hx hb dX8_refusalOfEvent_23 kci_1 ?_
        cases hf
        exact hq rfl dX8_refusalOfEvent_24
theorem dX8_refuse_0 : decode cX8_refuse 0 = .ok (.aload_n 0, 1) := by decide +kernel
theorem dX8_refuse_1 : decode cX8_refuse 1 = .ok (.iload_n 1, 1) := by decide +kernel
theorem dX8_refuse_2 : decode cX8_refuse 2 = .ok (.putfield 42, 3) := by decide +kernel
theorem dX8_refuse_5 : decode cX8_refuse 5 = .ok (.iload_n 2, 1) := by decide +kernel
theorem dX8_refuse_6 : decode cX8_refuse 6 = .ok (.ireturn, 1) := by decide +kernel
def f_X8_refuse_N (s0 : OuNT) (p1 : Int32) (p2 : Int32) : Option (Int32 × OuNT) :=
  some (p2, (OuN_w_trouble s0 p1))
abbrev rm_X8_refuse_N : Room := { frames := 0, cells := 0, slots := 0, locals := 0 }
set_option maxHeartbeats 4000000 in
set_option maxRecDepth 100000 in
theorem c_X8_refuse_N (l : Launch) (g : GK) (a0 : Nat → Nat) (s0 : OuNT) (p1 : Int32) (p2 : Int32) (res : (Int32 × OuNT)) (hf : f_X8_refuse_N s0 p1 p2 = some res) : gM l yX8_refuse cX8_refuse 3 (some .int) rm_X8_refuse_N g [.ref (a0 0), .int p1, .int p2] (OuN_c g a0 s0) (fun _ : Unit => (some (.int (res.1)))) (fun _ => (OuN_c g a0 (res.2))) 0 0 := by
  refine gM_introI RX8 (by decide) rfl (Nat.le_of_ble_eq_true rfl) (fun p e s m args below meth c Q H locs ls A hE hZ hA hP hD hS hq hl => ?_)
  have hl : lv_has ls 3 [(0, .ref (a0 0)), (1, .int p1), (2, .int p2)] := hl
  have hx := hE.1
  have hb := hE.2.1
  rw [f_X8_refuse_N] at hf
  refine lv_aload_n hx hb dX8_refuse_0 rfl (lv_at hl 0 rfl) ?_
  refine lv_iload_n hx hb dX8_refuse_1 rfl (lv_at hl 1 rfl) ?_
  refine g_put hE okX8 fl_X8_42 hP hD hS 0 rfl rfl rfl rfl (Nat.le_of_ble_eq_true rfl) (OuN_c g a0 (OuN_w_trouble s0 p1)) rfl dX8_refuse_2 (fun H locs hP hD hS => ?_)
  refine lv_iload_n hx hb dX8_refuse_5 rfl (lv_at hl 2 rfl) ?_
  cases hf
  exact hq () rfl hP hD hS dX8_refuse_6
theorem dX8_accept_0 : decode cX8_accept 0 = .ok (.aload_n 0, 1) := by decide +kernel
theorem dX8_accept_1 : decode cX8_accept 1 = .ok (.iconst 0, 1) := by decide +kernel
theorem dX8_accept_2 : decode cX8_accept 2 = .ok (.putfield 42, 3) := by decide +kernel
theorem dX8_accept_5 : decode cX8_accept 5 = .ok (.iload_n 1, 1) := by decide +kernel
theorem dX8_accept_6 : decode cX8_accept 6 = .ok (.ireturn, 1) := by decide +kernel
def f_X8_accept_N (s0 : OuNT) (p1 : Int32) : Option (Int32 × OuNT) :=
  some (p1, (OuN_w_trouble s0 (0 : Int32)))
abbrev rm_X8_accept_N : Room := { frames := 0, cells := 0, slots := 0, locals := 0 }
set_option maxHeartbeats 4000000 in
set_option maxRecDepth 100000 in
theorem c_X8_accept_N (l : Launch) (g : GK) (a0 : Nat → Nat) (s0 : OuNT) (p1 : Int32) (res : (Int32 × OuNT)) (hf : f_X8_accept_N s0 p1 = some res) : gM l yX8_accept cX8_accept 2 (some .int) rm_X8_accept_N g [.ref (a0 0), .int p1] (OuN_c g a0 s0) (fun _ : Unit => (some (.int (res.1)))) (fun _ => (OuN_c g a0 (res.2))) 0 0 := by
  refine gM_introI RX8 (by decide) rfl (Nat.le_of_ble_eq_true rfl) (fun p e s m args below meth c Q H locs ls A hE hZ hA hP hD hS hq hl => ?_)
  have hl : lv_has ls 2 [(0, .ref (a0 0)), (1, .int p1)] := hl
  have hx := hE.1
  have hb := hE.2.1
  rw [f_X8_accept_N] at hf
  refine lv_aload_n hx hb dX8_accept_0 rfl (lv_at hl 0 rfl) ?_
  refine lv_iconst hx hb dX8_accept_1 kci_0 ?_
  refine g_put hE okX8 fl_X8_42 hP hD hS 0 rfl rfl rfl rfl (Nat.le_of_ble_eq_true rfl) (OuN_c g a0 (OuN_w_trouble s0 (0 : Int32))) rfl dX8_accept_2 (fun H locs hP hD hS => ?_)
  refine lv_iload_n hx hb dX8_accept_5 rfl (lv_at hl 1 rfl) ?_
  cases hf
  exact hq () rfl hP hD hS dX8_accept_6
theorem dX8_tookText_0 : decode cX8_tookText 0 = .ok (.aload_n 0, 1) := by decide +kernel
theorem dX8_tookText_1 : decode cX8_tookText 1 = .ok (.getfield 14, 3) := by decide +kernel
theorem dX8_tookText_4 : decode cX8_tookText 4 = .ok (.getfield 52, 3) := by decide +kernel
theorem dX8_tookText_7 : decode cX8_tookText 7 = .ok (.iconst 0, 1) := by decide +kernel
theorem dX8_tookText_8 : decode cX8_tookText 8 = .ok (.putfield 66, 3) := by decide +kernel
theorem dX8_tookText_11 : decode cX8_tookText 11 = .ok (.aload_n 0, 1) := by decide +kernel
theorem dX8_tookText_12 : decode cX8_tookText 12 = .ok (.aload_n 0, 1) := by decide +kernel
theorem dX8_tookText_13 : decode cX8_tookText 13 = .ok (.getfield 14, 3) := by decide +kernel
theorem dX8_tookText_16 : decode cX8_tookText 16 = .ok (.getfield 337, 3) := by decide +kernel
theorem dX8_tookText_19 : decode cX8_tookText 19 = .ok (.putfield 46, 3) := by decide +kernel
theorem dX8_tookText_22 : decode cX8_tookText 22 = .ok (.aload_n 0, 1) := by decide +kernel
theorem dX8_tookText_23 : decode cX8_tookText 23 = .ok (.aload_n 0, 1) := by decide +kernel
theorem dX8_tookText_24 : decode cX8_tookText 24 = .ok (.getfield 14, 3) := by decide +kernel
theorem dX8_tookText_27 : decode cX8_tookText 27 = .ok (.getfield 338, 3) := by decide +kernel
theorem dX8_tookText_30 : decode cX8_tookText 30 = .ok (.putfield 49, 3) := by decide +kernel
theorem dX8_tookText_33 : decode cX8_tookText 33 = .ok (.iload_n 1, 1) := by decide +kernel
theorem dX8_tookText_34 : decode cX8_tookText 34 = .ok (.ireturn, 1) := by decide +kernel
def f_X8_tookText_N (s0 : OuNT) (p1 : Int32) : Option (Int32 × OuNT) :=
  if isB p1 then some (p1, (OuN_w_place (OuN_w_fault (OuN_w_reader s0 (Rd_w_tape (OuN_reader s0) (Tp_w_length (Rd_tape (OuN_reader s0)) (0 : Int32)))) (Rd_fault (OuN_reader s0))) (Rd_place (OuN_reader s0)))) else none
abbrev rm_X8_tookText_N : Room := { frames := 0, cells := 0, slots := 0, locals := 0 }
set_option maxHeartbeats 4000000 in
set_option maxRecDepth 100000 in
theorem c_X8_tookText_N (l : Launch) (g : GK) (a0 : Nat → Nat) (s0 : OuNT) (p1 : Int32) (res : (Int32 × OuNT)) (hf : f_X8_tookText_N s0 p1 = some res) : gM l yX8_tookText cX8_tookText 2 (some .boolean) rm_X8_tookText_N g [.ref (a0 0), .int p1] (OuN_c g a0 s0) (fun _ : Unit => (some (.int (res.1)))) (fun _ => (OuN_c g a0 (res.2))) 0 0 := by
  refine gM_introZ RX8 (by decide) rfl (Nat.le_of_ble_eq_true rfl) (fun p e s m args below meth c Q H locs ls A hE hZ hA hP hD hS hq hl => ?_)
  have hl : lv_has ls 2 [(0, .ref (a0 0)), (1, .int p1)] := hl
  have hx := hE.1
  have hb := hE.2.1
  rw [f_X8_tookText_N] at hf
  refine lv_aload_n hx hb dX8_tookText_0 rfl (lv_at hl 0 rfl) ?_
  refine g_get hE okX8 fl_X8_14 hP 0 rfl (v := .ref (a0 1)) rfl dX8_tookText_1 ?_
  refine g_get hE okX3 fl_X8_52 hP 1 rfl (v := .ref (a0 2)) rfl dX8_tookText_4 ?_
  refine lv_iconst hx hb dX8_tookText_7 kci_0 ?_
  refine g_put hE okX6 fl_X8_66 hP hD hS 2 rfl rfl rfl rfl (Nat.le_of_ble_eq_true rfl) (OuN_c g a0 (OuN_w_reader s0 (Rd_w_tape (OuN_reader s0) (Tp_w_length (Rd_tape (OuN_reader s0)) (0 : Int32))))) rfl dX8_tookText_8 (fun H locs hP hD hS => ?_)
  refine lv_aload_n hx hb dX8_tookText_11 rfl (lv_at hl 0 rfl) ?_
  refine lv_aload_n hx hb dX8_tookText_12 rfl (lv_at hl 0 rfl) ?_
  refine g_get hE okX8 fl_X8_14 hP 0 rfl (v := .ref (a0 1)) rfl dX8_tookText_13 ?_
  refine g_get hE okX3 fl_X8_337 hP 1 rfl (v := .int (Rd_fault (OuN_reader s0))) rfl dX8_tookText_16 ?_
  refine g_put hE okX8 fl_X8_46 hP hD hS 0 rfl rfl rfl rfl (Nat.le_of_ble_eq_true rfl) (OuN_c g a0 (OuN_w_fault (OuN_w_reader s0 (Rd_w_tape (OuN_reader s0) (Tp_w_length (Rd_tape (OuN_reader s0)) (0 : Int32)))) (Rd_fault (OuN_reader s0)))) rfl dX8_tookText_19 (fun H locs hP hD hS => ?_)
  refine lv_aload_n hx hb dX8_tookText_22 rfl (lv_at hl 0 rfl) ?_
  refine lv_aload_n hx hb dX8_tookText_23 rfl (lv_at hl 0 rfl) ?_
  refine g_get hE okX8 fl_X8_14 hP 0 rfl (v := .ref (a0 1)) rfl dX8_tookText_24 ?_
  refine g_get hE okX3 fl_X8_338 hP 1 rfl (v := .int (Rd_place (OuN_reader s0))) rfl dX8_tookText_27 ?_
  refine g_put hE okX8 fl_X8_49 hP hD hS 0 rfl rfl rfl rfl (Nat.le_of_ble_eq_true rfl) (OuN_c g a0 (OuN_w_place (OuN_w_fault (OuN_w_reader s0 (Rd_w_tape (OuN_reader s0) (Tp_w_length (Rd_tape (OuN_reader s0)) (0 : Int32)))) (Rd_fault (OuN_reader s0))) (Rd_place (OuN_reader s0)))) rfl dX8_tookText_30 (fun H locs hP hD hS => ?_)
  refine lv_iload_n hx hb dX8_tookText_33 rfl (lv_at hl 1 rfl) ?_
  obtain ⟨hg1, hf⟩ := ggd hf
  cases hf
  exact hq () hg1 rfl hP hD hS dX8_tookText_34
theorem dX8_desk_0 : decode cX8_desk 0 = .ok (.iload_n 1, 1) := by decide +kernel
theorem dX8_desk_1 : decode cX8_desk 1 = .ok (.ifCond .lt 17, 3) := by decide +kernel
theorem dX8_desk_4 : decode cX8_desk 4 = .ok (.iload_n 1, 1) := by decide +kernel
theorem dX8_desk_5 : decode cX8_desk 5 = .ok (.aload_n 0, 1) := by decide +kernel
theorem dX8_desk_6 : decode cX8_desk 6 = .ok (.getfield 14, 3) := by decide +kernel
theorem dX8_desk_9 : decode cX8_desk 9 = .ok (.getfield 52, 3) := by decide +kernel
theorem dX8_desk_12 : decode cX8_desk 12 = .ok (.getfield 66, 3) := by decide +kernel
theorem dX8_desk_15 : decode cX8_desk 15 = .ok (.if_icmp .le 10, 3) := by decide +kernel
theorem dX8_desk_18 : decode cX8_desk 18 = .ok (.aload_n 0, 1) := by decide +kernel
theorem dX8_desk_19 : decode cX8_desk 19 = .ok (.iconst 2, 1) := by decide +kernel
theorem dX8_desk_20 : decode cX8_desk 20 = .ok (.iconst (-1), 1) := by decide +kernel
theorem dX8_desk_21 : decode cX8_desk 21 = .ok (.invokevirtual 69, 3) := by decide +kernel
theorem dX8_desk_24 : decode cX8_desk 24 = .ok (.ireturn, 1) := by decide +kernel
theorem dX8_desk_25 : decode cX8_desk 25 = .ok (.aload_n 0, 1) := by decide +kernel
theorem dX8_desk_26 : decode cX8_desk 26 = .ok (.getfield 14, 3) := by decide +kernel
theorem dX8_desk_29 : decode cX8_desk 29 = .ok (.invokevirtual 73, 3) := by decide +kernel
theorem dX8_desk_32 : decode cX8_desk 32 = .ok (.aload_n 0, 1) := by decide +kernel
theorem dX8_desk_33 : decode cX8_desk 33 = .ok (.aload_n 0, 1) := by decide +kernel
theorem dX8_desk_34 : decode cX8_desk 34 = .ok (.getfield 14, 3) := by decide +kernel
theorem dX8_desk_37 : decode cX8_desk 37 = .ok (.iload_n 1, 1) := by decide +kernel
theorem dX8_desk_38 : decode cX8_desk 38 = .ok (.invokevirtual 76, 3) := by decide +kernel
theorem dX8_desk_41 : decode cX8_desk 41 = .ok (.invokevirtual 79, 3) := by decide +kernel
theorem dX8_desk_44 : decode cX8_desk 44 = .ok (.ifCond .ne 10, 3) := by decide +kernel
theorem dX8_desk_47 : decode cX8_desk 47 = .ok (.aload_n 0, 1) := by decide +kernel
theorem dX8_desk_48 : decode cX8_desk 48 = .ok (.iconst 4, 1) := by decide +kernel
theorem dX8_desk_49 : decode cX8_desk 49 = .ok (.iconst (-1), 1) := by decide +kernel
theorem dX8_desk_50 : decode cX8_desk 50 = .ok (.invokevirtual 69, 3) := by decide +kernel
theorem dX8_desk_53 : decode cX8_desk 53 = .ok (.ireturn, 1) := by decide +kernel
theorem dX8_desk_54 : decode cX8_desk 54 = .ok (.aload_n 0, 1) := by decide +kernel
theorem dX8_desk_55 : decode cX8_desk 55 = .ok (.getfield 31, 3) := by decide +kernel
theorem dX8_desk_58 : decode cX8_desk 58 = .ok (.ifnonnull 14, 3) := by decide +kernel
theorem dX8_desk_61 : decode cX8_desk 61 = .ok (.aload_n 0, 1) := by decide +kernel
theorem dX8_desk_62 : decode cX8_desk 62 = .ok (.new 83, 3) := by decide +kernel
theorem dX8_desk_65 : decode cX8_desk 65 = .ok (.dup, 1) := by decide +kernel
theorem dX8_desk_66 : decode cX8_desk 66 = .ok (.invokespecial 85, 3) := by decide +kernel
theorem dX8_desk_69 : decode cX8_desk 69 = .ok (.putfield 31, 3) := by decide +kernel
theorem dX8_desk_72 : decode cX8_desk 72 = .ok (.aload_n 0, 1) := by decide +kernel
theorem dX8_desk_73 : decode cX8_desk 73 = .ok (.getfield 31, 3) := by decide +kernel
theorem dX8_desk_76 : decode cX8_desk 76 = .ok (.aload_n 0, 1) := by decide +kernel
theorem dX8_desk_77 : decode cX8_desk 77 = .ok (.getfield 14, 3) := by decide +kernel
theorem dX8_desk_80 : decode cX8_desk 80 = .ok (.getfield 86, 3) := by decide +kernel
theorem dX8_desk_83 : decode cX8_desk 83 = .ok (.aload_n 0, 1) := by decide +kernel
theorem dX8_desk_84 : decode cX8_desk 84 = .ok (.getfield 14, 3) := by decide +kernel
theorem dX8_desk_87 : decode cX8_desk 87 = .ok (.getfield 89, 3) := by decide +kernel
theorem dX8_desk_90 : decode cX8_desk 90 = .ok (.aload_n 0, 1) := by decide +kernel
theorem dX8_desk_91 : decode cX8_desk 91 = .ok (.getfield 14, 3) := by decide +kernel
theorem dX8_desk_94 : decode cX8_desk 94 = .ok (.getfield 92, 3) := by decide +kernel
theorem dX8_desk_97 : decode cX8_desk 97 = .ok (.invokevirtual 95, 3) := by decide +kernel
theorem dX8_desk_100 : decode cX8_desk 100 = .ok (.aload_n 0, 1) := by decide +kernel
theorem dX8_desk_101 : decode cX8_desk 101 = .ok (.iconst 0, 1) := by decide +kernel
theorem dX8_desk_102 : decode cX8_desk 102 = .ok (.putfield 38, 3) := by decide +kernel
theorem dX8_desk_105 : decode cX8_desk 105 = .ok (.aload_n 0, 1) := by decide +kernel
theorem dX8_desk_106 : decode cX8_desk 106 = .ok (.aload_n 0, 1) := by decide +kernel
theorem dX8_desk_107 : decode cX8_desk 107 = .ok (.aload_n 0, 1) := by decide +kernel
theorem dX8_desk_108 : decode cX8_desk 108 = .ok (.getfield 31, 3) := by decide +kernel
theorem dX8_desk_111 : decode cX8_desk 111 = .ok (.invokevirtual 99, 3) := by decide +kernel
theorem dX8_desk_114 : decode cX8_desk 114 = .ok (.invokevirtual 103, 3) := by decide +kernel
theorem dX8_desk_117 : decode cX8_desk 117 = .ok (.ireturn, 1) := by decide +kernel
def f_X8_desk_N (s0 : OuNT) (p1 : Int32) : Option (Int32 × OuNT) :=
  if p1 < 0 then (f_X8_refuse_N s0 (2 : Int32) (-1 : Int32)).bind fun r2 =>
  some ((r2.1), (r2.2))
  else if p1 ≤ (Tp_length (Rd_tape (OuN_reader s0))) then (f_X3_expectDesk (OuN_reader s0)).bind fun r5 =>
  (f_X3_readLines r5 p1).bind fun r7 =>
  (f_X8_tookText_N (OuN_w_reader s0 (r7.2)) (r7.1)).bind fun r9 =>
  if (r9.1) = 0 then (f_X8_refuse_N (r9.2) (4 : Int32) (-1 : Int32)).bind fun r12 =>
  some ((r12.1), (r12.2))
  else none
  else (f_X8_refuse_N s0 (2 : Int32) (-1 : Int32)).bind fun r14 =>
  some ((r14.1), (r14.2))
abbrev rm_X8_desk_N : Room := { frames := 6, cells := 0, slots := 0, locals := 134 }
set_option maxHeartbeats 4000000 in
set_option maxRecDepth 100000 in
theorem c_X8_desk_N (l : Launch) (g : GK) (a0 : Nat → Nat) (s0 : OuNT) (p1 : Int32) (res : (Int32 × OuNT)) (hf : f_X8_desk_N s0 p1 = some res) : gM l yX8_desk cX8_desk 2 (some .int) rm_X8_desk_N g [.ref (a0 0), .int p1] (OuN_c g a0 s0) (fun _ : Unit => (some (.int (res.1)))) (fun _ => (OuN_c g a0 (res.2))) 0 0 := by
  refine gM_introI RX8 (by decide) rfl (Nat.le_of_ble_eq_true rfl) (fun p e s m args below meth c Q H locs ls A hE hZ hA hP hD hS hq hl => ?_)
  have hl : lv_has ls 2 [(0, .ref (a0 0)), (1, .int p1)] := hl
  have hx := hE.1
  have hb := hE.2.1
  rw [f_X8_desk_N] at hf
  refine lv_iload_n hx hb dX8_desk_0 rfl (lv_at hl 1 rfl) ?_
  refine lv_if_lt hx hb dX8_desk_1 (tgt := 18) rfl (fun h1 => ?_) (fun h1 => ?_)
  · have hf := gif_t h1 hf
    refine lv_aload_n hx hb dX8_desk_18 rfl (lv_at hl 0 rfl) ?_
    refine lv_iconst hx hb dX8_desk_19 kci_2 ?_
    refine lv_iconst hx hb dX8_desk_20 kci_m1 ?_
    obtain ⟨r2, hc3, hf⟩ := gbd hf
    refine gm_callV1 (As := [.int (2 : Int32), .int (-1 : Int32)]) (rest := []) (st1 := fun _ => [.int (r2.1)]) (ws' := fun _ => (OuN_c g a0 (r2.2))) hE hl.1 ml_X8_69 (c_X8_refuse_N l g a0 s0 (2 : Int32) (-1 : Int32) r2 hc3) hZ hP hD hS hA 0 19 rfl (fun _ => rfl) okX8 rfl rfl rfl (fun _ => rfl) ⟨rfl, rfl⟩ ⟨Nat.le_of_ble_eq_true rfl, Nat.le_of_ble_eq_true rfl⟩ ⟨Nat.le_refl _, Nat.le_refl _⟩ (Nat.le_of_ble_eq_true rfl) dX8_desk_21 (fun _ H locs hP hD hS => ?_)
    cases hf
    exact hq () rfl hP hD hS dX8_desk_24
  · have hf := gif_f h1 hf
    refine lv_iload_n hx hb dX8_desk_4 rfl (lv_at hl 1 rfl) ?_
    refine lv_aload_n hx hb dX8_desk_5 rfl (lv_at hl 0 rfl) ?_
    refine g_get hE okX8 fl_X8_14 hP 0 rfl (v := .ref (a0 1)) rfl dX8_desk_6 ?_
    refine g_get hE okX3 fl_X8_52 hP 1 rfl (v := .ref (a0 2)) rfl dX8_desk_9 ?_
    refine g_get hE okX6 fl_X8_66 hP 2 rfl (v := .int (Tp_length (Rd_tape (OuN_reader s0)))) rfl dX8_desk_12 ?_
    refine lv_icmp_le hx hb dX8_desk_15 (tgt := 25) rfl (fun h4 => ?_) (fun h4 => ?_)
    · have hf := gif_t h4 hf
      refine lv_aload_n hx hb dX8_desk_25 rfl (lv_at hl 0 rfl) ?_
      refine g_get hE okX8 fl_X8_14 hP 0 rfl (v := .ref (a0 1)) rfl dX8_desk_26 ?_
      obtain ⟨r5, hc6, hf⟩ := gbd hf
      refine gm_callV1 (As := []) (rest := []) (st1 := fun _ => []) (ws' := fun _ => (OuN_c g a0 (OuN_w_reader s0 r5))) hE hl.1 ml_X8_73 (c_X3_expectDesk l g (fun k => a0 (k + 1)) (OuN_reader s0) r5 hc6) hZ hP hD hS hA 1 9 rfl (fun _ => rfl) okX3 rfl rfl rfl (fun _ => rfl) ⟨rfl, rfl⟩ ⟨Nat.le_of_ble_eq_true rfl, Nat.le_of_ble_eq_true rfl⟩ ⟨Nat.le_refl _, Nat.le_refl _⟩ (Nat.le_of_ble_eq_true rfl) dX8_desk_29 (fun _ H locs hP hD hS => ?_)
      refine lv_aload_n hx hb dX8_desk_32 rfl (lv_at hl 0 rfl) ?_
      refine lv_aload_n hx hb dX8_desk_33 rfl (lv_at hl 0 rfl) ?_
      refine g_get hE okX8 fl_X8_14 hP 0 rfl (v := .ref (a0 1)) rfl dX8_desk_34 ?_
      refine lv_iload_n hx hb dX8_desk_37 rfl (lv_at hl 1 rfl) ?_
      obtain ⟨r7, hc8, hf⟩ := gbd hf
      refine gm_callV1 (As := [.int p1]) (rest := [.ref (a0 0)]) (st1 := fun _ => [.int (r7.1), .ref (a0 0)]) (ws' := fun _ => (OuN_c g a0 (OuN_w_reader s0 (r7.2)))) hE hl.1 ml_X8_76 (c_X3_readLines l g (fun k => a0 (k + 1)) r5 p1 r7 hc8) hZ hP hD hS hA 1 9 rfl (fun _ => rfl) okX3 rfl rfl rfl (fun _ => rfl) ⟨rfl, rfl⟩ ⟨Nat.le_of_ble_eq_true rfl, Nat.le_of_ble_eq_true rfl⟩ ⟨Nat.le_refl _, Nat.le_refl _⟩ (Nat.le_of_ble_eq_true rfl) dX8_desk_38 (fun _ H locs hP hD hS => ?_)
      obtain ⟨r9, hc10, hf⟩ := gbd hf
      refine gm_callV1 (As := [.int (r7.1)]) (rest := []) (st1 := fun _ => [.int (r9.1)]) (ws' := fun _ => (OuN_c g a0 (r9.2))) hE hl.1 ml_X8_79 (c_X8_tookText_N l g a0 (OuN_w_reader s0 (r7.2)) (r7.1) r9 hc10) hZ hP hD hS hA 0 19 rfl (fun _ => rfl) okX8 rfl rfl rfl (fun _ => rfl) ⟨rfl, rfl⟩ ⟨Nat.le_of_ble_eq_true rfl, Nat.le_of_ble_eq_true rfl⟩ ⟨Nat.le_refl _, Nat.le_refl _⟩ (Nat.le_of_ble_eq_true rfl) dX8_desk_41 (fun _ H locs hP hD hS => ?_)
      refine lv_if_ne hx hb dX8_desk_44 (tgt := 54) rfl (fun h11 => ?_) (fun h11 => ?_)
      · have hf := gif_f h11 hf
        refine lv_aload_n hx hb dX8_desk_54 rfl (lv_at hl 0 rfl) ?_
        refine g_get hE okX8 fl_X8_31 hP 0 rfl (v := .null) rfl dX8_desk_55 ?_
        refine lv_ifnonnullN hx hb dX8_desk_58 ?_
        cases hf
      · have hf := gif_t h11 hf
        refine lv_aload_n hx hb dX8_desk_47 rfl (lv_at hl 0 rfl) ?_
        refine lv_iconst hx hb dX8_desk_48 kci_4 ?_
        refine lv_iconst hx hb dX8_desk_49 kci_m1 ?_
        obtain ⟨r12, hc13, hf⟩ := gbd hf
        refine gm_callV1 (As := [.int (4 : Int32), .int (-1 : Int32)]) (rest := []) (st1 := fun _ => [.int (r12.1)]) (ws' := fun _ => (OuN_c g a0 (r12.2))) hE hl.1 ml_X8_69 (c_X8_refuse_N l g a0 (r9.2) (4 : Int32) (-1 : Int32) r12 hc13) hZ hP hD hS hA 0 19 rfl (fun _ => rfl) okX8 rfl rfl rfl (fun _ => rfl) ⟨rfl, rfl⟩ ⟨Nat.le_of_ble_eq_true rfl, Nat.le_of_ble_eq_true rfl⟩ ⟨Nat.le_refl _, Nat.le_refl _⟩ (Nat.le_of_ble_eq_true rfl) dX8_desk_50 (fun _ H locs hP hD hS => ?_)
        cases hf
        exact hq () rfl hP hD hS dX8_desk_53
    · have hf := gif_f h4 hf
      refine lv_aload_n hx hb dX8_desk_18 rfl (lv_at hl 0 rfl) ?_
      refine lv_iconst hx hb dX8_desk_19 kci_2 ?_
      refine lv_iconst hx hb dX8_desk_20 kci_m1 ?_
      obtain ⟨r14, hc15, hf⟩ := gbd hf
      refine gm_callV1 (As := [.int (2 : Int32), .int (-1 : Int32)]) (rest := []) (st1 := fun _ => [.int (r14.1)]) (ws' := fun _ => (OuN_c g a0 (r14.2))) hE hl.1 ml_X8_69 (c_X8_refuse_N l g a0 s0 (2 : Int32) (-1 : Int32) r14 hc15) hZ hP hD hS hA 0 19 rfl (fun _ => rfl) okX8 rfl rfl rfl (fun _ => rfl) ⟨rfl, rfl⟩ ⟨Nat.le_of_ble_eq_true rfl, Nat.le_of_ble_eq_true rfl⟩ ⟨Nat.le_refl _, Nat.le_refl _⟩ (Nat.le_of_ble_eq_true rfl) dX8_desk_21 (fun _ H locs hP hD hS => ?_)
      cases hf
      exact hq () rfl hP hD hS dX8_desk_24
theorem dX8_feed_0 : decode cX8_feed 0 = .ok (.aload_n 0, 1) := by decide +kernel
theorem dX8_feed_1 : decode cX8_feed 1 = .ok (.getfield 14, 3) := by decide +kernel
theorem dX8_feed_4 : decode cX8_feed 4 = .ok (.getfield 52, 3) := by decide +kernel
theorem dX8_feed_7 : decode cX8_feed 7 = .ok (.astore 6, 2) := by decide +kernel
theorem dX8_feed_9 : decode cX8_feed 9 = .ok (.aload 6, 2) := by decide +kernel
theorem dX8_feed_11 : decode cX8_feed 11 = .ok (.bipush 20, 2) := by decide +kernel
theorem dX8_feed_13 : decode cX8_feed 13 = .ok (.invokevirtual 56, 3) := by decide +kernel
theorem dX8_feed_16 : decode cX8_feed 16 = .ok (.ifCond .ne 5, 3) := by decide +kernel
theorem dX8_feed_19 : decode cX8_feed 19 = .ok (.iconst (-1), 1) := by decide +kernel
theorem dX8_feed_20 : decode cX8_feed 20 = .ok (.ireturn, 1) := by decide +kernel
theorem dX8_feed_21 : decode cX8_feed 21 = .ok (.aload 6, 2) := by decide +kernel
theorem dX8_feed_23 : decode cX8_feed 23 = .ok (.iload_n 1, 1) := by decide +kernel
theorem dX8_feed_24 : decode cX8_feed 24 = .ok (.invokevirtual 62, 3) := by decide +kernel
theorem dX8_feed_27 : decode cX8_feed 27 = .ok (.aload 6, 2) := by decide +kernel
theorem dX8_feed_29 : decode cX8_feed 29 = .ok (.iload_n 2, 1) := by decide +kernel
theorem dX8_feed_30 : decode cX8_feed 30 = .ok (.invokevirtual 62, 3) := by decide +kernel
theorem dX8_feed_33 : decode cX8_feed 33 = .ok (.aload 6, 2) := by decide +kernel
theorem dX8_feed_35 : decode cX8_feed 35 = .ok (.iload_n 3, 1) := by decide +kernel
theorem dX8_feed_36 : decode cX8_feed 36 = .ok (.invokevirtual 62, 3) := by decide +kernel
theorem dX8_feed_39 : decode cX8_feed 39 = .ok (.aload 6, 2) := by decide +kernel
theorem dX8_feed_41 : decode cX8_feed 41 = .ok (.iload 4, 2) := by decide +kernel
theorem dX8_feed_43 : decode cX8_feed 43 = .ok (.invokevirtual 62, 3) := by decide +kernel
theorem dX8_feed_46 : decode cX8_feed 46 = .ok (.aload 6, 2) := by decide +kernel
theorem dX8_feed_48 : decode cX8_feed 48 = .ok (.iload 5, 2) := by decide +kernel
theorem dX8_feed_50 : decode cX8_feed 50 = .ok (.invokevirtual 62, 3) := by decide +kernel
theorem dX8_feed_53 : decode cX8_feed 53 = .ok (.aload 6, 2) := by decide +kernel
theorem dX8_feed_55 : decode cX8_feed 55 = .ok (.getfield 66, 3) := by decide +kernel
theorem dX8_feed_58 : decode cX8_feed 58 = .ok (.ireturn, 1) := by decide +kernel
def f_X8_feed_N (s0 : OuNT) (p1 : Int32) (p2 : Int32) (p3 : Int32) (p4 : Int32) (p5 : Int32) : Option (Int32 × OuNT) :=
  (f_X6_hasRoomFor (Rd_tape (OuN_reader s0)) (20 : Int32)).bind fun r1 =>
  if r1 = 0 then some ((-1 : Int32), s0)
  else (f_X6_put (Rd_tape (OuN_reader s0)) p1).bind fun r4 =>
  (f_X6_put r4 p2).bind fun r6 =>
  (f_X6_put r6 p3).bind fun r8 =>
  (f_X6_put r8 p4).bind fun r10 =>
  (f_X6_put r10 p5).bind fun r12 =>
  some ((Tp_length r12), (OuN_w_reader s0 (Rd_w_tape (OuN_reader s0) r12)))
abbrev rm_X8_feed_N : Room := { frames := 2, cells := 0, slots := 0, locals := 42 }
set_option maxHeartbeats 4000000 in
set_option maxRecDepth 100000 in
theorem c_X8_feed_N (l : Launch) (g : GK) (a0 : Nat → Nat) (s0 : OuNT) (p1 : Int32) (p2 : Int32) (p3 : Int32) (p4 : Int32) (p5 : Int32) (res : (Int32 × OuNT)) (hf : f_X8_feed_N s0 p1 p2 p3 p4 p5 = some res) : gM l yX8_feed cX8_feed 7 (some .int) rm_X8_feed_N g [.ref (a0 0), .int p1, .int p2, .int p3, .int p4, .int p5] (OuN_c g a0 s0) (fun _ : Unit => (some (.int (res.1)))) (fun _ => (OuN_c g a0 (res.2))) 0 0 := by
  refine gM_introI RX8 (by decide) rfl (Nat.le_of_ble_eq_true rfl) (fun p e s m args below meth c Q H locs ls A hE hZ hA hP hD hS hq hl => ?_)
  have hl : lv_has ls 7 [(0, .ref (a0 0)), (1, .int p1), (2, .int p2), (3, .int p3), (4, .int p4), (5, .int p5)] := hl
  have hx := hE.1
  have hb := hE.2.1
  rw [f_X8_feed_N] at hf
  refine lv_aload_n hx hb dX8_feed_0 rfl (lv_at hl 0 rfl) ?_
  refine g_get hE okX8 fl_X8_14 hP 0 rfl (v := .ref (a0 1)) rfl dX8_feed_1 ?_
  refine g_get hE okX3 fl_X8_52 hP 1 rfl (v := .ref (a0 2)) rfl dX8_feed_4 ?_
  refine lv_astore hx hb dX8_feed_7 hl (by decide) (lv' := [(6, .ref (a0 2)), (0, .ref (a0 0)), (1, .int p1), (2, .int p2), (3, .int p3), (4, .int p4), (5, .int p5)]) rfl (fun ls hl => ?_)
  refine lv_aload hx hb dX8_feed_9 (lv_at hl 0 rfl) ?_
  refine lv_bipush hx hb dX8_feed_11 kcb_20 ?_
  obtain ⟨r1, hc2, hf⟩ := gbd hf
  refine gr_callV (As := [.int (20 : Int32)]) (rest := []) (st1 := [.int r1]) hE hl.1 ml_X8_56 (c_X6_hasRoomFor l g (fun k => a0 (k + 2)) (Rd_tape (OuN_reader s0)) (20 : Int32) r1 hc2) hZ hS hP [(2, 2)] rfl okX6 rfl rfl rfl rfl ⟨rfl, rfl⟩ ⟨Nat.le_of_ble_eq_true rfl, Nat.le_of_ble_eq_true rfl⟩ ⟨Nat.le_refl _, Nat.le_refl _⟩ (Nat.le_of_ble_eq_true rfl) dX8_feed_13 ?_
  refine lv_if_ne hx hb dX8_feed_16 (tgt := 21) rfl (fun h3 => ?_) (fun h3 => ?_)
  · have hf := gif_f h3 hf
    refine lv_aload hx hb dX8_feed_21 (lv_at hl 0 rfl) ?_
    refine lv_iload_n hx hb dX8_feed_23 rfl (lv_at hl 2 rfl) ?_
    obtain ⟨r4, hc5, hf⟩ := gbd hf
    refine gm_callV1 (As := [.int p1]) (rest := []) (st1 := fun _ => []) (ws' := fun _ => (OuN_c g a0 (OuN_w_reader s0 (Rd_w_tape (OuN_reader s0) r4)))) hE hl.1 ml_X8_62 (c_X6_put l g (fun k => a0 (k + 2)) (Rd_tape (OuN_reader s0)) p1 r4 hc5) hZ hP hD hS hA 2 4 rfl (fun _ => rfl) okX6 rfl rfl rfl (fun _ => rfl) ⟨rfl, rfl⟩ ⟨Nat.le_of_ble_eq_true rfl, Nat.le_of_ble_eq_true rfl⟩ ⟨Nat.le_refl _, Nat.le_refl _⟩ (Nat.le_of_ble_eq_true rfl) dX8_feed_24 (fun _ H locs hP hD hS => ?_)
    refine lv_aload hx hb dX8_feed_27 (lv_at hl 0 rfl) ?_
    refine lv_iload_n hx hb dX8_feed_29 rfl (lv_at hl 3 rfl) ?_
    obtain ⟨r6, hc7, hf⟩ := gbd hf
    refine gm_callV1 (As := [.int p2]) (rest := []) (st1 := fun _ => []) (ws' := fun _ => (OuN_c g a0 (OuN_w_reader s0 (Rd_w_tape (OuN_reader s0) r6)))) hE hl.1 ml_X8_62 (c_X6_put l g (fun k => a0 (k + 2)) r4 p2 r6 hc7) hZ hP hD hS hA 2 4 rfl (fun _ => rfl) okX6 rfl rfl rfl (fun _ => rfl) ⟨rfl, rfl⟩ ⟨Nat.le_of_ble_eq_true rfl, Nat.le_of_ble_eq_true rfl⟩ ⟨Nat.le_refl _, Nat.le_refl _⟩ (Nat.le_of_ble_eq_true rfl) dX8_feed_30 (fun _ H locs hP hD hS => ?_)
    refine lv_aload hx hb dX8_feed_33 (lv_at hl 0 rfl) ?_
    refine lv_iload_n hx hb dX8_feed_35 rfl (lv_at hl 4 rfl) ?_
    obtain ⟨r8, hc9, hf⟩ := gbd hf
    refine gm_callV1 (As := [.int p3]) (rest := []) (st1 := fun _ => []) (ws' := fun _ => (OuN_c g a0 (OuN_w_reader s0 (Rd_w_tape (OuN_reader s0) r8)))) hE hl.1 ml_X8_62 (c_X6_put l g (fun k => a0 (k + 2)) r6 p3 r8 hc9) hZ hP hD hS hA 2 4 rfl (fun _ => rfl) okX6 rfl rfl rfl (fun _ => rfl) ⟨rfl, rfl⟩ ⟨Nat.le_of_ble_eq_true rfl, Nat.le_of_ble_eq_true rfl⟩ ⟨Nat.le_refl _, Nat.le_refl _⟩ (Nat.le_of_ble_eq_true rfl) dX8_feed_36 (fun _ H locs hP hD hS => ?_)
    refine lv_aload hx hb dX8_feed_39 (lv_at hl 0 rfl) ?_
    refine lv_iload hx hb dX8_feed_41 (lv_at hl 5 rfl) ?_
    obtain ⟨r10, hc11, hf⟩ := gbd hf
    refine gm_callV1 (As := [.int p4]) (rest := []) (st1 := fun _ => []) (ws' := fun _ => (OuN_c g a0 (OuN_w_reader s0 (Rd_w_tape (OuN_reader s0) r10)))) hE hl.1 ml_X8_62 (c_X6_put l g (fun k => a0 (k + 2)) r8 p4 r10 hc11) hZ hP hD hS hA 2 4 rfl (fun _ => rfl) okX6 rfl rfl rfl (fun _ => rfl) ⟨rfl, rfl⟩ ⟨Nat.le_of_ble_eq_true rfl, Nat.le_of_ble_eq_true rfl⟩ ⟨Nat.le_refl _, Nat.le_refl _⟩ (Nat.le_of_ble_eq_true rfl) dX8_feed_43 (fun _ H locs hP hD hS => ?_)
    refine lv_aload hx hb dX8_feed_46 (lv_at hl 0 rfl) ?_
    refine lv_iload hx hb dX8_feed_48 (lv_at hl 6 rfl) ?_
    obtain ⟨r12, hc13, hf⟩ := gbd hf
    refine gm_callV1 (As := [.int p5]) (rest := []) (st1 := fun _ => []) (ws' := fun _ => (OuN_c g a0 (OuN_w_reader s0 (Rd_w_tape (OuN_reader s0) r12)))) hE hl.1 ml_X8_62 (c_X6_put l g (fun k => a0 (k + 2)) r10 p5 r12 hc13) hZ hP hD hS hA 2 4 rfl (fun _ => rfl) okX6 rfl rfl rfl (fun _ => rfl) ⟨rfl, rfl⟩ ⟨Nat.le_of_ble_eq_true rfl, Nat.le_of_ble_eq_true rfl⟩ ⟨Nat.le_refl _, Nat.le_refl _⟩ (Nat.le_of_ble_eq_true rfl) dX8_feed_50 (fun _ H locs hP hD hS => ?_)
    refine lv_aload hx hb dX8_feed_53 (lv_at hl 0 rfl) ?_
    refine g_get hE okX6 fl_X8_66 hP 2 rfl (v := .int (Tp_length r12)) rfl dX8_feed_55 ?_
    cases hf
    exact hq () rfl hP hD hS dX8_feed_58
  · have hf := gif_t h3 hf
    refine lv_iconst hx hb dX8_feed_19 kci_m1 ?_
    cases hf
    exact hq () rfl hP hD hS dX8_feed_20
theorem dX8_more_0 : decode cX8_more 0 = .ok (.aload_n 0, 1) := by decide +kernel
theorem dX8_more_1 : decode cX8_more 1 = .ok (.getfield 31, 3) := by decide +kernel
theorem dX8_more_4 : decode cX8_more 4 = .ok (.ifnonnull 10, 3) := by decide +kernel
theorem dX8_more_7 : decode cX8_more 7 = .ok (.aload_n 0, 1) := by decide +kernel
theorem dX8_more_8 : decode cX8_more 8 = .ok (.iconst 1, 1) := by decide +kernel
theorem dX8_more_9 : decode cX8_more 9 = .ok (.iconst (-1), 1) := by decide +kernel
theorem dX8_more_10 : decode cX8_more 10 = .ok (.invokevirtual 69, 3) := by decide +kernel
theorem dX8_more_13 : decode cX8_more 13 = .ok (.ireturn, 1) := by decide +kernel
theorem dX8_more_14 : decode cX8_more 14 = .ok (.iload_n 1, 1) := by decide +kernel
theorem dX8_more_15 : decode cX8_more 15 = .ok (.ifCond .lt 17, 3) := by decide +kernel
theorem dX8_more_18 : decode cX8_more 18 = .ok (.iload_n 1, 1) := by decide +kernel
theorem dX8_more_19 : decode cX8_more 19 = .ok (.aload_n 0, 1) := by decide +kernel
theorem dX8_more_20 : decode cX8_more 20 = .ok (.getfield 14, 3) := by decide +kernel
theorem dX8_more_23 : decode cX8_more 23 = .ok (.getfield 52, 3) := by decide +kernel
theorem dX8_more_26 : decode cX8_more 26 = .ok (.getfield 66, 3) := by decide +kernel
theorem dX8_more_29 : decode cX8_more 29 = .ok (.if_icmp .le 10, 3) := by decide +kernel
theorem dX8_more_32 : decode cX8_more 32 = .ok (.aload_n 0, 1) := by decide +kernel
theorem dX8_more_33 : decode cX8_more 33 = .ok (.iconst 2, 1) := by decide +kernel
theorem dX8_more_34 : decode cX8_more 34 = .ok (.iconst (-1), 1) := by decide +kernel
theorem dX8_more_35 : decode cX8_more 35 = .ok (.invokevirtual 69, 3) := by decide +kernel
theorem dX8_more_38 : decode cX8_more 38 = .ok (.ireturn, 1) := by decide +kernel
theorem dX8_more_39 : decode cX8_more 39 = .ok (.aload_n 0, 1) := by decide +kernel
theorem dX8_more_40 : decode cX8_more 40 = .ok (.getfield 14, 3) := by decide +kernel
theorem dX8_more_43 : decode cX8_more 43 = .ok (.aload_n 0, 1) := by decide +kernel
theorem dX8_more_44 : decode cX8_more 44 = .ok (.getfield 31, 3) := by decide +kernel
theorem dX8_more_47 : decode cX8_more 47 = .ok (.getfield 107, 3) := by decide +kernel
theorem dX8_more_50 : decode cX8_more 50 = .ok (.aload_n 0, 1) := by decide +kernel
theorem dX8_more_51 : decode cX8_more 51 = .ok (.getfield 31, 3) := by decide +kernel
theorem dX8_more_54 : decode cX8_more 54 = .ok (.getfield 111, 3) := by decide +kernel
theorem dX8_more_57 : decode cX8_more 57 = .ok (.invokevirtual 114, 3) := by decide +kernel
theorem dX8_more_60 : decode cX8_more 60 = .ok (.aload_n 0, 1) := by decide +kernel
theorem dX8_more_61 : decode cX8_more 61 = .ok (.aload_n 0, 1) := by decide +kernel
theorem dX8_more_62 : decode cX8_more 62 = .ok (.getfield 14, 3) := by decide +kernel
theorem dX8_more_65 : decode cX8_more 65 = .ok (.iload_n 1, 1) := by decide +kernel
theorem dX8_more_66 : decode cX8_more 66 = .ok (.invokevirtual 76, 3) := by decide +kernel
theorem dX8_more_69 : decode cX8_more 69 = .ok (.invokevirtual 79, 3) := by decide +kernel
theorem dX8_more_72 : decode cX8_more 72 = .ok (.ifCond .ne 10, 3) := by decide +kernel
theorem dX8_more_75 : decode cX8_more 75 = .ok (.aload_n 0, 1) := by decide +kernel
theorem dX8_more_76 : decode cX8_more 76 = .ok (.iconst 4, 1) := by decide +kernel
theorem dX8_more_77 : decode cX8_more 77 = .ok (.iconst (-1), 1) := by decide +kernel
theorem dX8_more_78 : decode cX8_more 78 = .ok (.invokevirtual 69, 3) := by decide +kernel
theorem dX8_more_81 : decode cX8_more 81 = .ok (.ireturn, 1) := by decide +kernel
theorem dX8_more_82 : decode cX8_more 82 = .ok (.aload_n 0, 1) := by decide +kernel
theorem dX8_more_83 : decode cX8_more 83 = .ok (.aload_n 0, 1) := by decide +kernel
theorem dX8_more_84 : decode cX8_more 84 = .ok (.aload_n 0, 1) := by decide +kernel
theorem dX8_more_85 : decode cX8_more 85 = .ok (.getfield 31, 3) := by decide +kernel
theorem dX8_more_88 : decode cX8_more 88 = .ok (.invokevirtual 99, 3) := by decide +kernel
theorem dX8_more_91 : decode cX8_more 91 = .ok (.invokevirtual 103, 3) := by decide +kernel
theorem dX8_more_94 : decode cX8_more 94 = .ok (.ireturn, 1) := by decide +kernel
def f_X8_more_N (s0 : OuNT) (p1 : Int32) : Option (Int32 × OuNT) :=
  (f_X8_refuse_N s0 (1 : Int32) (-1 : Int32)).bind fun r1 =>
  some ((r1.1), (r1.2))
abbrev rm_X8_more_N : Room := { frames := 6, cells := 0, slots := 0, locals := 134 }
set_option maxHeartbeats 4000000 in
set_option maxRecDepth 100000 in
theorem c_X8_more_N (l : Launch) (g : GK) (a0 : Nat → Nat) (s0 : OuNT) (p1 : Int32) (res : (Int32 × OuNT)) (hf : f_X8_more_N s0 p1 = some res) : gM l yX8_more cX8_more 2 (some .int) rm_X8_more_N g [.ref (a0 0), .int p1] (OuN_c g a0 s0) (fun _ : Unit => (some (.int (res.1)))) (fun _ => (OuN_c g a0 (res.2))) 0 0 := by
  refine gM_introI RX8 (by decide) rfl (Nat.le_of_ble_eq_true rfl) (fun p e s m args below meth c Q H locs ls A hE hZ hA hP hD hS hq hl => ?_)
  have hl : lv_has ls 2 [(0, .ref (a0 0)), (1, .int p1)] := hl
  have hx := hE.1
  have hb := hE.2.1
  rw [f_X8_more_N] at hf
  refine lv_aload_n hx hb dX8_more_0 rfl (lv_at hl 0 rfl) ?_
  refine g_get hE okX8 fl_X8_31 hP 0 rfl (v := .null) rfl dX8_more_1 ?_
  refine lv_ifnonnullN hx hb dX8_more_4 ?_
  refine lv_aload_n hx hb dX8_more_7 rfl (lv_at hl 0 rfl) ?_
  refine lv_iconst hx hb dX8_more_8 kci_1 ?_
  refine lv_iconst hx hb dX8_more_9 kci_m1 ?_
  obtain ⟨r1, hc2, hf⟩ := gbd hf
  refine gm_callV1 (As := [.int (1 : Int32), .int (-1 : Int32)]) (rest := []) (st1 := fun _ => [.int (r1.1)]) (ws' := fun _ => (OuN_c g a0 (r1.2))) hE hl.1 ml_X8_69 (c_X8_refuse_N l g a0 s0 (1 : Int32) (-1 : Int32) r1 hc2) hZ hP hD hS hA 0 19 rfl (fun _ => rfl) okX8 rfl rfl rfl (fun _ => rfl) ⟨rfl, rfl⟩ ⟨Nat.le_of_ble_eq_true rfl, Nat.le_of_ble_eq_true rfl⟩ ⟨Nat.le_refl _, Nat.le_refl _⟩ (Nat.le_of_ble_eq_true rfl) dX8_more_10 (fun _ H locs hP hD hS => ?_)
  cases hf
  exact hq () rfl hP hD hS dX8_more_13
theorem dX8_fault_0 : decode cX8_fault 0 = .ok (.aload_n 0, 1) := by decide +kernel
theorem dX8_fault_1 : decode cX8_fault 1 = .ok (.getfield 46, 3) := by decide +kernel
theorem dX8_fault_4 : decode cX8_fault 4 = .ok (.ireturn, 1) := by decide +kernel
def f_X8_fault_N (s0 : OuNT) : Option (Int32) :=
  some ((OuN_fault s0))
abbrev rm_X8_fault_N : Room := { frames := 0, cells := 0, slots := 0, locals := 0 }
set_option maxHeartbeats 4000000 in
set_option maxRecDepth 100000 in
theorem c_X8_fault_N (l : Launch) (g : GK) (a0 : Nat → Nat) (s0 : OuNT) (res : (Int32)) (hf : f_X8_fault_N s0 = some res) : gR l yX8_fault cX8_fault 1 (some .int) rm_X8_fault_N g [.ref (a0 0)] (OuN_c g a0 s0) (some (.int res)) := by
  refine gR_introI RX8 (by decide) rfl (Nat.le_of_ble_eq_true rfl) (fun p e s m args below meth c Q H locs ls hE hP hZ hS hq hl => ?_)
  have hl : lv_has ls 1 [(0, .ref (a0 0))] := hl
  have hx := hE.1
  have hb := hE.2.1
  rw [f_X8_fault_N] at hf
  refine lv_aload_n hx hb dX8_fault_0 rfl (lv_at hl 0 rfl) ?_
  refine g_get hE okX8 fl_X8_46 hP 0 rfl (v := .int (OuN_fault s0)) rfl dX8_fault_1 ?_
  cases hf
  exact hq rfl dX8_fault_4
theorem dX8_where_0 : decode cX8_where 0 = .ok (.aload_n 0, 1) := by decide +kernel
theorem dX8_where_1 : decode cX8_where 1 = .ok (.getfield 42, 3) := by decide +kernel
theorem dX8_where_4 : decode cX8_where 4 = .ok (.iconst 4, 1) := by decide +kernel
theorem dX8_where_5 : decode cX8_where 5 = .ok (.if_icmp .ne 10, 3) := by decide +kernel
theorem dX8_where_8 : decode cX8_where 8 = .ok (.aload_n 0, 1) := by decide +kernel
theorem dX8_where_9 : decode cX8_where 9 = .ok (.getfield 49, 3) := by decide +kernel
theorem dX8_where_12 : decode cX8_where 12 = .ok (.goto 4, 3) := by decide +kernel
theorem dX8_where_15 : decode cX8_where 15 = .ok (.iconst (-1), 1) := by decide +kernel
theorem dX8_where_16 : decode cX8_where 16 = .ok (.ireturn, 1) := by decide +kernel
def f_X8_where_N (s0 : OuNT) : Option (Int32) :=
  if (OuN_trouble s0) = (4 : Int32) then some ((OuN_place s0))
  else some ((-1 : Int32))
abbrev rm_X8_where_N : Room := { frames := 0, cells := 0, slots := 0, locals := 0 }
set_option maxHeartbeats 4000000 in
set_option maxRecDepth 100000 in
theorem c_X8_where_N (l : Launch) (g : GK) (a0 : Nat → Nat) (s0 : OuNT) (res : (Int32)) (hf : f_X8_where_N s0 = some res) : gR l yX8_where cX8_where 1 (some .int) rm_X8_where_N g [.ref (a0 0)] (OuN_c g a0 s0) (some (.int res)) := by
  refine gR_introI RX8 (by decide) rfl (Nat.le_of_ble_eq_true rfl) (fun p e s m args below meth c Q H locs ls hE hP hZ hS hq hl => ?_)
  have hl : lv_has ls 1 [(0, .ref (a0 0))] := hl
  have hx := hE.1
  have hb := hE.2.1
  rw [f_X8_where_N] at hf
  refine lv_aload_n hx hb dX8_where_0 rfl (lv_at hl 0 rfl) ?_
  refine g_get hE okX8 fl_X8_42 hP 0 rfl (v := .int (OuN_trouble s0)) rfl dX8_where_1 ?_
  refine lv_iconst hx hb dX8_where_4 kci_4 ?_
  refine lv_icmp_ne hx hb dX8_where_5 (tgt := 15) rfl (fun h1 => ?_) (fun h1 => ?_)
  · have hf := gif_f h1 hf
    refine lv_iconst hx hb dX8_where_15 kci_m1 ?_
    cases hf
    exact hq rfl dX8_where_16
  · have hf := gif_t h1 hf
    refine lv_aload_n hx hb dX8_where_8 rfl (lv_at hl 0 rfl) ?_
    refine g_get hE okX8 fl_X8_49 hP 0 rfl (v := .int (OuN_place s0)) rfl dX8_where_9 ?_
    refine lv_goto hx hb dX8_where_12 (tgt := 16) rfl ?_
    cases hf
    exact hq rfl dX8_where_16
theorem dX8_about_0 : decode cX8_about 0 = .ok (.aload_n 0, 1) := by decide +kernel
theorem dX8_about_1 : decode cX8_about 1 = .ok (.getfield 31, 3) := by decide +kernel
theorem dX8_about_4 : decode cX8_about 4 = .ok (.ifnull 13, 3) := by decide +kernel
theorem dX8_about_7 : decode cX8_about 7 = .ok (.iload_n 1, 1) := by decide +kernel
theorem dX8_about_8 : decode cX8_about 8 = .ok (.ifCond .lt 9, 3) := by decide +kernel
theorem dX8_about_11 : decode cX8_about 11 = .ok (.iload_n 1, 1) := by decide +kernel
theorem dX8_about_12 : decode cX8_about 12 = .ok (.bipush 9, 2) := by decide +kernel
theorem dX8_about_14 : decode cX8_about 14 = .ok (.if_icmp .le 10, 3) := by decide +kernel
theorem dX8_about_17 : decode cX8_about 17 = .ok (.aload_n 0, 1) := by decide +kernel
theorem dX8_about_18 : decode cX8_about 18 = .ok (.iconst 1, 1) := by decide +kernel
theorem dX8_about_19 : decode cX8_about 19 = .ok (.iconst (-1), 1) := by decide +kernel
theorem dX8_about_20 : decode cX8_about 20 = .ok (.invokevirtual 69, 3) := by decide +kernel
theorem dX8_about_23 : decode cX8_about 23 = .ok (.ireturn, 1) := by decide +kernel
theorem dX8_about_24 : decode cX8_about 24 = .ok (.aload_n 0, 1) := by decide +kernel
theorem dX8_about_25 : decode cX8_about 25 = .ok (.aload_n 0, 1) := by decide +kernel
theorem dX8_about_26 : decode cX8_about 26 = .ok (.getfield 31, 3) := by decide +kernel
theorem dX8_about_29 : decode cX8_about 29 = .ok (.iload_n 1, 1) := by decide +kernel
theorem dX8_about_30 : decode cX8_about 30 = .ok (.invokevirtual 118, 3) := by decide +kernel
theorem dX8_about_33 : decode cX8_about 33 = .ok (.invokevirtual 103, 3) := by decide +kernel
theorem dX8_about_36 : decode cX8_about 36 = .ok (.ireturn, 1) := by decide +kernel
def f_X8_about_N (s0 : OuNT) (p1 : Int32) : Option (Int32 × OuNT) :=
  (f_X8_refuse_N s0 (1 : Int32) (-1 : Int32)).bind fun r1 =>
  some ((r1.1), (r1.2))
abbrev rm_X8_about_N : Room := { frames := 3, cells := 0, slots := 0, locals := 64 }
set_option maxHeartbeats 4000000 in
set_option maxRecDepth 100000 in
theorem c_X8_about_N (l : Launch) (g : GK) (a0 : Nat → Nat) (s0 : OuNT) (p1 : Int32) (res : (Int32 × OuNT)) (hf : f_X8_about_N s0 p1 = some res) : gM l yX8_about cX8_about 2 (some .int) rm_X8_about_N g [.ref (a0 0), .int p1] (OuN_c g a0 s0) (fun _ : Unit => (some (.int (res.1)))) (fun _ => (OuN_c g a0 (res.2))) 0 0 := by
  refine gM_introI RX8 (by decide) rfl (Nat.le_of_ble_eq_true rfl) (fun p e s m args below meth c Q H locs ls A hE hZ hA hP hD hS hq hl => ?_)
  have hl : lv_has ls 2 [(0, .ref (a0 0)), (1, .int p1)] := hl
  have hx := hE.1
  have hb := hE.2.1
  rw [f_X8_about_N] at hf
  refine lv_aload_n hx hb dX8_about_0 rfl (lv_at hl 0 rfl) ?_
  refine g_get hE okX8 fl_X8_31 hP 0 rfl (v := .null) rfl dX8_about_1 ?_
  refine lv_ifnullN hx hb dX8_about_4 (tgt := 17) rfl ?_
  refine lv_aload_n hx hb dX8_about_17 rfl (lv_at hl 0 rfl) ?_
  refine lv_iconst hx hb dX8_about_18 kci_1 ?_
  refine lv_iconst hx hb dX8_about_19 kci_m1 ?_
  obtain ⟨r1, hc2, hf⟩ := gbd hf
  refine gm_callV1 (As := [.int (1 : Int32), .int (-1 : Int32)]) (rest := []) (st1 := fun _ => [.int (r1.1)]) (ws' := fun _ => (OuN_c g a0 (r1.2))) hE hl.1 ml_X8_69 (c_X8_refuse_N l g a0 s0 (1 : Int32) (-1 : Int32) r1 hc2) hZ hP hD hS hA 0 19 rfl (fun _ => rfl) okX8 rfl rfl rfl (fun _ => rfl) ⟨rfl, rfl⟩ ⟨Nat.le_of_ble_eq_true rfl, Nat.le_of_ble_eq_true rfl⟩ ⟨Nat.le_refl _, Nat.le_refl _⟩ (Nat.le_of_ble_eq_true rfl) dX8_about_20 (fun _ H locs hP hD hS => ?_)
  cases hf
  exact hq () rfl hP hD hS dX8_about_23
theorem dX8_letter_0 : decode cX8_letter 0 = .ok (.aload_n 0, 1) := by decide +kernel
theorem dX8_letter_1 : decode cX8_letter 1 = .ok (.getfield 31, 3) := by decide +kernel
theorem dX8_letter_4 : decode cX8_letter 4 = .ok (.ifnull 16, 3) := by decide +kernel
theorem dX8_letter_7 : decode cX8_letter 7 = .ok (.iload_n 1, 1) := by decide +kernel
theorem dX8_letter_8 : decode cX8_letter 8 = .ok (.ifCond .lt 12, 3) := by decide +kernel
theorem dX8_letter_11 : decode cX8_letter 11 = .ok (.iload_n 1, 1) := by decide +kernel
theorem dX8_letter_12 : decode cX8_letter 12 = .ok (.iconst 1, 1) := by decide +kernel
theorem dX8_letter_13 : decode cX8_letter 13 = .ok (.if_icmp .gt 7, 3) := by decide +kernel
theorem dX8_letter_16 : decode cX8_letter 16 = .ok (.iload_n 3, 1) := by decide +kernel
theorem dX8_letter_17 : decode cX8_letter 17 = .ok (.ifCond .ge 10, 3) := by decide +kernel
theorem dX8_letter_20 : decode cX8_letter 20 = .ok (.aload_n 0, 1) := by decide +kernel
theorem dX8_letter_21 : decode cX8_letter 21 = .ok (.iconst 1, 1) := by decide +kernel
theorem dX8_letter_22 : decode cX8_letter 22 = .ok (.iconst (-1), 1) := by decide +kernel
theorem dX8_letter_23 : decode cX8_letter 23 = .ok (.invokevirtual 69, 3) := by decide +kernel
theorem dX8_letter_26 : decode cX8_letter 26 = .ok (.ireturn, 1) := by decide +kernel
theorem dX8_letter_27 : decode cX8_letter 27 = .ok (.iload_n 1, 1) := by decide +kernel
theorem dX8_letter_28 : decode cX8_letter 28 = .ok (.ifCond .ne 13, 3) := by decide +kernel
theorem dX8_letter_31 : decode cX8_letter 31 = .ok (.aload_n 0, 1) := by decide +kernel
theorem dX8_letter_32 : decode cX8_letter 32 = .ok (.getfield 31, 3) := by decide +kernel
theorem dX8_letter_35 : decode cX8_letter 35 = .ok (.getfield 107, 3) := by decide +kernel
theorem dX8_letter_38 : decode cX8_letter 38 = .ok (.goto 10, 3) := by decide +kernel
theorem dX8_letter_41 : decode cX8_letter 41 = .ok (.aload_n 0, 1) := by decide +kernel
theorem dX8_letter_42 : decode cX8_letter 42 = .ok (.getfield 31, 3) := by decide +kernel
theorem dX8_letter_45 : decode cX8_letter 45 = .ok (.getfield 111, 3) := by decide +kernel
theorem dX8_letter_48 : decode cX8_letter 48 = .ok (.astore 4, 2) := by decide +kernel
theorem dX8_letter_50 : decode cX8_letter 50 = .ok (.aload 4, 2) := by decide +kernel
theorem dX8_letter_52 : decode cX8_letter 52 = .ok (.iload_n 2, 1) := by decide +kernel
theorem dX8_letter_53 : decode cX8_letter 53 = .ok (.invokevirtual 121, 3) := by decide +kernel
theorem dX8_letter_56 : decode cX8_letter 56 = .ok (.ifCond .ne 10, 3) := by decide +kernel
theorem dX8_letter_59 : decode cX8_letter 59 = .ok (.aload_n 0, 1) := by decide +kernel
theorem dX8_letter_60 : decode cX8_letter 60 = .ok (.iconst 1, 1) := by decide +kernel
theorem dX8_letter_61 : decode cX8_letter 61 = .ok (.iconst (-1), 1) := by decide +kernel
theorem dX8_letter_62 : decode cX8_letter 62 = .ok (.invokevirtual 69, 3) := by decide +kernel
theorem dX8_letter_65 : decode cX8_letter 65 = .ok (.ireturn, 1) := by decide +kernel
theorem dX8_letter_66 : decode cX8_letter 66 = .ok (.aload_n 0, 1) := by decide +kernel
theorem dX8_letter_67 : decode cX8_letter 67 = .ok (.aload 4, 2) := by decide +kernel
theorem dX8_letter_69 : decode cX8_letter 69 = .ok (.iload_n 2, 1) := by decide +kernel
theorem dX8_letter_70 : decode cX8_letter 70 = .ok (.iload_n 3, 1) := by decide +kernel
theorem dX8_letter_71 : decode cX8_letter 71 = .ok (.invokevirtual 126, 3) := by decide +kernel
theorem dX8_letter_74 : decode cX8_letter 74 = .ok (.invokevirtual 103, 3) := by decide +kernel
theorem dX8_letter_77 : decode cX8_letter 77 = .ok (.ireturn, 1) := by decide +kernel
def f_X8_letter_N (s0 : OuNT) (p1 : Int32) (p2 : Int32) (p3 : Int32) : Option (Int32 × OuNT) :=
  (f_X8_refuse_N s0 (1 : Int32) (-1 : Int32)).bind fun r1 =>
  some ((r1.1), (r1.2))
abbrev rm_X8_letter_N : Room := { frames := 2, cells := 0, slots := 0, locals := 43 }
set_option maxHeartbeats 4000000 in
set_option maxRecDepth 100000 in
theorem c_X8_letter_N (l : Launch) (g : GK) (a0 : Nat → Nat) (s0 : OuNT) (p1 : Int32) (p2 : Int32) (p3 : Int32) (res : (Int32 × OuNT)) (hf : f_X8_letter_N s0 p1 p2 p3 = some res) : gM l yX8_letter cX8_letter 5 (some .int) rm_X8_letter_N g [.ref (a0 0), .int p1, .int p2, .int p3] (OuN_c g a0 s0) (fun _ : Unit => (some (.int (res.1)))) (fun _ => (OuN_c g a0 (res.2))) 0 0 := by
  refine gM_introI RX8 (by decide) rfl (Nat.le_of_ble_eq_true rfl) (fun p e s m args below meth c Q H locs ls A hE hZ hA hP hD hS hq hl => ?_)
  have hl : lv_has ls 5 [(0, .ref (a0 0)), (1, .int p1), (2, .int p2), (3, .int p3)] := hl
  have hx := hE.1
  have hb := hE.2.1
  rw [f_X8_letter_N] at hf
  refine lv_aload_n hx hb dX8_letter_0 rfl (lv_at hl 0 rfl) ?_
  refine g_get hE okX8 fl_X8_31 hP 0 rfl (v := .null) rfl dX8_letter_1 ?_
  refine lv_ifnullN hx hb dX8_letter_4 (tgt := 20) rfl ?_
  refine lv_aload_n hx hb dX8_letter_20 rfl (lv_at hl 0 rfl) ?_
  refine lv_iconst hx hb dX8_letter_21 kci_1 ?_
  refine lv_iconst hx hb dX8_letter_22 kci_m1 ?_
  obtain ⟨r1, hc2, hf⟩ := gbd hf
  refine gm_callV1 (As := [.int (1 : Int32), .int (-1 : Int32)]) (rest := []) (st1 := fun _ => [.int (r1.1)]) (ws' := fun _ => (OuN_c g a0 (r1.2))) hE hl.1 ml_X8_69 (c_X8_refuse_N l g a0 s0 (1 : Int32) (-1 : Int32) r1 hc2) hZ hP hD hS hA 0 19 rfl (fun _ => rfl) okX8 rfl rfl rfl (fun _ => rfl) ⟨rfl, rfl⟩ ⟨Nat.le_of_ble_eq_true rfl, Nat.le_of_ble_eq_true rfl⟩ ⟨Nat.le_refl _, Nat.le_refl _⟩ (Nat.le_of_ble_eq_true rfl) dX8_letter_23 (fun _ H locs hP hD hS => ?_)
  cases hf
  exact hq () rfl hP hD hS dX8_letter_26
theorem dX8_net_0 : decode cX8_net 0 = .ok (.iload_n 1, 1) := by decide +kernel
theorem dX8_net_1 : decode cX8_net 1 = .ok (.invokestatic 129, 3) := by decide +kernel
theorem dX8_net_4 : decode cX8_net 4 = .ok (.ifCond .eq 19, 3) := by decide +kernel
theorem dX8_net_7 : decode cX8_net 7 = .ok (.aload_n 0, 1) := by decide +kernel
theorem dX8_net_8 : decode cX8_net 8 = .ok (.iload_n 2, 1) := by decide +kernel
theorem dX8_net_9 : decode cX8_net 9 = .ok (.invokevirtual 132, 3) := by decide +kernel
theorem dX8_net_12 : decode cX8_net 12 = .ok (.ifCond .eq 11, 3) := by decide +kernel
theorem dX8_net_15 : decode cX8_net 15 = .ok (.aload_n 0, 1) := by decide +kernel
theorem dX8_net_16 : decode cX8_net 16 = .ok (.iload_n 3, 1) := by decide +kernel
theorem dX8_net_17 : decode cX8_net 17 = .ok (.invokevirtual 135, 3) := by decide +kernel
theorem dX8_net_20 : decode cX8_net 20 = .ok (.ifCond .ne 11, 3) := by decide +kernel
theorem dX8_net_23 : decode cX8_net 23 = .ok (.aload_n 0, 1) := by decide +kernel
theorem dX8_net_24 : decode cX8_net 24 = .ok (.iconst 1, 1) := by decide +kernel
theorem dX8_net_25 : decode cX8_net 25 = .ok (.ldc 138, 2) := by decide +kernel
theorem dX8_net_27 : decode cX8_net 27 = .ok (.invokevirtual 69, 3) := by decide +kernel
theorem dX8_net_30 : decode cX8_net 30 = .ok (.ireturn, 1) := by decide +kernel
theorem dX8_net_31 : decode cX8_net 31 = .ok (.aload_n 0, 1) := by decide +kernel
theorem dX8_net_32 : decode cX8_net 32 = .ok (.aload_n 0, 1) := by decide +kernel
theorem dX8_net_33 : decode cX8_net 33 = .ok (.getfield 31, 3) := by decide +kernel
theorem dX8_net_36 : decode cX8_net 36 = .ok (.getfield 139, 3) := by decide +kernel
theorem dX8_net_39 : decode cX8_net 39 = .ok (.iload_n 1, 1) := by decide +kernel
theorem dX8_net_40 : decode cX8_net 40 = .ok (.iload_n 2, 1) := by decide +kernel
theorem dX8_net_41 : decode cX8_net 41 = .ok (.iload_n 3, 1) := by decide +kernel
theorem dX8_net_42 : decode cX8_net 42 = .ok (.invokevirtual 142, 3) := by decide +kernel
theorem dX8_net_45 : decode cX8_net 45 = .ok (.invokevirtual 103, 3) := by decide +kernel
theorem dX8_net_48 : decode cX8_net 48 = .ok (.ireturn, 1) := by decide +kernel
def f_X8_net_N (s0 : OuNT) (p1 : Int32) (p2 : Int32) (p3 : Int32) : Option (Int32 × OuNT) :=
  (f_X8_isSide p1).bind fun r1 =>
  if r1 = 0 then (f_X8_refuse_N s0 (1 : Int32) (-2147483648 : Int32)).bind fun r4 =>
  some ((r4.1), (r4.2))
  else (f_X8_isKey_N s0 p2).bind fun r6 =>
  if r6 = 0 then (f_X8_refuse_N s0 (1 : Int32) (-2147483648 : Int32)).bind fun r9 =>
  some ((r9.1), (r9.2))
  else (f_X8_isValue_N s0 p3).bind fun r11 =>
  if r11 = 0 then (f_X8_refuse_N s0 (1 : Int32) (-2147483648 : Int32)).bind fun r14 =>
  some ((r14.1), (r14.2))
  else none
abbrev rm_X8_net_N : Room := { frames := 2, cells := 0, slots := 0, locals := 45 }
set_option maxHeartbeats 4000000 in
set_option maxRecDepth 100000 in
theorem c_X8_net_N (l : Launch) (g : GK) (a0 : Nat → Nat) (s0 : OuNT) (p1 : Int32) (p2 : Int32) (p3 : Int32) (res : (Int32 × OuNT)) (hf : f_X8_net_N s0 p1 p2 p3 = some res) : gM l yX8_net cX8_net 4 (some .int) rm_X8_net_N g [.ref (a0 0), .int p1, .int p2, .int p3] (OuN_c g a0 s0) (fun _ : Unit => (some (.int (res.1)))) (fun _ => (OuN_c g a0 (res.2))) 0 0 := by
  refine gM_introI RX8 (by decide) rfl (Nat.le_of_ble_eq_true rfl) (fun p e s m args below meth c Q H locs ls A hE hZ hA hP hD hS hq hl => ?_)
  have hl : lv_has ls 4 [(0, .ref (a0 0)), (1, .int p1), (2, .int p2), (3, .int p3)] := hl
  have hx := hE.1
  have hb := hE.2.1
  rw [f_X8_net_N] at hf
  refine lv_iload_n hx hb dX8_net_0 rfl (lv_at hl 1 rfl) ?_
  obtain ⟨r1, hc2, hf⟩ := gbd hf
  refine gr_callS (As := [.int p1]) (rest := []) (st1 := [.int r1]) hE hl.1 ml_X8_129 (c_X8_isSide l g p1 r1 hc2) hZ hS hP [] rfl rfl rfl rfl ⟨rfl, rfl⟩ ⟨Nat.le_of_ble_eq_true rfl, Nat.le_of_ble_eq_true rfl⟩ ⟨Nat.le_refl _, Nat.le_refl _⟩ (Nat.le_of_ble_eq_true rfl) dX8_net_1 ?_
  refine lv_if_eq hx hb dX8_net_4 (tgt := 23) rfl (fun h3 => ?_) (fun h3 => ?_)
  · have hf := gif_t h3 hf
    refine lv_aload_n hx hb dX8_net_23 rfl (lv_at hl 0 rfl) ?_
    refine lv_iconst hx hb dX8_net_24 kci_1 ?_
    refine lv_ldc hx hb hE.2.2.2.2.2.1 (hE.2.2.2.2.2.2.1 _ kd_X8_138) dX8_net_25 ?_
    obtain ⟨r4, hc5, hf⟩ := gbd hf
    refine gm_callV1 (As := [.int (1 : Int32), .int (-2147483648 : Int32)]) (rest := []) (st1 := fun _ => [.int (r4.1)]) (ws' := fun _ => (OuN_c g a0 (r4.2))) hE hl.1 ml_X8_69 (c_X8_refuse_N l g a0 s0 (1 : Int32) (-2147483648 : Int32) r4 hc5) hZ hP hD hS hA 0 19 rfl (fun _ => rfl) okX8 rfl rfl rfl (fun _ => rfl) ⟨rfl, rfl⟩ ⟨Nat.le_of_ble_eq_true rfl, Nat.le_of_ble_eq_true rfl⟩ ⟨Nat.le_refl _, Nat.le_refl _⟩ (Nat.le_of_ble_eq_true rfl) dX8_net_27 (fun _ H locs hP hD hS => ?_)
    cases hf
    exact hq () rfl hP hD hS dX8_net_30
  · have hf := gif_f h3 hf
    refine lv_aload_n hx hb dX8_net_7 rfl (lv_at hl 0 rfl) ?_
    refine lv_iload_n hx hb dX8_net_8 rfl (lv_at hl 2 rfl) ?_
    obtain ⟨r6, hc7, hf⟩ := gbd hf
    refine gr_callV (As := [.int p2]) (rest := []) (st1 := [.int r6]) hE hl.1 ml_X8_132 (c_X8_isKey_N l g a0 s0 p2 r6 hc7) hZ hS hP [(0, 19)] rfl okX8 rfl rfl rfl rfl ⟨rfl, rfl⟩ ⟨Nat.le_of_ble_eq_true rfl, Nat.le_of_ble_eq_true rfl⟩ ⟨Nat.le_refl _, Nat.le_refl _⟩ (Nat.le_of_ble_eq_true rfl) dX8_net_9 ?_
    refine lv_if_eq hx hb dX8_net_12 (tgt := 23) rfl (fun h8 => ?_) (fun h8 => ?_)
    · have hf := gif_t h8 hf
      refine lv_aload_n hx hb dX8_net_23 rfl (lv_at hl 0 rfl) ?_
      refine lv_iconst hx hb dX8_net_24 kci_1 ?_
      refine lv_ldc hx hb hE.2.2.2.2.2.1 (hE.2.2.2.2.2.2.1 _ kd_X8_138) dX8_net_25 ?_
      obtain ⟨r9, hc10, hf⟩ := gbd hf
      refine gm_callV1 (As := [.int (1 : Int32), .int (-2147483648 : Int32)]) (rest := []) (st1 := fun _ => [.int (r9.1)]) (ws' := fun _ => (OuN_c g a0 (r9.2))) hE hl.1 ml_X8_69 (c_X8_refuse_N l g a0 s0 (1 : Int32) (-2147483648 : Int32) r9 hc10) hZ hP hD hS hA 0 19 rfl (fun _ => rfl) okX8 rfl rfl rfl (fun _ => rfl) ⟨rfl, rfl⟩ ⟨Nat.le_of_ble_eq_true rfl, Nat.le_of_ble_eq_true rfl⟩ ⟨Nat.le_refl _, Nat.le_refl _⟩ (Nat.le_of_ble_eq_true rfl) dX8_net_27 (fun _ H locs hP hD hS => ?_)
      cases hf
      exact hq () rfl hP hD hS dX8_net_30
    · have hf := gif_f h8 hf
      refine lv_aload_n hx hb dX8_net_15 rfl (lv_at hl 0 rfl) ?_
      refine lv_iload_n hx hb dX8_net_16 rfl (lv_at hl 3 rfl) ?_
      obtain ⟨r11, hc12, hf⟩ := gbd hf
      refine gr_callV (As := [.int p3]) (rest := []) (st1 := [.int r11]) hE hl.1 ml_X8_135 (c_X8_isValue_N l g a0 s0 p3 r11 hc12) hZ hS hP [(0, 19)] rfl okX8 rfl rfl rfl rfl ⟨rfl, rfl⟩ ⟨Nat.le_of_ble_eq_true rfl, Nat.le_of_ble_eq_true rfl⟩ ⟨Nat.le_refl _, Nat.le_refl _⟩ (Nat.le_of_ble_eq_true rfl) dX8_net_17 ?_
      refine lv_if_ne hx hb dX8_net_20 (tgt := 31) rfl (fun h13 => ?_) (fun h13 => ?_)
      · have hf := gif_f h13 hf
        refine lv_aload_n hx hb dX8_net_31 rfl (lv_at hl 0 rfl) ?_
        refine lv_aload_n hx hb dX8_net_32 rfl (lv_at hl 0 rfl) ?_
        refine g_get hE okX8 fl_X8_31 hP 0 rfl (v := .null) rfl dX8_net_33 ?_
        cases hf
      · have hf := gif_t h13 hf
        refine lv_aload_n hx hb dX8_net_23 rfl (lv_at hl 0 rfl) ?_
        refine lv_iconst hx hb dX8_net_24 kci_1 ?_
        refine lv_ldc hx hb hE.2.2.2.2.2.1 (hE.2.2.2.2.2.2.1 _ kd_X8_138) dX8_net_25 ?_
        obtain ⟨r14, hc15, hf⟩ := gbd hf
        refine gm_callV1 (As := [.int (1 : Int32), .int (-2147483648 : Int32)]) (rest := []) (st1 := fun _ => [.int (r14.1)]) (ws' := fun _ => (OuN_c g a0 (r14.2))) hE hl.1 ml_X8_69 (c_X8_refuse_N l g a0 s0 (1 : Int32) (-2147483648 : Int32) r14 hc15) hZ hP hD hS hA 0 19 rfl (fun _ => rfl) okX8 rfl rfl rfl (fun _ => rfl) ⟨rfl, rfl⟩ ⟨Nat.le_of_ble_eq_true rfl, Nat.le_of_ble_eq_true rfl⟩ ⟨Nat.le_refl _, Nat.le_refl _⟩ (Nat.le_of_ble_eq_true rfl) dX8_net_27 (fun _ H locs hP hD hS => ?_)
        cases hf
        exact hq () rfl hP hD hS dX8_net_30
theorem dX8_there_0 : decode cX8_there 0 = .ok (.iload_n 1, 1) := by decide +kernel
theorem dX8_there_1 : decode cX8_there 1 = .ok (.invokestatic 129, 3) := by decide +kernel
theorem dX8_there_4 : decode cX8_there 4 = .ok (.ifCond .eq 11, 3) := by decide +kernel
theorem dX8_there_7 : decode cX8_there 7 = .ok (.aload_n 0, 1) := by decide +kernel
theorem dX8_there_8 : decode cX8_there 8 = .ok (.iload_n 2, 1) := by decide +kernel
theorem dX8_there_9 : decode cX8_there 9 = .ok (.invokevirtual 132, 3) := by decide +kernel
theorem dX8_there_12 : decode cX8_there 12 = .ok (.ifCond .ne 10, 3) := by decide +kernel
theorem dX8_there_15 : decode cX8_there 15 = .ok (.aload_n 0, 1) := by decide +kernel
theorem dX8_there_16 : decode cX8_there 16 = .ok (.iconst 1, 1) := by decide +kernel
theorem dX8_there_17 : decode cX8_there 17 = .ok (.iconst (-1), 1) := by decide +kernel
theorem dX8_there_18 : decode cX8_there 18 = .ok (.invokevirtual 69, 3) := by decide +kernel
theorem dX8_there_21 : decode cX8_there 21 = .ok (.ireturn, 1) := by decide +kernel
theorem dX8_there_22 : decode cX8_there 22 = .ok (.aload_n 0, 1) := by decide +kernel
theorem dX8_there_23 : decode cX8_there 23 = .ok (.aload_n 0, 1) := by decide +kernel
theorem dX8_there_24 : decode cX8_there 24 = .ok (.getfield 31, 3) := by decide +kernel
theorem dX8_there_27 : decode cX8_there 27 = .ok (.getfield 139, 3) := by decide +kernel
theorem dX8_there_30 : decode cX8_there 30 = .ok (.iload_n 1, 1) := by decide +kernel
theorem dX8_there_31 : decode cX8_there 31 = .ok (.iload_n 2, 1) := by decide +kernel
theorem dX8_there_32 : decode cX8_there 32 = .ok (.invokevirtual 146, 3) := by decide +kernel
theorem dX8_there_35 : decode cX8_there 35 = .ok (.invokevirtual 103, 3) := by decide +kernel
theorem dX8_there_38 : decode cX8_there 38 = .ok (.ireturn, 1) := by decide +kernel
def f_X8_there_N (s0 : OuNT) (p1 : Int32) (p2 : Int32) : Option (Int32 × OuNT) :=
  (f_X8_isSide p1).bind fun r1 =>
  if r1 = 0 then (f_X8_refuse_N s0 (1 : Int32) (-1 : Int32)).bind fun r4 =>
  some ((r4.1), (r4.2))
  else (f_X8_isKey_N s0 p2).bind fun r6 =>
  if r6 = 0 then (f_X8_refuse_N s0 (1 : Int32) (-1 : Int32)).bind fun r9 =>
  some ((r9.1), (r9.2))
  else none
abbrev rm_X8_there_N : Room := { frames := 3, cells := 0, slots := 0, locals := 70 }
set_option maxHeartbeats 4000000 in
set_option maxRecDepth 100000 in
theorem c_X8_there_N (l : Launch) (g : GK) (a0 : Nat → Nat) (s0 : OuNT) (p1 : Int32) (p2 : Int32) (res : (Int32 × OuNT)) (hf : f_X8_there_N s0 p1 p2 = some res) : gM l yX8_there cX8_there 3 (some .int) rm_X8_there_N g [.ref (a0 0), .int p1, .int p2] (OuN_c g a0 s0) (fun _ : Unit => (some (.int (res.1)))) (fun _ => (OuN_c g a0 (res.2))) 0 0 := by
  refine gM_introI RX8 (by decide) rfl (Nat.le_of_ble_eq_true rfl) (fun p e s m args below meth c Q H locs ls A hE hZ hA hP hD hS hq hl => ?_)
  have hl : lv_has ls 3 [(0, .ref (a0 0)), (1, .int p1), (2, .int p2)] := hl
  have hx := hE.1
  have hb := hE.2.1
  rw [f_X8_there_N] at hf
  refine lv_iload_n hx hb dX8_there_0 rfl (lv_at hl 1 rfl) ?_
  obtain ⟨r1, hc2, hf⟩ := gbd hf
  refine gr_callS (As := [.int p1]) (rest := []) (st1 := [.int r1]) hE hl.1 ml_X8_129 (c_X8_isSide l g p1 r1 hc2) hZ hS hP [] rfl rfl rfl rfl ⟨rfl, rfl⟩ ⟨Nat.le_of_ble_eq_true rfl, Nat.le_of_ble_eq_true rfl⟩ ⟨Nat.le_refl _, Nat.le_refl _⟩ (Nat.le_of_ble_eq_true rfl) dX8_there_1 ?_
  refine lv_if_eq hx hb dX8_there_4 (tgt := 15) rfl (fun h3 => ?_) (fun h3 => ?_)
  · have hf := gif_t h3 hf
    refine lv_aload_n hx hb dX8_there_15 rfl (lv_at hl 0 rfl) ?_
    refine lv_iconst hx hb dX8_there_16 kci_1 ?_
    refine lv_iconst hx hb dX8_there_17 kci_m1 ?_
    obtain ⟨r4, hc5, hf⟩ := gbd hf
    refine gm_callV1 (As := [.int (1 : Int32), .int (-1 : Int32)]) (rest := []) (st1 := fun _ => [.int (r4.1)]) (ws' := fun _ => (OuN_c g a0 (r4.2))) hE hl.1 ml_X8_69 (c_X8_refuse_N l g a0 s0 (1 : Int32) (-1 : Int32) r4 hc5) hZ hP hD hS hA 0 19 rfl (fun _ => rfl) okX8 rfl rfl rfl (fun _ => rfl) ⟨rfl, rfl⟩ ⟨Nat.le_of_ble_eq_true rfl, Nat.le_of_ble_eq_true rfl⟩ ⟨Nat.le_refl _, Nat.le_refl _⟩ (Nat.le_of_ble_eq_true rfl) dX8_there_18 (fun _ H locs hP hD hS => ?_)
    cases hf
    exact hq () rfl hP hD hS dX8_there_21
  · have hf := gif_f h3 hf
    refine lv_aload_n hx hb dX8_there_7 rfl (lv_at hl 0 rfl) ?_
    refine lv_iload_n hx hb dX8_there_8 rfl (lv_at hl 2 rfl) ?_
    obtain ⟨r6, hc7, hf⟩ := gbd hf
    refine gr_callV (As := [.int p2]) (rest := []) (st1 := [.int r6]) hE hl.1 ml_X8_132 (c_X8_isKey_N l g a0 s0 p2 r6 hc7) hZ hS hP [(0, 19)] rfl okX8 rfl rfl rfl rfl ⟨rfl, rfl⟩ ⟨Nat.le_of_ble_eq_true rfl, Nat.le_of_ble_eq_true rfl⟩ ⟨Nat.le_refl _, Nat.le_refl _⟩ (Nat.le_of_ble_eq_true rfl) dX8_there_9 ?_
    refine lv_if_ne hx hb dX8_there_12 (tgt := 22) rfl (fun h8 => ?_) (fun h8 => ?_)
    · have hf := gif_f h8 hf
      refine lv_aload_n hx hb dX8_there_22 rfl (lv_at hl 0 rfl) ?_
      refine lv_aload_n hx hb dX8_there_23 rfl (lv_at hl 0 rfl) ?_
      refine g_get hE okX8 fl_X8_31 hP 0 rfl (v := .null) rfl dX8_there_24 ?_
      cases hf
    · have hf := gif_t h8 hf
      refine lv_aload_n hx hb dX8_there_15 rfl (lv_at hl 0 rfl) ?_
      refine lv_iconst hx hb dX8_there_16 kci_1 ?_
      refine lv_iconst hx hb dX8_there_17 kci_m1 ?_
      obtain ⟨r9, hc10, hf⟩ := gbd hf
      refine gm_callV1 (As := [.int (1 : Int32), .int (-1 : Int32)]) (rest := []) (st1 := fun _ => [.int (r9.1)]) (ws' := fun _ => (OuN_c g a0 (r9.2))) hE hl.1 ml_X8_69 (c_X8_refuse_N l g a0 s0 (1 : Int32) (-1 : Int32) r9 hc10) hZ hP hD hS hA 0 19 rfl (fun _ => rfl) okX8 rfl rfl rfl (fun _ => rfl) ⟨rfl, rfl⟩ ⟨Nat.le_of_ble_eq_true rfl, Nat.le_of_ble_eq_true rfl⟩ ⟨Nat.le_refl _, Nat.le_refl _⟩ (Nat.le_of_ble_eq_true rfl) dX8_there_18 (fun _ H locs hP hD hS => ?_)
      cases hf
      exact hq () rfl hP hD hS dX8_there_21
theorem dX8_key_0 : decode cX8_key 0 = .ok (.aload_n 0, 1) := by decide +kernel
theorem dX8_key_1 : decode cX8_key 1 = .ok (.iload_n 1, 1) := by decide +kernel
theorem dX8_key_2 : decode cX8_key 2 = .ok (.invokevirtual 132, 3) := by decide +kernel
theorem dX8_key_5 : decode cX8_key 5 = .ok (.ifCond .eq 12, 3) := by decide +kernel
theorem dX8_key_8 : decode cX8_key 8 = .ok (.iload_n 2, 1) := by decide +kernel
theorem dX8_key_9 : decode cX8_key 9 = .ok (.ifCond .lt 8, 3) := by decide +kernel
theorem dX8_key_12 : decode cX8_key 12 = .ok (.iload_n 2, 1) := by decide +kernel
theorem dX8_key_13 : decode cX8_key 13 = .ok (.iconst 4, 1) := by decide +kernel
theorem dX8_key_14 : decode cX8_key 14 = .ok (.if_icmp .le 10, 3) := by decide +kernel
theorem dX8_key_17 : decode cX8_key 17 = .ok (.aload_n 0, 1) := by decide +kernel
theorem dX8_key_18 : decode cX8_key 18 = .ok (.iconst 1, 1) := by decide +kernel
theorem dX8_key_19 : decode cX8_key 19 = .ok (.iconst (-1), 1) := by decide +kernel
theorem dX8_key_20 : decode cX8_key 20 = .ok (.invokevirtual 69, 3) := by decide +kernel
theorem dX8_key_23 : decode cX8_key 23 = .ok (.ireturn, 1) := by decide +kernel
theorem dX8_key_24 : decode cX8_key 24 = .ok (.aload_n 0, 1) := by decide +kernel
theorem dX8_key_25 : decode cX8_key 25 = .ok (.aload_n 0, 1) := by decide +kernel
theorem dX8_key_26 : decode cX8_key 26 = .ok (.getfield 31, 3) := by decide +kernel
theorem dX8_key_29 : decode cX8_key 29 = .ok (.iload_n 1, 1) := by decide +kernel
theorem dX8_key_30 : decode cX8_key 30 = .ok (.iload_n 2, 1) := by decide +kernel
theorem dX8_key_31 : decode cX8_key 31 = .ok (.invokevirtual 149, 3) := by decide +kernel
theorem dX8_key_34 : decode cX8_key 34 = .ok (.invokevirtual 103, 3) := by decide +kernel
theorem dX8_key_37 : decode cX8_key 37 = .ok (.ireturn, 1) := by decide +kernel
def f_X8_key_N (s0 : OuNT) (p1 : Int32) (p2 : Int32) : Option (Int32 × OuNT) :=
  (f_X8_isKey_N s0 p1).bind fun r1 =>
  if r1 = 0 then (f_X8_refuse_N s0 (1 : Int32) (-1 : Int32)).bind fun r4 =>
  some ((r4.1), (r4.2))
  else if p2 < 0 then (f_X8_refuse_N s0 (1 : Int32) (-1 : Int32)).bind fun r7 =>
  some ((r7.1), (r7.2))
  else if p2 ≤ (4 : Int32) then none
  else (f_X8_refuse_N s0 (1 : Int32) (-1 : Int32)).bind fun r10 =>
  some ((r10.1), (r10.2))
abbrev rm_X8_key_N : Room := { frames := 2, cells := 0, slots := 0, locals := 43 }
set_option maxHeartbeats 4000000 in
set_option maxRecDepth 100000 in
theorem c_X8_key_N (l : Launch) (g : GK) (a0 : Nat → Nat) (s0 : OuNT) (p1 : Int32) (p2 : Int32) (res : (Int32 × OuNT)) (hf : f_X8_key_N s0 p1 p2 = some res) : gM l yX8_key cX8_key 3 (some .int) rm_X8_key_N g [.ref (a0 0), .int p1, .int p2] (OuN_c g a0 s0) (fun _ : Unit => (some (.int (res.1)))) (fun _ => (OuN_c g a0 (res.2))) 0 0 := by
  refine gM_introI RX8 (by decide) rfl (Nat.le_of_ble_eq_true rfl) (fun p e s m args below meth c Q H locs ls A hE hZ hA hP hD hS hq hl => ?_)
  have hl : lv_has ls 3 [(0, .ref (a0 0)), (1, .int p1), (2, .int p2)] := hl
  have hx := hE.1
  have hb := hE.2.1
  rw [f_X8_key_N] at hf
  refine lv_aload_n hx hb dX8_key_0 rfl (lv_at hl 0 rfl) ?_
  refine lv_iload_n hx hb dX8_key_1 rfl (lv_at hl 1 rfl) ?_
  obtain ⟨r1, hc2, hf⟩ := gbd hf
  refine gr_callV (As := [.int p1]) (rest := []) (st1 := [.int r1]) hE hl.1 ml_X8_132 (c_X8_isKey_N l g a0 s0 p1 r1 hc2) hZ hS hP [(0, 19)] rfl okX8 rfl rfl rfl rfl ⟨rfl, rfl⟩ ⟨Nat.le_of_ble_eq_true rfl, Nat.le_of_ble_eq_true rfl⟩ ⟨Nat.le_refl _, Nat.le_refl _⟩ (Nat.le_of_ble_eq_true rfl) dX8_key_2 ?_
  refine lv_if_eq hx hb dX8_key_5 (tgt := 17) rfl (fun h3 => ?_) (fun h3 => ?_)
  · have hf := gif_t h3 hf
    refine lv_aload_n hx hb dX8_key_17 rfl (lv_at hl 0 rfl) ?_
    refine lv_iconst hx hb dX8_key_18 kci_1 ?_
    refine lv_iconst hx hb dX8_key_19 kci_m1 ?_
    obtain ⟨r4, hc5, hf⟩ := gbd hf
    refine gm_callV1 (As := [.int (1 : Int32), .int (-1 : Int32)]) (rest := []) (st1 := fun _ => [.int (r4.1)]) (ws' := fun _ => (OuN_c g a0 (r4.2))) hE hl.1 ml_X8_69 (c_X8_refuse_N l g a0 s0 (1 : Int32) (-1 : Int32) r4 hc5) hZ hP hD hS hA 0 19 rfl (fun _ => rfl) okX8 rfl rfl rfl (fun _ => rfl) ⟨rfl, rfl⟩ ⟨Nat.le_of_ble_eq_true rfl, Nat.le_of_ble_eq_true rfl⟩ ⟨Nat.le_refl _, Nat.le_refl _⟩ (Nat.le_of_ble_eq_true rfl) dX8_key_20 (fun _ H locs hP hD hS => ?_)
    cases hf
    exact hq () rfl hP hD hS dX8_key_23
  · have hf := gif_f h3 hf
    refine lv_iload_n hx hb dX8_key_8 rfl (lv_at hl 2 rfl) ?_
    refine lv_if_lt hx hb dX8_key_9 (tgt := 17) rfl (fun h6 => ?_) (fun h6 => ?_)
    · have hf := gif_t h6 hf
      refine lv_aload_n hx hb dX8_key_17 rfl (lv_at hl 0 rfl) ?_
      refine lv_iconst hx hb dX8_key_18 kci_1 ?_
      refine lv_iconst hx hb dX8_key_19 kci_m1 ?_
      obtain ⟨r7, hc8, hf⟩ := gbd hf
      refine gm_callV1 (As := [.int (1 : Int32), .int (-1 : Int32)]) (rest := []) (st1 := fun _ => [.int (r7.1)]) (ws' := fun _ => (OuN_c g a0 (r7.2))) hE hl.1 ml_X8_69 (c_X8_refuse_N l g a0 s0 (1 : Int32) (-1 : Int32) r7 hc8) hZ hP hD hS hA 0 19 rfl (fun _ => rfl) okX8 rfl rfl rfl (fun _ => rfl) ⟨rfl, rfl⟩ ⟨Nat.le_of_ble_eq_true rfl, Nat.le_of_ble_eq_true rfl⟩ ⟨Nat.le_refl _, Nat.le_refl _⟩ (Nat.le_of_ble_eq_true rfl) dX8_key_20 (fun _ H locs hP hD hS => ?_)
      cases hf
      exact hq () rfl hP hD hS dX8_key_23
    · have hf := gif_f h6 hf
      refine lv_iload_n hx hb dX8_key_12 rfl (lv_at hl 2 rfl) ?_
      refine lv_iconst hx hb dX8_key_13 kci_4 ?_
      refine lv_icmp_le hx hb dX8_key_14 (tgt := 24) rfl (fun h9 => ?_) (fun h9 => ?_)
      · have hf := gif_t h9 hf
        refine lv_aload_n hx hb dX8_key_24 rfl (lv_at hl 0 rfl) ?_
        refine lv_aload_n hx hb dX8_key_25 rfl (lv_at hl 0 rfl) ?_
        refine g_get hE okX8 fl_X8_31 hP 0 rfl (v := .null) rfl dX8_key_26 ?_
        refine lv_iload_n hx hb dX8_key_29 rfl (lv_at hl 1 rfl) ?_
        refine lv_iload_n hx hb dX8_key_30 rfl (lv_at hl 2 rfl) ?_
        cases hf
      · have hf := gif_f h9 hf
        refine lv_aload_n hx hb dX8_key_17 rfl (lv_at hl 0 rfl) ?_
        refine lv_iconst hx hb dX8_key_18 kci_1 ?_
        refine lv_iconst hx hb dX8_key_19 kci_m1 ?_
        obtain ⟨r10, hc11, hf⟩ := gbd hf
        refine gm_callV1 (As := [.int (1 : Int32), .int (-1 : Int32)]) (rest := []) (st1 := fun _ => [.int (r10.1)]) (ws' := fun _ => (OuN_c g a0 (r10.2))) hE hl.1 ml_X8_69 (c_X8_refuse_N l g a0 s0 (1 : Int32) (-1 : Int32) r10 hc11) hZ hP hD hS hA 0 19 rfl (fun _ => rfl) okX8 rfl rfl rfl (fun _ => rfl) ⟨rfl, rfl⟩ ⟨Nat.le_of_ble_eq_true rfl, Nat.le_of_ble_eq_true rfl⟩ ⟨Nat.le_refl _, Nat.le_refl _⟩ (Nat.le_of_ble_eq_true rfl) dX8_key_20 (fun _ H locs hP hD hS => ?_)
        cases hf
        exact hq () rfl hP hD hS dX8_key_23
theorem dX8_debts_0 : decode cX8_debts 0 = .ok (.aload_n 0, 1) := by decide +kernel
theorem dX8_debts_1 : decode cX8_debts 1 = .ok (.getfield 31, 3) := by decide +kernel
theorem dX8_debts_4 : decode cX8_debts 4 = .ok (.ifnull 10, 3) := by decide +kernel
theorem dX8_debts_7 : decode cX8_debts 7 = .ok (.iload_n 1, 1) := by decide +kernel
theorem dX8_debts_8 : decode cX8_debts 8 = .ok (.invokestatic 129, 3) := by decide +kernel
theorem dX8_debts_11 : decode cX8_debts 11 = .ok (.ifCond .ne 10, 3) := by decide +kernel
theorem dX8_debts_14 : decode cX8_debts 14 = .ok (.aload_n 0, 1) := by decide +kernel
theorem dX8_debts_15 : decode cX8_debts 15 = .ok (.iconst 1, 1) := by decide +kernel
theorem dX8_debts_16 : decode cX8_debts 16 = .ok (.iconst (-1), 1) := by decide +kernel
theorem dX8_debts_17 : decode cX8_debts 17 = .ok (.invokevirtual 69, 3) := by decide +kernel
theorem dX8_debts_20 : decode cX8_debts 20 = .ok (.ireturn, 1) := by decide +kernel
theorem dX8_debts_21 : decode cX8_debts 21 = .ok (.aload_n 0, 1) := by decide +kernel
theorem dX8_debts_22 : decode cX8_debts 22 = .ok (.aload_n 0, 1) := by decide +kernel
theorem dX8_debts_23 : decode cX8_debts 23 = .ok (.getfield 31, 3) := by decide +kernel
theorem dX8_debts_26 : decode cX8_debts 26 = .ok (.getfield 139, 3) := by decide +kernel
theorem dX8_debts_29 : decode cX8_debts 29 = .ok (.iload_n 1, 1) := by decide +kernel
theorem dX8_debts_30 : decode cX8_debts 30 = .ok (.invokevirtual 152, 3) := by decide +kernel
theorem dX8_debts_33 : decode cX8_debts 33 = .ok (.invokevirtual 103, 3) := by decide +kernel
theorem dX8_debts_36 : decode cX8_debts 36 = .ok (.ireturn, 1) := by decide +kernel
def f_X8_debts_N (s0 : OuNT) (p1 : Int32) : Option (Int32 × OuNT) :=
  (f_X8_refuse_N s0 (1 : Int32) (-1 : Int32)).bind fun r1 =>
  some ((r1.1), (r1.2))
abbrev rm_X8_debts_N : Room := { frames := 1, cells := 0, slots := 0, locals := 23 }
set_option maxHeartbeats 4000000 in
set_option maxRecDepth 100000 in
theorem c_X8_debts_N (l : Launch) (g : GK) (a0 : Nat → Nat) (s0 : OuNT) (p1 : Int32) (res : (Int32 × OuNT)) (hf : f_X8_debts_N s0 p1 = some res) : gM l yX8_debts cX8_debts 2 (some .int) rm_X8_debts_N g [.ref (a0 0), .int p1] (OuN_c g a0 s0) (fun _ : Unit => (some (.int (res.1)))) (fun _ => (OuN_c g a0 (res.2))) 0 0 := by
  refine gM_introI RX8 (by decide) rfl (Nat.le_of_ble_eq_true rfl) (fun p e s m args below meth c Q H locs ls A hE hZ hA hP hD hS hq hl => ?_)
  have hl : lv_has ls 2 [(0, .ref (a0 0)), (1, .int p1)] := hl
  have hx := hE.1
  have hb := hE.2.1
  rw [f_X8_debts_N] at hf
  refine lv_aload_n hx hb dX8_debts_0 rfl (lv_at hl 0 rfl) ?_
  refine g_get hE okX8 fl_X8_31 hP 0 rfl (v := .null) rfl dX8_debts_1 ?_
  refine lv_ifnullN hx hb dX8_debts_4 (tgt := 14) rfl ?_
  refine lv_aload_n hx hb dX8_debts_14 rfl (lv_at hl 0 rfl) ?_
  refine lv_iconst hx hb dX8_debts_15 kci_1 ?_
  refine lv_iconst hx hb dX8_debts_16 kci_m1 ?_
  obtain ⟨r1, hc2, hf⟩ := gbd hf
  refine gm_callV1 (As := [.int (1 : Int32), .int (-1 : Int32)]) (rest := []) (st1 := fun _ => [.int (r1.1)]) (ws' := fun _ => (OuN_c g a0 (r1.2))) hE hl.1 ml_X8_69 (c_X8_refuse_N l g a0 s0 (1 : Int32) (-1 : Int32) r1 hc2) hZ hP hD hS hA 0 19 rfl (fun _ => rfl) okX8 rfl rfl rfl (fun _ => rfl) ⟨rfl, rfl⟩ ⟨Nat.le_of_ble_eq_true rfl, Nat.le_of_ble_eq_true rfl⟩ ⟨Nat.le_refl _, Nat.le_refl _⟩ (Nat.le_of_ble_eq_true rfl) dX8_debts_17 (fun _ H locs hP hD hS => ?_)
  cases hf
  exact hq () rfl hP hD hS dX8_debts_20
theorem dX8_sent_0 : decode cX8_sent 0 = .ok (.aload_n 0, 1) := by decide +kernel
theorem dX8_sent_1 : decode cX8_sent 1 = .ok (.iload_n 1, 1) := by decide +kernel
theorem dX8_sent_2 : decode cX8_sent 2 = .ok (.iload_n 2, 1) := by decide +kernel
theorem dX8_sent_3 : decode cX8_sent 3 = .ok (.iload_n 3, 1) := by decide +kernel
theorem dX8_sent_4 : decode cX8_sent 4 = .ok (.invokevirtual 155, 3) := by decide +kernel
theorem dX8_sent_7 : decode cX8_sent 7 = .ok (.ifCond .ne 11, 3) := by decide +kernel
theorem dX8_sent_10 : decode cX8_sent 10 = .ok (.aload_n 0, 1) := by decide +kernel
theorem dX8_sent_11 : decode cX8_sent 11 = .ok (.iconst 1, 1) := by decide +kernel
theorem dX8_sent_12 : decode cX8_sent 12 = .ok (.ldc 138, 2) := by decide +kernel
theorem dX8_sent_14 : decode cX8_sent 14 = .ok (.invokevirtual 69, 3) := by decide +kernel
theorem dX8_sent_17 : decode cX8_sent 17 = .ok (.ireturn, 1) := by decide +kernel
theorem dX8_sent_18 : decode cX8_sent 18 = .ok (.aload_n 0, 1) := by decide +kernel
theorem dX8_sent_19 : decode cX8_sent 19 = .ok (.aload_n 0, 1) := by decide +kernel
theorem dX8_sent_20 : decode cX8_sent 20 = .ok (.getfield 31, 3) := by decide +kernel
theorem dX8_sent_23 : decode cX8_sent 23 = .ok (.getfield 139, 3) := by decide +kernel
theorem dX8_sent_26 : decode cX8_sent 26 = .ok (.getfield 159, 3) := by decide +kernel
theorem dX8_sent_29 : decode cX8_sent 29 = .ok (.iload_n 1, 1) := by decide +kernel
theorem dX8_sent_30 : decode cX8_sent 30 = .ok (.iload_n 2, 1) := by decide +kernel
theorem dX8_sent_31 : decode cX8_sent 31 = .ok (.iload_n 3, 1) := by decide +kernel
theorem dX8_sent_32 : decode cX8_sent 32 = .ok (.invokestatic 162, 3) := by decide +kernel
theorem dX8_sent_35 : decode cX8_sent 35 = .ok (.iaload, 1) := by decide +kernel
theorem dX8_sent_36 : decode cX8_sent 36 = .ok (.invokevirtual 103, 3) := by decide +kernel
theorem dX8_sent_39 : decode cX8_sent 39 = .ok (.ireturn, 1) := by decide +kernel
def f_X8_sent_N (s0 : OuNT) (p1 : Int32) (p2 : Int32) (p3 : Int32) : Option (Int32 × OuNT) :=
  (f_X8_isRow_N s0 p1 p2 p3).bind fun r1 =>
  if r1 = 0 then (f_X8_refuse_N s0 (1 : Int32) (-2147483648 : Int32)).bind fun r4 =>
  some ((r4.1), (r4.2))
  else none
abbrev rm_X8_sent_N : Room := { frames := 3, cells := 0, slots := 0, locals := 65 }
set_option maxHeartbeats 4000000 in
set_option maxRecDepth 100000 in
theorem c_X8_sent_N (l : Launch) (g : GK) (a0 : Nat → Nat) (s0 : OuNT) (p1 : Int32) (p2 : Int32) (p3 : Int32) (res : (Int32 × OuNT)) (hf : f_X8_sent_N s0 p1 p2 p3 = some res) : gM l yX8_sent cX8_sent 4 (some .int) rm_X8_sent_N g [.ref (a0 0), .int p1, .int p2, .int p3] (OuN_c g a0 s0) (fun _ : Unit => (some (.int (res.1)))) (fun _ => (OuN_c g a0 (res.2))) 0 0 := by
  refine gM_introI RX8 (by decide) rfl (Nat.le_of_ble_eq_true rfl) (fun p e s m args below meth c Q H locs ls A hE hZ hA hP hD hS hq hl => ?_)
  have hl : lv_has ls 4 [(0, .ref (a0 0)), (1, .int p1), (2, .int p2), (3, .int p3)] := hl
  have hx := hE.1
  have hb := hE.2.1
  rw [f_X8_sent_N] at hf
  refine lv_aload_n hx hb dX8_sent_0 rfl (lv_at hl 0 rfl) ?_
  refine lv_iload_n hx hb dX8_sent_1 rfl (lv_at hl 1 rfl) ?_
  refine lv_iload_n hx hb dX8_sent_2 rfl (lv_at hl 2 rfl) ?_
  refine lv_iload_n hx hb dX8_sent_3 rfl (lv_at hl 3 rfl) ?_
  obtain ⟨r1, hc2, hf⟩ := gbd hf
  refine gr_callV (As := [.int p1, .int p2, .int p3]) (rest := []) (st1 := [.int r1]) hE hl.1 ml_X8_155 (c_X8_isRow_N l g a0 s0 p1 p2 p3 r1 hc2) hZ hS hP [(0, 19)] rfl okX8 rfl rfl rfl rfl ⟨rfl, rfl⟩ ⟨Nat.le_of_ble_eq_true rfl, Nat.le_of_ble_eq_true rfl⟩ ⟨Nat.le_refl _, Nat.le_refl _⟩ (Nat.le_of_ble_eq_true rfl) dX8_sent_4 ?_
  refine lv_if_ne hx hb dX8_sent_7 (tgt := 18) rfl (fun h3 => ?_) (fun h3 => ?_)
  · have hf := gif_f h3 hf
    refine lv_aload_n hx hb dX8_sent_18 rfl (lv_at hl 0 rfl) ?_
    refine lv_aload_n hx hb dX8_sent_19 rfl (lv_at hl 0 rfl) ?_
    refine g_get hE okX8 fl_X8_31 hP 0 rfl (v := .null) rfl dX8_sent_20 ?_
    cases hf
  · have hf := gif_t h3 hf
    refine lv_aload_n hx hb dX8_sent_10 rfl (lv_at hl 0 rfl) ?_
    refine lv_iconst hx hb dX8_sent_11 kci_1 ?_
    refine lv_ldc hx hb hE.2.2.2.2.2.1 (hE.2.2.2.2.2.2.1 _ kd_X8_138) dX8_sent_12 ?_
    obtain ⟨r4, hc5, hf⟩ := gbd hf
    refine gm_callV1 (As := [.int (1 : Int32), .int (-2147483648 : Int32)]) (rest := []) (st1 := fun _ => [.int (r4.1)]) (ws' := fun _ => (OuN_c g a0 (r4.2))) hE hl.1 ml_X8_69 (c_X8_refuse_N l g a0 s0 (1 : Int32) (-2147483648 : Int32) r4 hc5) hZ hP hD hS hA 0 19 rfl (fun _ => rfl) okX8 rfl rfl rfl (fun _ => rfl) ⟨rfl, rfl⟩ ⟨Nat.le_of_ble_eq_true rfl, Nat.le_of_ble_eq_true rfl⟩ ⟨Nat.le_refl _, Nat.le_refl _⟩ (Nat.le_of_ble_eq_true rfl) dX8_sent_14 (fun _ H locs hP hD hS => ?_)
    cases hf
    exact hq () rfl hP hD hS dX8_sent_17
theorem dX8_join_0 : decode cX8_join 0 = .ok (.aload_n 0, 1) := by decide +kernel
theorem dX8_join_1 : decode cX8_join 1 = .ok (.iload_n 1, 1) := by decide +kernel
theorem dX8_join_2 : decode cX8_join 2 = .ok (.iload_n 2, 1) := by decide +kernel
theorem dX8_join_3 : decode cX8_join 3 = .ok (.iload_n 3, 1) := by decide +kernel
theorem dX8_join_4 : decode cX8_join 4 = .ok (.invokevirtual 155, 3) := by decide +kernel
theorem dX8_join_7 : decode cX8_join 7 = .ok (.ifCond .ne 10, 3) := by decide +kernel
theorem dX8_join_10 : decode cX8_join 10 = .ok (.aload_n 0, 1) := by decide +kernel
theorem dX8_join_11 : decode cX8_join 11 = .ok (.iconst 1, 1) := by decide +kernel
theorem dX8_join_12 : decode cX8_join 12 = .ok (.iconst (-1), 1) := by decide +kernel
theorem dX8_join_13 : decode cX8_join 13 = .ok (.invokevirtual 69, 3) := by decide +kernel
theorem dX8_join_16 : decode cX8_join 16 = .ok (.ireturn, 1) := by decide +kernel
theorem dX8_join_17 : decode cX8_join 17 = .ok (.aload_n 0, 1) := by decide +kernel
theorem dX8_join_18 : decode cX8_join 18 = .ok (.aload_n 0, 1) := by decide +kernel
theorem dX8_join_19 : decode cX8_join 19 = .ok (.getfield 31, 3) := by decide +kernel
theorem dX8_join_22 : decode cX8_join 22 = .ok (.getfield 139, 3) := by decide +kernel
theorem dX8_join_25 : decode cX8_join 25 = .ok (.iload_n 1, 1) := by decide +kernel
theorem dX8_join_26 : decode cX8_join 26 = .ok (.iload_n 2, 1) := by decide +kernel
theorem dX8_join_27 : decode cX8_join 27 = .ok (.iload_n 3, 1) := by decide +kernel
theorem dX8_join_28 : decode cX8_join 28 = .ok (.invokevirtual 165, 3) := by decide +kernel
theorem dX8_join_31 : decode cX8_join 31 = .ok (.invokevirtual 103, 3) := by decide +kernel
theorem dX8_join_34 : decode cX8_join 34 = .ok (.ireturn, 1) := by decide +kernel
def f_X8_join_N (s0 : OuNT) (p1 : Int32) (p2 : Int32) (p3 : Int32) : Option (Int32 × OuNT) :=
  (f_X8_isRow_N s0 p1 p2 p3).bind fun r1 =>
  if r1 = 0 then (f_X8_refuse_N s0 (1 : Int32) (-1 : Int32)).bind fun r4 =>
  some ((r4.1), (r4.2))
  else none
abbrev rm_X8_join_N : Room := { frames := 4, cells := 0, slots := 0, locals := 92 }
set_option maxHeartbeats 4000000 in
set_option maxRecDepth 100000 in
theorem c_X8_join_N (l : Launch) (g : GK) (a0 : Nat → Nat) (s0 : OuNT) (p1 : Int32) (p2 : Int32) (p3 : Int32) (res : (Int32 × OuNT)) (hf : f_X8_join_N s0 p1 p2 p3 = some res) : gM l yX8_join cX8_join 4 (some .int) rm_X8_join_N g [.ref (a0 0), .int p1, .int p2, .int p3] (OuN_c g a0 s0) (fun _ : Unit => (some (.int (res.1)))) (fun _ => (OuN_c g a0 (res.2))) 0 0 := by
  refine gM_introI RX8 (by decide) rfl (Nat.le_of_ble_eq_true rfl) (fun p e s m args below meth c Q H locs ls A hE hZ hA hP hD hS hq hl => ?_)
  have hl : lv_has ls 4 [(0, .ref (a0 0)), (1, .int p1), (2, .int p2), (3, .int p3)] := hl
  have hx := hE.1
  have hb := hE.2.1
  rw [f_X8_join_N] at hf
  refine lv_aload_n hx hb dX8_join_0 rfl (lv_at hl 0 rfl) ?_
  refine lv_iload_n hx hb dX8_join_1 rfl (lv_at hl 1 rfl) ?_
  refine lv_iload_n hx hb dX8_join_2 rfl (lv_at hl 2 rfl) ?_
  refine lv_iload_n hx hb dX8_join_3 rfl (lv_at hl 3 rfl) ?_
  obtain ⟨r1, hc2, hf⟩ := gbd hf
  refine gr_callV (As := [.int p1, .int p2, .int p3]) (rest := []) (st1 := [.int r1]) hE hl.1 ml_X8_155 (c_X8_isRow_N l g a0 s0 p1 p2 p3 r1 hc2) hZ hS hP [(0, 19)] rfl okX8 rfl rfl rfl rfl ⟨rfl, rfl⟩ ⟨Nat.le_of_ble_eq_true rfl, Nat.le_of_ble_eq_true rfl⟩ ⟨Nat.le_refl _, Nat.le_refl _⟩ (Nat.le_of_ble_eq_true rfl) dX8_join_4 ?_
  refine lv_if_ne hx hb dX8_join_7 (tgt := 17) rfl (fun h3 => ?_) (fun h3 => ?_)
  · have hf := gif_f h3 hf
    refine lv_aload_n hx hb dX8_join_17 rfl (lv_at hl 0 rfl) ?_
    refine lv_aload_n hx hb dX8_join_18 rfl (lv_at hl 0 rfl) ?_
    refine g_get hE okX8 fl_X8_31 hP 0 rfl (v := .null) rfl dX8_join_19 ?_
    cases hf
  · have hf := gif_t h3 hf
    refine lv_aload_n hx hb dX8_join_10 rfl (lv_at hl 0 rfl) ?_
    refine lv_iconst hx hb dX8_join_11 kci_1 ?_
    refine lv_iconst hx hb dX8_join_12 kci_m1 ?_
    obtain ⟨r4, hc5, hf⟩ := gbd hf
    refine gm_callV1 (As := [.int (1 : Int32), .int (-1 : Int32)]) (rest := []) (st1 := fun _ => [.int (r4.1)]) (ws' := fun _ => (OuN_c g a0 (r4.2))) hE hl.1 ml_X8_69 (c_X8_refuse_N l g a0 s0 (1 : Int32) (-1 : Int32) r4 hc5) hZ hP hD hS hA 0 19 rfl (fun _ => rfl) okX8 rfl rfl rfl (fun _ => rfl) ⟨rfl, rfl⟩ ⟨Nat.le_of_ble_eq_true rfl, Nat.le_of_ble_eq_true rfl⟩ ⟨Nat.le_refl _, Nat.le_refl _⟩ (Nat.le_of_ble_eq_true rfl) dX8_join_13 (fun _ H locs hP hD hS => ?_)
    cases hf
    exact hq () rfl hP hD hS dX8_join_16
theorem dX8_closed_0 : decode cX8_closed 0 = .ok (.aload_n 0, 1) := by decide +kernel
theorem dX8_closed_1 : decode cX8_closed 1 = .ok (.iload_n 1, 1) := by decide +kernel
theorem dX8_closed_2 : decode cX8_closed 2 = .ok (.iload_n 2, 1) := by decide +kernel
theorem dX8_closed_3 : decode cX8_closed 3 = .ok (.iload_n 3, 1) := by decide +kernel
theorem dX8_closed_4 : decode cX8_closed 4 = .ok (.invokevirtual 155, 3) := by decide +kernel
theorem dX8_closed_7 : decode cX8_closed 7 = .ok (.ifCond .ne 11, 3) := by decide +kernel
theorem dX8_closed_10 : decode cX8_closed 10 = .ok (.aload_n 0, 1) := by decide +kernel
theorem dX8_closed_11 : decode cX8_closed 11 = .ok (.iconst 1, 1) := by decide +kernel
theorem dX8_closed_12 : decode cX8_closed 12 = .ok (.ldc 138, 2) := by decide +kernel
theorem dX8_closed_14 : decode cX8_closed 14 = .ok (.invokevirtual 69, 3) := by decide +kernel
theorem dX8_closed_17 : decode cX8_closed 17 = .ok (.ireturn, 1) := by decide +kernel
theorem dX8_closed_18 : decode cX8_closed 18 = .ok (.aload_n 0, 1) := by decide +kernel
theorem dX8_closed_19 : decode cX8_closed 19 = .ok (.getfield 31, 3) := by decide +kernel
theorem dX8_closed_22 : decode cX8_closed 22 = .ok (.getfield 139, 3) := by decide +kernel
theorem dX8_closed_25 : decode cX8_closed 25 = .ok (.astore 4, 2) := by decide +kernel
theorem dX8_closed_27 : decode cX8_closed 27 = .ok (.aload_n 0, 1) := by decide +kernel
theorem dX8_closed_28 : decode cX8_closed 28 = .ok (.aload 4, 2) := by decide +kernel
theorem dX8_closed_30 : decode cX8_closed 30 = .ok (.getfield 159, 3) := by decide +kernel
theorem dX8_closed_33 : decode cX8_closed 33 = .ok (.iload_n 1, 1) := by decide +kernel
theorem dX8_closed_34 : decode cX8_closed 34 = .ok (.iload_n 2, 1) := by decide +kernel
theorem dX8_closed_35 : decode cX8_closed 35 = .ok (.iload_n 3, 1) := by decide +kernel
theorem dX8_closed_36 : decode cX8_closed 36 = .ok (.invokestatic 162, 3) := by decide +kernel
theorem dX8_closed_39 : decode cX8_closed 39 = .ok (.iaload, 1) := by decide +kernel
theorem dX8_closed_40 : decode cX8_closed 40 = .ok (.aload 4, 2) := by decide +kernel
theorem dX8_closed_42 : decode cX8_closed 42 = .ok (.iload_n 1, 1) := by decide +kernel
theorem dX8_closed_43 : decode cX8_closed 43 = .ok (.iload_n 2, 1) := by decide +kernel
theorem dX8_closed_44 : decode cX8_closed 44 = .ok (.iload_n 3, 1) := by decide +kernel
theorem dX8_closed_45 : decode cX8_closed 45 = .ok (.invokevirtual 165, 3) := by decide +kernel
theorem dX8_closed_48 : decode cX8_closed 48 = .ok (.isub, 1) := by decide +kernel
theorem dX8_closed_49 : decode cX8_closed 49 = .ok (.invokevirtual 103, 3) := by decide +kernel
theorem dX8_closed_52 : decode cX8_closed 52 = .ok (.ireturn, 1) := by decide +kernel
def f_X8_closed_N (s0 : OuNT) (p1 : Int32) (p2 : Int32) (p3 : Int32) : Option (Int32 × OuNT) :=
  (f_X8_isRow_N s0 p1 p2 p3).bind fun r1 =>
  if r1 = 0 then (f_X8_refuse_N s0 (1 : Int32) (-2147483648 : Int32)).bind fun r4 =>
  some ((r4.1), (r4.2))
  else none
abbrev rm_X8_closed_N : Room := { frames := 4, cells := 0, slots := 0, locals := 92 }
set_option maxHeartbeats 4000000 in
set_option maxRecDepth 100000 in
theorem c_X8_closed_N (l : Launch) (g : GK) (a0 : Nat → Nat) (s0 : OuNT) (p1 : Int32) (p2 : Int32) (p3 : Int32) (res : (Int32 × OuNT)) (hf : f_X8_closed_N s0 p1 p2 p3 = some res) : gM l yX8_closed cX8_closed 5 (some .int) rm_X8_closed_N g [.ref (a0 0), .int p1, .int p2, .int p3] (OuN_c g a0 s0) (fun _ : Unit => (some (.int (res.1)))) (fun _ => (OuN_c g a0 (res.2))) 0 0 := by
  refine gM_introI RX8 (by decide) rfl (Nat.le_of_ble_eq_true rfl) (fun p e s m args below meth c Q H locs ls A hE hZ hA hP hD hS hq hl => ?_)
  have hl : lv_has ls 5 [(0, .ref (a0 0)), (1, .int p1), (2, .int p2), (3, .int p3)] := hl
  have hx := hE.1
  have hb := hE.2.1
  rw [f_X8_closed_N] at hf
  refine lv_aload_n hx hb dX8_closed_0 rfl (lv_at hl 0 rfl) ?_
  refine lv_iload_n hx hb dX8_closed_1 rfl (lv_at hl 1 rfl) ?_
  refine lv_iload_n hx hb dX8_closed_2 rfl (lv_at hl 2 rfl) ?_
  refine lv_iload_n hx hb dX8_closed_3 rfl (lv_at hl 3 rfl) ?_
  obtain ⟨r1, hc2, hf⟩ := gbd hf
  refine gr_callV (As := [.int p1, .int p2, .int p3]) (rest := []) (st1 := [.int r1]) hE hl.1 ml_X8_155 (c_X8_isRow_N l g a0 s0 p1 p2 p3 r1 hc2) hZ hS hP [(0, 19)] rfl okX8 rfl rfl rfl rfl ⟨rfl, rfl⟩ ⟨Nat.le_of_ble_eq_true rfl, Nat.le_of_ble_eq_true rfl⟩ ⟨Nat.le_refl _, Nat.le_refl _⟩ (Nat.le_of_ble_eq_true rfl) dX8_closed_4 ?_
  refine lv_if_ne hx hb dX8_closed_7 (tgt := 18) rfl (fun h3 => ?_) (fun h3 => ?_)
  · have hf := gif_f h3 hf
    refine lv_aload_n hx hb dX8_closed_18 rfl (lv_at hl 0 rfl) ?_
    refine g_get hE okX8 fl_X8_31 hP 0 rfl (v := .null) rfl dX8_closed_19 ?_
    cases hf
  · have hf := gif_t h3 hf
    refine lv_aload_n hx hb dX8_closed_10 rfl (lv_at hl 0 rfl) ?_
    refine lv_iconst hx hb dX8_closed_11 kci_1 ?_
    refine lv_ldc hx hb hE.2.2.2.2.2.1 (hE.2.2.2.2.2.2.1 _ kd_X8_138) dX8_closed_12 ?_
    obtain ⟨r4, hc5, hf⟩ := gbd hf
    refine gm_callV1 (As := [.int (1 : Int32), .int (-2147483648 : Int32)]) (rest := []) (st1 := fun _ => [.int (r4.1)]) (ws' := fun _ => (OuN_c g a0 (r4.2))) hE hl.1 ml_X8_69 (c_X8_refuse_N l g a0 s0 (1 : Int32) (-2147483648 : Int32) r4 hc5) hZ hP hD hS hA 0 19 rfl (fun _ => rfl) okX8 rfl rfl rfl (fun _ => rfl) ⟨rfl, rfl⟩ ⟨Nat.le_of_ble_eq_true rfl, Nat.le_of_ble_eq_true rfl⟩ ⟨Nat.le_refl _, Nat.le_refl _⟩ (Nat.le_of_ble_eq_true rfl) dX8_closed_14 (fun _ H locs hP hD hS => ?_)
    cases hf
    exact hq () rfl hP hD hS dX8_closed_17
theorem dX8_rows_0 : decode cX8_rows 0 = .ok (.aload_n 0, 1) := by decide +kernel
theorem dX8_rows_1 : decode cX8_rows 1 = .ok (.getfield 31, 3) := by decide +kernel
theorem dX8_rows_4 : decode cX8_rows 4 = .ok (.ifnonnull 10, 3) := by decide +kernel
theorem dX8_rows_7 : decode cX8_rows 7 = .ok (.aload_n 0, 1) := by decide +kernel
theorem dX8_rows_8 : decode cX8_rows 8 = .ok (.iconst 1, 1) := by decide +kernel
theorem dX8_rows_9 : decode cX8_rows 9 = .ok (.iconst (-1), 1) := by decide +kernel
theorem dX8_rows_10 : decode cX8_rows 10 = .ok (.invokevirtual 69, 3) := by decide +kernel
theorem dX8_rows_13 : decode cX8_rows 13 = .ok (.ireturn, 1) := by decide +kernel
theorem dX8_rows_14 : decode cX8_rows 14 = .ok (.aload_n 0, 1) := by decide +kernel
theorem dX8_rows_15 : decode cX8_rows 15 = .ok (.aload_n 0, 1) := by decide +kernel
theorem dX8_rows_16 : decode cX8_rows 16 = .ok (.getfield 31, 3) := by decide +kernel
theorem dX8_rows_19 : decode cX8_rows 19 = .ok (.getfield 139, 3) := by decide +kernel
theorem dX8_rows_22 : decode cX8_rows 22 = .ok (.getfield 159, 3) := by decide +kernel
theorem dX8_rows_25 : decode cX8_rows 25 = .ok (.iconst 0, 1) := by decide +kernel
theorem dX8_rows_26 : decode cX8_rows 26 = .ok (.invokestatic 168, 3) := by decide +kernel
theorem dX8_rows_29 : decode cX8_rows 29 = .ok (.invokevirtual 103, 3) := by decide +kernel
theorem dX8_rows_32 : decode cX8_rows 32 = .ok (.ireturn, 1) := by decide +kernel
def f_X8_rows_N (s0 : OuNT) : Option (Int32 × OuNT) :=
  (f_X8_refuse_N s0 (1 : Int32) (-1 : Int32)).bind fun r1 =>
  some ((r1.1), (r1.2))
abbrev rm_X8_rows_N : Room := { frames := 1, cells := 0, slots := 0, locals := 23 }
set_option maxHeartbeats 4000000 in
set_option maxRecDepth 100000 in
theorem c_X8_rows_N (l : Launch) (g : GK) (a0 : Nat → Nat) (s0 : OuNT) (res : (Int32 × OuNT)) (hf : f_X8_rows_N s0 = some res) : gM l yX8_rows cX8_rows 1 (some .int) rm_X8_rows_N g [.ref (a0 0)] (OuN_c g a0 s0) (fun _ : Unit => (some (.int (res.1)))) (fun _ => (OuN_c g a0 (res.2))) 0 0 := by
  refine gM_introI RX8 (by decide) rfl (Nat.le_of_ble_eq_true rfl) (fun p e s m args below meth c Q H locs ls A hE hZ hA hP hD hS hq hl => ?_)
  have hl : lv_has ls 1 [(0, .ref (a0 0))] := hl
  have hx := hE.1
  have hb := hE.2.1
  rw [f_X8_rows_N] at hf
  refine lv_aload_n hx hb dX8_rows_0 rfl (lv_at hl 0 rfl) ?_
  refine g_get hE okX8 fl_X8_31 hP 0 rfl (v := .null) rfl dX8_rows_1 ?_
  refine lv_ifnonnullN hx hb dX8_rows_4 ?_
  refine lv_aload_n hx hb dX8_rows_7 rfl (lv_at hl 0 rfl) ?_
  refine lv_iconst hx hb dX8_rows_8 kci_1 ?_
  refine lv_iconst hx hb dX8_rows_9 kci_m1 ?_
  obtain ⟨r1, hc2, hf⟩ := gbd hf
  refine gm_callV1 (As := [.int (1 : Int32), .int (-1 : Int32)]) (rest := []) (st1 := fun _ => [.int (r1.1)]) (ws' := fun _ => (OuN_c g a0 (r1.2))) hE hl.1 ml_X8_69 (c_X8_refuse_N l g a0 s0 (1 : Int32) (-1 : Int32) r1 hc2) hZ hP hD hS hA 0 19 rfl (fun _ => rfl) okX8 rfl rfl rfl (fun _ => rfl) ⟨rfl, rfl⟩ ⟨Nat.le_of_ble_eq_true rfl, Nat.le_of_ble_eq_true rfl⟩ ⟨Nat.le_refl _, Nat.le_refl _⟩ (Nat.le_of_ble_eq_true rfl) dX8_rows_10 (fun _ H locs hP hD hS => ?_)
  cases hf
  exact hq () rfl hP hD hS dX8_rows_13
theorem dX8_row_0 : decode cX8_row 0 = .ok (.aload_n 0, 1) := by decide +kernel
theorem dX8_row_1 : decode cX8_row 1 = .ok (.getfield 31, 3) := by decide +kernel
theorem dX8_row_4 : decode cX8_row 4 = .ok (.ifnull 12, 3) := by decide +kernel
theorem dX8_row_7 : decode cX8_row 7 = .ok (.iload_n 2, 1) := by decide +kernel
theorem dX8_row_8 : decode cX8_row 8 = .ok (.ifCond .lt 8, 3) := by decide +kernel
theorem dX8_row_11 : decode cX8_row 11 = .ok (.iload_n 2, 1) := by decide +kernel
theorem dX8_row_12 : decode cX8_row 12 = .ok (.iconst 3, 1) := by decide +kernel
theorem dX8_row_13 : decode cX8_row 13 = .ok (.if_icmp .le 11, 3) := by decide +kernel
theorem dX8_row_16 : decode cX8_row 16 = .ok (.aload_n 0, 1) := by decide +kernel
theorem dX8_row_17 : decode cX8_row 17 = .ok (.iconst 1, 1) := by decide +kernel
theorem dX8_row_18 : decode cX8_row 18 = .ok (.ldc 138, 2) := by decide +kernel
theorem dX8_row_20 : decode cX8_row 20 = .ok (.invokevirtual 69, 3) := by decide +kernel
theorem dX8_row_23 : decode cX8_row 23 = .ok (.ireturn, 1) := by decide +kernel
theorem dX8_row_24 : decode cX8_row 24 = .ok (.aload_n 0, 1) := by decide +kernel
theorem dX8_row_25 : decode cX8_row 25 = .ok (.getfield 31, 3) := by decide +kernel
theorem dX8_row_28 : decode cX8_row 28 = .ok (.getfield 139, 3) := by decide +kernel
theorem dX8_row_31 : decode cX8_row 31 = .ok (.getfield 159, 3) := by decide +kernel
theorem dX8_row_34 : decode cX8_row 34 = .ok (.iconst 0, 1) := by decide +kernel
theorem dX8_row_35 : decode cX8_row 35 = .ok (.iload_n 1, 1) := by decide +kernel
theorem dX8_row_36 : decode cX8_row 36 = .ok (.invokestatic 172, 3) := by decide +kernel
theorem dX8_row_39 : decode cX8_row 39 = .ok (.istore_n 3, 1) := by decide +kernel
theorem dX8_row_40 : decode cX8_row 40 = .ok (.iload_n 3, 1) := by decide +kernel
theorem dX8_row_41 : decode cX8_row 41 = .ok (.iconst (-1), 1) := by decide +kernel
theorem dX8_row_42 : decode cX8_row 42 = .ok (.if_icmp .ne 11, 3) := by decide +kernel
theorem dX8_row_45 : decode cX8_row 45 = .ok (.aload_n 0, 1) := by decide +kernel
theorem dX8_row_46 : decode cX8_row 46 = .ok (.iconst 1, 1) := by decide +kernel
theorem dX8_row_47 : decode cX8_row 47 = .ok (.ldc 138, 2) := by decide +kernel
theorem dX8_row_49 : decode cX8_row 49 = .ok (.invokevirtual 69, 3) := by decide +kernel
theorem dX8_row_52 : decode cX8_row 52 = .ok (.ireturn, 1) := by decide +kernel
theorem dX8_row_53 : decode cX8_row 53 = .ok (.aload_n 0, 1) := by decide +kernel
theorem dX8_row_54 : decode cX8_row 54 = .ok (.iload_n 3, 1) := by decide +kernel
theorem dX8_row_55 : decode cX8_row 55 = .ok (.iload_n 2, 1) := by decide +kernel
theorem dX8_row_56 : decode cX8_row 56 = .ok (.aload_n 0, 1) := by decide +kernel
theorem dX8_row_57 : decode cX8_row 57 = .ok (.getfield 31, 3) := by decide +kernel
theorem dX8_row_60 : decode cX8_row 60 = .ok (.getfield 139, 3) := by decide +kernel
theorem dX8_row_63 : decode cX8_row 63 = .ok (.getfield 159, 3) := by decide +kernel
theorem dX8_row_66 : decode cX8_row 66 = .ok (.iload_n 3, 1) := by decide +kernel
theorem dX8_row_67 : decode cX8_row 67 = .ok (.iaload, 1) := by decide +kernel
theorem dX8_row_68 : decode cX8_row 68 = .ok (.invokestatic 176, 3) := by decide +kernel
theorem dX8_row_71 : decode cX8_row 71 = .ok (.invokevirtual 103, 3) := by decide +kernel
theorem dX8_row_74 : decode cX8_row 74 = .ok (.ireturn, 1) := by decide +kernel
def f_X8_row_N (s0 : OuNT) (p1 : Int32) (p2 : Int32) : Option (Int32 × OuNT) :=
  (f_X8_refuse_N s0 (1 : Int32) (-2147483648 : Int32)).bind fun r1 =>
  some ((r1.1), (r1.2))
abbrev rm_X8_row_N : Room := { frames := 2, cells := 0, slots := 0, locals := 43 }
set_option maxHeartbeats 4000000 in
set_option maxRecDepth 100000 in
theorem c_X8_row_N (l : Launch) (g : GK) (a0 : Nat → Nat) (s0 : OuNT) (p1 : Int32) (p2 : Int32) (res : (Int32 × OuNT)) (hf : f_X8_row_N s0 p1 p2 = some res) : gM l yX8_row cX8_row 4 (some .int) rm_X8_row_N g [.ref (a0 0), .int p1, .int p2] (OuN_c g a0 s0) (fun _ : Unit => (some (.int (res.1)))) (fun _ => (OuN_c g a0 (res.2))) 0 0 := by
  refine gM_introI RX8 (by decide) rfl (Nat.le_of_ble_eq_true rfl) (fun p e s m args below meth c Q H locs ls A hE hZ hA hP hD hS hq hl => ?_)
  have hl : lv_has ls 4 [(0, .ref (a0 0)), (1, .int p1), (2, .int p2)] := hl
  have hx := hE.1
  have hb := hE.2.1
  rw [f_X8_row_N] at hf
  refine lv_aload_n hx hb dX8_row_0 rfl (lv_at hl 0 rfl) ?_
  refine g_get hE okX8 fl_X8_31 hP 0 rfl (v := .null) rfl dX8_row_1 ?_
  refine lv_ifnullN hx hb dX8_row_4 (tgt := 16) rfl ?_
  refine lv_aload_n hx hb dX8_row_16 rfl (lv_at hl 0 rfl) ?_
  refine lv_iconst hx hb dX8_row_17 kci_1 ?_
  refine lv_ldc hx hb hE.2.2.2.2.2.1 (hE.2.2.2.2.2.2.1 _ kd_X8_138) dX8_row_18 ?_
  obtain ⟨r1, hc2, hf⟩ := gbd hf
  refine gm_callV1 (As := [.int (1 : Int32), .int (-2147483648 : Int32)]) (rest := []) (st1 := fun _ => [.int (r1.1)]) (ws' := fun _ => (OuN_c g a0 (r1.2))) hE hl.1 ml_X8_69 (c_X8_refuse_N l g a0 s0 (1 : Int32) (-2147483648 : Int32) r1 hc2) hZ hP hD hS hA 0 19 rfl (fun _ => rfl) okX8 rfl rfl rfl (fun _ => rfl) ⟨rfl, rfl⟩ ⟨Nat.le_of_ble_eq_true rfl, Nat.le_of_ble_eq_true rfl⟩ ⟨Nat.le_refl _, Nat.le_refl _⟩ (Nat.le_of_ble_eq_true rfl) dX8_row_20 (fun _ H locs hP hD hS => ?_)
  cases hf
  exact hq () rfl hP hD hS dX8_row_23
theorem dX8_spell_0 : decode cX8_spell 0 = .ok (.aload_n 0, 1) := by decide +kernel
theorem dX8_spell_1 : decode cX8_spell 1 = .ok (.getfield 31, 3) := by decide +kernel
theorem dX8_spell_4 : decode cX8_spell 4 = .ok (.ifnull 7, 3) := by decide +kernel
theorem dX8_spell_7 : decode cX8_spell 7 = .ok (.iload_n 2, 1) := by decide +kernel
theorem dX8_spell_8 : decode cX8_spell 8 = .ok (.ifCond .ge 10, 3) := by decide +kernel
theorem dX8_spell_11 : decode cX8_spell 11 = .ok (.aload_n 0, 1) := by decide +kernel
theorem dX8_spell_12 : decode cX8_spell 12 = .ok (.iconst 1, 1) := by decide +kernel
theorem dX8_spell_13 : decode cX8_spell 13 = .ok (.iconst (-1), 1) := by decide +kernel
theorem dX8_spell_14 : decode cX8_spell 14 = .ok (.invokevirtual 69, 3) := by decide +kernel
theorem dX8_spell_17 : decode cX8_spell 17 = .ok (.ireturn, 1) := by decide +kernel
theorem dX8_spell_18 : decode cX8_spell 18 = .ok (.aload_n 0, 1) := by decide +kernel
theorem dX8_spell_19 : decode cX8_spell 19 = .ok (.getfield 31, 3) := by decide +kernel
theorem dX8_spell_22 : decode cX8_spell 22 = .ok (.getfield 139, 3) := by decide +kernel
theorem dX8_spell_25 : decode cX8_spell 25 = .ok (.getfield 159, 3) := by decide +kernel
theorem dX8_spell_28 : decode cX8_spell 28 = .ok (.iconst 0, 1) := by decide +kernel
theorem dX8_spell_29 : decode cX8_spell 29 = .ok (.iload_n 1, 1) := by decide +kernel
theorem dX8_spell_30 : decode cX8_spell 30 = .ok (.invokestatic 172, 3) := by decide +kernel
theorem dX8_spell_33 : decode cX8_spell 33 = .ok (.istore_n 3, 1) := by decide +kernel
theorem dX8_spell_34 : decode cX8_spell 34 = .ok (.iload_n 3, 1) := by decide +kernel
theorem dX8_spell_35 : decode cX8_spell 35 = .ok (.iconst (-1), 1) := by decide +kernel
theorem dX8_spell_36 : decode cX8_spell 36 = .ok (.if_icmp .ne 10, 3) := by decide +kernel
theorem dX8_spell_39 : decode cX8_spell 39 = .ok (.aload_n 0, 1) := by decide +kernel
theorem dX8_spell_40 : decode cX8_spell 40 = .ok (.iconst 1, 1) := by decide +kernel
theorem dX8_spell_41 : decode cX8_spell 41 = .ok (.iconst (-1), 1) := by decide +kernel
theorem dX8_spell_42 : decode cX8_spell 42 = .ok (.invokevirtual 69, 3) := by decide +kernel
theorem dX8_spell_45 : decode cX8_spell 45 = .ok (.ireturn, 1) := by decide +kernel
theorem dX8_spell_46 : decode cX8_spell 46 = .ok (.aload_n 0, 1) := by decide +kernel
theorem dX8_spell_47 : decode cX8_spell 47 = .ok (.getfield 31, 3) := by decide +kernel
theorem dX8_spell_50 : decode cX8_spell 50 = .ok (.iload_n 3, 1) := by decide +kernel
theorem dX8_spell_51 : decode cX8_spell 51 = .ok (.invokevirtual 179, 3) := by decide +kernel
theorem dX8_spell_54 : decode cX8_spell 54 = .ok (.astore 4, 2) := by decide +kernel
theorem dX8_spell_56 : decode cX8_spell 56 = .ok (.aload_n 0, 1) := by decide +kernel
theorem dX8_spell_57 : decode cX8_spell 57 = .ok (.iload_n 2, 1) := by decide +kernel
theorem dX8_spell_58 : decode cX8_spell 58 = .ok (.aload 4, 2) := by decide +kernel
theorem dX8_spell_60 : decode cX8_spell 60 = .ok (.invokevirtual 183, 3) := by decide +kernel
theorem dX8_spell_63 : decode cX8_spell 63 = .ok (.if_icmp .ge 12, 3) := by decide +kernel
theorem dX8_spell_66 : decode cX8_spell 66 = .ok (.aload 4, 2) := by decide +kernel
theorem dX8_spell_68 : decode cX8_spell 68 = .ok (.iload_n 2, 1) := by decide +kernel
theorem dX8_spell_69 : decode cX8_spell 69 = .ok (.invokevirtual 188, 3) := by decide +kernel
theorem dX8_spell_72 : decode cX8_spell 72 = .ok (.goto 4, 3) := by decide +kernel
theorem dX8_spell_75 : decode cX8_spell 75 = .ok (.iconst (-1), 1) := by decide +kernel
theorem dX8_spell_76 : decode cX8_spell 76 = .ok (.invokevirtual 103, 3) := by decide +kernel
theorem dX8_spell_79 : decode cX8_spell 79 = .ok (.ireturn, 1) := by decide +kernel
def f_X8_spell_N (s0 : OuNT) (p1 : Int32) (p2 : Int32) : Option (Int32 × OuNT) :=
  (f_X8_refuse_N s0 (1 : Int32) (-1 : Int32)).bind fun r1 =>
  some ((r1.1), (r1.2))
abbrev rm_X8_spell_N : Room := { frames := 1, cells := 0, slots := 0, locals := 24 }
set_option maxHeartbeats 4000000 in
set_option maxRecDepth 100000 in
theorem c_X8_spell_N (l : Launch) (g : GK) (a0 : Nat → Nat) (s0 : OuNT) (p1 : Int32) (p2 : Int32) (res : (Int32 × OuNT)) (hf : f_X8_spell_N s0 p1 p2 = some res) : gM l yX8_spell cX8_spell 5 (some .int) rm_X8_spell_N g [.ref (a0 0), .int p1, .int p2] (OuN_c g a0 s0) (fun _ : Unit => (some (.int (res.1)))) (fun _ => (OuN_c g a0 (res.2))) 0 0 := by
  refine gM_introI RX8 (by decide) rfl (Nat.le_of_ble_eq_true rfl) (fun p e s m args below meth c Q H locs ls A hE hZ hA hP hD hS hq hl => ?_)
  have hl : lv_has ls 5 [(0, .ref (a0 0)), (1, .int p1), (2, .int p2)] := hl
  have hx := hE.1
  have hb := hE.2.1
  rw [f_X8_spell_N] at hf
  refine lv_aload_n hx hb dX8_spell_0 rfl (lv_at hl 0 rfl) ?_
  refine g_get hE okX8 fl_X8_31 hP 0 rfl (v := .null) rfl dX8_spell_1 ?_
  refine lv_ifnullN hx hb dX8_spell_4 (tgt := 11) rfl ?_
  refine lv_aload_n hx hb dX8_spell_11 rfl (lv_at hl 0 rfl) ?_
  refine lv_iconst hx hb dX8_spell_12 kci_1 ?_
  refine lv_iconst hx hb dX8_spell_13 kci_m1 ?_
  obtain ⟨r1, hc2, hf⟩ := gbd hf
  refine gm_callV1 (As := [.int (1 : Int32), .int (-1 : Int32)]) (rest := []) (st1 := fun _ => [.int (r1.1)]) (ws' := fun _ => (OuN_c g a0 (r1.2))) hE hl.1 ml_X8_69 (c_X8_refuse_N l g a0 s0 (1 : Int32) (-1 : Int32) r1 hc2) hZ hP hD hS hA 0 19 rfl (fun _ => rfl) okX8 rfl rfl rfl (fun _ => rfl) ⟨rfl, rfl⟩ ⟨Nat.le_of_ble_eq_true rfl, Nat.le_of_ble_eq_true rfl⟩ ⟨Nat.le_refl _, Nat.le_refl _⟩ (Nat.le_of_ble_eq_true rfl) dX8_spell_14 (fun _ H locs hP hD hS => ?_)
  cases hf
  exact hq () rfl hP hD hS dX8_spell_17
theorem dX8_traffic_0 : decode cX8_traffic 0 = .ok (.aload_n 0, 1) := by decide +kernel
theorem dX8_traffic_1 : decode cX8_traffic 1 = .ok (.getfield 31, 3) := by decide +kernel
theorem dX8_traffic_4 : decode cX8_traffic 4 = .ok (.ifnull 12, 3) := by decide +kernel
theorem dX8_traffic_7 : decode cX8_traffic 7 = .ok (.iload_n 1, 1) := by decide +kernel
theorem dX8_traffic_8 : decode cX8_traffic 8 = .ok (.ifCond .lt 8, 3) := by decide +kernel
theorem dX8_traffic_11 : decode cX8_traffic 11 = .ok (.iload_n 1, 1) := by decide +kernel
theorem dX8_traffic_12 : decode cX8_traffic 12 = .ok (.iconst 3, 1) := by decide +kernel
theorem dX8_traffic_13 : decode cX8_traffic 13 = .ok (.if_icmp .le 10, 3) := by decide +kernel
theorem dX8_traffic_16 : decode cX8_traffic 16 = .ok (.aload_n 0, 1) := by decide +kernel
theorem dX8_traffic_17 : decode cX8_traffic 17 = .ok (.iconst 1, 1) := by decide +kernel
theorem dX8_traffic_18 : decode cX8_traffic 18 = .ok (.iconst (-1), 1) := by decide +kernel
theorem dX8_traffic_19 : decode cX8_traffic 19 = .ok (.invokevirtual 69, 3) := by decide +kernel
theorem dX8_traffic_22 : decode cX8_traffic 22 = .ok (.ireturn, 1) := by decide +kernel
theorem dX8_traffic_23 : decode cX8_traffic 23 = .ok (.aload_n 0, 1) := by decide +kernel
theorem dX8_traffic_24 : decode cX8_traffic 24 = .ok (.aload_n 0, 1) := by decide +kernel
theorem dX8_traffic_25 : decode cX8_traffic 25 = .ok (.getfield 31, 3) := by decide +kernel
theorem dX8_traffic_28 : decode cX8_traffic 28 = .ok (.getfield 139, 3) := by decide +kernel
theorem dX8_traffic_31 : decode cX8_traffic 31 = .ok (.getfield 192, 3) := by decide +kernel
theorem dX8_traffic_34 : decode cX8_traffic 34 = .ok (.iload_n 1, 1) := by decide +kernel
theorem dX8_traffic_35 : decode cX8_traffic 35 = .ok (.invokevirtual 196, 3) := by decide +kernel
theorem dX8_traffic_38 : decode cX8_traffic 38 = .ok (.invokevirtual 103, 3) := by decide +kernel
theorem dX8_traffic_41 : decode cX8_traffic 41 = .ok (.ireturn, 1) := by decide +kernel
def f_X8_traffic_N (s0 : OuNT) (p1 : Int32) : Option (Int32 × OuNT) :=
  (f_X8_refuse_N s0 (1 : Int32) (-1 : Int32)).bind fun r1 =>
  some ((r1.1), (r1.2))
abbrev rm_X8_traffic_N : Room := { frames := 1, cells := 0, slots := 0, locals := 22 }
set_option maxHeartbeats 4000000 in
set_option maxRecDepth 100000 in
theorem c_X8_traffic_N (l : Launch) (g : GK) (a0 : Nat → Nat) (s0 : OuNT) (p1 : Int32) (res : (Int32 × OuNT)) (hf : f_X8_traffic_N s0 p1 = some res) : gM l yX8_traffic cX8_traffic 2 (some .int) rm_X8_traffic_N g [.ref (a0 0), .int p1] (OuN_c g a0 s0) (fun _ : Unit => (some (.int (res.1)))) (fun _ => (OuN_c g a0 (res.2))) 0 0 := by
  refine gM_introI RX8 (by decide) rfl (Nat.le_of_ble_eq_true rfl) (fun p e s m args below meth c Q H locs ls A hE hZ hA hP hD hS hq hl => ?_)
  have hl : lv_has ls 2 [(0, .ref (a0 0)), (1, .int p1)] := hl
  have hx := hE.1
  have hb := hE.2.1
  rw [f_X8_traffic_N] at hf
  refine lv_aload_n hx hb dX8_traffic_0 rfl (lv_at hl 0 rfl) ?_
  refine g_get hE okX8 fl_X8_31 hP 0 rfl (v := .null) rfl dX8_traffic_1 ?_
  refine lv_ifnullN hx hb dX8_traffic_4 (tgt := 16) rfl ?_
  refine lv_aload_n hx hb dX8_traffic_16 rfl (lv_at hl 0 rfl) ?_
  refine lv_iconst hx hb dX8_traffic_17 kci_1 ?_
  refine lv_iconst hx hb dX8_traffic_18 kci_m1 ?_
  obtain ⟨r1, hc2, hf⟩ := gbd hf
  refine gm_callV1 (As := [.int (1 : Int32), .int (-1 : Int32)]) (rest := []) (st1 := fun _ => [.int (r1.1)]) (ws' := fun _ => (OuN_c g a0 (r1.2))) hE hl.1 ml_X8_69 (c_X8_refuse_N l g a0 s0 (1 : Int32) (-1 : Int32) r1 hc2) hZ hP hD hS hA 0 19 rfl (fun _ => rfl) okX8 rfl rfl rfl (fun _ => rfl) ⟨rfl, rfl⟩ ⟨Nat.le_of_ble_eq_true rfl, Nat.le_of_ble_eq_true rfl⟩ ⟨Nat.le_refl _, Nat.le_refl _⟩ (Nat.le_of_ble_eq_true rfl) dX8_traffic_19 (fun _ H locs hP hD hS => ?_)
  cases hf
  exact hq () rfl hP hD hS dX8_traffic_22
theorem dX8_log_0 : decode cX8_log 0 = .ok (.aload_n 0, 1) := by decide +kernel
theorem dX8_log_1 : decode cX8_log 1 = .ok (.getfield 31, 3) := by decide +kernel
theorem dX8_log_4 : decode cX8_log 4 = .ok (.ifnull 29, 3) := by decide +kernel
theorem dX8_log_7 : decode cX8_log 7 = .ok (.iload_n 2, 1) := by decide +kernel
theorem dX8_log_8 : decode cX8_log 8 = .ok (.ifCond .lt 25, 3) := by decide +kernel
theorem dX8_log_11 : decode cX8_log 11 = .ok (.iload_n 2, 1) := by decide +kernel
theorem dX8_log_12 : decode cX8_log 12 = .ok (.iconst 4, 1) := by decide +kernel
theorem dX8_log_13 : decode cX8_log 13 = .ok (.if_icmp .gt 20, 3) := by decide +kernel
theorem dX8_log_16 : decode cX8_log 16 = .ok (.aload_n 0, 1) := by decide +kernel
theorem dX8_log_17 : decode cX8_log 17 = .ok (.getfield 31, 3) := by decide +kernel
theorem dX8_log_20 : decode cX8_log 20 = .ok (.getfield 139, 3) := by decide +kernel
theorem dX8_log_23 : decode cX8_log 23 = .ok (.getfield 192, 3) := by decide +kernel
theorem dX8_log_26 : decode cX8_log 26 = .ok (.iload_n 1, 1) := by decide +kernel
theorem dX8_log_27 : decode cX8_log 27 = .ok (.invokevirtual 199, 3) := by decide +kernel
theorem dX8_log_30 : decode cX8_log 30 = .ok (.ifCond .ne 11, 3) := by decide +kernel
theorem dX8_log_33 : decode cX8_log 33 = .ok (.aload_n 0, 1) := by decide +kernel
theorem dX8_log_34 : decode cX8_log 34 = .ok (.iconst 1, 1) := by decide +kernel
theorem dX8_log_35 : decode cX8_log 35 = .ok (.ldc 138, 2) := by decide +kernel
theorem dX8_log_37 : decode cX8_log 37 = .ok (.invokevirtual 69, 3) := by decide +kernel
theorem dX8_log_40 : decode cX8_log 40 = .ok (.ireturn, 1) := by decide +kernel
theorem dX8_log_41 : decode cX8_log 41 = .ok (.aload_n 0, 1) := by decide +kernel
theorem dX8_log_42 : decode cX8_log 42 = .ok (.aload_n 0, 1) := by decide +kernel
theorem dX8_log_43 : decode cX8_log 43 = .ok (.getfield 31, 3) := by decide +kernel
theorem dX8_log_46 : decode cX8_log 46 = .ok (.getfield 139, 3) := by decide +kernel
theorem dX8_log_49 : decode cX8_log 49 = .ok (.getfield 192, 3) := by decide +kernel
theorem dX8_log_52 : decode cX8_log 52 = .ok (.iload_n 1, 1) := by decide +kernel
theorem dX8_log_53 : decode cX8_log 53 = .ok (.iload_n 2, 1) := by decide +kernel
theorem dX8_log_54 : decode cX8_log 54 = .ok (.invokevirtual 202, 3) := by decide +kernel
theorem dX8_log_57 : decode cX8_log 57 = .ok (.invokevirtual 103, 3) := by decide +kernel
theorem dX8_log_60 : decode cX8_log 60 = .ok (.ireturn, 1) := by decide +kernel
def f_X8_log_N (s0 : OuNT) (p1 : Int32) (p2 : Int32) : Option (Int32 × OuNT) :=
  (f_X8_refuse_N s0 (1 : Int32) (-2147483648 : Int32)).bind fun r1 =>
  some ((r1.1), (r1.2))
abbrev rm_X8_log_N : Room := { frames := 4, cells := 0, slots := 0, locals := 85 }
set_option maxHeartbeats 4000000 in
set_option maxRecDepth 100000 in
theorem c_X8_log_N (l : Launch) (g : GK) (a0 : Nat → Nat) (s0 : OuNT) (p1 : Int32) (p2 : Int32) (res : (Int32 × OuNT)) (hf : f_X8_log_N s0 p1 p2 = some res) : gM l yX8_log cX8_log 3 (some .int) rm_X8_log_N g [.ref (a0 0), .int p1, .int p2] (OuN_c g a0 s0) (fun _ : Unit => (some (.int (res.1)))) (fun _ => (OuN_c g a0 (res.2))) 0 0 := by
  refine gM_introI RX8 (by decide) rfl (Nat.le_of_ble_eq_true rfl) (fun p e s m args below meth c Q H locs ls A hE hZ hA hP hD hS hq hl => ?_)
  have hl : lv_has ls 3 [(0, .ref (a0 0)), (1, .int p1), (2, .int p2)] := hl
  have hx := hE.1
  have hb := hE.2.1
  rw [f_X8_log_N] at hf
  refine lv_aload_n hx hb dX8_log_0 rfl (lv_at hl 0 rfl) ?_
  refine g_get hE okX8 fl_X8_31 hP 0 rfl (v := .null) rfl dX8_log_1 ?_
  refine lv_ifnullN hx hb dX8_log_4 (tgt := 33) rfl ?_
  refine lv_aload_n hx hb dX8_log_33 rfl (lv_at hl 0 rfl) ?_
  refine lv_iconst hx hb dX8_log_34 kci_1 ?_
  refine lv_ldc hx hb hE.2.2.2.2.2.1 (hE.2.2.2.2.2.2.1 _ kd_X8_138) dX8_log_35 ?_
  obtain ⟨r1, hc2, hf⟩ := gbd hf
  refine gm_callV1 (As := [.int (1 : Int32), .int (-2147483648 : Int32)]) (rest := []) (st1 := fun _ => [.int (r1.1)]) (ws' := fun _ => (OuN_c g a0 (r1.2))) hE hl.1 ml_X8_69 (c_X8_refuse_N l g a0 s0 (1 : Int32) (-2147483648 : Int32) r1 hc2) hZ hP hD hS hA 0 19 rfl (fun _ => rfl) okX8 rfl rfl rfl (fun _ => rfl) ⟨rfl, rfl⟩ ⟨Nat.le_of_ble_eq_true rfl, Nat.le_of_ble_eq_true rfl⟩ ⟨Nat.le_refl _, Nat.le_refl _⟩ (Nat.le_of_ble_eq_true rfl) dX8_log_37 (fun _ H locs hP hD hS => ?_)
  cases hf
  exact hq () rfl hP hD hS dX8_log_40
theorem dX8_flips_0 : decode cX8_flips 0 = .ok (.iload_n 1, 1) := by decide +kernel
theorem dX8_flips_1 : decode cX8_flips 1 = .ok (.invokestatic 129, 3) := by decide +kernel
theorem dX8_flips_4 : decode cX8_flips 4 = .ok (.ifCond .eq 11, 3) := by decide +kernel
theorem dX8_flips_7 : decode cX8_flips 7 = .ok (.aload_n 0, 1) := by decide +kernel
theorem dX8_flips_8 : decode cX8_flips 8 = .ok (.iload_n 2, 1) := by decide +kernel
theorem dX8_flips_9 : decode cX8_flips 9 = .ok (.invokevirtual 132, 3) := by decide +kernel
theorem dX8_flips_12 : decode cX8_flips 12 = .ok (.ifCond .ne 10, 3) := by decide +kernel
theorem dX8_flips_15 : decode cX8_flips 15 = .ok (.aload_n 0, 1) := by decide +kernel
theorem dX8_flips_16 : decode cX8_flips 16 = .ok (.iconst 1, 1) := by decide +kernel
theorem dX8_flips_17 : decode cX8_flips 17 = .ok (.iconst (-1), 1) := by decide +kernel
theorem dX8_flips_18 : decode cX8_flips 18 = .ok (.invokevirtual 69, 3) := by decide +kernel
theorem dX8_flips_21 : decode cX8_flips 21 = .ok (.ireturn, 1) := by decide +kernel
theorem dX8_flips_22 : decode cX8_flips 22 = .ok (.aload_n 0, 1) := by decide +kernel
theorem dX8_flips_23 : decode cX8_flips 23 = .ok (.aload_n 0, 1) := by decide +kernel
theorem dX8_flips_24 : decode cX8_flips 24 = .ok (.getfield 31, 3) := by decide +kernel
theorem dX8_flips_27 : decode cX8_flips 27 = .ok (.getfield 139, 3) := by decide +kernel
theorem dX8_flips_30 : decode cX8_flips 30 = .ok (.getfield 205, 3) := by decide +kernel
theorem dX8_flips_33 : decode cX8_flips 33 = .ok (.iload_n 1, 1) := by decide +kernel
theorem dX8_flips_34 : decode cX8_flips 34 = .ok (.bipush 8, 2) := by decide +kernel
theorem dX8_flips_36 : decode cX8_flips 36 = .ok (.imul, 1) := by decide +kernel
theorem dX8_flips_37 : decode cX8_flips 37 = .ok (.iload_n 2, 1) := by decide +kernel
theorem dX8_flips_38 : decode cX8_flips 38 = .ok (.iadd, 1) := by decide +kernel
theorem dX8_flips_39 : decode cX8_flips 39 = .ok (.iaload, 1) := by decide +kernel
theorem dX8_flips_40 : decode cX8_flips 40 = .ok (.invokevirtual 103, 3) := by decide +kernel
theorem dX8_flips_43 : decode cX8_flips 43 = .ok (.ireturn, 1) := by decide +kernel
def f_X8_flips_N (s0 : OuNT) (p1 : Int32) (p2 : Int32) : Option (Int32 × OuNT) :=
  (f_X8_isSide p1).bind fun r1 =>
  if r1 = 0 then (f_X8_refuse_N s0 (1 : Int32) (-1 : Int32)).bind fun r4 =>
  some ((r4.1), (r4.2))
  else (f_X8_isKey_N s0 p2).bind fun r6 =>
  if r6 = 0 then (f_X8_refuse_N s0 (1 : Int32) (-1 : Int32)).bind fun r9 =>
  some ((r9.1), (r9.2))
  else none
abbrev rm_X8_flips_N : Room := { frames := 2, cells := 0, slots := 0, locals := 42 }
set_option maxHeartbeats 4000000 in
set_option maxRecDepth 100000 in
theorem c_X8_flips_N (l : Launch) (g : GK) (a0 : Nat → Nat) (s0 : OuNT) (p1 : Int32) (p2 : Int32) (res : (Int32 × OuNT)) (hf : f_X8_flips_N s0 p1 p2 = some res) : gM l yX8_flips cX8_flips 3 (some .int) rm_X8_flips_N g [.ref (a0 0), .int p1, .int p2] (OuN_c g a0 s0) (fun _ : Unit => (some (.int (res.1)))) (fun _ => (OuN_c g a0 (res.2))) 0 0 := by
  refine gM_introI RX8 (by decide) rfl (Nat.le_of_ble_eq_true rfl) (fun p e s m args below meth c Q H locs ls A hE hZ hA hP hD hS hq hl => ?_)
  have hl : lv_has ls 3 [(0, .ref (a0 0)), (1, .int p1), (2, .int p2)] := hl
  have hx := hE.1
  have hb := hE.2.1
  rw [f_X8_flips_N] at hf
  refine lv_iload_n hx hb dX8_flips_0 rfl (lv_at hl 1 rfl) ?_
  obtain ⟨r1, hc2, hf⟩ := gbd hf
  refine gr_callS (As := [.int p1]) (rest := []) (st1 := [.int r1]) hE hl.1 ml_X8_129 (c_X8_isSide l g p1 r1 hc2) hZ hS hP [] rfl rfl rfl rfl ⟨rfl, rfl⟩ ⟨Nat.le_of_ble_eq_true rfl, Nat.le_of_ble_eq_true rfl⟩ ⟨Nat.le_refl _, Nat.le_refl _⟩ (Nat.le_of_ble_eq_true rfl) dX8_flips_1 ?_
  refine lv_if_eq hx hb dX8_flips_4 (tgt := 15) rfl (fun h3 => ?_) (fun h3 => ?_)
  · have hf := gif_t h3 hf
    refine lv_aload_n hx hb dX8_flips_15 rfl (lv_at hl 0 rfl) ?_
    refine lv_iconst hx hb dX8_flips_16 kci_1 ?_
    refine lv_iconst hx hb dX8_flips_17 kci_m1 ?_
    obtain ⟨r4, hc5, hf⟩ := gbd hf
    refine gm_callV1 (As := [.int (1 : Int32), .int (-1 : Int32)]) (rest := []) (st1 := fun _ => [.int (r4.1)]) (ws' := fun _ => (OuN_c g a0 (r4.2))) hE hl.1 ml_X8_69 (c_X8_refuse_N l g a0 s0 (1 : Int32) (-1 : Int32) r4 hc5) hZ hP hD hS hA 0 19 rfl (fun _ => rfl) okX8 rfl rfl rfl (fun _ => rfl) ⟨rfl, rfl⟩ ⟨Nat.le_of_ble_eq_true rfl, Nat.le_of_ble_eq_true rfl⟩ ⟨Nat.le_refl _, Nat.le_refl _⟩ (Nat.le_of_ble_eq_true rfl) dX8_flips_18 (fun _ H locs hP hD hS => ?_)
    cases hf
    exact hq () rfl hP hD hS dX8_flips_21
  · have hf := gif_f h3 hf
    refine lv_aload_n hx hb dX8_flips_7 rfl (lv_at hl 0 rfl) ?_
    refine lv_iload_n hx hb dX8_flips_8 rfl (lv_at hl 2 rfl) ?_
    obtain ⟨r6, hc7, hf⟩ := gbd hf
    refine gr_callV (As := [.int p2]) (rest := []) (st1 := [.int r6]) hE hl.1 ml_X8_132 (c_X8_isKey_N l g a0 s0 p2 r6 hc7) hZ hS hP [(0, 19)] rfl okX8 rfl rfl rfl rfl ⟨rfl, rfl⟩ ⟨Nat.le_of_ble_eq_true rfl, Nat.le_of_ble_eq_true rfl⟩ ⟨Nat.le_refl _, Nat.le_refl _⟩ (Nat.le_of_ble_eq_true rfl) dX8_flips_9 ?_
    refine lv_if_ne hx hb dX8_flips_12 (tgt := 22) rfl (fun h8 => ?_) (fun h8 => ?_)
    · have hf := gif_f h8 hf
      refine lv_aload_n hx hb dX8_flips_22 rfl (lv_at hl 0 rfl) ?_
      refine lv_aload_n hx hb dX8_flips_23 rfl (lv_at hl 0 rfl) ?_
      refine g_get hE okX8 fl_X8_31 hP 0 rfl (v := .null) rfl dX8_flips_24 ?_
      cases hf
    · have hf := gif_t h8 hf
      refine lv_aload_n hx hb dX8_flips_15 rfl (lv_at hl 0 rfl) ?_
      refine lv_iconst hx hb dX8_flips_16 kci_1 ?_
      refine lv_iconst hx hb dX8_flips_17 kci_m1 ?_
      obtain ⟨r9, hc10, hf⟩ := gbd hf
      refine gm_callV1 (As := [.int (1 : Int32), .int (-1 : Int32)]) (rest := []) (st1 := fun _ => [.int (r9.1)]) (ws' := fun _ => (OuN_c g a0 (r9.2))) hE hl.1 ml_X8_69 (c_X8_refuse_N l g a0 s0 (1 : Int32) (-1 : Int32) r9 hc10) hZ hP hD hS hA 0 19 rfl (fun _ => rfl) okX8 rfl rfl rfl (fun _ => rfl) ⟨rfl, rfl⟩ ⟨Nat.le_of_ble_eq_true rfl, Nat.le_of_ble_eq_true rfl⟩ ⟨Nat.le_refl _, Nat.le_refl _⟩ (Nat.le_of_ble_eq_true rfl) dX8_flips_18 (fun _ H locs hP hD hS => ?_)
      cases hf
      exact hq () rfl hP hD hS dX8_flips_21
theorem dX8_busiest_0 : decode cX8_busiest 0 = .ok (.aload_n 0, 1) := by decide +kernel
theorem dX8_busiest_1 : decode cX8_busiest 1 = .ok (.getfield 31, 3) := by decide +kernel
theorem dX8_busiest_4 : decode cX8_busiest 4 = .ok (.ifnonnull 10, 3) := by decide +kernel
theorem dX8_busiest_7 : decode cX8_busiest 7 = .ok (.aload_n 0, 1) := by decide +kernel
theorem dX8_busiest_8 : decode cX8_busiest 8 = .ok (.iconst 1, 1) := by decide +kernel
theorem dX8_busiest_9 : decode cX8_busiest 9 = .ok (.iconst (-1), 1) := by decide +kernel
theorem dX8_busiest_10 : decode cX8_busiest 10 = .ok (.invokevirtual 69, 3) := by decide +kernel
theorem dX8_busiest_13 : decode cX8_busiest 13 = .ok (.ireturn, 1) := by decide +kernel
theorem dX8_busiest_14 : decode cX8_busiest 14 = .ok (.aload_n 0, 1) := by decide +kernel
theorem dX8_busiest_15 : decode cX8_busiest 15 = .ok (.aload_n 0, 1) := by decide +kernel
theorem dX8_busiest_16 : decode cX8_busiest 16 = .ok (.getfield 31, 3) := by decide +kernel
theorem dX8_busiest_19 : decode cX8_busiest 19 = .ok (.getfield 139, 3) := by decide +kernel
theorem dX8_busiest_22 : decode cX8_busiest 22 = .ok (.getfield 192, 3) := by decide +kernel
theorem dX8_busiest_25 : decode cX8_busiest 25 = .ok (.invokevirtual 208, 3) := by decide +kernel
theorem dX8_busiest_28 : decode cX8_busiest 28 = .ok (.invokevirtual 103, 3) := by decide +kernel
theorem dX8_busiest_31 : decode cX8_busiest 31 = .ok (.ireturn, 1) := by decide +kernel
def f_X8_busiest_N (s0 : OuNT) : Option (Int32 × OuNT) :=
  (f_X8_refuse_N s0 (1 : Int32) (-1 : Int32)).bind fun r1 =>
  some ((r1.1), (r1.2))
abbrev rm_X8_busiest_N : Room := { frames := 1, cells := 0, slots := 0, locals := 22 }
set_option maxHeartbeats 4000000 in
set_option maxRecDepth 100000 in
theorem c_X8_busiest_N (l : Launch) (g : GK) (a0 : Nat → Nat) (s0 : OuNT) (res : (Int32 × OuNT)) (hf : f_X8_busiest_N s0 = some res) : gM l yX8_busiest cX8_busiest 1 (some .int) rm_X8_busiest_N g [.ref (a0 0)] (OuN_c g a0 s0) (fun _ : Unit => (some (.int (res.1)))) (fun _ => (OuN_c g a0 (res.2))) 0 0 := by
  refine gM_introI RX8 (by decide) rfl (Nat.le_of_ble_eq_true rfl) (fun p e s m args below meth c Q H locs ls A hE hZ hA hP hD hS hq hl => ?_)
  have hl : lv_has ls 1 [(0, .ref (a0 0))] := hl
  have hx := hE.1
  have hb := hE.2.1
  rw [f_X8_busiest_N] at hf
  refine lv_aload_n hx hb dX8_busiest_0 rfl (lv_at hl 0 rfl) ?_
  refine g_get hE okX8 fl_X8_31 hP 0 rfl (v := .null) rfl dX8_busiest_1 ?_
  refine lv_ifnonnullN hx hb dX8_busiest_4 ?_
  refine lv_aload_n hx hb dX8_busiest_7 rfl (lv_at hl 0 rfl) ?_
  refine lv_iconst hx hb dX8_busiest_8 kci_1 ?_
  refine lv_iconst hx hb dX8_busiest_9 kci_m1 ?_
  obtain ⟨r1, hc2, hf⟩ := gbd hf
  refine gm_callV1 (As := [.int (1 : Int32), .int (-1 : Int32)]) (rest := []) (st1 := fun _ => [.int (r1.1)]) (ws' := fun _ => (OuN_c g a0 (r1.2))) hE hl.1 ml_X8_69 (c_X8_refuse_N l g a0 s0 (1 : Int32) (-1 : Int32) r1 hc2) hZ hP hD hS hA 0 19 rfl (fun _ => rfl) okX8 rfl rfl rfl (fun _ => rfl) ⟨rfl, rfl⟩ ⟨Nat.le_of_ble_eq_true rfl, Nat.le_of_ble_eq_true rfl⟩ ⟨Nat.le_refl _, Nat.le_refl _⟩ (Nat.le_of_ble_eq_true rfl) dX8_busiest_10 (fun _ H locs hP hD hS => ?_)
  cases hf
  exact hq () rfl hP hD hS dX8_busiest_13
theorem dX8_dearest_0 : decode cX8_dearest 0 = .ok (.aload_n 0, 1) := by decide +kernel
theorem dX8_dearest_1 : decode cX8_dearest 1 = .ok (.getfield 31, 3) := by decide +kernel
theorem dX8_dearest_4 : decode cX8_dearest 4 = .ok (.ifnonnull 10, 3) := by decide +kernel
theorem dX8_dearest_7 : decode cX8_dearest 7 = .ok (.aload_n 0, 1) := by decide +kernel
theorem dX8_dearest_8 : decode cX8_dearest 8 = .ok (.iconst 1, 1) := by decide +kernel
theorem dX8_dearest_9 : decode cX8_dearest 9 = .ok (.iconst (-1), 1) := by decide +kernel
theorem dX8_dearest_10 : decode cX8_dearest 10 = .ok (.invokevirtual 69, 3) := by decide +kernel
theorem dX8_dearest_13 : decode cX8_dearest 13 = .ok (.ireturn, 1) := by decide +kernel
theorem dX8_dearest_14 : decode cX8_dearest 14 = .ok (.aload_n 0, 1) := by decide +kernel
theorem dX8_dearest_15 : decode cX8_dearest 15 = .ok (.aload_n 0, 1) := by decide +kernel
theorem dX8_dearest_16 : decode cX8_dearest 16 = .ok (.getfield 31, 3) := by decide +kernel
theorem dX8_dearest_19 : decode cX8_dearest 19 = .ok (.getfield 139, 3) := by decide +kernel
theorem dX8_dearest_22 : decode cX8_dearest 22 = .ok (.getfield 192, 3) := by decide +kernel
theorem dX8_dearest_25 : decode cX8_dearest 25 = .ok (.getfield 211, 3) := by decide +kernel
theorem dX8_dearest_28 : decode cX8_dearest 28 = .ok (.invokevirtual 103, 3) := by decide +kernel
theorem dX8_dearest_31 : decode cX8_dearest 31 = .ok (.ireturn, 1) := by decide +kernel
def f_X8_dearest_N (s0 : OuNT) : Option (Int32 × OuNT) :=
  (f_X8_refuse_N s0 (1 : Int32) (-1 : Int32)).bind fun r1 =>
  some ((r1.1), (r1.2))
abbrev rm_X8_dearest_N : Room := { frames := 1, cells := 0, slots := 0, locals := 22 }
set_option maxHeartbeats 4000000 in
set_option maxRecDepth 100000 in
theorem c_X8_dearest_N (l : Launch) (g : GK) (a0 : Nat → Nat) (s0 : OuNT) (res : (Int32 × OuNT)) (hf : f_X8_dearest_N s0 = some res) : gM l yX8_dearest cX8_dearest 1 (some .int) rm_X8_dearest_N g [.ref (a0 0)] (OuN_c g a0 s0) (fun _ : Unit => (some (.int (res.1)))) (fun _ => (OuN_c g a0 (res.2))) 0 0 := by
  refine gM_introI RX8 (by decide) rfl (Nat.le_of_ble_eq_true rfl) (fun p e s m args below meth c Q H locs ls A hE hZ hA hP hD hS hq hl => ?_)
  have hl : lv_has ls 1 [(0, .ref (a0 0))] := hl
  have hx := hE.1
  have hb := hE.2.1
  rw [f_X8_dearest_N] at hf
  refine lv_aload_n hx hb dX8_dearest_0 rfl (lv_at hl 0 rfl) ?_
  refine g_get hE okX8 fl_X8_31 hP 0 rfl (v := .null) rfl dX8_dearest_1 ?_
  refine lv_ifnonnullN hx hb dX8_dearest_4 ?_
  refine lv_aload_n hx hb dX8_dearest_7 rfl (lv_at hl 0 rfl) ?_
  refine lv_iconst hx hb dX8_dearest_8 kci_1 ?_
  refine lv_iconst hx hb dX8_dearest_9 kci_m1 ?_
  obtain ⟨r1, hc2, hf⟩ := gbd hf
  refine gm_callV1 (As := [.int (1 : Int32), .int (-1 : Int32)]) (rest := []) (st1 := fun _ => [.int (r1.1)]) (ws' := fun _ => (OuN_c g a0 (r1.2))) hE hl.1 ml_X8_69 (c_X8_refuse_N l g a0 s0 (1 : Int32) (-1 : Int32) r1 hc2) hZ hP hD hS hA 0 19 rfl (fun _ => rfl) okX8 rfl rfl rfl (fun _ => rfl) ⟨rfl, rfl⟩ ⟨Nat.le_of_ble_eq_true rfl, Nat.le_of_ble_eq_true rfl⟩ ⟨Nat.le_refl _, Nat.le_refl _⟩ (Nat.le_of_ble_eq_true rfl) dX8_dearest_10 (fun _ H locs hP hD hS => ?_)
  cases hf
  exact hq () rfl hP hD hS dX8_dearest_13
theorem dX8_begin_0 : decode cX8_begin 0 = .ok (.aload_n 0, 1) := by decide +kernel
theorem dX8_begin_1 : decode cX8_begin 1 = .ok (.getfield 31, 3) := by decide +kernel
theorem dX8_begin_4 : decode cX8_begin 4 = .ok (.ifnull 12, 3) := by decide +kernel
theorem dX8_begin_7 : decode cX8_begin 7 = .ok (.iload_n 1, 1) := by decide +kernel
theorem dX8_begin_8 : decode cX8_begin 8 = .ok (.ifCond .lt 8, 3) := by decide +kernel
theorem dX8_begin_11 : decode cX8_begin 11 = .ok (.iload_n 1, 1) := by decide +kernel
theorem dX8_begin_12 : decode cX8_begin 12 = .ok (.iconst 4, 1) := by decide +kernel
theorem dX8_begin_13 : decode cX8_begin 13 = .ok (.if_icmp .lt 10, 3) := by decide +kernel
theorem dX8_begin_16 : decode cX8_begin 16 = .ok (.aload_n 0, 1) := by decide +kernel
theorem dX8_begin_17 : decode cX8_begin 17 = .ok (.iconst 1, 1) := by decide +kernel
theorem dX8_begin_18 : decode cX8_begin 18 = .ok (.iconst (-1), 1) := by decide +kernel
theorem dX8_begin_19 : decode cX8_begin 19 = .ok (.invokevirtual 69, 3) := by decide +kernel
theorem dX8_begin_22 : decode cX8_begin 22 = .ok (.ireturn, 1) := by decide +kernel
theorem dX8_begin_23 : decode cX8_begin 23 = .ok (.aload_n 0, 1) := by decide +kernel
theorem dX8_begin_24 : decode cX8_begin 24 = .ok (.getfield 31, 3) := by decide +kernel
theorem dX8_begin_27 : decode cX8_begin 27 = .ok (.getfield 216, 3) := by decide +kernel
theorem dX8_begin_30 : decode cX8_begin 30 = .ok (.iload_n 1, 1) := by decide +kernel
theorem dX8_begin_31 : decode cX8_begin 31 = .ok (.aload_n 0, 1) := by decide +kernel
theorem dX8_begin_32 : decode cX8_begin 32 = .ok (.getfield 31, 3) := by decide +kernel
theorem dX8_begin_35 : decode cX8_begin 35 = .ok (.getfield 139, 3) := by decide +kernel
theorem dX8_begin_38 : decode cX8_begin 38 = .ok (.invokevirtual 220, 3) := by decide +kernel
theorem dX8_begin_41 : decode cX8_begin 41 = .ok (.aload_n 0, 1) := by decide +kernel
theorem dX8_begin_42 : decode cX8_begin 42 = .ok (.aload_n 0, 1) := by decide +kernel
theorem dX8_begin_43 : decode cX8_begin 43 = .ok (.getfield 31, 3) := by decide +kernel
theorem dX8_begin_46 : decode cX8_begin 46 = .ok (.getfield 139, 3) := by decide +kernel
theorem dX8_begin_49 : decode cX8_begin 49 = .ok (.getfield 159, 3) := by decide +kernel
theorem dX8_begin_52 : decode cX8_begin 52 = .ok (.iconst 0, 1) := by decide +kernel
theorem dX8_begin_53 : decode cX8_begin 53 = .ok (.invokestatic 168, 3) := by decide +kernel
theorem dX8_begin_56 : decode cX8_begin 56 = .ok (.invokevirtual 103, 3) := by decide +kernel
theorem dX8_begin_59 : decode cX8_begin 59 = .ok (.ireturn, 1) := by decide +kernel
def f_X8_begin_N (s0 : OuNT) (p1 : Int32) : Option (Int32 × OuNT) :=
  (f_X8_refuse_N s0 (1 : Int32) (-1 : Int32)).bind fun r1 =>
  some ((r1.1), (r1.2))
abbrev rm_X8_begin_N : Room := { frames := 2, cells := 0, slots := 0, locals := 47 }
set_option maxHeartbeats 4000000 in
set_option maxRecDepth 100000 in
theorem c_X8_begin_N (l : Launch) (g : GK) (a0 : Nat → Nat) (s0 : OuNT) (p1 : Int32) (res : (Int32 × OuNT)) (hf : f_X8_begin_N s0 p1 = some res) : gM l yX8_begin cX8_begin 2 (some .int) rm_X8_begin_N g [.ref (a0 0), .int p1] (OuN_c g a0 s0) (fun _ : Unit => (some (.int (res.1)))) (fun _ => (OuN_c g a0 (res.2))) 0 0 := by
  refine gM_introI RX8 (by decide) rfl (Nat.le_of_ble_eq_true rfl) (fun p e s m args below meth c Q H locs ls A hE hZ hA hP hD hS hq hl => ?_)
  have hl : lv_has ls 2 [(0, .ref (a0 0)), (1, .int p1)] := hl
  have hx := hE.1
  have hb := hE.2.1
  rw [f_X8_begin_N] at hf
  refine lv_aload_n hx hb dX8_begin_0 rfl (lv_at hl 0 rfl) ?_
  refine g_get hE okX8 fl_X8_31 hP 0 rfl (v := .null) rfl dX8_begin_1 ?_
  refine lv_ifnullN hx hb dX8_begin_4 (tgt := 16) rfl ?_
  refine lv_aload_n hx hb dX8_begin_16 rfl (lv_at hl 0 rfl) ?_
  refine lv_iconst hx hb dX8_begin_17 kci_1 ?_
  refine lv_iconst hx hb dX8_begin_18 kci_m1 ?_
  obtain ⟨r1, hc2, hf⟩ := gbd hf
  refine gm_callV1 (As := [.int (1 : Int32), .int (-1 : Int32)]) (rest := []) (st1 := fun _ => [.int (r1.1)]) (ws' := fun _ => (OuN_c g a0 (r1.2))) hE hl.1 ml_X8_69 (c_X8_refuse_N l g a0 s0 (1 : Int32) (-1 : Int32) r1 hc2) hZ hP hD hS hA 0 19 rfl (fun _ => rfl) okX8 rfl rfl rfl (fun _ => rfl) ⟨rfl, rfl⟩ ⟨Nat.le_of_ble_eq_true rfl, Nat.le_of_ble_eq_true rfl⟩ ⟨Nat.le_refl _, Nat.le_refl _⟩ (Nat.le_of_ble_eq_true rfl) dX8_begin_19 (fun _ H locs hP hD hS => ?_)
  cases hf
  exact hq () rfl hP hD hS dX8_begin_22
theorem dX8_pull_0 : decode cX8_pull 0 = .ok (.aload_n 0, 1) := by decide +kernel
theorem dX8_pull_1 : decode cX8_pull 1 = .ok (.iload_n 1, 1) := by decide +kernel
theorem dX8_pull_2 : decode cX8_pull 2 = .ok (.invokevirtual 224, 3) := by decide +kernel
theorem dX8_pull_5 : decode cX8_pull 5 = .ok (.ifCond .ne 10, 3) := by decide +kernel
theorem dX8_pull_8 : decode cX8_pull 8 = .ok (.aload_n 0, 1) := by decide +kernel
theorem dX8_pull_9 : decode cX8_pull 9 = .ok (.iconst 1, 1) := by decide +kernel
theorem dX8_pull_10 : decode cX8_pull 10 = .ok (.iconst (-1), 1) := by decide +kernel
theorem dX8_pull_11 : decode cX8_pull 11 = .ok (.invokevirtual 69, 3) := by decide +kernel
theorem dX8_pull_14 : decode cX8_pull 14 = .ok (.ireturn, 1) := by decide +kernel
theorem dX8_pull_15 : decode cX8_pull 15 = .ok (.aload_n 0, 1) := by decide +kernel
theorem dX8_pull_16 : decode cX8_pull 16 = .ok (.getfield 31, 3) := by decide +kernel
theorem dX8_pull_19 : decode cX8_pull 19 = .ok (.getfield 216, 3) := by decide +kernel
theorem dX8_pull_22 : decode cX8_pull 22 = .ok (.iload_n 1, 1) := by decide +kernel
theorem dX8_pull_23 : decode cX8_pull 23 = .ok (.aload_n 0, 1) := by decide +kernel
theorem dX8_pull_24 : decode cX8_pull 24 = .ok (.getfield 31, 3) := by decide +kernel
theorem dX8_pull_27 : decode cX8_pull 27 = .ok (.getfield 139, 3) := by decide +kernel
theorem dX8_pull_30 : decode cX8_pull 30 = .ok (.invokevirtual 227, 3) := by decide +kernel
theorem dX8_pull_33 : decode cX8_pull 33 = .ok (.aload_n 0, 1) := by decide +kernel
theorem dX8_pull_34 : decode cX8_pull 34 = .ok (.aload_n 0, 1) := by decide +kernel
theorem dX8_pull_35 : decode cX8_pull 35 = .ok (.getfield 31, 3) := by decide +kernel
theorem dX8_pull_38 : decode cX8_pull 38 = .ok (.getfield 216, 3) := by decide +kernel
theorem dX8_pull_41 : decode cX8_pull 41 = .ok (.getfield 230, 3) := by decide +kernel
theorem dX8_pull_44 : decode cX8_pull 44 = .ok (.iload_n 1, 1) := by decide +kernel
theorem dX8_pull_45 : decode cX8_pull 45 = .ok (.sipush 648, 3) := by decide +kernel
theorem dX8_pull_48 : decode cX8_pull 48 = .ok (.imul, 1) := by decide +kernel
theorem dX8_pull_49 : decode cX8_pull 49 = .ok (.invokestatic 168, 3) := by decide +kernel
theorem dX8_pull_52 : decode cX8_pull 52 = .ok (.invokevirtual 103, 3) := by decide +kernel
theorem dX8_pull_55 : decode cX8_pull 55 = .ok (.ireturn, 1) := by decide +kernel
def f_X8_pull_N (s0 : OuNT) (p1 : Int32) : Option (Int32 × OuNT) :=
  (f_X8_isSubscribed_N s0 p1).bind fun r1 =>
  if r1 = 0 then (f_X8_refuse_N s0 (1 : Int32) (-1 : Int32)).bind fun r4 =>
  some ((r4.1), (r4.2))
  else none
abbrev rm_X8_pull_N : Room := { frames := 2, cells := 0, slots := 0, locals := 42 }
set_option maxHeartbeats 4000000 in
set_option maxRecDepth 100000 in
theorem c_X8_pull_N (l : Launch) (g : GK) (a0 : Nat → Nat) (s0 : OuNT) (p1 : Int32) (res : (Int32 × OuNT)) (hf : f_X8_pull_N s0 p1 = some res) : gM l yX8_pull cX8_pull 2 (some .int) rm_X8_pull_N g [.ref (a0 0), .int p1] (OuN_c g a0 s0) (fun _ : Unit => (some (.int (res.1)))) (fun _ => (OuN_c g a0 (res.2))) 0 0 := by
  refine gM_introI RX8 (by decide) rfl (Nat.le_of_ble_eq_true rfl) (fun p e s m args below meth c Q H locs ls A hE hZ hA hP hD hS hq hl => ?_)
  have hl : lv_has ls 2 [(0, .ref (a0 0)), (1, .int p1)] := hl
  have hx := hE.1
  have hb := hE.2.1
  rw [f_X8_pull_N] at hf
  refine lv_aload_n hx hb dX8_pull_0 rfl (lv_at hl 0 rfl) ?_
  refine lv_iload_n hx hb dX8_pull_1 rfl (lv_at hl 1 rfl) ?_
  obtain ⟨r1, hc2, hf⟩ := gbd hf
  refine gr_callV (As := [.int p1]) (rest := []) (st1 := [.int r1]) hE hl.1 ml_X8_224 (c_X8_isSubscribed_N l g a0 s0 p1 r1 hc2) hZ hS hP [(0, 19)] rfl okX8 rfl rfl rfl rfl ⟨rfl, rfl⟩ ⟨Nat.le_of_ble_eq_true rfl, Nat.le_of_ble_eq_true rfl⟩ ⟨Nat.le_refl _, Nat.le_refl _⟩ (Nat.le_of_ble_eq_true rfl) dX8_pull_2 ?_
  refine lv_if_ne hx hb dX8_pull_5 (tgt := 15) rfl (fun h3 => ?_) (fun h3 => ?_)
  · have hf := gif_f h3 hf
    refine lv_aload_n hx hb dX8_pull_15 rfl (lv_at hl 0 rfl) ?_
    refine g_get hE okX8 fl_X8_31 hP 0 rfl (v := .null) rfl dX8_pull_16 ?_
    cases hf
  · have hf := gif_t h3 hf
    refine lv_aload_n hx hb dX8_pull_8 rfl (lv_at hl 0 rfl) ?_
    refine lv_iconst hx hb dX8_pull_9 kci_1 ?_
    refine lv_iconst hx hb dX8_pull_10 kci_m1 ?_
    obtain ⟨r4, hc5, hf⟩ := gbd hf
    refine gm_callV1 (As := [.int (1 : Int32), .int (-1 : Int32)]) (rest := []) (st1 := fun _ => [.int (r4.1)]) (ws' := fun _ => (OuN_c g a0 (r4.2))) hE hl.1 ml_X8_69 (c_X8_refuse_N l g a0 s0 (1 : Int32) (-1 : Int32) r4 hc5) hZ hP hD hS hA 0 19 rfl (fun _ => rfl) okX8 rfl rfl rfl (fun _ => rfl) ⟨rfl, rfl⟩ ⟨Nat.le_of_ble_eq_true rfl, Nat.le_of_ble_eq_true rfl⟩ ⟨Nat.le_refl _, Nat.le_refl _⟩ (Nat.le_of_ble_eq_true rfl) dX8_pull_11 (fun _ H locs hP hD hS => ?_)
    cases hf
    exact hq () rfl hP hD hS dX8_pull_14
theorem dX8_pulled_0 : decode cX8_pulled 0 = .ok (.aload_n 0, 1) := by decide +kernel
theorem dX8_pulled_1 : decode cX8_pulled 1 = .ok (.iload_n 1, 1) := by decide +kernel
theorem dX8_pulled_2 : decode cX8_pulled 2 = .ok (.invokevirtual 224, 3) := by decide +kernel
theorem dX8_pulled_5 : decode cX8_pulled 5 = .ok (.ifCond .eq 12, 3) := by decide +kernel
theorem dX8_pulled_8 : decode cX8_pulled 8 = .ok (.iload_n 3, 1) := by decide +kernel
theorem dX8_pulled_9 : decode cX8_pulled 9 = .ok (.ifCond .lt 8, 3) := by decide +kernel
theorem dX8_pulled_12 : decode cX8_pulled 12 = .ok (.iload_n 3, 1) := by decide +kernel
theorem dX8_pulled_13 : decode cX8_pulled 13 = .ok (.iconst 3, 1) := by decide +kernel
theorem dX8_pulled_14 : decode cX8_pulled 14 = .ok (.if_icmp .le 11, 3) := by decide +kernel
theorem dX8_pulled_17 : decode cX8_pulled 17 = .ok (.aload_n 0, 1) := by decide +kernel
theorem dX8_pulled_18 : decode cX8_pulled 18 = .ok (.iconst 1, 1) := by decide +kernel
theorem dX8_pulled_19 : decode cX8_pulled 19 = .ok (.ldc 138, 2) := by decide +kernel
theorem dX8_pulled_21 : decode cX8_pulled 21 = .ok (.invokevirtual 69, 3) := by decide +kernel
theorem dX8_pulled_24 : decode cX8_pulled 24 = .ok (.ireturn, 1) := by decide +kernel
theorem dX8_pulled_25 : decode cX8_pulled 25 = .ok (.aload_n 0, 1) := by decide +kernel
theorem dX8_pulled_26 : decode cX8_pulled 26 = .ok (.getfield 31, 3) := by decide +kernel
theorem dX8_pulled_29 : decode cX8_pulled 29 = .ok (.getfield 216, 3) := by decide +kernel
theorem dX8_pulled_32 : decode cX8_pulled 32 = .ok (.getfield 230, 3) := by decide +kernel
theorem dX8_pulled_35 : decode cX8_pulled 35 = .ok (.astore 4, 2) := by decide +kernel
theorem dX8_pulled_37 : decode cX8_pulled 37 = .ok (.aload 4, 2) := by decide +kernel
theorem dX8_pulled_39 : decode cX8_pulled 39 = .ok (.iload_n 1, 1) := by decide +kernel
theorem dX8_pulled_40 : decode cX8_pulled 40 = .ok (.sipush 648, 3) := by decide +kernel
theorem dX8_pulled_43 : decode cX8_pulled 43 = .ok (.imul, 1) := by decide +kernel
theorem dX8_pulled_44 : decode cX8_pulled 44 = .ok (.iload_n 2, 1) := by decide +kernel
theorem dX8_pulled_45 : decode cX8_pulled 45 = .ok (.invokestatic 172, 3) := by decide +kernel
theorem dX8_pulled_48 : decode cX8_pulled 48 = .ok (.istore 5, 2) := by decide +kernel
theorem dX8_pulled_50 : decode cX8_pulled 50 = .ok (.iload 5, 2) := by decide +kernel
theorem dX8_pulled_52 : decode cX8_pulled 52 = .ok (.iconst (-1), 1) := by decide +kernel
theorem dX8_pulled_53 : decode cX8_pulled 53 = .ok (.if_icmp .ne 11, 3) := by decide +kernel
theorem dX8_pulled_56 : decode cX8_pulled 56 = .ok (.aload_n 0, 1) := by decide +kernel
theorem dX8_pulled_57 : decode cX8_pulled 57 = .ok (.iconst 1, 1) := by decide +kernel
theorem dX8_pulled_58 : decode cX8_pulled 58 = .ok (.ldc 138, 2) := by decide +kernel
theorem dX8_pulled_60 : decode cX8_pulled 60 = .ok (.invokevirtual 69, 3) := by decide +kernel
theorem dX8_pulled_63 : decode cX8_pulled 63 = .ok (.ireturn, 1) := by decide +kernel
theorem dX8_pulled_64 : decode cX8_pulled 64 = .ok (.aload_n 0, 1) := by decide +kernel
theorem dX8_pulled_65 : decode cX8_pulled 65 = .ok (.iload 5, 2) := by decide +kernel
theorem dX8_pulled_67 : decode cX8_pulled 67 = .ok (.iload_n 3, 1) := by decide +kernel
theorem dX8_pulled_68 : decode cX8_pulled 68 = .ok (.aload 4, 2) := by decide +kernel
theorem dX8_pulled_70 : decode cX8_pulled 70 = .ok (.iload_n 1, 1) := by decide +kernel
theorem dX8_pulled_71 : decode cX8_pulled 71 = .ok (.sipush 648, 3) := by decide +kernel
theorem dX8_pulled_74 : decode cX8_pulled 74 = .ok (.imul, 1) := by decide +kernel
theorem dX8_pulled_75 : decode cX8_pulled 75 = .ok (.iload 5, 2) := by decide +kernel
theorem dX8_pulled_77 : decode cX8_pulled 77 = .ok (.iadd, 1) := by decide +kernel
theorem dX8_pulled_78 : decode cX8_pulled 78 = .ok (.iaload, 1) := by decide +kernel
theorem dX8_pulled_79 : decode cX8_pulled 79 = .ok (.invokestatic 176, 3) := by decide +kernel
theorem dX8_pulled_82 : decode cX8_pulled 82 = .ok (.invokevirtual 103, 3) := by decide +kernel
theorem dX8_pulled_85 : decode cX8_pulled 85 = .ok (.ireturn, 1) := by decide +kernel
def f_X8_pulled_N (s0 : OuNT) (p1 : Int32) (p2 : Int32) (p3 : Int32) : Option (Int32 × OuNT) :=
  (f_X8_isSubscribed_N s0 p1).bind fun r1 =>
  if r1 = 0 then (f_X8_refuse_N s0 (1 : Int32) (-2147483648 : Int32)).bind fun r4 =>
  some ((r4.1), (r4.2))
  else if p3 < 0 then (f_X8_refuse_N s0 (1 : Int32) (-2147483648 : Int32)).bind fun r7 =>
  some ((r7.1), (r7.2))
  else if p3 ≤ (3 : Int32) then none
  else (f_X8_refuse_N s0 (1 : Int32) (-2147483648 : Int32)).bind fun r10 =>
  some ((r10.1), (r10.2))
abbrev rm_X8_pulled_N : Room := { frames := 2, cells := 0, slots := 0, locals := 43 }
set_option maxHeartbeats 4000000 in
set_option maxRecDepth 100000 in
theorem c_X8_pulled_N (l : Launch) (g : GK) (a0 : Nat → Nat) (s0 : OuNT) (p1 : Int32) (p2 : Int32) (p3 : Int32) (res : (Int32 × OuNT)) (hf : f_X8_pulled_N s0 p1 p2 p3 = some res) : gM l yX8_pulled cX8_pulled 6 (some .int) rm_X8_pulled_N g [.ref (a0 0), .int p1, .int p2, .int p3] (OuN_c g a0 s0) (fun _ : Unit => (some (.int (res.1)))) (fun _ => (OuN_c g a0 (res.2))) 0 0 := by
  refine gM_introI RX8 (by decide) rfl (Nat.le_of_ble_eq_true rfl) (fun p e s m args below meth c Q H locs ls A hE hZ hA hP hD hS hq hl => ?_)
  have hl : lv_has ls 6 [(0, .ref (a0 0)), (1, .int p1), (2, .int p2), (3, .int p3)] := hl
  have hx := hE.1
  have hb := hE.2.1
  rw [f_X8_pulled_N] at hf
  refine lv_aload_n hx hb dX8_pulled_0 rfl (lv_at hl 0 rfl) ?_
  refine lv_iload_n hx hb dX8_pulled_1 rfl (lv_at hl 1 rfl) ?_
  obtain ⟨r1, hc2, hf⟩ := gbd hf
  refine gr_callV (As := [.int p1]) (rest := []) (st1 := [.int r1]) hE hl.1 ml_X8_224 (c_X8_isSubscribed_N l g a0 s0 p1 r1 hc2) hZ hS hP [(0, 19)] rfl okX8 rfl rfl rfl rfl ⟨rfl, rfl⟩ ⟨Nat.le_of_ble_eq_true rfl, Nat.le_of_ble_eq_true rfl⟩ ⟨Nat.le_refl _, Nat.le_refl _⟩ (Nat.le_of_ble_eq_true rfl) dX8_pulled_2 ?_
  refine lv_if_eq hx hb dX8_pulled_5 (tgt := 17) rfl (fun h3 => ?_) (fun h3 => ?_)
  · have hf := gif_t h3 hf
    refine lv_aload_n hx hb dX8_pulled_17 rfl (lv_at hl 0 rfl) ?_
    refine lv_iconst hx hb dX8_pulled_18 kci_1 ?_
    refine lv_ldc hx hb hE.2.2.2.2.2.1 (hE.2.2.2.2.2.2.1 _ kd_X8_138) dX8_pulled_19 ?_
    obtain ⟨r4, hc5, hf⟩ := gbd hf
    refine gm_callV1 (As := [.int (1 : Int32), .int (-2147483648 : Int32)]) (rest := []) (st1 := fun _ => [.int (r4.1)]) (ws' := fun _ => (OuN_c g a0 (r4.2))) hE hl.1 ml_X8_69 (c_X8_refuse_N l g a0 s0 (1 : Int32) (-2147483648 : Int32) r4 hc5) hZ hP hD hS hA 0 19 rfl (fun _ => rfl) okX8 rfl rfl rfl (fun _ => rfl) ⟨rfl, rfl⟩ ⟨Nat.le_of_ble_eq_true rfl, Nat.le_of_ble_eq_true rfl⟩ ⟨Nat.le_refl _, Nat.le_refl _⟩ (Nat.le_of_ble_eq_true rfl) dX8_pulled_21 (fun _ H locs hP hD hS => ?_)
    cases hf
    exact hq () rfl hP hD hS dX8_pulled_24
  · have hf := gif_f h3 hf
    refine lv_iload_n hx hb dX8_pulled_8 rfl (lv_at hl 3 rfl) ?_
    refine lv_if_lt hx hb dX8_pulled_9 (tgt := 17) rfl (fun h6 => ?_) (fun h6 => ?_)
    · have hf := gif_t h6 hf
      refine lv_aload_n hx hb dX8_pulled_17 rfl (lv_at hl 0 rfl) ?_
      refine lv_iconst hx hb dX8_pulled_18 kci_1 ?_
      refine lv_ldc hx hb hE.2.2.2.2.2.1 (hE.2.2.2.2.2.2.1 _ kd_X8_138) dX8_pulled_19 ?_
      obtain ⟨r7, hc8, hf⟩ := gbd hf
      refine gm_callV1 (As := [.int (1 : Int32), .int (-2147483648 : Int32)]) (rest := []) (st1 := fun _ => [.int (r7.1)]) (ws' := fun _ => (OuN_c g a0 (r7.2))) hE hl.1 ml_X8_69 (c_X8_refuse_N l g a0 s0 (1 : Int32) (-2147483648 : Int32) r7 hc8) hZ hP hD hS hA 0 19 rfl (fun _ => rfl) okX8 rfl rfl rfl (fun _ => rfl) ⟨rfl, rfl⟩ ⟨Nat.le_of_ble_eq_true rfl, Nat.le_of_ble_eq_true rfl⟩ ⟨Nat.le_refl _, Nat.le_refl _⟩ (Nat.le_of_ble_eq_true rfl) dX8_pulled_21 (fun _ H locs hP hD hS => ?_)
      cases hf
      exact hq () rfl hP hD hS dX8_pulled_24
    · have hf := gif_f h6 hf
      refine lv_iload_n hx hb dX8_pulled_12 rfl (lv_at hl 3 rfl) ?_
      refine lv_iconst hx hb dX8_pulled_13 kci_3 ?_
      refine lv_icmp_le hx hb dX8_pulled_14 (tgt := 25) rfl (fun h9 => ?_) (fun h9 => ?_)
      · have hf := gif_t h9 hf
        refine lv_aload_n hx hb dX8_pulled_25 rfl (lv_at hl 0 rfl) ?_
        refine g_get hE okX8 fl_X8_31 hP 0 rfl (v := .null) rfl dX8_pulled_26 ?_
        cases hf
      · have hf := gif_f h9 hf
        refine lv_aload_n hx hb dX8_pulled_17 rfl (lv_at hl 0 rfl) ?_
        refine lv_iconst hx hb dX8_pulled_18 kci_1 ?_
        refine lv_ldc hx hb hE.2.2.2.2.2.1 (hE.2.2.2.2.2.2.1 _ kd_X8_138) dX8_pulled_19 ?_
        obtain ⟨r10, hc11, hf⟩ := gbd hf
        refine gm_callV1 (As := [.int (1 : Int32), .int (-2147483648 : Int32)]) (rest := []) (st1 := fun _ => [.int (r10.1)]) (ws' := fun _ => (OuN_c g a0 (r10.2))) hE hl.1 ml_X8_69 (c_X8_refuse_N l g a0 s0 (1 : Int32) (-2147483648 : Int32) r10 hc11) hZ hP hD hS hA 0 19 rfl (fun _ => rfl) okX8 rfl rfl rfl (fun _ => rfl) ⟨rfl, rfl⟩ ⟨Nat.le_of_ble_eq_true rfl, Nat.le_of_ble_eq_true rfl⟩ ⟨Nat.le_refl _, Nat.le_refl _⟩ (Nat.le_of_ble_eq_true rfl) dX8_pulled_21 (fun _ H locs hP hD hS => ?_)
        cases hf
        exact hq () rfl hP hD hS dX8_pulled_24
theorem dX8_held_0 : decode cX8_held 0 = .ok (.aload_n 0, 1) := by decide +kernel
theorem dX8_held_1 : decode cX8_held 1 = .ok (.iload_n 1, 1) := by decide +kernel
theorem dX8_held_2 : decode cX8_held 2 = .ok (.invokevirtual 224, 3) := by decide +kernel
theorem dX8_held_5 : decode cX8_held 5 = .ok (.ifCond .eq 14, 3) := by decide +kernel
theorem dX8_held_8 : decode cX8_held 8 = .ok (.aload_n 0, 1) := by decide +kernel
theorem dX8_held_9 : decode cX8_held 9 = .ok (.iload_n 2, 1) := by decide +kernel
theorem dX8_held_10 : decode cX8_held 10 = .ok (.iload_n 3, 1) := by decide +kernel
theorem dX8_held_11 : decode cX8_held 11 = .ok (.iload 4, 2) := by decide +kernel
theorem dX8_held_13 : decode cX8_held 13 = .ok (.invokevirtual 155, 3) := by decide +kernel
theorem dX8_held_16 : decode cX8_held 16 = .ok (.ifCond .ne 11, 3) := by decide +kernel
theorem dX8_held_19 : decode cX8_held 19 = .ok (.aload_n 0, 1) := by decide +kernel
theorem dX8_held_20 : decode cX8_held 20 = .ok (.iconst 1, 1) := by decide +kernel
theorem dX8_held_21 : decode cX8_held 21 = .ok (.ldc 138, 2) := by decide +kernel
theorem dX8_held_23 : decode cX8_held 23 = .ok (.invokevirtual 69, 3) := by decide +kernel
theorem dX8_held_26 : decode cX8_held 26 = .ok (.ireturn, 1) := by decide +kernel
theorem dX8_held_27 : decode cX8_held 27 = .ok (.aload_n 0, 1) := by decide +kernel
theorem dX8_held_28 : decode cX8_held 28 = .ok (.aload_n 0, 1) := by decide +kernel
theorem dX8_held_29 : decode cX8_held 29 = .ok (.getfield 31, 3) := by decide +kernel
theorem dX8_held_32 : decode cX8_held 32 = .ok (.getfield 216, 3) := by decide +kernel
theorem dX8_held_35 : decode cX8_held 35 = .ok (.getfield 233, 3) := by decide +kernel
theorem dX8_held_38 : decode cX8_held 38 = .ok (.iload_n 1, 1) := by decide +kernel
theorem dX8_held_39 : decode cX8_held 39 = .ok (.sipush 648, 3) := by decide +kernel
theorem dX8_held_42 : decode cX8_held 42 = .ok (.imul, 1) := by decide +kernel
theorem dX8_held_43 : decode cX8_held 43 = .ok (.iload_n 2, 1) := by decide +kernel
theorem dX8_held_44 : decode cX8_held 44 = .ok (.iload_n 3, 1) := by decide +kernel
theorem dX8_held_45 : decode cX8_held 45 = .ok (.iload 4, 2) := by decide +kernel
theorem dX8_held_47 : decode cX8_held 47 = .ok (.invokestatic 162, 3) := by decide +kernel
theorem dX8_held_50 : decode cX8_held 50 = .ok (.iadd, 1) := by decide +kernel
theorem dX8_held_51 : decode cX8_held 51 = .ok (.iaload, 1) := by decide +kernel
theorem dX8_held_52 : decode cX8_held 52 = .ok (.invokevirtual 103, 3) := by decide +kernel
theorem dX8_held_55 : decode cX8_held 55 = .ok (.ireturn, 1) := by decide +kernel
def f_X8_held_N (s0 : OuNT) (p1 : Int32) (p2 : Int32) (p3 : Int32) (p4 : Int32) : Option (Int32 × OuNT) :=
  (f_X8_isSubscribed_N s0 p1).bind fun r1 =>
  if r1 = 0 then (f_X8_refuse_N s0 (1 : Int32) (-2147483648 : Int32)).bind fun r4 =>
  some ((r4.1), (r4.2))
  else (f_X8_isRow_N s0 p2 p3 p4).bind fun r6 =>
  if r6 = 0 then (f_X8_refuse_N s0 (1 : Int32) (-2147483648 : Int32)).bind fun r9 =>
  some ((r9.1), (r9.2))
  else none
abbrev rm_X8_held_N : Room := { frames := 3, cells := 0, slots := 0, locals := 65 }
set_option maxHeartbeats 4000000 in
set_option maxRecDepth 100000 in
theorem c_X8_held_N (l : Launch) (g : GK) (a0 : Nat → Nat) (s0 : OuNT) (p1 : Int32) (p2 : Int32) (p3 : Int32) (p4 : Int32) (res : (Int32 × OuNT)) (hf : f_X8_held_N s0 p1 p2 p3 p4 = some res) : gM l yX8_held cX8_held 5 (some .int) rm_X8_held_N g [.ref (a0 0), .int p1, .int p2, .int p3, .int p4] (OuN_c g a0 s0) (fun _ : Unit => (some (.int (res.1)))) (fun _ => (OuN_c g a0 (res.2))) 0 0 := by
  refine gM_introI RX8 (by decide) rfl (Nat.le_of_ble_eq_true rfl) (fun p e s m args below meth c Q H locs ls A hE hZ hA hP hD hS hq hl => ?_)
  have hl : lv_has ls 5 [(0, .ref (a0 0)), (1, .int p1), (2, .int p2), (3, .int p3), (4, .int p4)] := hl
  have hx := hE.1
  have hb := hE.2.1
  rw [f_X8_held_N] at hf
  refine lv_aload_n hx hb dX8_held_0 rfl (lv_at hl 0 rfl) ?_
  refine lv_iload_n hx hb dX8_held_1 rfl (lv_at hl 1 rfl) ?_
  obtain ⟨r1, hc2, hf⟩ := gbd hf
  refine gr_callV (As := [.int p1]) (rest := []) (st1 := [.int r1]) hE hl.1 ml_X8_224 (c_X8_isSubscribed_N l g a0 s0 p1 r1 hc2) hZ hS hP [(0, 19)] rfl okX8 rfl rfl rfl rfl ⟨rfl, rfl⟩ ⟨Nat.le_of_ble_eq_true rfl, Nat.le_of_ble_eq_true rfl⟩ ⟨Nat.le_refl _, Nat.le_refl _⟩ (Nat.le_of_ble_eq_true rfl) dX8_held_2 ?_
  refine lv_if_eq hx hb dX8_held_5 (tgt := 19) rfl (fun h3 => ?_) (fun h3 => ?_)
  · have hf := gif_t h3 hf
    refine lv_aload_n hx hb dX8_held_19 rfl (lv_at hl 0 rfl) ?_
    refine lv_iconst hx hb dX8_held_20 kci_1 ?_
    refine lv_ldc hx hb hE.2.2.2.2.2.1 (hE.2.2.2.2.2.2.1 _ kd_X8_138) dX8_held_21 ?_
    obtain ⟨r4, hc5, hf⟩ := gbd hf
    refine gm_callV1 (As := [.int (1 : Int32), .int (-2147483648 : Int32)]) (rest := []) (st1 := fun _ => [.int (r4.1)]) (ws' := fun _ => (OuN_c g a0 (r4.2))) hE hl.1 ml_X8_69 (c_X8_refuse_N l g a0 s0 (1 : Int32) (-2147483648 : Int32) r4 hc5) hZ hP hD hS hA 0 19 rfl (fun _ => rfl) okX8 rfl rfl rfl (fun _ => rfl) ⟨rfl, rfl⟩ ⟨Nat.le_of_ble_eq_true rfl, Nat.le_of_ble_eq_true rfl⟩ ⟨Nat.le_refl _, Nat.le_refl _⟩ (Nat.le_of_ble_eq_true rfl) dX8_held_23 (fun _ H locs hP hD hS => ?_)
    cases hf
    exact hq () rfl hP hD hS dX8_held_26
  · have hf := gif_f h3 hf
    refine lv_aload_n hx hb dX8_held_8 rfl (lv_at hl 0 rfl) ?_
    refine lv_iload_n hx hb dX8_held_9 rfl (lv_at hl 2 rfl) ?_
    refine lv_iload_n hx hb dX8_held_10 rfl (lv_at hl 3 rfl) ?_
    refine lv_iload hx hb dX8_held_11 (lv_at hl 4 rfl) ?_
    obtain ⟨r6, hc7, hf⟩ := gbd hf
    refine gr_callV (As := [.int p2, .int p3, .int p4]) (rest := []) (st1 := [.int r6]) hE hl.1 ml_X8_155 (c_X8_isRow_N l g a0 s0 p2 p3 p4 r6 hc7) hZ hS hP [(0, 19)] rfl okX8 rfl rfl rfl rfl ⟨rfl, rfl⟩ ⟨Nat.le_of_ble_eq_true rfl, Nat.le_of_ble_eq_true rfl⟩ ⟨Nat.le_refl _, Nat.le_refl _⟩ (Nat.le_of_ble_eq_true rfl) dX8_held_13 ?_
    refine lv_if_ne hx hb dX8_held_16 (tgt := 27) rfl (fun h8 => ?_) (fun h8 => ?_)
    · have hf := gif_f h8 hf
      refine lv_aload_n hx hb dX8_held_27 rfl (lv_at hl 0 rfl) ?_
      refine lv_aload_n hx hb dX8_held_28 rfl (lv_at hl 0 rfl) ?_
      refine g_get hE okX8 fl_X8_31 hP 0 rfl (v := .null) rfl dX8_held_29 ?_
      cases hf
    · have hf := gif_t h8 hf
      refine lv_aload_n hx hb dX8_held_19 rfl (lv_at hl 0 rfl) ?_
      refine lv_iconst hx hb dX8_held_20 kci_1 ?_
      refine lv_ldc hx hb hE.2.2.2.2.2.1 (hE.2.2.2.2.2.2.1 _ kd_X8_138) dX8_held_21 ?_
      obtain ⟨r9, hc10, hf⟩ := gbd hf
      refine gm_callV1 (As := [.int (1 : Int32), .int (-2147483648 : Int32)]) (rest := []) (st1 := fun _ => [.int (r9.1)]) (ws' := fun _ => (OuN_c g a0 (r9.2))) hE hl.1 ml_X8_69 (c_X8_refuse_N l g a0 s0 (1 : Int32) (-2147483648 : Int32) r9 hc10) hZ hP hD hS hA 0 19 rfl (fun _ => rfl) okX8 rfl rfl rfl (fun _ => rfl) ⟨rfl, rfl⟩ ⟨Nat.le_of_ble_eq_true rfl, Nat.le_of_ble_eq_true rfl⟩ ⟨Nat.le_refl _, Nat.le_refl _⟩ (Nat.le_of_ble_eq_true rfl) dX8_held_23 (fun _ H locs hP hD hS => ?_)
      cases hf
      exact hq () rfl hP hD hS dX8_held_26
theorem dX8_lag_0 : decode cX8_lag 0 = .ok (.aload_n 0, 1) := by decide +kernel
theorem dX8_lag_1 : decode cX8_lag 1 = .ok (.iload_n 1, 1) := by decide +kernel
theorem dX8_lag_2 : decode cX8_lag 2 = .ok (.invokevirtual 224, 3) := by decide +kernel
theorem dX8_lag_5 : decode cX8_lag 5 = .ok (.ifCond .eq 12, 3) := by decide +kernel
theorem dX8_lag_8 : decode cX8_lag 8 = .ok (.iload_n 2, 1) := by decide +kernel
theorem dX8_lag_9 : decode cX8_lag 9 = .ok (.ifCond .lt 8, 3) := by decide +kernel
theorem dX8_lag_12 : decode cX8_lag 12 = .ok (.iload_n 2, 1) := by decide +kernel
theorem dX8_lag_13 : decode cX8_lag 13 = .ok (.iconst 3, 1) := by decide +kernel
theorem dX8_lag_14 : decode cX8_lag 14 = .ok (.if_icmp .le 10, 3) := by decide +kernel
theorem dX8_lag_17 : decode cX8_lag 17 = .ok (.aload_n 0, 1) := by decide +kernel
theorem dX8_lag_18 : decode cX8_lag 18 = .ok (.iconst 1, 1) := by decide +kernel
theorem dX8_lag_19 : decode cX8_lag 19 = .ok (.iconst (-1), 1) := by decide +kernel
theorem dX8_lag_20 : decode cX8_lag 20 = .ok (.invokevirtual 69, 3) := by decide +kernel
theorem dX8_lag_23 : decode cX8_lag 23 = .ok (.ireturn, 1) := by decide +kernel
theorem dX8_lag_24 : decode cX8_lag 24 = .ok (.aload_n 0, 1) := by decide +kernel
theorem dX8_lag_25 : decode cX8_lag 25 = .ok (.aload_n 0, 1) := by decide +kernel
theorem dX8_lag_26 : decode cX8_lag 26 = .ok (.getfield 31, 3) := by decide +kernel
theorem dX8_lag_29 : decode cX8_lag 29 = .ok (.getfield 216, 3) := by decide +kernel
theorem dX8_lag_32 : decode cX8_lag 32 = .ok (.iload_n 1, 1) := by decide +kernel
theorem dX8_lag_33 : decode cX8_lag 33 = .ok (.iload_n 2, 1) := by decide +kernel
theorem dX8_lag_34 : decode cX8_lag 34 = .ok (.aload_n 0, 1) := by decide +kernel
theorem dX8_lag_35 : decode cX8_lag 35 = .ok (.getfield 31, 3) := by decide +kernel
theorem dX8_lag_38 : decode cX8_lag 38 = .ok (.getfield 139, 3) := by decide +kernel
theorem dX8_lag_41 : decode cX8_lag 41 = .ok (.invokevirtual 236, 3) := by decide +kernel
theorem dX8_lag_44 : decode cX8_lag 44 = .ok (.invokevirtual 103, 3) := by decide +kernel
theorem dX8_lag_47 : decode cX8_lag 47 = .ok (.ireturn, 1) := by decide +kernel
def f_X8_lag_N (s0 : OuNT) (p1 : Int32) (p2 : Int32) : Option (Int32 × OuNT) :=
  (f_X8_isSubscribed_N s0 p1).bind fun r1 =>
  if r1 = 0 then (f_X8_refuse_N s0 (1 : Int32) (-1 : Int32)).bind fun r4 =>
  some ((r4.1), (r4.2))
  else if p2 < 0 then (f_X8_refuse_N s0 (1 : Int32) (-1 : Int32)).bind fun r7 =>
  some ((r7.1), (r7.2))
  else if p2 ≤ (3 : Int32) then none
  else (f_X8_refuse_N s0 (1 : Int32) (-1 : Int32)).bind fun r10 =>
  some ((r10.1), (r10.2))
abbrev rm_X8_lag_N : Room := { frames := 3, cells := 0, slots := 0, locals := 65 }
set_option maxHeartbeats 4000000 in
set_option maxRecDepth 100000 in
theorem c_X8_lag_N (l : Launch) (g : GK) (a0 : Nat → Nat) (s0 : OuNT) (p1 : Int32) (p2 : Int32) (res : (Int32 × OuNT)) (hf : f_X8_lag_N s0 p1 p2 = some res) : gM l yX8_lag cX8_lag 3 (some .int) rm_X8_lag_N g [.ref (a0 0), .int p1, .int p2] (OuN_c g a0 s0) (fun _ : Unit => (some (.int (res.1)))) (fun _ => (OuN_c g a0 (res.2))) 0 0 := by
  refine gM_introI RX8 (by decide) rfl (Nat.le_of_ble_eq_true rfl) (fun p e s m args below meth c Q H locs ls A hE hZ hA hP hD hS hq hl => ?_)
  have hl : lv_has ls 3 [(0, .ref (a0 0)), (1, .int p1), (2, .int p2)] := hl
  have hx := hE.1
  have hb := hE.2.1
  rw [f_X8_lag_N] at hf
  refine lv_aload_n hx hb dX8_lag_0 rfl (lv_at hl 0 rfl) ?_
  refine lv_iload_n hx hb dX8_lag_1 rfl (lv_at hl 1 rfl) ?_
  obtain ⟨r1, hc2, hf⟩ := gbd hf
  refine gr_callV (As := [.int p1]) (rest := []) (st1 := [.int r1]) hE hl.1 ml_X8_224 (c_X8_isSubscribed_N l g a0 s0 p1 r1 hc2) hZ hS hP [(0, 19)] rfl okX8 rfl rfl rfl rfl ⟨rfl, rfl⟩ ⟨Nat.le_of_ble_eq_true rfl, Nat.le_of_ble_eq_true rfl⟩ ⟨Nat.le_refl _, Nat.le_refl _⟩ (Nat.le_of_ble_eq_true rfl) dX8_lag_2 ?_
  refine lv_if_eq hx hb dX8_lag_5 (tgt := 17) rfl (fun h3 => ?_) (fun h3 => ?_)
  · have hf := gif_t h3 hf
    refine lv_aload_n hx hb dX8_lag_17 rfl (lv_at hl 0 rfl) ?_
    refine lv_iconst hx hb dX8_lag_18 kci_1 ?_
    refine lv_iconst hx hb dX8_lag_19 kci_m1 ?_
    obtain ⟨r4, hc5, hf⟩ := gbd hf
    refine gm_callV1 (As := [.int (1 : Int32), .int (-1 : Int32)]) (rest := []) (st1 := fun _ => [.int (r4.1)]) (ws' := fun _ => (OuN_c g a0 (r4.2))) hE hl.1 ml_X8_69 (c_X8_refuse_N l g a0 s0 (1 : Int32) (-1 : Int32) r4 hc5) hZ hP hD hS hA 0 19 rfl (fun _ => rfl) okX8 rfl rfl rfl (fun _ => rfl) ⟨rfl, rfl⟩ ⟨Nat.le_of_ble_eq_true rfl, Nat.le_of_ble_eq_true rfl⟩ ⟨Nat.le_refl _, Nat.le_refl _⟩ (Nat.le_of_ble_eq_true rfl) dX8_lag_20 (fun _ H locs hP hD hS => ?_)
    cases hf
    exact hq () rfl hP hD hS dX8_lag_23
  · have hf := gif_f h3 hf
    refine lv_iload_n hx hb dX8_lag_8 rfl (lv_at hl 2 rfl) ?_
    refine lv_if_lt hx hb dX8_lag_9 (tgt := 17) rfl (fun h6 => ?_) (fun h6 => ?_)
    · have hf := gif_t h6 hf
      refine lv_aload_n hx hb dX8_lag_17 rfl (lv_at hl 0 rfl) ?_
      refine lv_iconst hx hb dX8_lag_18 kci_1 ?_
      refine lv_iconst hx hb dX8_lag_19 kci_m1 ?_
      obtain ⟨r7, hc8, hf⟩ := gbd hf
      refine gm_callV1 (As := [.int (1 : Int32), .int (-1 : Int32)]) (rest := []) (st1 := fun _ => [.int (r7.1)]) (ws' := fun _ => (OuN_c g a0 (r7.2))) hE hl.1 ml_X8_69 (c_X8_refuse_N l g a0 s0 (1 : Int32) (-1 : Int32) r7 hc8) hZ hP hD hS hA 0 19 rfl (fun _ => rfl) okX8 rfl rfl rfl (fun _ => rfl) ⟨rfl, rfl⟩ ⟨Nat.le_of_ble_eq_true rfl, Nat.le_of_ble_eq_true rfl⟩ ⟨Nat.le_refl _, Nat.le_refl _⟩ (Nat.le_of_ble_eq_true rfl) dX8_lag_20 (fun _ H locs hP hD hS => ?_)
      cases hf
      exact hq () rfl hP hD hS dX8_lag_23
    · have hf := gif_f h6 hf
      refine lv_iload_n hx hb dX8_lag_12 rfl (lv_at hl 2 rfl) ?_
      refine lv_iconst hx hb dX8_lag_13 kci_3 ?_
      refine lv_icmp_le hx hb dX8_lag_14 (tgt := 24) rfl (fun h9 => ?_) (fun h9 => ?_)
      · have hf := gif_t h9 hf
        refine lv_aload_n hx hb dX8_lag_24 rfl (lv_at hl 0 rfl) ?_
        refine lv_aload_n hx hb dX8_lag_25 rfl (lv_at hl 0 rfl) ?_
        refine g_get hE okX8 fl_X8_31 hP 0 rfl (v := .null) rfl dX8_lag_26 ?_
        cases hf
      · have hf := gif_f h9 hf
        refine lv_aload_n hx hb dX8_lag_17 rfl (lv_at hl 0 rfl) ?_
        refine lv_iconst hx hb dX8_lag_18 kci_1 ?_
        refine lv_iconst hx hb dX8_lag_19 kci_m1 ?_
        obtain ⟨r10, hc11, hf⟩ := gbd hf
        refine gm_callV1 (As := [.int (1 : Int32), .int (-1 : Int32)]) (rest := []) (st1 := fun _ => [.int (r10.1)]) (ws' := fun _ => (OuN_c g a0 (r10.2))) hE hl.1 ml_X8_69 (c_X8_refuse_N l g a0 s0 (1 : Int32) (-1 : Int32) r10 hc11) hZ hP hD hS hA 0 19 rfl (fun _ => rfl) okX8 rfl rfl rfl (fun _ => rfl) ⟨rfl, rfl⟩ ⟨Nat.le_of_ble_eq_true rfl, Nat.le_of_ble_eq_true rfl⟩ ⟨Nat.le_refl _, Nat.le_refl _⟩ (Nat.le_of_ble_eq_true rfl) dX8_lag_20 (fun _ H locs hP hD hS => ?_)
        cases hf
        exact hq () rfl hP hD hS dX8_lag_23
theorem dX8_would_0 : decode cX8_would 0 = .ok (.aload_n 0, 1) := by decide +kernel
theorem dX8_would_1 : decode cX8_would 1 = .ok (.iload_n 1, 1) := by decide +kernel
theorem dX8_would_2 : decode cX8_would 2 = .ok (.iload_n 2, 1) := by decide +kernel
theorem dX8_would_3 : decode cX8_would 3 = .ok (.iload_n 3, 1) := by decide +kernel
theorem dX8_would_4 : decode cX8_would 4 = .ok (.iload 4, 2) := by decide +kernel
theorem dX8_would_6 : decode cX8_would 6 = .ok (.iload 5, 2) := by decide +kernel
theorem dX8_would_8 : decode cX8_would 8 = .ok (.invokevirtual 239, 3) := by decide +kernel
theorem dX8_would_11 : decode cX8_would 11 = .ok (.istore 6, 2) := by decide +kernel
theorem dX8_would_13 : decode cX8_would 13 = .ok (.iload 6, 2) := by decide +kernel
theorem dX8_would_15 : decode cX8_would 15 = .ok (.ifCond .eq 11, 3) := by decide +kernel
theorem dX8_would_18 : decode cX8_would 18 = .ok (.aload_n 0, 1) := by decide +kernel
theorem dX8_would_19 : decode cX8_would 19 = .ok (.iload 6, 2) := by decide +kernel
theorem dX8_would_21 : decode cX8_would 21 = .ok (.iconst (-1), 1) := by decide +kernel
theorem dX8_would_22 : decode cX8_would 22 = .ok (.invokevirtual 69, 3) := by decide +kernel
theorem dX8_would_25 : decode cX8_would 25 = .ok (.ireturn, 1) := by decide +kernel
theorem dX8_would_26 : decode cX8_would 26 = .ok (.aload_n 0, 1) := by decide +kernel
theorem dX8_would_27 : decode cX8_would 27 = .ok (.getfield 31, 3) := by decide +kernel
theorem dX8_would_30 : decode cX8_would 30 = .ok (.iload 5, 2) := by decide +kernel
theorem dX8_would_32 : decode cX8_would 32 = .ok (.invokevirtual 243, 3) := by decide +kernel
theorem dX8_would_35 : decode cX8_would 35 = .ok (.ifCond .eq 10, 3) := by decide +kernel
theorem dX8_would_38 : decode cX8_would 38 = .ok (.aload_n 0, 1) := by decide +kernel
theorem dX8_would_39 : decode cX8_would 39 = .ok (.bipush (-2), 2) := by decide +kernel
theorem dX8_would_41 : decode cX8_would 41 = .ok (.invokevirtual 103, 3) := by decide +kernel
theorem dX8_would_44 : decode cX8_would 44 = .ok (.ireturn, 1) := by decide +kernel
theorem dX8_would_45 : decode cX8_would 45 = .ok (.aload_n 0, 1) := by decide +kernel
theorem dX8_would_46 : decode cX8_would 46 = .ok (.getfield 21, 3) := by decide +kernel
theorem dX8_would_49 : decode cX8_would 49 = .ok (.aload_n 0, 1) := by decide +kernel
theorem dX8_would_50 : decode cX8_would 50 = .ok (.getfield 31, 3) := by decide +kernel
theorem dX8_would_53 : decode cX8_would 53 = .ok (.getfield 139, 3) := by decide +kernel
theorem dX8_would_56 : decode cX8_would 56 = .ok (.getfield 246, 3) := by decide +kernel
theorem dX8_would_59 : decode cX8_would 59 = .ok (.invokevirtual 247, 3) := by decide +kernel
theorem dX8_would_62 : decode cX8_would 62 = .ok (.aload_n 0, 1) := by decide +kernel
theorem dX8_would_63 : decode cX8_would 63 = .ok (.getfield 31, 3) := by decide +kernel
theorem dX8_would_66 : decode cX8_would 66 = .ok (.iload_n 2, 1) := by decide +kernel
theorem dX8_would_67 : decode cX8_would 67 = .ok (.aload_n 0, 1) := by decide +kernel
theorem dX8_would_68 : decode cX8_would 68 = .ok (.getfield 31, 3) := by decide +kernel
theorem dX8_would_71 : decode cX8_would 71 = .ok (.getfield 249, 3) := by decide +kernel
theorem dX8_would_74 : decode cX8_would 74 = .ok (.iload 5, 2) := by decide +kernel
theorem dX8_would_76 : decode cX8_would 76 = .ok (.invokestatic 252, 3) := by decide +kernel
theorem dX8_would_79 : decode cX8_would 79 = .ok (.invokevirtual 257, 3) := by decide +kernel
theorem dX8_would_82 : decode cX8_would 82 = .ok (.ifCond .ne 18, 3) := by decide +kernel
theorem dX8_would_85 : decode cX8_would 85 = .ok (.aload_n 0, 1) := by decide +kernel
theorem dX8_would_86 : decode cX8_would 86 = .ok (.getfield 21, 3) := by decide +kernel
theorem dX8_would_89 : decode cX8_would 89 = .ok (.aload_n 0, 1) := by decide +kernel
theorem dX8_would_90 : decode cX8_would 90 = .ok (.getfield 31, 3) := by decide +kernel
theorem dX8_would_93 : decode cX8_would 93 = .ok (.getfield 139, 3) := by decide +kernel
theorem dX8_would_96 : decode cX8_would 96 = .ok (.iload_n 2, 1) := by decide +kernel
theorem dX8_would_97 : decode cX8_would 97 = .ok (.invokevirtual 261, 3) := by decide +kernel
theorem dX8_would_100 : decode cX8_would 100 = .ok (.aload_n 0, 1) := by decide +kernel
theorem dX8_would_101 : decode cX8_would 101 = .ok (.getfield 21, 3) := by decide +kernel
theorem dX8_would_104 : decode cX8_would 104 = .ok (.iload_n 1, 1) := by decide +kernel
theorem dX8_would_105 : decode cX8_would 105 = .ok (.iload_n 2, 1) := by decide +kernel
theorem dX8_would_106 : decode cX8_would 106 = .ok (.iload_n 3, 1) := by decide +kernel
theorem dX8_would_107 : decode cX8_would 107 = .ok (.iload 4, 2) := by decide +kernel
theorem dX8_would_109 : decode cX8_would 109 = .ok (.invokevirtual 265, 3) := by decide +kernel
theorem dX8_would_112 : decode cX8_would 112 = .ok (.aload_n 0, 1) := by decide +kernel
theorem dX8_would_113 : decode cX8_would 113 = .ok (.aload_n 0, 1) := by decide +kernel
theorem dX8_would_114 : decode cX8_would 114 = .ok (.getfield 21, 3) := by decide +kernel
theorem dX8_would_117 : decode cX8_would 117 = .ok (.getfield 192, 3) := by decide +kernel
theorem dX8_would_120 : decode cX8_would 120 = .ok (.getfield 269, 3) := by decide +kernel
theorem dX8_would_123 : decode cX8_would 123 = .ok (.invokevirtual 103, 3) := by decide +kernel
theorem dX8_would_126 : decode cX8_would 126 = .ok (.ireturn, 1) := by decide +kernel
def f_X8_would_N (s0 : OuNT) (p1 : Int32) (p2 : Int32) (p3 : Int32) (p4 : Int32) (p5 : Int32) : Option (Int32 × OuNT) :=
  (f_X8_refusalOfEvent_N s0 p1 p2 p3 p4 p5).bind fun r1 =>
  if r1 = 0 then none
  else (f_X8_refuse_N s0 r1 (-1 : Int32)).bind fun r4 =>
  some ((r4.1), (r4.2))
abbrev rm_X8_would_N : Room := { frames := 4, cells := 0, slots := 0, locals := 105 }
set_option maxHeartbeats 4000000 in
set_option maxRecDepth 100000 in
theorem c_X8_would_N (l : Launch) (g : GK) (a0 : Nat → Nat) (s0 : OuNT) (p1 : Int32) (p2 : Int32) (p3 : Int32) (p4 : Int32) (p5 : Int32) (res : (Int32 × OuNT)) (hf : f_X8_would_N s0 p1 p2 p3 p4 p5 = some res) : gM l yX8_would cX8_would 7 (some .int) rm_X8_would_N g [.ref (a0 0), .int p1, .int p2, .int p3, .int p4, .int p5] (OuN_c g a0 s0) (fun _ : Unit => (some (.int (res.1)))) (fun _ => (OuN_c g a0 (res.2))) 0 0 := by
  refine gM_introI RX8 (by decide) rfl (Nat.le_of_ble_eq_true rfl) (fun p e s m args below meth c Q H locs ls A hE hZ hA hP hD hS hq hl => ?_)
  have hl : lv_has ls 7 [(0, .ref (a0 0)), (1, .int p1), (2, .int p2), (3, .int p3), (4, .int p4), (5, .int p5)] := hl
  have hx := hE.1
  have hb := hE.2.1
  rw [f_X8_would_N] at hf
  refine lv_aload_n hx hb dX8_would_0 rfl (lv_at hl 0 rfl) ?_
  refine lv_iload_n hx hb dX8_would_1 rfl (lv_at hl 1 rfl) ?_
  refine lv_iload_n hx hb dX8_would_2 rfl (lv_at hl 2 rfl) ?_
  refine lv_iload_n hx hb dX8_would_3 rfl (lv_at hl 3 rfl) ?_
  refine lv_iload hx hb dX8_would_4 (lv_at hl 4 rfl) ?_
  refine lv_iload hx hb dX8_would_6 (lv_at hl 5 rfl) ?_
  obtain ⟨r1, hc2, hf⟩ := gbd hf
  refine gr_callV (As := [.int p1, .int p2, .int p3, .int p4, .int p5]) (rest := []) (st1 := [.int r1]) hE hl.1 ml_X8_239 (c_X8_refusalOfEvent_N l g a0 s0 p1 p2 p3 p4 p5 r1 hc2) hZ hS hP [(0, 19)] rfl okX8 rfl rfl rfl rfl ⟨rfl, rfl⟩ ⟨Nat.le_of_ble_eq_true rfl, Nat.le_of_ble_eq_true rfl⟩ ⟨Nat.le_refl _, Nat.le_refl _⟩ (Nat.le_of_ble_eq_true rfl) dX8_would_8 ?_
  refine lv_istore hx hb dX8_would_11 hl (by decide) (lv' := [(6, .int r1), (0, .ref (a0 0)), (1, .int p1), (2, .int p2), (3, .int p3), (4, .int p4), (5, .int p5)]) rfl (fun ls hl => ?_)
  refine lv_iload hx hb dX8_would_13 (lv_at hl 0 rfl) ?_
  refine lv_if_eq hx hb dX8_would_15 (tgt := 26) rfl (fun h3 => ?_) (fun h3 => ?_)
  · have hf := gif_t h3 hf
    refine lv_aload_n hx hb dX8_would_26 rfl (lv_at hl 1 rfl) ?_
    refine g_get hE okX8 fl_X8_31 hP 0 rfl (v := .null) rfl dX8_would_27 ?_
    refine lv_iload hx hb dX8_would_30 (lv_at hl 6 rfl) ?_
    cases hf
  · have hf := gif_f h3 hf
    refine lv_aload_n hx hb dX8_would_18 rfl (lv_at hl 1 rfl) ?_
    refine lv_iload hx hb dX8_would_19 (lv_at hl 0 rfl) ?_
    refine lv_iconst hx hb dX8_would_21 kci_m1 ?_
    obtain ⟨r4, hc5, hf⟩ := gbd hf
    refine gm_callV1 (As := [.int r1, .int (-1 : Int32)]) (rest := []) (st1 := fun _ => [.int (r4.1)]) (ws' := fun _ => (OuN_c g a0 (r4.2))) hE hl.1 ml_X8_69 (c_X8_refuse_N l g a0 s0 r1 (-1 : Int32) r4 hc5) hZ hP hD hS hA 0 19 rfl (fun _ => rfl) okX8 rfl rfl rfl (fun _ => rfl) ⟨rfl, rfl⟩ ⟨Nat.le_of_ble_eq_true rfl, Nat.le_of_ble_eq_true rfl⟩ ⟨Nat.le_refl _, Nat.le_refl _⟩ (Nat.le_of_ble_eq_true rfl) dX8_would_22 (fun _ H locs hP hD hS => ?_)
    cases hf
    exact hq () rfl hP hD hS dX8_would_25
theorem dX8_nextLapse_0 : decode cX8_nextLapse 0 = .ok (.aload_n 0, 1) := by decide +kernel
theorem dX8_nextLapse_1 : decode cX8_nextLapse 1 = .ok (.getfield 31, 3) := by decide +kernel
theorem dX8_nextLapse_4 : decode cX8_nextLapse 4 = .ok (.ifnonnull 10, 3) := by decide +kernel
theorem dX8_nextLapse_7 : decode cX8_nextLapse 7 = .ok (.aload_n 0, 1) := by decide +kernel
theorem dX8_nextLapse_8 : decode cX8_nextLapse 8 = .ok (.iconst 1, 1) := by decide +kernel
theorem dX8_nextLapse_9 : decode cX8_nextLapse 9 = .ok (.iconst (-1), 1) := by decide +kernel
theorem dX8_nextLapse_10 : decode cX8_nextLapse 10 = .ok (.invokevirtual 69, 3) := by decide +kernel
theorem dX8_nextLapse_13 : decode cX8_nextLapse 13 = .ok (.ireturn, 1) := by decide +kernel
theorem dX8_nextLapse_14 : decode cX8_nextLapse 14 = .ok (.aload_n 0, 1) := by decide +kernel
theorem dX8_nextLapse_15 : decode cX8_nextLapse 15 = .ok (.aload_n 0, 1) := by decide +kernel
theorem dX8_nextLapse_16 : decode cX8_nextLapse 16 = .ok (.getfield 31, 3) := by decide +kernel
theorem dX8_nextLapse_19 : decode cX8_nextLapse 19 = .ok (.invokevirtual 272, 3) := by decide +kernel
theorem dX8_nextLapse_22 : decode cX8_nextLapse 22 = .ok (.invokevirtual 103, 3) := by decide +kernel
theorem dX8_nextLapse_25 : decode cX8_nextLapse 25 = .ok (.ireturn, 1) := by decide +kernel
def f_X8_nextLapse_N (s0 : OuNT) : Option (Int32 × OuNT) :=
  (f_X8_refuse_N s0 (1 : Int32) (-1 : Int32)).bind fun r1 =>
  some ((r1.1), (r1.2))
abbrev rm_X8_nextLapse_N : Room := { frames := 2, cells := 0, slots := 0, locals := 43 }
set_option maxHeartbeats 4000000 in
set_option maxRecDepth 100000 in
theorem c_X8_nextLapse_N (l : Launch) (g : GK) (a0 : Nat → Nat) (s0 : OuNT) (res : (Int32 × OuNT)) (hf : f_X8_nextLapse_N s0 = some res) : gM l yX8_nextLapse cX8_nextLapse 1 (some .int) rm_X8_nextLapse_N g [.ref (a0 0)] (OuN_c g a0 s0) (fun _ : Unit => (some (.int (res.1)))) (fun _ => (OuN_c g a0 (res.2))) 0 0 := by
  refine gM_introI RX8 (by decide) rfl (Nat.le_of_ble_eq_true rfl) (fun p e s m args below meth c Q H locs ls A hE hZ hA hP hD hS hq hl => ?_)
  have hl : lv_has ls 1 [(0, .ref (a0 0))] := hl
  have hx := hE.1
  have hb := hE.2.1
  rw [f_X8_nextLapse_N] at hf
  refine lv_aload_n hx hb dX8_nextLapse_0 rfl (lv_at hl 0 rfl) ?_
  refine g_get hE okX8 fl_X8_31 hP 0 rfl (v := .null) rfl dX8_nextLapse_1 ?_
  refine lv_ifnonnullN hx hb dX8_nextLapse_4 ?_
  refine lv_aload_n hx hb dX8_nextLapse_7 rfl (lv_at hl 0 rfl) ?_
  refine lv_iconst hx hb dX8_nextLapse_8 kci_1 ?_
  refine lv_iconst hx hb dX8_nextLapse_9 kci_m1 ?_
  obtain ⟨r1, hc2, hf⟩ := gbd hf
  refine gm_callV1 (As := [.int (1 : Int32), .int (-1 : Int32)]) (rest := []) (st1 := fun _ => [.int (r1.1)]) (ws' := fun _ => (OuN_c g a0 (r1.2))) hE hl.1 ml_X8_69 (c_X8_refuse_N l g a0 s0 (1 : Int32) (-1 : Int32) r1 hc2) hZ hP hD hS hA 0 19 rfl (fun _ => rfl) okX8 rfl rfl rfl (fun _ => rfl) ⟨rfl, rfl⟩ ⟨Nat.le_of_ble_eq_true rfl, Nat.le_of_ble_eq_true rfl⟩ ⟨Nat.le_refl _, Nat.le_refl _⟩ (Nat.le_of_ble_eq_true rfl) dX8_nextLapse_10 (fun _ H locs hP hD hS => ?_)
  cases hf
  exact hq () rfl hP hD hS dX8_nextLapse_13
theorem dX8_replay_0 : decode cX8_replay 0 = .ok (.aload_n 0, 1) := by decide +kernel
theorem dX8_replay_1 : decode cX8_replay 1 = .ok (.getfield 31, 3) := by decide +kernel
theorem dX8_replay_4 : decode cX8_replay 4 = .ok (.ifnull 12, 3) := by decide +kernel
theorem dX8_replay_7 : decode cX8_replay 7 = .ok (.iload_n 2, 1) := by decide +kernel
theorem dX8_replay_8 : decode cX8_replay 8 = .ok (.ifCond .lt 8, 3) := by decide +kernel
theorem dX8_replay_11 : decode cX8_replay 11 = .ok (.iload_n 2, 1) := by decide +kernel
theorem dX8_replay_12 : decode cX8_replay 12 = .ok (.iconst 2, 1) := by decide +kernel
theorem dX8_replay_13 : decode cX8_replay 13 = .ok (.if_icmp .le 11, 3) := by decide +kernel
theorem dX8_replay_16 : decode cX8_replay 16 = .ok (.aload_n 0, 1) := by decide +kernel
theorem dX8_replay_17 : decode cX8_replay 17 = .ok (.iconst 1, 1) := by decide +kernel
theorem dX8_replay_18 : decode cX8_replay 18 = .ok (.ldc 138, 2) := by decide +kernel
theorem dX8_replay_20 : decode cX8_replay 20 = .ok (.invokevirtual 69, 3) := by decide +kernel
theorem dX8_replay_23 : decode cX8_replay 23 = .ok (.ireturn, 1) := by decide +kernel
theorem dX8_replay_24 : decode cX8_replay 24 = .ok (.iload_n 1, 1) := by decide +kernel
theorem dX8_replay_25 : decode cX8_replay 25 = .ok (.ifCond .lt 10, 3) := by decide +kernel
theorem dX8_replay_28 : decode cX8_replay 28 = .ok (.iload_n 1, 1) := by decide +kernel
theorem dX8_replay_29 : decode cX8_replay 29 = .ok (.ldc_w 275, 3) := by decide +kernel
theorem dX8_replay_32 : decode cX8_replay 32 = .ok (.if_icmp .le 11, 3) := by decide +kernel
theorem dX8_replay_35 : decode cX8_replay 35 = .ok (.aload_n 0, 1) := by decide +kernel
theorem dX8_replay_36 : decode cX8_replay 36 = .ok (.iconst 2, 1) := by decide +kernel
theorem dX8_replay_37 : decode cX8_replay 37 = .ok (.ldc 138, 2) := by decide +kernel
theorem dX8_replay_39 : decode cX8_replay 39 = .ok (.invokevirtual 69, 3) := by decide +kernel
theorem dX8_replay_42 : decode cX8_replay 42 = .ok (.ireturn, 1) := by decide +kernel
theorem dX8_replay_43 : decode cX8_replay 43 = .ok (.aload_n 0, 1) := by decide +kernel
theorem dX8_replay_44 : decode cX8_replay 44 = .ok (.invokevirtual 276, 3) := by decide +kernel
theorem dX8_replay_47 : decode cX8_replay 47 = .ok (.aload_n 0, 1) := by decide +kernel
theorem dX8_replay_48 : decode cX8_replay 48 = .ok (.aload_n 0, 1) := by decide +kernel
theorem dX8_replay_49 : decode cX8_replay 49 = .ok (.getfield 31, 3) := by decide +kernel
theorem dX8_replay_52 : decode cX8_replay 52 = .ok (.getfield 279, 3) := by decide +kernel
theorem dX8_replay_55 : decode cX8_replay 55 = .ok (.getfield 283, 3) := by decide +kernel
theorem dX8_replay_58 : decode cX8_replay 58 = .ok (.iload_n 1, 1) := by decide +kernel
theorem dX8_replay_59 : decode cX8_replay 59 = .ok (.invokevirtual 286, 3) := by decide +kernel
theorem dX8_replay_62 : decode cX8_replay 62 = .ok (.aload_n 0, 1) := by decide +kernel
theorem dX8_replay_63 : decode cX8_replay 63 = .ok (.aload_n 0, 1) := by decide +kernel
theorem dX8_replay_64 : decode cX8_replay 64 = .ok (.getfield 31, 3) := by decide +kernel
theorem dX8_replay_67 : decode cX8_replay 67 = .ok (.getfield 279, 3) := by decide +kernel
theorem dX8_replay_70 : decode cX8_replay 70 = .ok (.aload_n 0, 1) := by decide +kernel
theorem dX8_replay_71 : decode cX8_replay 71 = .ok (.getfield 31, 3) := by decide +kernel
theorem dX8_replay_74 : decode cX8_replay 74 = .ok (.getfield 139, 3) := by decide +kernel
theorem dX8_replay_77 : decode cX8_replay 77 = .ok (.getfield 246, 3) := by decide +kernel
theorem dX8_replay_80 : decode cX8_replay 80 = .ok (.invokevirtual 290, 3) := by decide +kernel
theorem dX8_replay_83 : decode cX8_replay 83 = .ok (.iload_n 2, 1) := by decide +kernel
theorem dX8_replay_84 : decode cX8_replay 84 = .ok (.ifCond .ne 18, 3) := by decide +kernel
theorem dX8_replay_87 : decode cX8_replay 87 = .ok (.aload_n 0, 1) := by decide +kernel
theorem dX8_replay_88 : decode cX8_replay 88 = .ok (.aload_n 0, 1) := by decide +kernel
theorem dX8_replay_89 : decode cX8_replay 89 = .ok (.getfield 21, 3) := by decide +kernel
theorem dX8_replay_92 : decode cX8_replay 92 = .ok (.getfield 192, 3) := by decide +kernel
theorem dX8_replay_95 : decode cX8_replay 95 = .ok (.getfield 269, 3) := by decide +kernel
theorem dX8_replay_98 : decode cX8_replay 98 = .ok (.invokevirtual 103, 3) := by decide +kernel
theorem dX8_replay_101 : decode cX8_replay 101 = .ok (.ireturn, 1) := by decide +kernel
theorem dX8_replay_102 : decode cX8_replay 102 = .ok (.aload_n 0, 1) := by decide +kernel
theorem dX8_replay_103 : decode cX8_replay 103 = .ok (.iload_n 2, 1) := by decide +kernel
theorem dX8_replay_104 : decode cX8_replay 104 = .ok (.iconst 1, 1) := by decide +kernel
theorem dX8_replay_105 : decode cX8_replay 105 = .ok (.if_icmp .ne 17, 3) := by decide +kernel
theorem dX8_replay_108 : decode cX8_replay 108 = .ok (.aload_n 0, 1) := by decide +kernel
theorem dX8_replay_109 : decode cX8_replay 109 = .ok (.getfield 21, 3) := by decide +kernel
theorem dX8_replay_112 : decode cX8_replay 112 = .ok (.getfield 159, 3) := by decide +kernel
theorem dX8_replay_115 : decode cX8_replay 115 = .ok (.iconst 0, 1) := by decide +kernel
theorem dX8_replay_116 : decode cX8_replay 116 = .ok (.invokestatic 168, 3) := by decide +kernel
theorem dX8_replay_119 : decode cX8_replay 119 = .ok (.goto 10, 3) := by decide +kernel
theorem dX8_replay_122 : decode cX8_replay 122 = .ok (.aload_n 0, 1) := by decide +kernel
theorem dX8_replay_123 : decode cX8_replay 123 = .ok (.getfield 21, 3) := by decide +kernel
theorem dX8_replay_126 : decode cX8_replay 126 = .ok (.invokevirtual 294, 3) := by decide +kernel
theorem dX8_replay_129 : decode cX8_replay 129 = .ok (.invokevirtual 103, 3) := by decide +kernel
theorem dX8_replay_132 : decode cX8_replay 132 = .ok (.ireturn, 1) := by decide +kernel
def f_X8_replay_N (s0 : OuNT) (p1 : Int32) (p2 : Int32) : Option (Int32 × OuNT) :=
  (f_X8_refuse_N s0 (1 : Int32) (-2147483648 : Int32)).bind fun r1 =>
  some ((r1.1), (r1.2))
abbrev rm_X8_replay_N : Room := { frames := 1, cells := 0, slots := 0, locals := 23 }
set_option maxHeartbeats 4000000 in
set_option maxRecDepth 100000 in
theorem c_X8_replay_N (l : Launch) (g : GK) (a0 : Nat → Nat) (s0 : OuNT) (p1 : Int32) (p2 : Int32) (res : (Int32 × OuNT)) (hf : f_X8_replay_N s0 p1 p2 = some res) : gM l yX8_replay cX8_replay 3 (some .int) rm_X8_replay_N g [.ref (a0 0), .int p1, .int p2] (OuN_c g a0 s0) (fun _ : Unit => (some (.int (res.1)))) (fun _ => (OuN_c g a0 (res.2))) 0 0 := by
  refine gM_introI RX8 (by decide) rfl (Nat.le_of_ble_eq_true rfl) (fun p e s m args below meth c Q H locs ls A hE hZ hA hP hD hS hq hl => ?_)
  have hl : lv_has ls 3 [(0, .ref (a0 0)), (1, .int p1), (2, .int p2)] := hl
  have hx := hE.1
  have hb := hE.2.1
  rw [f_X8_replay_N] at hf
  refine lv_aload_n hx hb dX8_replay_0 rfl (lv_at hl 0 rfl) ?_
  refine g_get hE okX8 fl_X8_31 hP 0 rfl (v := .null) rfl dX8_replay_1 ?_
  refine lv_ifnullN hx hb dX8_replay_4 (tgt := 16) rfl ?_
  refine lv_aload_n hx hb dX8_replay_16 rfl (lv_at hl 0 rfl) ?_
  refine lv_iconst hx hb dX8_replay_17 kci_1 ?_
  refine lv_ldc hx hb hE.2.2.2.2.2.1 (hE.2.2.2.2.2.2.1 _ kd_X8_138) dX8_replay_18 ?_
  obtain ⟨r1, hc2, hf⟩ := gbd hf
  refine gm_callV1 (As := [.int (1 : Int32), .int (-2147483648 : Int32)]) (rest := []) (st1 := fun _ => [.int (r1.1)]) (ws' := fun _ => (OuN_c g a0 (r1.2))) hE hl.1 ml_X8_69 (c_X8_refuse_N l g a0 s0 (1 : Int32) (-2147483648 : Int32) r1 hc2) hZ hP hD hS hA 0 19 rfl (fun _ => rfl) okX8 rfl rfl rfl (fun _ => rfl) ⟨rfl, rfl⟩ ⟨Nat.le_of_ble_eq_true rfl, Nat.le_of_ble_eq_true rfl⟩ ⟨Nat.le_refl _, Nat.le_refl _⟩ (Nat.le_of_ble_eq_true rfl) dX8_replay_20 (fun _ H locs hP hD hS => ?_)
  cases hf
  exact hq () rfl hP hD hS dX8_replay_23
theorem dX8_cost_0 : decode cX8_cost 0 = .ok (.aload_n 0, 1) := by decide +kernel
theorem dX8_cost_1 : decode cX8_cost 1 = .ok (.getfield 31, 3) := by decide +kernel
theorem dX8_cost_4 : decode cX8_cost 4 = .ok (.ifnonnull 10, 3) := by decide +kernel
theorem dX8_cost_7 : decode cX8_cost 7 = .ok (.aload_n 0, 1) := by decide +kernel
theorem dX8_cost_8 : decode cX8_cost 8 = .ok (.iconst 1, 1) := by decide +kernel
theorem dX8_cost_9 : decode cX8_cost 9 = .ok (.iconst (-1), 1) := by decide +kernel
theorem dX8_cost_10 : decode cX8_cost 10 = .ok (.invokevirtual 69, 3) := by decide +kernel
theorem dX8_cost_13 : decode cX8_cost 13 = .ok (.ireturn, 1) := by decide +kernel
theorem dX8_cost_14 : decode cX8_cost 14 = .ok (.iload_n 1, 1) := by decide +kernel
theorem dX8_cost_15 : decode cX8_cost 15 = .ok (.invokestatic 297, 3) := by decide +kernel
theorem dX8_cost_18 : decode cX8_cost 18 = .ok (.ifCond .ne 10, 3) := by decide +kernel
theorem dX8_cost_21 : decode cX8_cost 21 = .ok (.aload_n 0, 1) := by decide +kernel
theorem dX8_cost_22 : decode cX8_cost 22 = .ok (.iconst 2, 1) := by decide +kernel
theorem dX8_cost_23 : decode cX8_cost 23 = .ok (.iconst (-1), 1) := by decide +kernel
theorem dX8_cost_24 : decode cX8_cost 24 = .ok (.invokevirtual 69, 3) := by decide +kernel
theorem dX8_cost_27 : decode cX8_cost 27 = .ok (.ireturn, 1) := by decide +kernel
theorem dX8_cost_28 : decode cX8_cost 28 = .ok (.aload_n 0, 1) := by decide +kernel
theorem dX8_cost_29 : decode cX8_cost 29 = .ok (.invokevirtual 276, 3) := by decide +kernel
theorem dX8_cost_32 : decode cX8_cost 32 = .ok (.aload_n 0, 1) := by decide +kernel
theorem dX8_cost_33 : decode cX8_cost 33 = .ok (.aload_n 0, 1) := by decide +kernel
theorem dX8_cost_34 : decode cX8_cost 34 = .ok (.getfield 31, 3) := by decide +kernel
theorem dX8_cost_37 : decode cX8_cost 37 = .ok (.getfield 279, 3) := by decide +kernel
theorem dX8_cost_40 : decode cX8_cost 40 = .ok (.iload_n 1, 1) := by decide +kernel
theorem dX8_cost_41 : decode cX8_cost 41 = .ok (.invokevirtual 290, 3) := by decide +kernel
theorem dX8_cost_44 : decode cX8_cost 44 = .ok (.aload_n 0, 1) := by decide +kernel
theorem dX8_cost_45 : decode cX8_cost 45 = .ok (.aload_n 0, 1) := by decide +kernel
theorem dX8_cost_46 : decode cX8_cost 46 = .ok (.getfield 21, 3) := by decide +kernel
theorem dX8_cost_49 : decode cX8_cost 49 = .ok (.getfield 192, 3) := by decide +kernel
theorem dX8_cost_52 : decode cX8_cost 52 = .ok (.getfield 269, 3) := by decide +kernel
theorem dX8_cost_55 : decode cX8_cost 55 = .ok (.invokevirtual 103, 3) := by decide +kernel
theorem dX8_cost_58 : decode cX8_cost 58 = .ok (.ireturn, 1) := by decide +kernel
def f_X8_cost_N (s0 : OuNT) (p1 : Int32) : Option (Int32 × OuNT) :=
  (f_X8_refuse_N s0 (1 : Int32) (-1 : Int32)).bind fun r1 =>
  some ((r1.1), (r1.2))
abbrev rm_X8_cost_N : Room := { frames := 1, cells := 0, slots := 0, locals := 22 }
set_option maxHeartbeats 4000000 in
set_option maxRecDepth 100000 in
theorem c_X8_cost_N (l : Launch) (g : GK) (a0 : Nat → Nat) (s0 : OuNT) (p1 : Int32) (res : (Int32 × OuNT)) (hf : f_X8_cost_N s0 p1 = some res) : gM l yX8_cost cX8_cost 2 (some .int) rm_X8_cost_N g [.ref (a0 0), .int p1] (OuN_c g a0 s0) (fun _ : Unit => (some (.int (res.1)))) (fun _ => (OuN_c g a0 (res.2))) 0 0 := by
  refine gM_introI RX8 (by decide) rfl (Nat.le_of_ble_eq_true rfl) (fun p e s m args below meth c Q H locs ls A hE hZ hA hP hD hS hq hl => ?_)
  have hl : lv_has ls 2 [(0, .ref (a0 0)), (1, .int p1)] := hl
  have hx := hE.1
  have hb := hE.2.1
  rw [f_X8_cost_N] at hf
  refine lv_aload_n hx hb dX8_cost_0 rfl (lv_at hl 0 rfl) ?_
  refine g_get hE okX8 fl_X8_31 hP 0 rfl (v := .null) rfl dX8_cost_1 ?_
  refine lv_ifnonnullN hx hb dX8_cost_4 ?_
  refine lv_aload_n hx hb dX8_cost_7 rfl (lv_at hl 0 rfl) ?_
  refine lv_iconst hx hb dX8_cost_8 kci_1 ?_
  refine lv_iconst hx hb dX8_cost_9 kci_m1 ?_
  obtain ⟨r1, hc2, hf⟩ := gbd hf
  refine gm_callV1 (As := [.int (1 : Int32), .int (-1 : Int32)]) (rest := []) (st1 := fun _ => [.int (r1.1)]) (ws' := fun _ => (OuN_c g a0 (r1.2))) hE hl.1 ml_X8_69 (c_X8_refuse_N l g a0 s0 (1 : Int32) (-1 : Int32) r1 hc2) hZ hP hD hS hA 0 19 rfl (fun _ => rfl) okX8 rfl rfl rfl (fun _ => rfl) ⟨rfl, rfl⟩ ⟨Nat.le_of_ble_eq_true rfl, Nat.le_of_ble_eq_true rfl⟩ ⟨Nat.le_refl _, Nat.le_refl _⟩ (Nat.le_of_ble_eq_true rfl) dX8_cost_10 (fun _ H locs hP hD hS => ?_)
  cases hf
  exact hq () rfl hP hD hS dX8_cost_13
theorem dX8_event_0 : decode cX8_event 0 = .ok (.aload_n 0, 1) := by decide +kernel
theorem dX8_event_1 : decode cX8_event 1 = .ok (.iload_n 1, 1) := by decide +kernel
theorem dX8_event_2 : decode cX8_event 2 = .ok (.iload_n 2, 1) := by decide +kernel
theorem dX8_event_3 : decode cX8_event 3 = .ok (.iload_n 3, 1) := by decide +kernel
theorem dX8_event_4 : decode cX8_event 4 = .ok (.iload 4, 2) := by decide +kernel
theorem dX8_event_6 : decode cX8_event 6 = .ok (.iload 5, 2) := by decide +kernel
theorem dX8_event_8 : decode cX8_event 8 = .ok (.invokevirtual 239, 3) := by decide +kernel
theorem dX8_event_11 : decode cX8_event 11 = .ok (.istore 6, 2) := by decide +kernel
theorem dX8_event_13 : decode cX8_event 13 = .ok (.iload 6, 2) := by decide +kernel
theorem dX8_event_15 : decode cX8_event 15 = .ok (.ifCond .eq 11, 3) := by decide +kernel
theorem dX8_event_18 : decode cX8_event 18 = .ok (.aload_n 0, 1) := by decide +kernel
theorem dX8_event_19 : decode cX8_event 19 = .ok (.iload 6, 2) := by decide +kernel
theorem dX8_event_21 : decode cX8_event 21 = .ok (.iconst (-1), 1) := by decide +kernel
theorem dX8_event_22 : decode cX8_event 22 = .ok (.invokevirtual 69, 3) := by decide +kernel
theorem dX8_event_25 : decode cX8_event 25 = .ok (.ireturn, 1) := by decide +kernel
theorem dX8_event_26 : decode cX8_event 26 = .ok (.aload_n 0, 1) := by decide +kernel
theorem dX8_event_27 : decode cX8_event 27 = .ok (.aload_n 0, 1) := by decide +kernel
theorem dX8_event_28 : decode cX8_event 28 = .ok (.getfield 31, 3) := by decide +kernel
theorem dX8_event_31 : decode cX8_event 31 = .ok (.iload_n 1, 1) := by decide +kernel
theorem dX8_event_32 : decode cX8_event 32 = .ok (.iload_n 2, 1) := by decide +kernel
theorem dX8_event_33 : decode cX8_event 33 = .ok (.iload_n 3, 1) := by decide +kernel
theorem dX8_event_34 : decode cX8_event 34 = .ok (.iload 4, 2) := by decide +kernel
theorem dX8_event_36 : decode cX8_event 36 = .ok (.iload 5, 2) := by decide +kernel
theorem dX8_event_38 : decode cX8_event 38 = .ok (.invokevirtual 300, 3) := by decide +kernel
theorem dX8_event_41 : decode cX8_event 41 = .ok (.invokevirtual 103, 3) := by decide +kernel
theorem dX8_event_44 : decode cX8_event 44 = .ok (.ireturn, 1) := by decide +kernel
def f_X8_event_N (s0 : OuNT) (p1 : Int32) (p2 : Int32) (p3 : Int32) (p4 : Int32) (p5 : Int32) : Option (Int32 × OuNT) :=
  (f_X8_refusalOfEvent_N s0 p1 p2 p3 p4 p5).bind fun r1 =>
  if r1 = 0 then none
  else (f_X8_refuse_N s0 r1 (-1 : Int32)).bind fun r4 =>
  some ((r4.1), (r4.2))
abbrev rm_X8_event_N : Room := { frames := 5, cells := 0, slots := 0, locals := 130 }
set_option maxHeartbeats 4000000 in
set_option maxRecDepth 100000 in
theorem c_X8_event_N (l : Launch) (g : GK) (a0 : Nat → Nat) (s0 : OuNT) (p1 : Int32) (p2 : Int32) (p3 : Int32) (p4 : Int32) (p5 : Int32) (res : (Int32 × OuNT)) (hf : f_X8_event_N s0 p1 p2 p3 p4 p5 = some res) : gM l yX8_event cX8_event 7 (some .int) rm_X8_event_N g [.ref (a0 0), .int p1, .int p2, .int p3, .int p4, .int p5] (OuN_c g a0 s0) (fun _ : Unit => (some (.int (res.1)))) (fun _ => (OuN_c g a0 (res.2))) 0 0 := by
  refine gM_introI RX8 (by decide) rfl (Nat.le_of_ble_eq_true rfl) (fun p e s m args below meth c Q H locs ls A hE hZ hA hP hD hS hq hl => ?_)
  have hl : lv_has ls 7 [(0, .ref (a0 0)), (1, .int p1), (2, .int p2), (3, .int p3), (4, .int p4), (5, .int p5)] := hl
  have hx := hE.1
  have hb := hE.2.1
  rw [f_X8_event_N] at hf
  refine lv_aload_n hx hb dX8_event_0 rfl (lv_at hl 0 rfl) ?_
  refine lv_iload_n hx hb dX8_event_1 rfl (lv_at hl 1 rfl) ?_
  refine lv_iload_n hx hb dX8_event_2 rfl (lv_at hl 2 rfl) ?_
  refine lv_iload_n hx hb dX8_event_3 rfl (lv_at hl 3 rfl) ?_
  refine lv_iload hx hb dX8_event_4 (lv_at hl 4 rfl) ?_
  refine lv_iload hx hb dX8_event_6 (lv_at hl 5 rfl) ?_
  obtain ⟨r1, hc2, hf⟩ := gbd hf
  refine gr_callV (As := [.int p1, .int p2, .int p3, .int p4, .int p5]) (rest := []) (st1 := [.int r1]) hE hl.1 ml_X8_239 (c_X8_refusalOfEvent_N l g a0 s0 p1 p2 p3 p4 p5 r1 hc2) hZ hS hP [(0, 19)] rfl okX8 rfl rfl rfl rfl ⟨rfl, rfl⟩ ⟨Nat.le_of_ble_eq_true rfl, Nat.le_of_ble_eq_true rfl⟩ ⟨Nat.le_refl _, Nat.le_refl _⟩ (Nat.le_of_ble_eq_true rfl) dX8_event_8 ?_
  refine lv_istore hx hb dX8_event_11 hl (by decide) (lv' := [(6, .int r1), (0, .ref (a0 0)), (1, .int p1), (2, .int p2), (3, .int p3), (4, .int p4), (5, .int p5)]) rfl (fun ls hl => ?_)
  refine lv_iload hx hb dX8_event_13 (lv_at hl 0 rfl) ?_
  refine lv_if_eq hx hb dX8_event_15 (tgt := 26) rfl (fun h3 => ?_) (fun h3 => ?_)
  · have hf := gif_t h3 hf
    refine lv_aload_n hx hb dX8_event_26 rfl (lv_at hl 1 rfl) ?_
    refine lv_aload_n hx hb dX8_event_27 rfl (lv_at hl 1 rfl) ?_
    refine g_get hE okX8 fl_X8_31 hP 0 rfl (v := .null) rfl dX8_event_28 ?_
    refine lv_iload_n hx hb dX8_event_31 rfl (lv_at hl 2 rfl) ?_
    refine lv_iload_n hx hb dX8_event_32 rfl (lv_at hl 3 rfl) ?_
    refine lv_iload_n hx hb dX8_event_33 rfl (lv_at hl 4 rfl) ?_
    refine lv_iload hx hb dX8_event_34 (lv_at hl 5 rfl) ?_
    refine lv_iload hx hb dX8_event_36 (lv_at hl 6 rfl) ?_
    cases hf
  · have hf := gif_f h3 hf
    refine lv_aload_n hx hb dX8_event_18 rfl (lv_at hl 1 rfl) ?_
    refine lv_iload hx hb dX8_event_19 (lv_at hl 0 rfl) ?_
    refine lv_iconst hx hb dX8_event_21 kci_m1 ?_
    obtain ⟨r4, hc5, hf⟩ := gbd hf
    refine gm_callV1 (As := [.int r1, .int (-1 : Int32)]) (rest := []) (st1 := fun _ => [.int (r4.1)]) (ws' := fun _ => (OuN_c g a0 (r4.2))) hE hl.1 ml_X8_69 (c_X8_refuse_N l g a0 s0 r1 (-1 : Int32) r4 hc5) hZ hP hD hS hA 0 19 rfl (fun _ => rfl) okX8 rfl rfl rfl (fun _ => rfl) ⟨rfl, rfl⟩ ⟨Nat.le_of_ble_eq_true rfl, Nat.le_of_ble_eq_true rfl⟩ ⟨Nat.le_refl _, Nat.le_refl _⟩ (Nat.le_of_ble_eq_true rfl) dX8_event_22 (fun _ H locs hP hD hS => ?_)
    cases hf
    exact hq () rfl hP hD hS dX8_event_25
theorem dX8_tick_0 : decode cX8_tick 0 = .ok (.aload_n 0, 1) := by decide +kernel
theorem dX8_tick_1 : decode cX8_tick 1 = .ok (.getfield 31, 3) := by decide +kernel
theorem dX8_tick_4 : decode cX8_tick 4 = .ok (.ifnonnull 10, 3) := by decide +kernel
theorem dX8_tick_7 : decode cX8_tick 7 = .ok (.aload_n 0, 1) := by decide +kernel
theorem dX8_tick_8 : decode cX8_tick 8 = .ok (.iconst 1, 1) := by decide +kernel
theorem dX8_tick_9 : decode cX8_tick 9 = .ok (.iconst (-1), 1) := by decide +kernel
theorem dX8_tick_10 : decode cX8_tick 10 = .ok (.invokevirtual 69, 3) := by decide +kernel
theorem dX8_tick_13 : decode cX8_tick 13 = .ok (.ireturn, 1) := by decide +kernel
theorem dX8_tick_14 : decode cX8_tick 14 = .ok (.iload_n 1, 1) := by decide +kernel
theorem dX8_tick_15 : decode cX8_tick 15 = .ok (.invokestatic 303, 3) := by decide +kernel
theorem dX8_tick_18 : decode cX8_tick 18 = .ok (.ifCond .ne 10, 3) := by decide +kernel
theorem dX8_tick_21 : decode cX8_tick 21 = .ok (.aload_n 0, 1) := by decide +kernel
theorem dX8_tick_22 : decode cX8_tick 22 = .ok (.iconst 2, 1) := by decide +kernel
theorem dX8_tick_23 : decode cX8_tick 23 = .ok (.iconst (-1), 1) := by decide +kernel
theorem dX8_tick_24 : decode cX8_tick 24 = .ok (.invokevirtual 69, 3) := by decide +kernel
theorem dX8_tick_27 : decode cX8_tick 27 = .ok (.ireturn, 1) := by decide +kernel
theorem dX8_tick_28 : decode cX8_tick 28 = .ok (.aload_n 0, 1) := by decide +kernel
theorem dX8_tick_29 : decode cX8_tick 29 = .ok (.aload_n 0, 1) := by decide +kernel
theorem dX8_tick_30 : decode cX8_tick 30 = .ok (.getfield 31, 3) := by decide +kernel
theorem dX8_tick_33 : decode cX8_tick 33 = .ok (.iload_n 1, 1) := by decide +kernel
theorem dX8_tick_34 : decode cX8_tick 34 = .ok (.invokevirtual 306, 3) := by decide +kernel
theorem dX8_tick_37 : decode cX8_tick 37 = .ok (.invokevirtual 103, 3) := by decide +kernel
theorem dX8_tick_40 : decode cX8_tick 40 = .ok (.ireturn, 1) := by decide +kernel
def f_X8_tick_N (s0 : OuNT) (p1 : Int32) : Option (Int32 × OuNT) :=
  (f_X8_refuse_N s0 (1 : Int32) (-1 : Int32)).bind fun r1 =>
  some ((r1.1), (r1.2))
abbrev rm_X8_tick_N : Room := { frames := 4, cells := 0, slots := 0, locals := 91 }
set_option maxHeartbeats 4000000 in
set_option maxRecDepth 100000 in
theorem c_X8_tick_N (l : Launch) (g : GK) (a0 : Nat → Nat) (s0 : OuNT) (p1 : Int32) (res : (Int32 × OuNT)) (hf : f_X8_tick_N s0 p1 = some res) : gM l yX8_tick cX8_tick 2 (some .int) rm_X8_tick_N g [.ref (a0 0), .int p1] (OuN_c g a0 s0) (fun _ : Unit => (some (.int (res.1)))) (fun _ => (OuN_c g a0 (res.2))) 0 0 := by
  refine gM_introI RX8 (by decide) rfl (Nat.le_of_ble_eq_true rfl) (fun p e s m args below meth c Q H locs ls A hE hZ hA hP hD hS hq hl => ?_)
  have hl : lv_has ls 2 [(0, .ref (a0 0)), (1, .int p1)] := hl
  have hx := hE.1
  have hb := hE.2.1
  rw [f_X8_tick_N] at hf
  refine lv_aload_n hx hb dX8_tick_0 rfl (lv_at hl 0 rfl) ?_
  refine g_get hE okX8 fl_X8_31 hP 0 rfl (v := .null) rfl dX8_tick_1 ?_
  refine lv_ifnonnullN hx hb dX8_tick_4 ?_
  refine lv_aload_n hx hb dX8_tick_7 rfl (lv_at hl 0 rfl) ?_
  refine lv_iconst hx hb dX8_tick_8 kci_1 ?_
  refine lv_iconst hx hb dX8_tick_9 kci_m1 ?_
  obtain ⟨r1, hc2, hf⟩ := gbd hf
  refine gm_callV1 (As := [.int (1 : Int32), .int (-1 : Int32)]) (rest := []) (st1 := fun _ => [.int (r1.1)]) (ws' := fun _ => (OuN_c g a0 (r1.2))) hE hl.1 ml_X8_69 (c_X8_refuse_N l g a0 s0 (1 : Int32) (-1 : Int32) r1 hc2) hZ hP hD hS hA 0 19 rfl (fun _ => rfl) okX8 rfl rfl rfl (fun _ => rfl) ⟨rfl, rfl⟩ ⟨Nat.le_of_ble_eq_true rfl, Nat.le_of_ble_eq_true rfl⟩ ⟨Nat.le_refl _, Nat.le_refl _⟩ (Nat.le_of_ble_eq_true rfl) dX8_tick_10 (fun _ H locs hP hD hS => ?_)
  cases hf
  exact hq () rfl hP hD hS dX8_tick_13
theorem dX8_how_0 : decode cX8_how 0 = .ok (.aload_n 0, 1) := by decide +kernel
theorem dX8_how_1 : decode cX8_how 1 = .ok (.getfield 31, 3) := by decide +kernel
theorem dX8_how_4 : decode cX8_how 4 = .ok (.ifnonnull 10, 3) := by decide +kernel
theorem dX8_how_7 : decode cX8_how 7 = .ok (.aload_n 0, 1) := by decide +kernel
theorem dX8_how_8 : decode cX8_how 8 = .ok (.iconst 1, 1) := by decide +kernel
theorem dX8_how_9 : decode cX8_how 9 = .ok (.iconst (-1), 1) := by decide +kernel
theorem dX8_how_10 : decode cX8_how 10 = .ok (.invokevirtual 69, 3) := by decide +kernel
theorem dX8_how_13 : decode cX8_how 13 = .ok (.ireturn, 1) := by decide +kernel
theorem dX8_how_14 : decode cX8_how 14 = .ok (.iload_n 1, 1) := by decide +kernel
theorem dX8_how_15 : decode cX8_how 15 = .ok (.invokestatic 297, 3) := by decide +kernel
theorem dX8_how_18 : decode cX8_how 18 = .ok (.ifCond .ne 10, 3) := by decide +kernel
theorem dX8_how_21 : decode cX8_how 21 = .ok (.aload_n 0, 1) := by decide +kernel
theorem dX8_how_22 : decode cX8_how 22 = .ok (.iconst 2, 1) := by decide +kernel
theorem dX8_how_23 : decode cX8_how 23 = .ok (.iconst (-1), 1) := by decide +kernel
theorem dX8_how_24 : decode cX8_how 24 = .ok (.invokevirtual 69, 3) := by decide +kernel
theorem dX8_how_27 : decode cX8_how 27 = .ok (.ireturn, 1) := by decide +kernel
theorem dX8_how_28 : decode cX8_how 28 = .ok (.aload_n 0, 1) := by decide +kernel
theorem dX8_how_29 : decode cX8_how 29 = .ok (.aload_n 0, 1) := by decide +kernel
theorem dX8_how_30 : decode cX8_how 30 = .ok (.getfield 31, 3) := by decide +kernel
theorem dX8_how_33 : decode cX8_how 33 = .ok (.iload_n 1, 1) := by decide +kernel
theorem dX8_how_34 : decode cX8_how 34 = .ok (.invokevirtual 309, 3) := by decide +kernel
theorem dX8_how_37 : decode cX8_how 37 = .ok (.invokevirtual 103, 3) := by decide +kernel
theorem dX8_how_40 : decode cX8_how 40 = .ok (.ireturn, 1) := by decide +kernel
def f_X8_how_N (s0 : OuNT) (p1 : Int32) : Option (Int32 × OuNT) :=
  (f_X8_refuse_N s0 (1 : Int32) (-1 : Int32)).bind fun r1 =>
  some ((r1.1), (r1.2))
abbrev rm_X8_how_N : Room := { frames := 5, cells := 0, slots := 0, locals := 119 }
set_option maxHeartbeats 4000000 in
set_option maxRecDepth 100000 in
theorem c_X8_how_N (l : Launch) (g : GK) (a0 : Nat → Nat) (s0 : OuNT) (p1 : Int32) (res : (Int32 × OuNT)) (hf : f_X8_how_N s0 p1 = some res) : gM l yX8_how cX8_how 2 (some .int) rm_X8_how_N g [.ref (a0 0), .int p1] (OuN_c g a0 s0) (fun _ : Unit => (some (.int (res.1)))) (fun _ => (OuN_c g a0 (res.2))) 0 0 := by
  refine gM_introI RX8 (by decide) rfl (Nat.le_of_ble_eq_true rfl) (fun p e s m args below meth c Q H locs ls A hE hZ hA hP hD hS hq hl => ?_)
  have hl : lv_has ls 2 [(0, .ref (a0 0)), (1, .int p1)] := hl
  have hx := hE.1
  have hb := hE.2.1
  rw [f_X8_how_N] at hf
  refine lv_aload_n hx hb dX8_how_0 rfl (lv_at hl 0 rfl) ?_
  refine g_get hE okX8 fl_X8_31 hP 0 rfl (v := .null) rfl dX8_how_1 ?_
  refine lv_ifnonnullN hx hb dX8_how_4 ?_
  refine lv_aload_n hx hb dX8_how_7 rfl (lv_at hl 0 rfl) ?_
  refine lv_iconst hx hb dX8_how_8 kci_1 ?_
  refine lv_iconst hx hb dX8_how_9 kci_m1 ?_
  obtain ⟨r1, hc2, hf⟩ := gbd hf
  refine gm_callV1 (As := [.int (1 : Int32), .int (-1 : Int32)]) (rest := []) (st1 := fun _ => [.int (r1.1)]) (ws' := fun _ => (OuN_c g a0 (r1.2))) hE hl.1 ml_X8_69 (c_X8_refuse_N l g a0 s0 (1 : Int32) (-1 : Int32) r1 hc2) hZ hP hD hS hA 0 19 rfl (fun _ => rfl) okX8 rfl rfl rfl (fun _ => rfl) ⟨rfl, rfl⟩ ⟨Nat.le_of_ble_eq_true rfl, Nat.le_of_ble_eq_true rfl⟩ ⟨Nat.le_refl _, Nat.le_refl _⟩ (Nat.le_of_ble_eq_true rfl) dX8_how_10 (fun _ H locs hP hD hS => ?_)
  cases hf
  exact hq () rfl hP hD hS dX8_how_13
theorem dX8_bounds_0 : decode cX8_bounds 0 = .ok (.aload_n 0, 1) := by decide +kernel
theorem dX8_bounds_1 : decode cX8_bounds 1 = .ok (.getfield 31, 3) := by decide +kernel
theorem dX8_bounds_4 : decode cX8_bounds 4 = .ok (.ifnonnull 18, 3) := by decide +kernel
theorem dX8_bounds_7 : decode cX8_bounds 7 = .ok (.aload_n 0, 1) := by decide +kernel
theorem dX8_bounds_8 : decode cX8_bounds 8 = .ok (.iconst 1, 1) := by decide +kernel
theorem dX8_bounds_9 : decode cX8_bounds 9 = .ok (.iconst 0, 1) := by decide +kernel
theorem dX8_bounds_10 : decode cX8_bounds 10 = .ok (.invokevirtual 69, 3) := by decide +kernel
theorem dX8_bounds_13 : decode cX8_bounds 13 = .ok (.ifCond .eq 7, 3) := by decide +kernel
theorem dX8_bounds_16 : decode cX8_bounds 16 = .ok (.iconst 1, 1) := by decide +kernel
theorem dX8_bounds_17 : decode cX8_bounds 17 = .ok (.goto 4, 3) := by decide +kernel
theorem dX8_bounds_20 : decode cX8_bounds 20 = .ok (.iconst 0, 1) := by decide +kernel
theorem dX8_bounds_21 : decode cX8_bounds 21 = .ok (.ireturn, 1) := by decide +kernel
theorem dX8_bounds_22 : decode cX8_bounds 22 = .ok (.iload_n 1, 1) := by decide +kernel
theorem dX8_bounds_23 : decode cX8_bounds 23 = .ok (.iconst 1, 1) := by decide +kernel
theorem dX8_bounds_24 : decode cX8_bounds 24 = .ok (.if_icmp .lt 21, 3) := by decide +kernel
theorem dX8_bounds_27 : decode cX8_bounds 27 = .ok (.iload_n 1, 1) := by decide +kernel
theorem dX8_bounds_28 : decode cX8_bounds 28 = .ok (.sipush 999, 3) := by decide +kernel
theorem dX8_bounds_31 : decode cX8_bounds 31 = .ok (.if_icmp .gt 14, 3) := by decide +kernel
theorem dX8_bounds_34 : decode cX8_bounds 34 = .ok (.iload_n 2, 1) := by decide +kernel
theorem dX8_bounds_35 : decode cX8_bounds 35 = .ok (.ifCond .lt 10, 3) := by decide +kernel
theorem dX8_bounds_38 : decode cX8_bounds 38 = .ok (.iload_n 2, 1) := by decide +kernel
theorem dX8_bounds_39 : decode cX8_bounds 39 = .ok (.sipush 999, 3) := by decide +kernel
theorem dX8_bounds_42 : decode cX8_bounds 42 = .ok (.if_icmp .le 18, 3) := by decide +kernel
theorem dX8_bounds_45 : decode cX8_bounds 45 = .ok (.aload_n 0, 1) := by decide +kernel
theorem dX8_bounds_46 : decode cX8_bounds 46 = .ok (.iconst 2, 1) := by decide +kernel
theorem dX8_bounds_47 : decode cX8_bounds 47 = .ok (.iconst 0, 1) := by decide +kernel
theorem dX8_bounds_48 : decode cX8_bounds 48 = .ok (.invokevirtual 69, 3) := by decide +kernel
theorem dX8_bounds_51 : decode cX8_bounds 51 = .ok (.ifCond .eq 7, 3) := by decide +kernel
theorem dX8_bounds_54 : decode cX8_bounds 54 = .ok (.iconst 1, 1) := by decide +kernel
theorem dX8_bounds_55 : decode cX8_bounds 55 = .ok (.goto 4, 3) := by decide +kernel
theorem dX8_bounds_58 : decode cX8_bounds 58 = .ok (.iconst 0, 1) := by decide +kernel
theorem dX8_bounds_59 : decode cX8_bounds 59 = .ok (.ireturn, 1) := by decide +kernel
theorem dX8_bounds_60 : decode cX8_bounds 60 = .ok (.aload_n 0, 1) := by decide +kernel
theorem dX8_bounds_61 : decode cX8_bounds 61 = .ok (.getfield 31, 3) := by decide +kernel
theorem dX8_bounds_64 : decode cX8_bounds 64 = .ok (.iload_n 1, 1) := by decide +kernel
theorem dX8_bounds_65 : decode cX8_bounds 65 = .ok (.putfield 312, 3) := by decide +kernel
theorem dX8_bounds_68 : decode cX8_bounds 68 = .ok (.aload_n 0, 1) := by decide +kernel
theorem dX8_bounds_69 : decode cX8_bounds 69 = .ok (.getfield 31, 3) := by decide +kernel
theorem dX8_bounds_72 : decode cX8_bounds 72 = .ok (.iload_n 2, 1) := by decide +kernel
theorem dX8_bounds_73 : decode cX8_bounds 73 = .ok (.putfield 313, 3) := by decide +kernel
theorem dX8_bounds_76 : decode cX8_bounds 76 = .ok (.aload_n 0, 1) := by decide +kernel
theorem dX8_bounds_77 : decode cX8_bounds 77 = .ok (.iconst 1, 1) := by decide +kernel
theorem dX8_bounds_78 : decode cX8_bounds 78 = .ok (.invokevirtual 103, 3) := by decide +kernel
theorem dX8_bounds_81 : decode cX8_bounds 81 = .ok (.ifCond .eq 7, 3) := by decide +kernel
theorem dX8_bounds_84 : decode cX8_bounds 84 = .ok (.iconst 1, 1) := by decide +kernel
theorem dX8_bounds_85 : decode cX8_bounds 85 = .ok (.goto 4, 3) := by decide +kernel
theorem dX8_bounds_88 : decode cX8_bounds 88 = .ok (.iconst 0, 1) := by decide +kernel
theorem dX8_bounds_89 : decode cX8_bounds 89 = .ok (.ireturn, 1) := by decide +kernel
def f_X8_bounds_N (s0 : OuNT) (p1 : Int32) (p2 : Int32) : Option (Int32 × OuNT) :=
  (f_X8_refuse_N s0 (1 : Int32) (0 : Int32)).bind fun r1 =>
  if (r1.1) = 0 then some ((0 : Int32), (r1.2))
  else some ((1 : Int32), (r1.2))
abbrev rm_X8_bounds_N : Room := { frames := 1, cells := 0, slots := 0, locals := 22 }
set_option maxHeartbeats 4000000 in
set_option maxRecDepth 100000 in
theorem c_X8_bounds_N (l : Launch) (g : GK) (a0 : Nat → Nat) (s0 : OuNT) (p1 : Int32) (p2 : Int32) (res : (Int32 × OuNT)) (hf : f_X8_bounds_N s0 p1 p2 = some res) : gM l yX8_bounds cX8_bounds 3 (some .boolean) rm_X8_bounds_N g [.ref (a0 0), .int p1, .int p2] (OuN_c g a0 s0) (fun _ : Unit => (some (.int (res.1)))) (fun _ => (OuN_c g a0 (res.2))) 0 0 := by
  refine gM_introZ RX8 (by decide) rfl (Nat.le_of_ble_eq_true rfl) (fun p e s m args below meth c Q H locs ls A hE hZ hA hP hD hS hq hl => ?_)
  have hl : lv_has ls 3 [(0, .ref (a0 0)), (1, .int p1), (2, .int p2)] := hl
  have hx := hE.1
  have hb := hE.2.1
  rw [f_X8_bounds_N] at hf
  refine lv_aload_n hx hb dX8_bounds_0 rfl (lv_at hl 0 rfl) ?_
  refine g_get hE okX8 fl_X8_31 hP 0 rfl (v := .null) rfl dX8_bounds_1 ?_
  refine lv_ifnonnullN hx hb dX8_bounds_4 ?_
  refine lv_aload_n hx hb dX8_bounds_7 rfl (lv_at hl 0 rfl) ?_
  refine lv_iconst hx hb dX8_bounds_8 kci_1 ?_
  refine lv_iconst hx hb dX8_bounds_9 kci_0 ?_
  obtain ⟨r1, hc2, hf⟩ := gbd hf
  refine gm_callV1 (As := [.int (1 : Int32), .int (0 : Int32)]) (rest := []) (st1 := fun _ => [.int (r1.1)]) (ws' := fun _ => (OuN_c g a0 (r1.2))) hE hl.1 ml_X8_69 (c_X8_refuse_N l g a0 s0 (1 : Int32) (0 : Int32) r1 hc2) hZ hP hD hS hA 0 19 rfl (fun _ => rfl) okX8 rfl rfl rfl (fun _ => rfl) ⟨rfl, rfl⟩ ⟨Nat.le_of_ble_eq_true rfl, Nat.le_of_ble_eq_true rfl⟩ ⟨Nat.le_refl _, Nat.le_refl _⟩ (Nat.le_of_ble_eq_true rfl) dX8_bounds_10 (fun _ H locs hP hD hS => ?_)
  refine lv_if_eq hx hb dX8_bounds_13 (tgt := 20) rfl (fun h3 => ?_) (fun h3 => ?_)
  · have hf := gif_t h3 hf
    refine lv_iconst hx hb dX8_bounds_20 kci_0 ?_
    cases hf
    exact hq () (by decide) rfl hP hD hS dX8_bounds_21
  · have hf := gif_f h3 hf
    refine lv_iconst hx hb dX8_bounds_16 kci_1 ?_
    refine lv_goto hx hb dX8_bounds_17 (tgt := 21) rfl ?_
    cases hf
    exact hq () (by decide) rfl hP hD hS dX8_bounds_21
theorem dX8_keep_0 : decode cX8_keep 0 = .ok (.aload_n 0, 1) := by decide +kernel
theorem dX8_keep_1 : decode cX8_keep 1 = .ok (.getfield 31, 3) := by decide +kernel
theorem dX8_keep_4 : decode cX8_keep 4 = .ok (.ifnonnull 18, 3) := by decide +kernel
theorem dX8_keep_7 : decode cX8_keep 7 = .ok (.aload_n 0, 1) := by decide +kernel
theorem dX8_keep_8 : decode cX8_keep 8 = .ok (.iconst 1, 1) := by decide +kernel
theorem dX8_keep_9 : decode cX8_keep 9 = .ok (.iconst 0, 1) := by decide +kernel
theorem dX8_keep_10 : decode cX8_keep 10 = .ok (.invokevirtual 69, 3) := by decide +kernel
theorem dX8_keep_13 : decode cX8_keep 13 = .ok (.ifCond .eq 7, 3) := by decide +kernel
theorem dX8_keep_16 : decode cX8_keep 16 = .ok (.iconst 1, 1) := by decide +kernel
theorem dX8_keep_17 : decode cX8_keep 17 = .ok (.goto 4, 3) := by decide +kernel
theorem dX8_keep_20 : decode cX8_keep 20 = .ok (.iconst 0, 1) := by decide +kernel
theorem dX8_keep_21 : decode cX8_keep 21 = .ok (.ireturn, 1) := by decide +kernel
theorem dX8_keep_22 : decode cX8_keep 22 = .ok (.aload_n 0, 1) := by decide +kernel
theorem dX8_keep_23 : decode cX8_keep 23 = .ok (.getfield 35, 3) := by decide +kernel
theorem dX8_keep_26 : decode cX8_keep 26 = .ok (.ifnonnull 14, 3) := by decide +kernel
theorem dX8_keep_29 : decode cX8_keep 29 = .ok (.aload_n 0, 1) := by decide +kernel
theorem dX8_keep_30 : decode cX8_keep 30 = .ok (.new 83, 3) := by decide +kernel
theorem dX8_keep_33 : decode cX8_keep 33 = .ok (.dup, 1) := by decide +kernel
theorem dX8_keep_34 : decode cX8_keep 34 = .ok (.invokespecial 85, 3) := by decide +kernel
theorem dX8_keep_37 : decode cX8_keep 37 = .ok (.putfield 35, 3) := by decide +kernel
theorem dX8_keep_40 : decode cX8_keep 40 = .ok (.aload_n 0, 1) := by decide +kernel
theorem dX8_keep_41 : decode cX8_keep 41 = .ok (.getfield 35, 3) := by decide +kernel
theorem dX8_keep_44 : decode cX8_keep 44 = .ok (.aload_n 0, 1) := by decide +kernel
theorem dX8_keep_45 : decode cX8_keep 45 = .ok (.getfield 31, 3) := by decide +kernel
theorem dX8_keep_48 : decode cX8_keep 48 = .ok (.invokevirtual 314, 3) := by decide +kernel
theorem dX8_keep_51 : decode cX8_keep 51 = .ok (.aload_n 0, 1) := by decide +kernel
theorem dX8_keep_52 : decode cX8_keep 52 = .ok (.iconst 1, 1) := by decide +kernel
theorem dX8_keep_53 : decode cX8_keep 53 = .ok (.putfield 38, 3) := by decide +kernel
theorem dX8_keep_56 : decode cX8_keep 56 = .ok (.aload_n 0, 1) := by decide +kernel
theorem dX8_keep_57 : decode cX8_keep 57 = .ok (.iconst 1, 1) := by decide +kernel
theorem dX8_keep_58 : decode cX8_keep 58 = .ok (.invokevirtual 103, 3) := by decide +kernel
theorem dX8_keep_61 : decode cX8_keep 61 = .ok (.ifCond .eq 7, 3) := by decide +kernel
theorem dX8_keep_64 : decode cX8_keep 64 = .ok (.iconst 1, 1) := by decide +kernel
theorem dX8_keep_65 : decode cX8_keep 65 = .ok (.goto 4, 3) := by decide +kernel
theorem dX8_keep_68 : decode cX8_keep 68 = .ok (.iconst 0, 1) := by decide +kernel
theorem dX8_keep_69 : decode cX8_keep 69 = .ok (.ireturn, 1) := by decide +kernel
def f_X8_keep_N (s0 : OuNT) : Option (Int32 × OuNT) :=
  (f_X8_refuse_N s0 (1 : Int32) (0 : Int32)).bind fun r1 =>
  if (r1.1) = 0 then some ((0 : Int32), (r1.2))
  else some ((1 : Int32), (r1.2))
abbrev rm_X8_keep_N : Room := { frames := 4, cells := 0, slots := 0, locals := 103 }
set_option maxHeartbeats 4000000 in
set_option maxRecDepth 100000 in
theorem c_X8_keep_N (l : Launch) (g : GK) (a0 : Nat → Nat) (s0 : OuNT) (res : (Int32 × OuNT)) (hf : f_X8_keep_N s0 = some res) : gM l yX8_keep cX8_keep 1 (some .boolean) rm_X8_keep_N g [.ref (a0 0)] (OuN_c g a0 s0) (fun _ : Unit => (some (.int (res.1)))) (fun _ => (OuN_c g a0 (res.2))) 0 0 := by
  refine gM_introZ RX8 (by decide) rfl (Nat.le_of_ble_eq_true rfl) (fun p e s m args below meth c Q H locs ls A hE hZ hA hP hD hS hq hl => ?_)
  have hl : lv_has ls 1 [(0, .ref (a0 0))] := hl
  have hx := hE.1
  have hb := hE.2.1
  rw [f_X8_keep_N] at hf
  refine lv_aload_n hx hb dX8_keep_0 rfl (lv_at hl 0 rfl) ?_
  refine g_get hE okX8 fl_X8_31 hP 0 rfl (v := .null) rfl dX8_keep_1 ?_
  refine lv_ifnonnullN hx hb dX8_keep_4 ?_
  refine lv_aload_n hx hb dX8_keep_7 rfl (lv_at hl 0 rfl) ?_
  refine lv_iconst hx hb dX8_keep_8 kci_1 ?_
  refine lv_iconst hx hb dX8_keep_9 kci_0 ?_
  obtain ⟨r1, hc2, hf⟩ := gbd hf
  refine gm_callV1 (As := [.int (1 : Int32), .int (0 : Int32)]) (rest := []) (st1 := fun _ => [.int (r1.1)]) (ws' := fun _ => (OuN_c g a0 (r1.2))) hE hl.1 ml_X8_69 (c_X8_refuse_N l g a0 s0 (1 : Int32) (0 : Int32) r1 hc2) hZ hP hD hS hA 0 19 rfl (fun _ => rfl) okX8 rfl rfl rfl (fun _ => rfl) ⟨rfl, rfl⟩ ⟨Nat.le_of_ble_eq_true rfl, Nat.le_of_ble_eq_true rfl⟩ ⟨Nat.le_refl _, Nat.le_refl _⟩ (Nat.le_of_ble_eq_true rfl) dX8_keep_10 (fun _ H locs hP hD hS => ?_)
  refine lv_if_eq hx hb dX8_keep_13 (tgt := 20) rfl (fun h3 => ?_) (fun h3 => ?_)
  · have hf := gif_t h3 hf
    refine lv_iconst hx hb dX8_keep_20 kci_0 ?_
    cases hf
    exact hq () (by decide) rfl hP hD hS dX8_keep_21
  · have hf := gif_f h3 hf
    refine lv_iconst hx hb dX8_keep_16 kci_1 ?_
    refine lv_goto hx hb dX8_keep_17 (tgt := 21) rfl ?_
    cases hf
    exact hq () (by decide) rfl hP hD hS dX8_keep_21
theorem dX8_back_0 : decode cX8_back 0 = .ok (.aload_n 0, 1) := by decide +kernel
theorem dX8_back_1 : decode cX8_back 1 = .ok (.getfield 31, 3) := by decide +kernel
theorem dX8_back_4 : decode cX8_back 4 = .ok (.ifnull 17, 3) := by decide +kernel
theorem dX8_back_7 : decode cX8_back 7 = .ok (.aload_n 0, 1) := by decide +kernel
theorem dX8_back_8 : decode cX8_back 8 = .ok (.getfield 35, 3) := by decide +kernel
theorem dX8_back_11 : decode cX8_back 11 = .ok (.ifnull 10, 3) := by decide +kernel
theorem dX8_back_14 : decode cX8_back 14 = .ok (.aload_n 0, 1) := by decide +kernel
theorem dX8_back_15 : decode cX8_back 15 = .ok (.getfield 38, 3) := by decide +kernel
theorem dX8_back_18 : decode cX8_back 18 = .ok (.ifCond .ne 18, 3) := by decide +kernel
theorem dX8_back_21 : decode cX8_back 21 = .ok (.aload_n 0, 1) := by decide +kernel
theorem dX8_back_22 : decode cX8_back 22 = .ok (.iconst 1, 1) := by decide +kernel
theorem dX8_back_23 : decode cX8_back 23 = .ok (.iconst 0, 1) := by decide +kernel
theorem dX8_back_24 : decode cX8_back 24 = .ok (.invokevirtual 69, 3) := by decide +kernel
theorem dX8_back_27 : decode cX8_back 27 = .ok (.ifCond .eq 7, 3) := by decide +kernel
theorem dX8_back_30 : decode cX8_back 30 = .ok (.iconst 1, 1) := by decide +kernel
theorem dX8_back_31 : decode cX8_back 31 = .ok (.goto 4, 3) := by decide +kernel
theorem dX8_back_34 : decode cX8_back 34 = .ok (.iconst 0, 1) := by decide +kernel
theorem dX8_back_35 : decode cX8_back 35 = .ok (.ireturn, 1) := by decide +kernel
theorem dX8_back_36 : decode cX8_back 36 = .ok (.aload_n 0, 1) := by decide +kernel
theorem dX8_back_37 : decode cX8_back 37 = .ok (.getfield 31, 3) := by decide +kernel
theorem dX8_back_40 : decode cX8_back 40 = .ok (.aload_n 0, 1) := by decide +kernel
theorem dX8_back_41 : decode cX8_back 41 = .ok (.getfield 35, 3) := by decide +kernel
theorem dX8_back_44 : decode cX8_back 44 = .ok (.invokevirtual 314, 3) := by decide +kernel
theorem dX8_back_47 : decode cX8_back 47 = .ok (.aload_n 0, 1) := by decide +kernel
theorem dX8_back_48 : decode cX8_back 48 = .ok (.iconst 1, 1) := by decide +kernel
theorem dX8_back_49 : decode cX8_back 49 = .ok (.invokevirtual 103, 3) := by decide +kernel
theorem dX8_back_52 : decode cX8_back 52 = .ok (.ifCond .eq 7, 3) := by decide +kernel
theorem dX8_back_55 : decode cX8_back 55 = .ok (.iconst 1, 1) := by decide +kernel
theorem dX8_back_56 : decode cX8_back 56 = .ok (.goto 4, 3) := by decide +kernel
theorem dX8_back_59 : decode cX8_back 59 = .ok (.iconst 0, 1) := by decide +kernel
theorem dX8_back_60 : decode cX8_back 60 = .ok (.ireturn, 1) := by decide +kernel
def f_X8_back_N (s0 : OuNT) : Option (Int32 × OuNT) :=
  (f_X8_refuse_N s0 (1 : Int32) (0 : Int32)).bind fun r1 =>
  if (r1.1) = 0 then some ((0 : Int32), (r1.2))
  else some ((1 : Int32), (r1.2))
abbrev rm_X8_back_N : Room := { frames := 4, cells := 0, slots := 0, locals := 103 }
set_option maxHeartbeats 4000000 in
set_option maxRecDepth 100000 in
theorem c_X8_back_N (l : Launch) (g : GK) (a0 : Nat → Nat) (s0 : OuNT) (res : (Int32 × OuNT)) (hf : f_X8_back_N s0 = some res) : gM l yX8_back cX8_back 1 (some .boolean) rm_X8_back_N g [.ref (a0 0)] (OuN_c g a0 s0) (fun _ : Unit => (some (.int (res.1)))) (fun _ => (OuN_c g a0 (res.2))) 0 0 := by
  refine gM_introZ RX8 (by decide) rfl (Nat.le_of_ble_eq_true rfl) (fun p e s m args below meth c Q H locs ls A hE hZ hA hP hD hS hq hl => ?_)
  have hl : lv_has ls 1 [(0, .ref (a0 0))] := hl
  have hx := hE.1
  have hb := hE.2.1
  rw [f_X8_back_N] at hf
  refine lv_aload_n hx hb dX8_back_0 rfl (lv_at hl 0 rfl) ?_
  refine g_get hE okX8 fl_X8_31 hP 0 rfl (v := .null) rfl dX8_back_1 ?_
  refine lv_ifnullN hx hb dX8_back_4 (tgt := 21) rfl ?_
  refine lv_aload_n hx hb dX8_back_21 rfl (lv_at hl 0 rfl) ?_
  refine lv_iconst hx hb dX8_back_22 kci_1 ?_
  refine lv_iconst hx hb dX8_back_23 kci_0 ?_
  obtain ⟨r1, hc2, hf⟩ := gbd hf
  refine gm_callV1 (As := [.int (1 : Int32), .int (0 : Int32)]) (rest := []) (st1 := fun _ => [.int (r1.1)]) (ws' := fun _ => (OuN_c g a0 (r1.2))) hE hl.1 ml_X8_69 (c_X8_refuse_N l g a0 s0 (1 : Int32) (0 : Int32) r1 hc2) hZ hP hD hS hA 0 19 rfl (fun _ => rfl) okX8 rfl rfl rfl (fun _ => rfl) ⟨rfl, rfl⟩ ⟨Nat.le_of_ble_eq_true rfl, Nat.le_of_ble_eq_true rfl⟩ ⟨Nat.le_refl _, Nat.le_refl _⟩ (Nat.le_of_ble_eq_true rfl) dX8_back_24 (fun _ H locs hP hD hS => ?_)
  refine lv_if_eq hx hb dX8_back_27 (tgt := 34) rfl (fun h3 => ?_) (fun h3 => ?_)
  · have hf := gif_t h3 hf
    refine lv_iconst hx hb dX8_back_34 kci_0 ?_
    cases hf
    exact hq () (by decide) rfl hP hD hS dX8_back_35
  · have hf := gif_f h3 hf
    refine lv_iconst hx hb dX8_back_30 kci_1 ?_
    refine lv_goto hx hb dX8_back_31 (tgt := 35) rfl ?_
    cases hf
    exact hq () (by decide) rfl hP hD hS dX8_back_35
theorem dX8_size_0 : decode cX8_size 0 = .ok (.iload_n 1, 1) := by decide +kernel
theorem dX8_size_1 : decode cX8_size 1 = .ok (.tableswitch 128 0 4 #[35, 46, 71, 93, 106], 35) := by decide +kernel
theorem dX8_size_36 : decode cX8_size 36 = .ok (.aload_n 0, 1) := by decide +kernel
theorem dX8_size_37 : decode cX8_size 37 = .ok (.getfield 14, 3) := by decide +kernel
theorem dX8_size_40 : decode cX8_size 40 = .ok (.getfield 52, 3) := by decide +kernel
theorem dX8_size_43 : decode cX8_size 43 = .ok (.getfield 66, 3) := by decide +kernel
theorem dX8_size_46 : decode cX8_size 46 = .ok (.ireturn, 1) := by decide +kernel
theorem dX8_size_47 : decode cX8_size 47 = .ok (.aload_n 0, 1) := by decide +kernel
theorem dX8_size_48 : decode cX8_size 48 = .ok (.getfield 31, 3) := by decide +kernel
theorem dX8_size_51 : decode cX8_size 51 = .ok (.ifnonnull 7, 3) := by decide +kernel
theorem dX8_size_54 : decode cX8_size 54 = .ok (.iconst 0, 1) := by decide +kernel
theorem dX8_size_55 : decode cX8_size 55 = .ok (.goto 16, 3) := by decide +kernel
theorem dX8_size_58 : decode cX8_size 58 = .ok (.aload_n 0, 1) := by decide +kernel
theorem dX8_size_59 : decode cX8_size 59 = .ok (.getfield 31, 3) := by decide +kernel
theorem dX8_size_62 : decode cX8_size 62 = .ok (.getfield 139, 3) := by decide +kernel
theorem dX8_size_65 : decode cX8_size 65 = .ok (.getfield 192, 3) := by decide +kernel
theorem dX8_size_68 : decode cX8_size 68 = .ok (.invokevirtual 328, 3) := by decide +kernel
theorem dX8_size_71 : decode cX8_size 71 = .ok (.ireturn, 1) := by decide +kernel
theorem dX8_size_72 : decode cX8_size 72 = .ok (.aload_n 0, 1) := by decide +kernel
theorem dX8_size_73 : decode cX8_size 73 = .ok (.getfield 31, 3) := by decide +kernel
theorem dX8_size_76 : decode cX8_size 76 = .ok (.ifnonnull 7, 3) := by decide +kernel
theorem dX8_size_79 : decode cX8_size 79 = .ok (.iconst 0, 1) := by decide +kernel
theorem dX8_size_80 : decode cX8_size 80 = .ok (.goto 13, 3) := by decide +kernel
theorem dX8_size_83 : decode cX8_size 83 = .ok (.aload_n 0, 1) := by decide +kernel
theorem dX8_size_84 : decode cX8_size 84 = .ok (.getfield 31, 3) := by decide +kernel
theorem dX8_size_87 : decode cX8_size 87 = .ok (.getfield 279, 3) := by decide +kernel
theorem dX8_size_90 : decode cX8_size 90 = .ok (.getfield 283, 3) := by decide +kernel
theorem dX8_size_93 : decode cX8_size 93 = .ok (.ireturn, 1) := by decide +kernel
theorem dX8_size_94 : decode cX8_size 94 = .ok (.aload_n 0, 1) := by decide +kernel
theorem dX8_size_95 : decode cX8_size 95 = .ok (.getfield 38, 3) := by decide +kernel
theorem dX8_size_98 : decode cX8_size 98 = .ok (.ifCond .eq 7, 3) := by decide +kernel
theorem dX8_size_101 : decode cX8_size 101 = .ok (.iconst 1, 1) := by decide +kernel
theorem dX8_size_102 : decode cX8_size 102 = .ok (.goto 4, 3) := by decide +kernel
theorem dX8_size_105 : decode cX8_size 105 = .ok (.iconst 0, 1) := by decide +kernel
theorem dX8_size_106 : decode cX8_size 106 = .ok (.ireturn, 1) := by decide +kernel
theorem dX8_size_107 : decode cX8_size 107 = .ok (.aload_n 0, 1) := by decide +kernel
theorem dX8_size_108 : decode cX8_size 108 = .ok (.getfield 31, 3) := by decide +kernel
theorem dX8_size_111 : decode cX8_size 111 = .ok (.ifnonnull 7, 3) := by decide +kernel
theorem dX8_size_114 : decode cX8_size 114 = .ok (.iconst 0, 1) := by decide +kernel
theorem dX8_size_115 : decode cX8_size 115 = .ok (.goto 13, 3) := by decide +kernel
theorem dX8_size_118 : decode cX8_size 118 = .ok (.aload_n 0, 1) := by decide +kernel
theorem dX8_size_119 : decode cX8_size 119 = .ok (.getfield 31, 3) := by decide +kernel
theorem dX8_size_122 : decode cX8_size 122 = .ok (.getfield 216, 3) := by decide +kernel
theorem dX8_size_125 : decode cX8_size 125 = .ok (.invokevirtual 331, 3) := by decide +kernel
theorem dX8_size_128 : decode cX8_size 128 = .ok (.ireturn, 1) := by decide +kernel
theorem dX8_size_129 : decode cX8_size 129 = .ok (.iconst (-1), 1) := by decide +kernel
theorem dX8_size_130 : decode cX8_size 130 = .ok (.ireturn, 1) := by decide +kernel
def f_X8_size_N (s0 : OuNT) (p1 : Int32) : Option (Int32) :=
  if p1 = (0 : Int32) then some ((Tp_length (Rd_tape (OuN_reader s0))))
  else if p1 = (1 : Int32) then some ((0 : Int32))
  else if p1 = (2 : Int32) then some ((0 : Int32))
  else if p1 = (3 : Int32) then if (OuN_isKept s0) = 0 then some ((0 : Int32))
  else some ((1 : Int32))
  else if p1 = (4 : Int32) then some ((0 : Int32))
  else some ((-1 : Int32))
abbrev rm_X8_size_N : Room := { frames := 2, cells := 0, slots := 0, locals := 43 }
set_option maxHeartbeats 4000000 in
set_option maxRecDepth 100000 in
theorem c_X8_size_N (l : Launch) (g : GK) (a0 : Nat → Nat) (s0 : OuNT) (p1 : Int32) (res : (Int32)) (hf : f_X8_size_N s0 p1 = some res) : gR l yX8_size cX8_size 2 (some .int) rm_X8_size_N g [.ref (a0 0), .int p1] (OuN_c g a0 s0) (some (.int res)) := by
  refine gR_introI RX8 (by decide) rfl (Nat.le_of_ble_eq_true rfl) (fun p e s m args below meth c Q H locs ls hE hP hZ hS hq hl => ?_)
  have hl : lv_has ls 2 [(0, .ref (a0 0)), (1, .int p1)] := hl
  have hx := hE.1
  have hb := hE.2.1
  rw [f_X8_size_N] at hf
  refine lv_iload_n hx hb dX8_size_0 rfl (lv_at hl 1 rfl) ?_
  by_cases h1 : p1 = (0 : Int32)
  · have hf := gif_t h1 hf
    refine g_swIn hE h1 dX8_size_1 (0) ⟨by decide, by decide⟩ (by decide) (off := 35) rfl (tgt := 36) rfl ?_
    refine lv_aload_n hx hb dX8_size_36 rfl (lv_at hl 0 rfl) ?_
    refine g_get hE okX8 fl_X8_14 hP 0 rfl (v := .ref (a0 1)) rfl dX8_size_37 ?_
    refine g_get hE okX3 fl_X8_52 hP 1 rfl (v := .ref (a0 2)) rfl dX8_size_40 ?_
    refine g_get hE okX6 fl_X8_66 hP 2 rfl (v := .int (Tp_length (Rd_tape (OuN_reader s0)))) rfl dX8_size_43 ?_
    cases hf
    exact hq rfl dX8_size_46
  have hf := gif_f h1 hf
  by_cases h2 : p1 = (1 : Int32)
  · have hf := gif_t h2 hf
    refine g_swIn hE h2 dX8_size_1 (1) ⟨by decide, by decide⟩ (by decide) (off := 46) rfl (tgt := 47) rfl ?_
    refine lv_aload_n hx hb dX8_size_47 rfl (lv_at hl 0 rfl) ?_
    refine g_get hE okX8 fl_X8_31 hP 0 rfl (v := .null) rfl dX8_size_48 ?_
    refine lv_ifnonnullN hx hb dX8_size_51 ?_
    refine lv_iconst hx hb dX8_size_54 kci_0 ?_
    refine lv_goto hx hb dX8_size_55 (tgt := 71) rfl ?_
    cases hf
    exact hq rfl dX8_size_71
  have hf := gif_f h2 hf
  by_cases h3 : p1 = (2 : Int32)
  · have hf := gif_t h3 hf
    refine g_swIn hE h3 dX8_size_1 (2) ⟨by decide, by decide⟩ (by decide) (off := 71) rfl (tgt := 72) rfl ?_
    refine lv_aload_n hx hb dX8_size_72 rfl (lv_at hl 0 rfl) ?_
    refine g_get hE okX8 fl_X8_31 hP 0 rfl (v := .null) rfl dX8_size_73 ?_
    refine lv_ifnonnullN hx hb dX8_size_76 ?_
    refine lv_iconst hx hb dX8_size_79 kci_0 ?_
    refine lv_goto hx hb dX8_size_80 (tgt := 93) rfl ?_
    cases hf
    exact hq rfl dX8_size_93
  have hf := gif_f h3 hf
  by_cases h4 : p1 = (3 : Int32)
  · have hf := gif_t h4 hf
    refine g_swIn hE h4 dX8_size_1 (3) ⟨by decide, by decide⟩ (by decide) (off := 93) rfl (tgt := 94) rfl ?_
    refine lv_aload_n hx hb dX8_size_94 rfl (lv_at hl 0 rfl) ?_
    refine g_get hE okX8 fl_X8_38 hP 0 rfl (v := .int (OuN_isKept s0)) rfl dX8_size_95 ?_
    refine lv_if_eq hx hb dX8_size_98 (tgt := 105) rfl (fun h5 => ?_) (fun h5 => ?_)
    · have hf := gif_t h5 hf
      refine lv_iconst hx hb dX8_size_105 kci_0 ?_
      cases hf
      exact hq rfl dX8_size_106
    · have hf := gif_f h5 hf
      refine lv_iconst hx hb dX8_size_101 kci_1 ?_
      refine lv_goto hx hb dX8_size_102 (tgt := 106) rfl ?_
      cases hf
      exact hq rfl dX8_size_106
  have hf := gif_f h4 hf
  by_cases h6 : p1 = (4 : Int32)
  · have hf := gif_t h6 hf
    refine g_swIn hE h6 dX8_size_1 (4) ⟨by decide, by decide⟩ (by decide) (off := 106) rfl (tgt := 107) rfl ?_
    refine lv_aload_n hx hb dX8_size_107 rfl (lv_at hl 0 rfl) ?_
    refine g_get hE okX8 fl_X8_31 hP 0 rfl (v := .null) rfl dX8_size_108 ?_
    refine lv_ifnonnullN hx hb dX8_size_111 ?_
    refine lv_iconst hx hb dX8_size_114 kci_0 ?_
    refine lv_goto hx hb dX8_size_115 (tgt := 128) rfl ?_
    cases hf
    exact hq rfl dX8_size_128
  have hf := gif_f h6 hf
  refine lv_tableOut hx hb dX8_size_1 (by have := nti h1 (k := 0) (by decide); have := nti h2 (k := 1) (by decide); have := nti h3 (k := 2) (by decide); have := nti h4 (k := 3) (by decide); have := nti h6 (k := 4) (by decide); omega) (tgt := 129) rfl ?_
  refine lv_iconst hx hb dX8_size_129 kci_m1 ?_
  cases hf
  exact hq rfl dX8_size_130
theorem dX8_trouble_0 : decode cX8_trouble 0 = .ok (.aload_n 0, 1) := by decide +kernel
theorem dX8_trouble_1 : decode cX8_trouble 1 = .ok (.getfield 42, 3) := by decide +kernel
theorem dX8_trouble_4 : decode cX8_trouble 4 = .ok (.ireturn, 1) := by decide +kernel
def f_X8_trouble_N (s0 : OuNT) : Option (Int32) :=
  some ((OuN_trouble s0))
abbrev rm_X8_trouble_N : Room := { frames := 0, cells := 0, slots := 0, locals := 0 }
set_option maxHeartbeats 4000000 in
set_option maxRecDepth 100000 in
theorem c_X8_trouble_N (l : Launch) (g : GK) (a0 : Nat → Nat) (s0 : OuNT) (res : (Int32)) (hf : f_X8_trouble_N s0 = some res) : gR l yX8_trouble cX8_trouble 1 (some .int) rm_X8_trouble_N g [.ref (a0 0)] (OuN_c g a0 s0) (some (.int res)) := by
  refine gR_introI RX8 (by decide) rfl (Nat.le_of_ble_eq_true rfl) (fun p e s m args below meth c Q H locs ls hE hP hZ hS hq hl => ?_)
  have hl : lv_has ls 1 [(0, .ref (a0 0))] := hl
  have hx := hE.1
  have hb := hE.2.1
  rw [f_X8_trouble_N] at hf
  refine lv_aload_n hx hb dX8_trouble_0 rfl (lv_at hl 0 rfl) ?_
  refine g_get hE okX8 fl_X8_42 hP 0 rfl (v := .int (OuN_trouble s0)) rfl dX8_trouble_1 ?_
  cases hf
  exact hq rfl dX8_trouble_4
