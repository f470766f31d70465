abbrev BkT : Type := WdT × WdT × BdT × StT × SbT × (Nat → Int32) × (Nat → Int32) × Int32 × Int32 × Int32 × Int32 × Int32
abbrev Bk_keys (s : BkT) : WdT := s.1
abbrev Bk_values (s : BkT) : WdT := s.2.1
abbrev Bk_board (s : BkT) : BdT := s.2.2.1
abbrev Bk_store (s : BkT) : StT := s.2.2.2.1
abbrev Bk_subscribers (s : BkT) : SbT := s.2.2.2.2.1
abbrev Bk_latest (s : BkT) : (Nat → Int32) := s.2.2.2.2.2.1
abbrev Bk_lapses (s : BkT) : (Nat → Int32) := s.2.2.2.2.2.2.1
abbrev Bk_keep (s : BkT) : Int32 := s.2.2.2.2.2.2.2.1
abbrev Bk_late (s : BkT) : Int32 := s.2.2.2.2.2.2.2.2.1
abbrev Bk_clock (s : BkT) : Int32 := s.2.2.2.2.2.2.2.2.2.1
abbrev Bk_tooLate (s : BkT) : Int32 := s.2.2.2.2.2.2.2.2.2.2.1
abbrev Bk_lapsed (s : BkT) : Int32 := s.2.2.2.2.2.2.2.2.2.2.2
abbrev Bk_mk (x0 : WdT) (x1 : WdT) (x2 : BdT) (x3 : StT) (x4 : SbT) (x5 : (Nat → Int32)) (x6 : (Nat → Int32)) (x7 : Int32) (x8 : Int32) (x9 : Int32) (x10 : Int32) (x11 : Int32) : BkT := (x0, x1, x2, x3, x4, x5, x6, x7, x8, x9, x10, x11)
abbrev Bk_w_keys (s : BkT) (v : WdT) : BkT := (v, s.2.1, s.2.2.1, s.2.2.2.1, s.2.2.2.2.1, s.2.2.2.2.2.1, s.2.2.2.2.2.2.1, s.2.2.2.2.2.2.2.1, s.2.2.2.2.2.2.2.2.1, s.2.2.2.2.2.2.2.2.2.1, s.2.2.2.2.2.2.2.2.2.2.1, s.2.2.2.2.2.2.2.2.2.2.2)
abbrev Bk_w_values (s : BkT) (v : WdT) : BkT := (s.1, v, s.2.2.1, s.2.2.2.1, s.2.2.2.2.1, s.2.2.2.2.2.1, s.2.2.2.2.2.2.1, s.2.2.2.2.2.2.2.1, s.2.2.2.2.2.2.2.2.1, s.2.2.2.2.2.2.2.2.2.1, s.2.2.2.2.2.2.2.2.2.2.1, s.2.2.2.2.2.2.2.2.2.2.2)
abbrev Bk_w_board (s : BkT) (v : BdT) : BkT := (s.1, s.2.1, v, s.2.2.2.1, s.2.2.2.2.1, s.2.2.2.2.2.1, s.2.2.2.2.2.2.1, s.2.2.2.2.2.2.2.1, s.2.2.2.2.2.2.2.2.1, s.2.2.2.2.2.2.2.2.2.1, s.2.2.2.2.2.2.2.2.2.2.1, s.2.2.2.2.2.2.2.2.2.2.2)
abbrev Bk_w_store (s : BkT) (v : StT) : BkT := (s.1, s.2.1, s.2.2.1, v, s.2.2.2.2.1, s.2.2.2.2.2.1, s.2.2.2.2.2.2.1, s.2.2.2.2.2.2.2.1, s.2.2.2.2.2.2.2.2.1, s.2.2.2.2.2.2.2.2.2.1, s.2.2.2.2.2.2.2.2.2.2.1, s.2.2.2.2.2.2.2.2.2.2.2)
abbrev Bk_w_subscribers (s : BkT) (v : SbT) : BkT := (s.1, s.2.1, s.2.2.1, s.2.2.2.1, v, s.2.2.2.2.2.1, s.2.2.2.2.2.2.1, s.2.2.2.2.2.2.2.1, s.2.2.2.2.2.2.2.2.1, s.2.2.2.2.2.2.2.2.2.1, s.2.2.2.2.2.2.2.2.2.2.1, s.2.2.2.2.2.2.2.2.2.2.2)
abbrev Bk_w_latest (s : BkT) (v : (Nat → Int32)) : BkT := (s.1, s.2.1, s.2.2.1, s.2.2.2.1, s.2.2.2.2.1, v, s.2.2.2.2.2.2.1, s.2.2.2.2.2.2.2.1, s.2.2.2.2.2.2.2.2.1, s.2.2.2.2.2.2.2.2.2.1, s.2.2.2.2.2.2.2.2.2.2.1, s.2.2.2.2.2.2.2.2.2.2.2)
abbrev Bk_w_lapses (s : BkT) (v : (Nat → Int32)) : BkT := (s.1, s.2.1, s.2.2.1, s.2.2.2.1, s.2.2.2.2.1, s.2.2.2.2.2.1, v, s.2.2.2.2.2.2.2.1, s.2.2.2.2.2.2.2.2.1, s.2.2.2.2.2.2.2.2.2.1, s.2.2.2.2.2.2.2.2.2.2.1, s.2.2.2.2.2.2.2.2.2.2.2)
abbrev Bk_w_keep (s : BkT) (v : Int32) : BkT := (s.1, s.2.1, s.2.2.1, s.2.2.2.1, s.2.2.2.2.1, s.2.2.2.2.2.1, s.2.2.2.2.2.2.1, v, s.2.2.2.2.2.2.2.2.1, s.2.2.2.2.2.2.2.2.2.1, s.2.2.2.2.2.2.2.2.2.2.1, s.2.2.2.2.2.2.2.2.2.2.2)
abbrev Bk_w_late (s : BkT) (v : Int32) : BkT := (s.1, s.2.1, s.2.2.1, s.2.2.2.1, s.2.2.2.2.1, s.2.2.2.2.2.1, s.2.2.2.2.2.2.1, s.2.2.2.2.2.2.2.1, v, s.2.2.2.2.2.2.2.2.2.1, s.2.2.2.2.2.2.2.2.2.2.1, s.2.2.2.2.2.2.2.2.2.2.2)
abbrev Bk_w_clock (s : BkT) (v : Int32) : BkT := (s.1, s.2.1, s.2.2.1, s.2.2.2.1, s.2.2.2.2.1, s.2.2.2.2.2.1, s.2.2.2.2.2.2.1, s.2.2.2.2.2.2.2.1, s.2.2.2.2.2.2.2.2.1, v, s.2.2.2.2.2.2.2.2.2.2.1, s.2.2.2.2.2.2.2.2.2.2.2)
abbrev Bk_w_tooLate (s : BkT) (v : Int32) : BkT := (s.1, s.2.1, s.2.2.1, s.2.2.2.1, s.2.2.2.2.1, s.2.2.2.2.2.1, s.2.2.2.2.2.2.1, s.2.2.2.2.2.2.2.1, s.2.2.2.2.2.2.2.2.1, s.2.2.2.2.2.2.2.2.2.1, v, s.2.2.2.2.2.2.2.2.2.2.2)
abbrev Bk_w_lapsed (s : BkT) (v : Int32) : BkT := (s.1, s.2.1, s.2.2.1, s.2.2.2.1, s.2.2.2.2.1, s.2.2.2.2.2.1, s.2.2.2.2.2.2.1, s.2.2.2.2.2.2.2.1, s.2.2.2.2.2.2.2.2.1, s.2.2.2.2.2.2.2.2.2.1, s.2.2.2.2.2.2.2.2.2.2.1, v)
abbrev Bk_c (g : GK) (a : Nat → Nat) (s : BkT) : va_W := [(a 0, .inr (2, [.ref (a 1), .ref (a 3), .ref (a 5), .ref (a 14), .ref (a 19), .ref (a 23), .ref (a 24), .int (Bk_keep s), .int (Bk_late s), .int (Bk_clock s), .int (Bk_tooLate s), .int (Bk_lapsed s)])), (a 1, .inr (8, [.ref (a 2), .int (Wd_count (Bk_keys s))])), (a 2, .inl (g.2.2.1, 8, .inr (.inl (Wd_packs (Bk_keys s))))), (a 3, .inr (8, [.ref (a 4), .int (Wd_count (Bk_values s))])), (a 4, .inl (g.2.2.1, 8, .inr (.inl (Wd_packs (Bk_values s))))), (a 5, .inr (1, [.ref (a 6), .ref (a 7), .ref (a 8), .ref (a 9), .int (Bd_how (Bk_board s))])), (a 6, .inl (g.2.1, 128, .inl (Bd_nets (Bk_board s)))), (a 7, .inl (g.2.1, 648, .inl (Bd_sums (Bk_board s)))), (a 8, .inl (g.2.1, 16, .inl (Bd_turns (Bk_board s)))), (a 9, .inr (3, [.ref (a 10), .ref (a 11), .ref (a 12), .ref (a 13), .int (Lg_total (Bd_ledger (Bk_board s))), .int (Lg_came (Bd_ledger (Bk_board s))), .int (Lg_went (Bd_ledger (Bk_board s))), .int (Lg_acts (Bd_ledger (Bk_board s))), .int (Lg_inAct (Bd_ledger (Bk_board s))), .int (Lg_most (Bd_ledger (Bk_board s))), .int (Lg_actOfMost (Bd_ledger (Bk_board s)))])), (a 10, .inl (g.2.1, 60, .inl (Lg_places (Bd_ledger (Bk_board s))))), (a 11, .inl (g.2.1, 60, .inl (Lg_amounts (Bd_ledger (Bk_board s))))), (a 12, .inl (g.2.1, 60, .inl (Lg_numbers (Bd_ledger (Bk_board s))))), (a 13, .inl (g.2.1, 8, .inl (Lg_byKey (Bd_ledger (Bk_board s))))), (a 14, .inr (5, [.ref (a 15), .ref (a 16), .ref (a 17), .ref (a 18), .int (St_count (Bk_store s))])), (a 15, .inl (g.2.1, 60, .inl (St_sides (Bk_store s)))), (a 16, .inl (g.2.1, 60, .inl (St_keys (Bk_store s)))), (a 17, .inl (g.2.1, 60, .inl (St_values (Bk_store s)))), (a 18, .inl (g.2.1, 60, .inl (St_manies (Bk_store s)))), (a 19, .inr (6, [.ref (a 20), .ref (a 21), .ref (a 22)])), (a 20, .inl (g.2.1, 4, .inl (Sb_seen (Bk_subscribers s)))), (a 21, .inl (g.2.1, 2592, .inl (Sb_holds (Bk_subscribers s)))), (a 22, .inl (g.2.1, 2592, .inl (Sb_differences (Bk_subscribers s)))), (a 23, .inl (g.2.1, 8, .inl (Bk_latest s))), (a 24, .inl (g.2.1, 8, .inl (Bk_lapses s)))]
theorem km_X1_94 : Cond.methodLink RX1 94 arraycopyName ∈ TBL := tb (in5 (List.mem_of_getElem? (i := 164) (by decide +kernel))) (by decide +kernel)
theorem km_X1_124 : Cond.methodLink RX1 124 Lib.Math.max.name ∈ TBL := tb (in3 (List.mem_of_getElem? (i := 40) (by decide +kernel))) (by decide +kernel)
theorem dX1_lives_0 : decode cX1_lives 0 = .ok (.aload_n 0, 1) := by decide +kernel
theorem dX1_lives_1 : decode cX1_lives 1 = .ok (.getfield 42, 3) := by decide +kernel
theorem dX1_lives_4 : decode cX1_lives 4 = .ok (.iload_n 1, 1) := by decide +kernel
theorem dX1_lives_5 : decode cX1_lives 5 = .ok (.iaload, 1) := by decide +kernel
theorem dX1_lives_6 : decode cX1_lives 6 = .ok (.bipush (-2), 2) := by decide +kernel
theorem dX1_lives_8 : decode cX1_lives 8 = .ok (.if_icmp .eq 7, 3) := by decide +kernel
theorem dX1_lives_11 : decode cX1_lives 11 = .ok (.iconst 1, 1) := by decide +kernel
theorem dX1_lives_12 : decode cX1_lives 12 = .ok (.goto 4, 3) := by decide +kernel
theorem dX1_lives_15 : decode cX1_lives 15 = .ok (.iconst 0, 1) := by decide +kernel
theorem dX1_lives_16 : decode cX1_lives 16 = .ok (.ireturn, 1) := by decide +kernel
def f_X1_lives (s0 : BkT) (p1 : Int32) : Option (Int32) :=
  if inb p1 8 then if ((Bk_latest s0) (ix p1)) = (-2 : Int32) then some ((0 : Int32))
  else some ((1 : Int32)) else none
abbrev rm_X1_lives : Room := { frames := 0, cells := 0, slots := 0, locals := 0 }
set_option maxHeartbeats 4000000 in
set_option maxRecDepth 100000 in
theorem c_X1_lives (l : Launch) (g : GK) (a0 : Nat → Nat) (s0 : BkT) (p1 : Int32) (res : (Int32)) (hf : f_X1_lives s0 p1 = some res) : gR l yX1_lives cX1_lives 2 (some .boolean) rm_X1_lives g [.ref (a0 0), .int p1] (Bk_c g a0 s0) (some (.int res)) := by
  refine gR_introZ RX1 (by decide) rfl (Nat.le_of_ble_eq_true rfl) (fun p e s m args below meth c Q H locs ls hE hP hZ hS hq hl => ?_)
  have hl : lv_has ls 2 [(0, .ref (a0 0)), (1, .int p1)] := hl
  have hx := hE.1
  have hb := hE.2.1
  rw [f_X1_lives] at hf
  refine lv_aload_n hx hb dX1_lives_0 rfl (lv_at hl 0 rfl) ?_
  refine g_get hE okX1 fl_X1_42 hP 0 rfl (v := .ref (a0 23)) rfl dX1_lives_1 ?_
  refine lv_iload_n hx hb dX1_lives_4 rfl (lv_at hl 1 rfl) ?_
  obtain ⟨hg1, hf⟩ := ggd hf
  refine g_iald hE hP 23 (f := (Bk_latest s0)) rfl hg1 dX1_lives_5 ?_
  refine lv_bipush hx hb dX1_lives_6 kcb_m2 ?_
  refine lv_icmp_eq hx hb dX1_lives_8 (tgt := 15) rfl (fun h2 => ?_) (fun h2 => ?_)
  · have hf := gif_t h2 hf
    refine lv_iconst hx hb dX1_lives_15 kci_0 ?_
    cases hf
    exact hq (by decide) rfl dX1_lives_16
  · have hf := gif_f h2 hf
    refine lv_iconst hx hb dX1_lives_11 kci_1 ?_
    refine lv_goto hx hb dX1_lives_12 (tgt := 16) rfl ?_
    cases hf
    exact hq (by decide) rfl dX1_lives_16
theorem dX1_lapsesAt_0 : decode cX1_lapsesAt 0 = .ok (.aload_n 0, 1) := by decide +kernel
theorem dX1_lapsesAt_1 : decode cX1_lapsesAt 1 = .ok (.iload_n 1, 1) := by decide +kernel
theorem dX1_lapsesAt_2 : decode cX1_lapsesAt 2 = .ok (.invokevirtual 100, 3) := by decide +kernel
theorem dX1_lapsesAt_5 : decode cX1_lapsesAt 5 = .ok (.ifCond .eq 22, 3) := by decide +kernel
theorem dX1_lapsesAt_8 : decode cX1_lapsesAt 8 = .ok (.aload_n 0, 1) := by decide +kernel
theorem dX1_lapsesAt_9 : decode cX1_lapsesAt 9 = .ok (.getfield 42, 3) := by decide +kernel
theorem dX1_lapsesAt_12 : decode cX1_lapsesAt 12 = .ok (.iload_n 1, 1) := by decide +kernel
theorem dX1_lapsesAt_13 : decode cX1_lapsesAt 13 = .ok (.iaload, 1) := by decide +kernel
theorem dX1_lapsesAt_14 : decode cX1_lapsesAt 14 = .ok (.aload_n 0, 1) := by decide +kernel
theorem dX1_lapsesAt_15 : decode cX1_lapsesAt 15 = .ok (.getfield 49, 3) := by decide +kernel
theorem dX1_lapsesAt_18 : decode cX1_lapsesAt 18 = .ok (.iadd, 1) := by decide +kernel
theorem dX1_lapsesAt_19 : decode cX1_lapsesAt 19 = .ok (.iload_n 2, 1) := by decide +kernel
theorem dX1_lapsesAt_20 : decode cX1_lapsesAt 20 = .ok (.if_icmp .ge 7, 3) := by decide +kernel
theorem dX1_lapsesAt_23 : decode cX1_lapsesAt 23 = .ok (.iconst 1, 1) := by decide +kernel
theorem dX1_lapsesAt_24 : decode cX1_lapsesAt 24 = .ok (.goto 4, 3) := by decide +kernel
theorem dX1_lapsesAt_27 : decode cX1_lapsesAt 27 = .ok (.iconst 0, 1) := by decide +kernel
theorem dX1_lapsesAt_28 : decode cX1_lapsesAt 28 = .ok (.ireturn, 1) := by decide +kernel
def f_X1_lapsesAt (s0 : BkT) (p1 : Int32) (p2 : Int32) : Option (Int32) :=
  (f_X1_lives s0 p1).bind fun r1 =>
  if r1 = 0 then some ((0 : Int32))
  else if inb p1 8 then if p2 ≤ (((Bk_latest s0) (ix p1)) + (Bk_keep s0)) then some ((0 : Int32))
  else some ((1 : Int32)) else none
abbrev rm_X1_lapsesAt : Room := { frames := 1, cells := 0, slots := 0, locals := 21 }
set_option maxHeartbeats 4000000 in
set_option maxRecDepth 100000 in
theorem c_X1_lapsesAt (l : Launch) (g : GK) (a0 : Nat → Nat) (s0 : BkT) (p1 : Int32) (p2 : Int32) (res : (Int32)) (hf : f_X1_lapsesAt s0 p1 p2 = some res) : gR l yX1_lapsesAt cX1_lapsesAt 3 (some .boolean) rm_X1_lapsesAt g [.ref (a0 0), .int p1, .int p2] (Bk_c g a0 s0) (some (.int res)) := by
  refine gR_introZ RX1 (by decide) rfl (Nat.le_of_ble_eq_true rfl) (fun p e s m args below meth c Q H locs ls hE hP hZ hS hq hl => ?_)
  have hl : lv_has ls 3 [(0, .ref (a0 0)), (1, .int p1), (2, .int p2)] := hl
  have hx := hE.1
  have hb := hE.2.1
  rw [f_X1_lapsesAt] at hf
  refine lv_aload_n hx hb dX1_lapsesAt_0 rfl (lv_at hl 0 rfl) ?_
  refine lv_iload_n hx hb dX1_lapsesAt_1 rfl (lv_at hl 1 rfl) ?_
  obtain ⟨r1, hc2, hf⟩ := gbd hf
  refine gr_callV (As := [.int p1]) (rest := []) (st1 := [.int r1]) hE hl.1 ml_X1_100 (c_X1_lives l g a0 s0 p1 r1 hc2) hZ hS hP [(0, 25)] rfl okX1 rfl rfl rfl rfl ⟨rfl, rfl⟩ ⟨Nat.le_of_ble_eq_true rfl, Nat.le_of_ble_eq_true rfl⟩ ⟨Nat.le_refl _, Nat.le_refl _⟩ (Nat.le_of_ble_eq_true rfl) dX1_lapsesAt_2 ?_
  refine lv_if_eq hx hb dX1_lapsesAt_5 (tgt := 27) rfl (fun h3 => ?_) (fun h3 => ?_)
  · have hf := gif_t h3 hf
    refine lv_iconst hx hb dX1_lapsesAt_27 kci_0 ?_
    cases hf
    exact hq (by decide) rfl dX1_lapsesAt_28
  · have hf := gif_f h3 hf
    refine lv_aload_n hx hb dX1_lapsesAt_8 rfl (lv_at hl 0 rfl) ?_
    refine g_get hE okX1 fl_X1_42 hP 0 rfl (v := .ref (a0 23)) rfl dX1_lapsesAt_9 ?_
    refine lv_iload_n hx hb dX1_lapsesAt_12 rfl (lv_at hl 1 rfl) ?_
    obtain ⟨hg4, hf⟩ := ggd hf
    refine g_iald hE hP 23 (f := (Bk_latest s0)) rfl hg4 dX1_lapsesAt_13 ?_
    refine lv_aload_n hx hb dX1_lapsesAt_14 rfl (lv_at hl 0 rfl) ?_
    refine g_get hE okX1 fl_X1_49 hP 0 rfl (v := .int (Bk_keep s0)) rfl dX1_lapsesAt_15 ?_
    refine lv_iadd hx hb dX1_lapsesAt_18 ?_
    refine lv_iload_n hx hb dX1_lapsesAt_19 rfl (lv_at hl 2 rfl) ?_
    refine lv_icmp_ge hx hb dX1_lapsesAt_20 (tgt := 27) rfl (fun h5 => ?_) (fun h5 => ?_)
    · have hf := gif_t h5 hf
      refine lv_iconst hx hb dX1_lapsesAt_27 kci_0 ?_
      cases hf
      exact hq (by decide) rfl dX1_lapsesAt_28
    · have hf := gif_f h5 hf
      refine lv_iconst hx hb dX1_lapsesAt_23 kci_1 ?_
      refine lv_goto hx hb dX1_lapsesAt_24 (tgt := 28) rfl ?_
      cases hf
      exact hq (by decide) rfl dX1_lapsesAt_28
theorem dX1_isTooLate_0 : decode cX1_isTooLate 0 = .ok (.iload_n 1, 1) := by decide +kernel
theorem dX1_isTooLate_1 : decode cX1_isTooLate 1 = .ok (.aload_n 0, 1) := by decide +kernel
theorem dX1_isTooLate_2 : decode cX1_isTooLate 2 = .ok (.getfield 56, 3) := by decide +kernel
theorem dX1_isTooLate_5 : decode cX1_isTooLate 5 = .ok (.aload_n 0, 1) := by decide +kernel
theorem dX1_isTooLate_6 : decode cX1_isTooLate 6 = .ok (.getfield 53, 3) := by decide +kernel
theorem dX1_isTooLate_9 : decode cX1_isTooLate 9 = .ok (.isub, 1) := by decide +kernel
theorem dX1_isTooLate_10 : decode cX1_isTooLate 10 = .ok (.if_icmp .ge 7, 3) := by decide +kernel
theorem dX1_isTooLate_13 : decode cX1_isTooLate 13 = .ok (.iconst 1, 1) := by decide +kernel
theorem dX1_isTooLate_14 : decode cX1_isTooLate 14 = .ok (.goto 4, 3) := by decide +kernel
theorem dX1_isTooLate_17 : decode cX1_isTooLate 17 = .ok (.iconst 0, 1) := by decide +kernel
theorem dX1_isTooLate_18 : decode cX1_isTooLate 18 = .ok (.ireturn, 1) := by decide +kernel
def f_X1_isTooLate (s0 : BkT) (p1 : Int32) : Option (Int32) :=
  if ((Bk_clock s0) - (Bk_late s0)) ≤ p1 then some ((0 : Int32))
  else some ((1 : Int32))
abbrev rm_X1_isTooLate : Room := { frames := 0, cells := 0, slots := 0, locals := 0 }
set_option maxHeartbeats 4000000 in
set_option maxRecDepth 100000 in
theorem c_X1_isTooLate (l : Launch) (g : GK) (a0 : Nat → Nat) (s0 : BkT) (p1 : Int32) (res : (Int32)) (hf : f_X1_isTooLate s0 p1 = some res) : gR l yX1_isTooLate cX1_isTooLate 2 (some .boolean) rm_X1_isTooLate g [.ref (a0 0), .int p1] (Bk_c g a0 s0) (some (.int res)) := by
  refine gR_introZ RX1 (by decide) rfl (Nat.le_of_ble_eq_true rfl) (fun p e s m args below meth c Q H locs ls hE hP hZ hS hq hl => ?_)
  have hl : lv_has ls 2 [(0, .ref (a0 0)), (1, .int p1)] := hl
  have hx := hE.1
  have hb := hE.2.1
  rw [f_X1_isTooLate] at hf
  refine lv_iload_n hx hb dX1_isTooLate_0 rfl (lv_at hl 1 rfl) ?_
  refine lv_aload_n hx hb dX1_isTooLate_1 rfl (lv_at hl 0 rfl) ?_
  refine g_get hE okX1 fl_X1_56 hP 0 rfl (v := .int (Bk_clock s0)) rfl dX1_isTooLate_2 ?_
  refine lv_aload_n hx hb dX1_isTooLate_5 rfl (lv_at hl 0 rfl) ?_
  refine g_get hE okX1 fl_X1_53 hP 0 rfl (v := .int (Bk_late s0)) rfl dX1_isTooLate_6 ?_
  refine lv_isub hx hb dX1_isTooLate_9 ?_
  refine lv_icmp_ge hx hb dX1_isTooLate_10 (tgt := 17) rfl (fun h1 => ?_) (fun h1 => ?_)
  · have hf := gif_t h1 hf
    refine lv_iconst hx hb dX1_isTooLate_17 kci_0 ?_
    cases hf
    exact hq (by decide) rfl dX1_isTooLate_18
  · have hf := gif_f h1 hf
    refine lv_iconst hx hb dX1_isTooLate_13 kci_1 ?_
    refine lv_goto hx hb dX1_isTooLate_14 (tgt := 18) rfl ?_
    cases hf
    exact hq (by decide) rfl dX1_isTooLate_18
theorem dX1_countLiving_0 : decode cX1_countLiving 0 = .ok (.iconst 0, 1) := by decide +kernel
theorem dX1_countLiving_1 : decode cX1_countLiving 1 = .ok (.istore_n 1, 1) := by decide +kernel
theorem dX1_countLiving_2 : decode cX1_countLiving 2 = .ok (.iconst 0, 1) := by decide +kernel
theorem dX1_countLiving_3 : decode cX1_countLiving 3 = .ok (.istore_n 2, 1) := by decide +kernel
theorem dX1_countLiving_4 : decode cX1_countLiving 4 = .ok (.iload_n 2, 1) := by decide +kernel
theorem dX1_countLiving_5 : decode cX1_countLiving 5 = .ok (.bipush 8, 2) := by decide +kernel
theorem dX1_countLiving_7 : decode cX1_countLiving 7 = .ok (.if_icmp .ge 20, 3) := by decide +kernel
theorem dX1_countLiving_10 : decode cX1_countLiving 10 = .ok (.aload_n 0, 1) := by decide +kernel
theorem dX1_countLiving_11 : decode cX1_countLiving 11 = .ok (.iload_n 2, 1) := by decide +kernel
theorem dX1_countLiving_12 : decode cX1_countLiving 12 = .ok (.invokevirtual 100, 3) := by decide +kernel
theorem dX1_countLiving_15 : decode cX1_countLiving 15 = .ok (.ifCond .eq 6, 3) := by decide +kernel
theorem dX1_countLiving_18 : decode cX1_countLiving 18 = .ok (.iinc 1 1, 3) := by decide +kernel
theorem dX1_countLiving_21 : decode cX1_countLiving 21 = .ok (.iinc 2 1, 3) := by decide +kernel
theorem dX1_countLiving_24 : decode cX1_countLiving 24 = .ok (.goto (-20), 3) := by decide +kernel
theorem dX1_countLiving_27 : decode cX1_countLiving 27 = .ok (.iload_n 1, 1) := by decide +kernel
theorem dX1_countLiving_28 : decode cX1_countLiving 28 = .ok (.ireturn, 1) := by decide +kernel
def f_X1_countLiving_L4_5 (s0 : BkT) (K1 : (Int32 → Option (Int32))) : Nat → Int32 → Int32 → Option (Int32)
  | 0, _, _ => none
  | n6 + 1, x1_3, x2_4 => if (8 : Int32) ≤ x2_4 then K1 x1_3
  else (f_X1_lives s0 x2_4).bind fun r8 =>
  if r8 = 0 then f_X1_countLiving_L4_5 s0 K1 n6 x1_3 (x2_4 + (1 : Int32))
  else f_X1_countLiving_L4_5 s0 K1 n6 (x1_3 + (1 : Int32)) (x2_4 + (1 : Int32))
def f_X1_countLiving (s0 : BkT) : Option (Int32) :=
  glt (fun (x1_2 : Int32) => some (x1_2)) fun K1 =>
  f_X1_countLiving_L4_5 s0 K1 10000 (0 : Int32) (0 : Int32)
abbrev rm_X1_countLiving : Room := { frames := 1, cells := 0, slots := 0, locals := 21 }
set_option maxHeartbeats 4000000 in
set_option maxRecDepth 100000 in
theorem c_X1_countLiving (l : Launch) (g : GK) (a0 : Nat → Nat) (s0 : BkT) (res : (Int32)) (hf : f_X1_countLiving s0 = some res) : gR l yX1_countLiving cX1_countLiving 3 (some .int) rm_X1_countLiving g [.ref (a0 0)] (Bk_c g a0 s0) (some (.int res)) := by
  refine gR_introI RX1 (by decide) rfl (Nat.le_of_ble_eq_true rfl) (fun p e s m args below meth c Q H locs ls hE hP hZ hS hq hl => ?_)
  have hl : lv_has ls 3 [(0, .ref (a0 0))] := hl
  have hx := hE.1
  have hb := hE.2.1
  rw [f_X1_countLiving] at hf
  refine lv_iconst hx hb dX1_countLiving_0 kci_0 ?_
  refine lv_istore_n hx hb dX1_countLiving_1 rfl hl (by decide) (lv' := [(1, .int (0 : Int32)), (0, .ref (a0 0))]) rfl (fun ls hl => ?_)
  refine lv_iconst hx hb dX1_countLiving_2 kci_0 ?_
  refine lv_istore_n hx hb dX1_countLiving_3 rfl hl (by decide) (lv' := [(2, .int (0 : Int32)), (1, .int (0 : Int32)), (0, .ref (a0 0))]) rfl (fun ls hl => ?_)
  obtain ⟨K1, eK1, hf⟩ := gltd hf
  have kK1 : ∀ (x1_2 : Int32) (ls : Array Slot), K1 x1_2 = some res → lv_has ls 3 [(1, .int x1_2)] → W p l e rm_X1_countLiving s m args below meth c H locs 0 0 Q (F0 m 27 ls []) := by
    intro x1_2 ls hf hl
    rw [eK1] at hf
    refine lv_iload_n hx hb dX1_countLiving_27 rfl (lv_at hl 0 rfl) ?_
    cases hf
    exact hq rfl dX1_countLiving_28
  have lpn6 : ∀ (n6 : Nat) (x1_3 : Int32) (x2_4 : Int32) (ls : Array Slot), f_X1_countLiving_L4_5 s0 K1 n6 x1_3 x2_4 = some res → lv_has ls 3 [(0, .ref (a0 0)), (1, .int x1_3), (2, .int x2_4)] → W p l e rm_X1_countLiving s m args below meth c H locs 0 0 Q (F0 m 4 ls []) := by
    intro n6
    induction n6 with
    | zero => intro x1_3 x2_4 ls hf hl; rw [f_X1_countLiving_L4_5] at hf; cases hf
    | succ n6 ihn6 =>
      intro x1_3 x2_4 ls hf hl
      rw [f_X1_countLiving_L4_5] at hf
      refine lv_iload_n hx hb dX1_countLiving_4 rfl (lv_at hl 2 rfl) ?_
      refine lv_bipush hx hb dX1_countLiving_5 kcb_8 ?_
      refine lv_icmp_ge hx hb dX1_countLiving_7 (tgt := 27) rfl (fun h7 => ?_) (fun h7 => ?_)
      · have hf := gif_t h7 hf
        exact kK1 x1_3 ls hf (lv_sub hl [1] rfl)
      · have hf := gif_f h7 hf
        refine lv_aload_n hx hb dX1_countLiving_10 rfl (lv_at hl 0 rfl) ?_
        refine lv_iload_n hx hb dX1_countLiving_11 rfl (lv_at hl 2 rfl) ?_
        obtain ⟨r8, hc9, hf⟩ := gbd hf
        refine gr_callV (As := [.int x2_4]) (rest := []) (st1 := [.int r8]) hE hl.1 ml_X1_100 (c_X1_lives l g a0 s0 x2_4 r8 hc9) hZ hS hP [(0, 25)] rfl okX1 rfl rfl rfl rfl ⟨rfl, rfl⟩ ⟨Nat.le_of_ble_eq_true rfl, Nat.le_of_ble_eq_true rfl⟩ ⟨Nat.le_refl _, Nat.le_refl _⟩ (Nat.le_of_ble_eq_true rfl) dX1_countLiving_12 ?_
        refine lv_if_eq hx hb dX1_countLiving_15 (tgt := 21) rfl (fun h10 => ?_) (fun h10 => ?_)
        · have hf := gif_t h10 hf
          refine lv_iinc hx hb dX1_countLiving_21 hl (k := 2) (x := x2_4) rfl (kinc_1 _) (by decide) (lv' := [(2, .int (x2_4 + (1 : Int32))), (0, .ref (a0 0)), (1, .int x1_3)]) rfl (fun ls hl => ?_)
          refine lv_goto hx hb dX1_countLiving_24 (tgt := 4) rfl ?_
          exact ihn6 x1_3 (x2_4 + (1 : Int32)) ls hf (lv_sub hl [1, 2, 0] rfl)
        · have hf := gif_f h10 hf
          refine lv_iinc hx hb dX1_countLiving_18 hl (k := 1) (x := x1_3) rfl (kinc_1 _) (by decide) (lv' := [(1, .int (x1_3 + (1 : Int32))), (0, .ref (a0 0)), (2, .int x2_4)]) rfl (fun ls hl => ?_)
          refine lv_iinc hx hb dX1_countLiving_21 hl (k := 2) (x := x2_4) rfl (kinc_1 _) (by decide) (lv' := [(2, .int (x2_4 + (1 : Int32))), (1, .int (x1_3 + (1 : Int32))), (0, .ref (a0 0))]) rfl (fun ls hl => ?_)
          refine lv_goto hx hb dX1_countLiving_24 (tgt := 4) rfl ?_
          exact ihn6 (x1_3 + (1 : Int32)) (x2_4 + (1 : Int32)) ls hf (lv_sub hl [2, 1, 0] rfl)
  exact lpn6 10000 (0 : Int32) (0 : Int32) ls hf (lv_sub hl [2, 1, 0] rfl)
theorem dX1_told_0 : decode cX1_told 0 = .ok (.iload_n 1, 1) := by decide +kernel
theorem dX1_told_1 : decode cX1_told 1 = .ok (.tableswitch 111 0 8 #[51, 59, 64, 69, 77, 85, 90, 95, 106], 51) := by decide +kernel
theorem dX1_told_52 : decode cX1_told 52 = .ok (.aload_n 0, 1) := by decide +kernel
theorem dX1_told_53 : decode cX1_told 53 = .ok (.getfield 24, 3) := by decide +kernel
theorem dX1_told_56 : decode cX1_told 56 = .ok (.getfield 147, 3) := by decide +kernel
theorem dX1_told_59 : decode cX1_told 59 = .ok (.ireturn, 1) := by decide +kernel
theorem dX1_told_60 : decode cX1_told 60 = .ok (.aload_n 0, 1) := by decide +kernel
theorem dX1_told_61 : decode cX1_told 61 = .ok (.getfield 49, 3) := by decide +kernel
theorem dX1_told_64 : decode cX1_told 64 = .ok (.ireturn, 1) := by decide +kernel
theorem dX1_told_65 : decode cX1_told 65 = .ok (.aload_n 0, 1) := by decide +kernel
theorem dX1_told_66 : decode cX1_told 66 = .ok (.getfield 53, 3) := by decide +kernel
theorem dX1_told_69 : decode cX1_told 69 = .ok (.ireturn, 1) := by decide +kernel
theorem dX1_told_70 : decode cX1_told 70 = .ok (.aload_n 0, 1) := by decide +kernel
theorem dX1_told_71 : decode cX1_told 71 = .ok (.getfield 12, 3) := by decide +kernel
theorem dX1_told_74 : decode cX1_told 74 = .ok (.getfield 150, 3) := by decide +kernel
theorem dX1_told_77 : decode cX1_told 77 = .ok (.ireturn, 1) := by decide +kernel
theorem dX1_told_78 : decode cX1_told 78 = .ok (.aload_n 0, 1) := by decide +kernel
theorem dX1_told_79 : decode cX1_told 79 = .ok (.getfield 18, 3) := by decide +kernel
theorem dX1_told_82 : decode cX1_told 82 = .ok (.getfield 150, 3) := by decide +kernel
theorem dX1_told_85 : decode cX1_told 85 = .ok (.ireturn, 1) := by decide +kernel
theorem dX1_told_86 : decode cX1_told 86 = .ok (.aload_n 0, 1) := by decide +kernel
theorem dX1_told_87 : decode cX1_told 87 = .ok (.getfield 56, 3) := by decide +kernel
theorem dX1_told_90 : decode cX1_told 90 = .ok (.ireturn, 1) := by decide +kernel
theorem dX1_told_91 : decode cX1_told 91 = .ok (.aload_n 0, 1) := by decide +kernel
theorem dX1_told_92 : decode cX1_told 92 = .ok (.invokevirtual 151, 3) := by decide +kernel
theorem dX1_told_95 : decode cX1_told 95 = .ok (.ireturn, 1) := by decide +kernel
theorem dX1_told_96 : decode cX1_told 96 = .ok (.aload_n 0, 1) := by decide +kernel
theorem dX1_told_97 : decode cX1_told 97 = .ok (.getfield 24, 3) := by decide +kernel
theorem dX1_told_100 : decode cX1_told 100 = .ok (.getfield 111, 3) := by decide +kernel
theorem dX1_told_103 : decode cX1_told 103 = .ok (.getfield 155, 3) := by decide +kernel
theorem dX1_told_106 : decode cX1_told 106 = .ok (.ireturn, 1) := by decide +kernel
theorem dX1_told_107 : decode cX1_told 107 = .ok (.aload_n 0, 1) := by decide +kernel
theorem dX1_told_108 : decode cX1_told 108 = .ok (.getfield 59, 3) := by decide +kernel
theorem dX1_told_111 : decode cX1_told 111 = .ok (.ireturn, 1) := by decide +kernel
theorem dX1_told_112 : decode cX1_told 112 = .ok (.aload_n 0, 1) := by decide +kernel
theorem dX1_told_113 : decode cX1_told 113 = .ok (.getfield 62, 3) := by decide +kernel
theorem dX1_told_116 : decode cX1_told 116 = .ok (.ireturn, 1) := by decide +kernel
def f_X1_told (s0 : BkT) (p1 : Int32) : Option (Int32) :=
  if p1 = (0 : Int32) then some ((Bd_how (Bk_board s0)))
  else if p1 = (1 : Int32) then some ((Bk_keep s0))
  else if p1 = (2 : Int32) then some ((Bk_late s0))
  else if p1 = (3 : Int32) then some ((Wd_count (Bk_keys s0)))
  else if p1 = (4 : Int32) then some ((Wd_count (Bk_values s0)))
  else if p1 = (5 : Int32) then some ((Bk_clock s0))
  else if p1 = (6 : Int32) then (f_X1_countLiving s0).bind fun r8 =>
  some (r8)
  else if p1 = (7 : Int32) then some ((Lg_acts (Bd_ledger (Bk_board s0))))
  else if p1 = (8 : Int32) then some ((Bk_tooLate s0))
  else some ((Bk_lapsed s0))
abbrev rm_X1_told : Room := { frames := 2, cells := 0, slots := 0, locals := 43 }
set_option maxHeartbeats 4000000 in
set_option maxRecDepth 100000 in
theorem c_X1_told (l : Launch) (g : GK) (a0 : Nat → Nat) (s0 : BkT) (p1 : Int32) (res : (Int32)) (hf : f_X1_told s0 p1 = some res) : gR l yX1_told cX1_told 2 (some .int) rm_X1_told g [.ref (a0 0), .int p1] (Bk_c g a0 s0) (some (.int res)) := by
  refine gR_introI RX1 (by decide) rfl (Nat.le_of_ble_eq_true rfl) (fun p e s m args below meth c Q H locs ls hE hP hZ hS hq hl => ?_)
  have hl : lv_has ls 2 [(0, .ref (a0 0)), (1, .int p1)] := hl
  have hx := hE.1
  have hb := hE.2.1
  rw [f_X1_told] at hf
  refine lv_iload_n hx hb dX1_told_0 rfl (lv_at hl 1 rfl) ?_
  by_cases h1 : p1 = (0 : Int32)
  · have hf := gif_t h1 hf
    refine g_swIn hE h1 dX1_told_1 (0) ⟨by decide, by decide⟩ (by decide) (off := 51) rfl (tgt := 52) rfl ?_
    refine lv_aload_n hx hb dX1_told_52 rfl (lv_at hl 0 rfl) ?_
    refine g_get hE okX1 fl_X1_24 hP 0 rfl (v := .ref (a0 5)) rfl dX1_told_53 ?_
    refine g_get hE okX0 fl_X1_147 hP 5 rfl (v := .int (Bd_how (Bk_board s0))) rfl dX1_told_56 ?_
    cases hf
    exact hq rfl dX1_told_59
  have hf := gif_f h1 hf
  by_cases h2 : p1 = (1 : Int32)
  · have hf := gif_t h2 hf
    refine g_swIn hE h2 dX1_told_1 (1) ⟨by decide, by decide⟩ (by decide) (off := 59) rfl (tgt := 60) rfl ?_
    refine lv_aload_n hx hb dX1_told_60 rfl (lv_at hl 0 rfl) ?_
    refine g_get hE okX1 fl_X1_49 hP 0 rfl (v := .int (Bk_keep s0)) rfl dX1_told_61 ?_
    cases hf
    exact hq rfl dX1_told_64
  have hf := gif_f h2 hf
  by_cases h3 : p1 = (2 : Int32)
  · have hf := gif_t h3 hf
    refine g_swIn hE h3 dX1_told_1 (2) ⟨by decide, by decide⟩ (by decide) (off := 64) rfl (tgt := 65) rfl ?_
    refine lv_aload_n hx hb dX1_told_65 rfl (lv_at hl 0 rfl) ?_
    refine g_get hE okX1 fl_X1_53 hP 0 rfl (v := .int (Bk_late s0)) rfl dX1_told_66 ?_
    cases hf
    exact hq rfl dX1_told_69
  have hf := gif_f h3 hf
  by_cases h4 : p1 = (3 : Int32)
  · have hf := gif_t h4 hf
    refine g_swIn hE h4 dX1_told_1 (3) ⟨by decide, by decide⟩ (by decide) (off := 69) rfl (tgt := 70) rfl ?_
    refine lv_aload_n hx hb dX1_told_70 rfl (lv_at hl 0 rfl) ?_
    refine g_get hE okX1 fl_X1_12 hP 0 rfl (v := .ref (a0 1)) rfl dX1_told_71 ?_
    refine g_get hE okX7 fl_X1_150 hP 1 rfl (v := .int (Wd_count (Bk_keys s0))) rfl dX1_told_74 ?_
    cases hf
    exact hq rfl dX1_told_77
  have hf := gif_f h4 hf
  by_cases h5 : p1 = (4 : Int32)
  · have hf := gif_t h5 hf
    refine g_swIn hE h5 dX1_told_1 (4) ⟨by decide, by decide⟩ (by decide) (off := 77) rfl (tgt := 78) rfl ?_
    refine lv_aload_n hx hb dX1_told_78 rfl (lv_at hl 0 rfl) ?_
    refine g_get hE okX1 fl_X1_18 hP 0 rfl (v := .ref (a0 3)) rfl dX1_told_79 ?_
    refine g_get hE okX7 fl_X1_150 hP 3 rfl (v := .int (Wd_count (Bk_values s0))) rfl dX1_told_82 ?_
    cases hf
    exact hq rfl dX1_told_85
  have hf := gif_f h5 hf
  by_cases h6 : p1 = (5 : Int32)
  · have hf := gif_t h6 hf
    refine g_swIn hE h6 dX1_told_1 (5) ⟨by decide, by decide⟩ (by decide) (off := 85) rfl (tgt := 86) rfl ?_
    refine lv_aload_n hx hb dX1_told_86 rfl (lv_at hl 0 rfl) ?_
    refine g_get hE okX1 fl_X1_56 hP 0 rfl (v := .int (Bk_clock s0)) rfl dX1_told_87 ?_
    cases hf
    exact hq rfl dX1_told_90
  have hf := gif_f h6 hf
  by_cases h7 : p1 = (6 : Int32)
  · have hf := gif_t h7 hf
    refine g_swIn hE h7 dX1_told_1 (6) ⟨by decide, by decide⟩ (by decide) (off := 90) rfl (tgt := 91) rfl ?_
    refine lv_aload_n hx hb dX1_told_91 rfl (lv_at hl 0 rfl) ?_
    obtain ⟨r8, hc9, hf⟩ := gbd hf
    refine gr_callV (As := []) (rest := []) (st1 := [.int r8]) hE hl.1 ml_X1_151 (c_X1_countLiving l g a0 s0 r8 hc9) hZ hS hP [(0, 25)] rfl okX1 rfl rfl rfl rfl ⟨rfl, rfl⟩ ⟨Nat.le_of_ble_eq_true rfl, Nat.le_of_ble_eq_true rfl⟩ ⟨Nat.le_refl _, Nat.le_refl _⟩ (Nat.le_of_ble_eq_true rfl) dX1_told_92 ?_
    cases hf
    exact hq rfl dX1_told_95
  have hf := gif_f h7 hf
  by_cases h10 : p1 = (7 : Int32)
  · have hf := gif_t h10 hf
    refine g_swIn hE h10 dX1_told_1 (7) ⟨by decide, by decide⟩ (by decide) (off := 95) rfl (tgt := 96) rfl ?_
    refine lv_aload_n hx hb dX1_told_96 rfl (lv_at hl 0 rfl) ?_
    refine g_get hE okX1 fl_X1_24 hP 0 rfl (v := .ref (a0 5)) rfl dX1_told_97 ?_
    refine g_get hE okX0 fl_X1_111 hP 5 rfl (v := .ref (a0 9)) rfl dX1_told_100 ?_
    refine g_get hE okX2 fl_X1_155 hP 9 rfl (v := .int (Lg_acts (Bd_ledger (Bk_board s0)))) rfl dX1_told_103 ?_
    cases hf
    exact hq rfl dX1_told_106
  have hf := gif_f h10 hf
  by_cases h11 : p1 = (8 : Int32)
  · have hf := gif_t h11 hf
    refine g_swIn hE h11 dX1_told_1 (8) ⟨by decide, by decide⟩ (by decide) (off := 106) rfl (tgt := 107) rfl ?_
    refine lv_aload_n hx hb dX1_told_107 rfl (lv_at hl 0 rfl) ?_
    refine g_get hE okX1 fl_X1_59 hP 0 rfl (v := .int (Bk_tooLate s0)) rfl dX1_told_108 ?_
    cases hf
    exact hq rfl dX1_told_111
  have hf := gif_f h11 hf
  refine lv_tableOut hx hb dX1_told_1 (by have := nti h1 (k := 0) (by decide); have := nti h2 (k := 1) (by decide); have := nti h3 (k := 2) (by decide); have := nti h4 (k := 3) (by decide); have := nti h5 (k := 4) (by decide); have := nti h6 (k := 5) (by decide); have := nti h7 (k := 6) (by decide); have := nti h10 (k := 7) (by decide); have := nti h11 (k := 8) (by decide); omega) (tgt := 112) rfl ?_
  refine lv_aload_n hx hb dX1_told_112 rfl (lv_at hl 0 rfl) ?_
  refine g_get hE okX1 fl_X1_62 hP 0 rfl (v := .int (Bk_lapsed s0)) rfl dX1_told_113 ?_
  cases hf
  exact hq rfl dX1_told_116
theorem dX1_toldOfKey_0 : decode cX1_toldOfKey 0 = .ok (.iload_n 2, 1) := by decide +kernel
theorem dX1_toldOfKey_1 : decode cX1_toldOfKey 1 = .ok (.tableswitch 86 0 3 #[31, 45, 52, 79], 31) := by decide +kernel
theorem dX1_toldOfKey_32 : decode cX1_toldOfKey 32 = .ok (.aload_n 0, 1) := by decide +kernel
theorem dX1_toldOfKey_33 : decode cX1_toldOfKey 33 = .ok (.iload_n 1, 1) := by decide +kernel
theorem dX1_toldOfKey_34 : decode cX1_toldOfKey 34 = .ok (.invokevirtual 100, 3) := by decide +kernel
theorem dX1_toldOfKey_37 : decode cX1_toldOfKey 37 = .ok (.ifCond .eq 7, 3) := by decide +kernel
theorem dX1_toldOfKey_40 : decode cX1_toldOfKey 40 = .ok (.iconst 1, 1) := by decide +kernel
theorem dX1_toldOfKey_41 : decode cX1_toldOfKey 41 = .ok (.goto 4, 3) := by decide +kernel
theorem dX1_toldOfKey_44 : decode cX1_toldOfKey 44 = .ok (.iconst 0, 1) := by decide +kernel
theorem dX1_toldOfKey_45 : decode cX1_toldOfKey 45 = .ok (.ireturn, 1) := by decide +kernel
theorem dX1_toldOfKey_46 : decode cX1_toldOfKey 46 = .ok (.aload_n 0, 1) := by decide +kernel
theorem dX1_toldOfKey_47 : decode cX1_toldOfKey 47 = .ok (.getfield 42, 3) := by decide +kernel
theorem dX1_toldOfKey_50 : decode cX1_toldOfKey 50 = .ok (.iload_n 1, 1) := by decide +kernel
theorem dX1_toldOfKey_51 : decode cX1_toldOfKey 51 = .ok (.iaload, 1) := by decide +kernel
theorem dX1_toldOfKey_52 : decode cX1_toldOfKey 52 = .ok (.ireturn, 1) := by decide +kernel
theorem dX1_toldOfKey_53 : decode cX1_toldOfKey 53 = .ok (.aload_n 0, 1) := by decide +kernel
theorem dX1_toldOfKey_54 : decode cX1_toldOfKey 54 = .ok (.iload_n 1, 1) := by decide +kernel
theorem dX1_toldOfKey_55 : decode cX1_toldOfKey 55 = .ok (.invokevirtual 100, 3) := by decide +kernel
theorem dX1_toldOfKey_58 : decode cX1_toldOfKey 58 = .ok (.ifCond .eq 19, 3) := by decide +kernel
theorem dX1_toldOfKey_61 : decode cX1_toldOfKey 61 = .ok (.aload_n 0, 1) := by decide +kernel
theorem dX1_toldOfKey_62 : decode cX1_toldOfKey 62 = .ok (.getfield 42, 3) := by decide +kernel
theorem dX1_toldOfKey_65 : decode cX1_toldOfKey 65 = .ok (.iload_n 1, 1) := by decide +kernel
theorem dX1_toldOfKey_66 : decode cX1_toldOfKey 66 = .ok (.iaload, 1) := by decide +kernel
theorem dX1_toldOfKey_67 : decode cX1_toldOfKey 67 = .ok (.aload_n 0, 1) := by decide +kernel
theorem dX1_toldOfKey_68 : decode cX1_toldOfKey 68 = .ok (.getfield 49, 3) := by decide +kernel
theorem dX1_toldOfKey_71 : decode cX1_toldOfKey 71 = .ok (.iadd, 1) := by decide +kernel
theorem dX1_toldOfKey_72 : decode cX1_toldOfKey 72 = .ok (.iconst 1, 1) := by decide +kernel
theorem dX1_toldOfKey_73 : decode cX1_toldOfKey 73 = .ok (.iadd, 1) := by decide +kernel
theorem dX1_toldOfKey_74 : decode cX1_toldOfKey 74 = .ok (.goto 5, 3) := by decide +kernel
theorem dX1_toldOfKey_77 : decode cX1_toldOfKey 77 = .ok (.bipush (-2), 2) := by decide +kernel
theorem dX1_toldOfKey_79 : decode cX1_toldOfKey 79 = .ok (.ireturn, 1) := by decide +kernel
theorem dX1_toldOfKey_80 : decode cX1_toldOfKey 80 = .ok (.aload_n 0, 1) := by decide +kernel
theorem dX1_toldOfKey_81 : decode cX1_toldOfKey 81 = .ok (.getfield 46, 3) := by decide +kernel
theorem dX1_toldOfKey_84 : decode cX1_toldOfKey 84 = .ok (.iload_n 1, 1) := by decide +kernel
theorem dX1_toldOfKey_85 : decode cX1_toldOfKey 85 = .ok (.iaload, 1) := by decide +kernel
theorem dX1_toldOfKey_86 : decode cX1_toldOfKey 86 = .ok (.ireturn, 1) := by decide +kernel
theorem dX1_toldOfKey_87 : decode cX1_toldOfKey 87 = .ok (.aload_n 0, 1) := by decide +kernel
theorem dX1_toldOfKey_88 : decode cX1_toldOfKey 88 = .ok (.getfield 24, 3) := by decide +kernel
theorem dX1_toldOfKey_91 : decode cX1_toldOfKey 91 = .ok (.getfield 111, 3) := by decide +kernel
theorem dX1_toldOfKey_94 : decode cX1_toldOfKey 94 = .ok (.getfield 158, 3) := by decide +kernel
theorem dX1_toldOfKey_97 : decode cX1_toldOfKey 97 = .ok (.iload_n 1, 1) := by decide +kernel
theorem dX1_toldOfKey_98 : decode cX1_toldOfKey 98 = .ok (.iaload, 1) := by decide +kernel
theorem dX1_toldOfKey_99 : decode cX1_toldOfKey 99 = .ok (.ireturn, 1) := by decide +kernel
def f_X1_toldOfKey (s0 : BkT) (p1 : Int32) (p2 : Int32) : Option (Int32) :=
  if p2 = (0 : Int32) then (f_X1_lives s0 p1).bind fun r2 =>
  if r2 = 0 then some ((0 : Int32))
  else some ((1 : Int32))
  else if p2 = (1 : Int32) then if inb p1 8 then some (((Bk_latest s0) (ix p1))) else none
  else if p2 = (2 : Int32) then (f_X1_lives s0 p1).bind fun r8 =>
  if r8 = 0 then some ((-2 : Int32))
  else if inb p1 8 then some (((((Bk_latest s0) (ix p1)) + (Bk_keep s0)) + (1 : Int32))) else none
  else if p2 = (3 : Int32) then if inb p1 8 then some (((Bk_lapses s0) (ix p1))) else none
  else if inb p1 8 then some (((Lg_byKey (Bd_ledger (Bk_board s0))) (ix p1))) else none
abbrev rm_X1_toldOfKey : Room := { frames := 1, cells := 0, slots := 0, locals := 21 }
set_option maxHeartbeats 4000000 in
set_option maxRecDepth 100000 in
theorem c_X1_toldOfKey (l : Launch) (g : GK) (a0 : Nat → Nat) (s0 : BkT) (p1 : Int32) (p2 : Int32) (res : (Int32)) (hf : f_X1_toldOfKey s0 p1 p2 = some res) : gR l yX1_toldOfKey cX1_toldOfKey 3 (some .int) rm_X1_toldOfKey g [.ref (a0 0), .int p1, .int p2] (Bk_c g a0 s0) (some (.int res)) := by
  refine gR_introI RX1 (by decide) rfl (Nat.le_of_ble_eq_true rfl) (fun p e s m args below meth c Q H locs ls hE hP hZ hS hq hl => ?_)
  have hl : lv_has ls 3 [(0, .ref (a0 0)), (1, .int p1), (2, .int p2)] := hl
  have hx := hE.1
  have hb := hE.2.1
  rw [f_X1_toldOfKey] at hf
  refine lv_iload_n hx hb dX1_toldOfKey_0 rfl (lv_at hl 2 rfl) ?_
  by_cases h1 : p2 = (0 : Int32)
  · have hf := gif_t h1 hf
    refine g_swIn hE h1 dX1_toldOfKey_1 (0) ⟨by decide, by decide⟩ (by decide) (off := 31) rfl (tgt := 32) rfl ?_
    refine lv_aload_n hx hb dX1_toldOfKey_32 rfl (lv_at hl 0 rfl) ?_
    refine lv_iload_n hx hb dX1_toldOfKey_33 rfl (lv_at hl 1 rfl) ?_
    obtain ⟨r2, hc3, hf⟩ := gbd hf
    refine gr_callV (As := [.int p1]) (rest := []) (st1 := [.int r2]) hE hl.1 ml_X1_100 (c_X1_lives l g a0 s0 p1 r2 hc3) hZ hS hP [(0, 25)] rfl okX1 rfl rfl rfl rfl ⟨rfl, rfl⟩ ⟨Nat.le_of_ble_eq_true rfl, Nat.le_of_ble_eq_true rfl⟩ ⟨Nat.le_refl _, Nat.le_refl _⟩ (Nat.le_of_ble_eq_true rfl) dX1_toldOfKey_34 ?_
    refine lv_if_eq hx hb dX1_toldOfKey_37 (tgt := 44) rfl (fun h4 => ?_) (fun h4 => ?_)
    · have hf := gif_t h4 hf
      refine lv_iconst hx hb dX1_toldOfKey_44 kci_0 ?_
      cases hf
      exact hq rfl dX1_toldOfKey_45
    · have hf := gif_f h4 hf
      refine lv_iconst hx hb dX1_toldOfKey_40 kci_1 ?_
      refine lv_goto hx hb dX1_toldOfKey_41 (tgt := 45) rfl ?_
      cases hf
      exact hq rfl dX1_toldOfKey_45
  have hf := gif_f h1 hf
  by_cases h5 : p2 = (1 : Int32)
  · have hf := gif_t h5 hf
    refine g_swIn hE h5 dX1_toldOfKey_1 (1) ⟨by decide, by decide⟩ (by decide) (off := 45) rfl (tgt := 46) rfl ?_
    refine lv_aload_n hx hb dX1_toldOfKey_46 rfl (lv_at hl 0 rfl) ?_
    refine g_get hE okX1 fl_X1_42 hP 0 rfl (v := .ref (a0 23)) rfl dX1_toldOfKey_47 ?_
    refine lv_iload_n hx hb dX1_toldOfKey_50 rfl (lv_at hl 1 rfl) ?_
    obtain ⟨hg6, hf⟩ := ggd hf
    refine g_iald hE hP 23 (f := (Bk_latest s0)) rfl hg6 dX1_toldOfKey_51 ?_
    cases hf
    exact hq rfl dX1_toldOfKey_52
  have hf := gif_f h5 hf
  by_cases h7 : p2 = (2 : Int32)
  · have hf := gif_t h7 hf
    refine g_swIn hE h7 dX1_toldOfKey_1 (2) ⟨by decide, by decide⟩ (by decide) (off := 52) rfl (tgt := 53) rfl ?_
    refine lv_aload_n hx hb dX1_toldOfKey_53 rfl (lv_at hl 0 rfl) ?_
    refine lv_iload_n hx hb dX1_toldOfKey_54 rfl (lv_at hl 1 rfl) ?_
    obtain ⟨r8, hc9, hf⟩ := gbd hf
    refine gr_callV (As := [.int p1]) (rest := []) (st1 := [.int r8]) hE hl.1 ml_X1_100 (c_X1_lives l g a0 s0 p1 r8 hc9) hZ hS hP [(0, 25)] rfl okX1 rfl rfl rfl rfl ⟨rfl, rfl⟩ ⟨Nat.le_of_ble_eq_true rfl, Nat.le_of_ble_eq_true rfl⟩ ⟨Nat.le_refl _, Nat.le_refl _⟩ (Nat.le_of_ble_eq_true rfl) dX1_toldOfKey_55 ?_
    refine lv_if_eq hx hb dX1_toldOfKey_58 (tgt := 77) rfl (fun h10 => ?_) (fun h10 => ?_)
    · have hf := gif_t h10 hf
      refine lv_bipush hx hb dX1_toldOfKey_77 kcb_m2 ?_
      cases hf
      exact hq rfl dX1_toldOfKey_79
    · have hf := gif_f h10 hf
      refine lv_aload_n hx hb dX1_toldOfKey_61 rfl (lv_at hl 0 rfl) ?_
      refine g_get hE okX1 fl_X1_42 hP 0 rfl (v := .ref (a0 23)) rfl dX1_toldOfKey_62 ?_
      refine lv_iload_n hx hb dX1_toldOfKey_65 rfl (lv_at hl 1 rfl) ?_
      obtain ⟨hg11, hf⟩ := ggd hf
      refine g_iald hE hP 23 (f := (Bk_latest s0)) rfl hg11 dX1_toldOfKey_66 ?_
      refine lv_aload_n hx hb dX1_toldOfKey_67 rfl (lv_at hl 0 rfl) ?_
      refine g_get hE okX1 fl_X1_49 hP 0 rfl (v := .int (Bk_keep s0)) rfl dX1_toldOfKey_68 ?_
      refine lv_iadd hx hb dX1_toldOfKey_71 ?_
      refine lv_iconst hx hb dX1_toldOfKey_72 kci_1 ?_
      refine lv_iadd hx hb dX1_toldOfKey_73 ?_
      refine lv_goto hx hb dX1_toldOfKey_74 (tgt := 79) rfl ?_
      cases hf
      exact hq rfl dX1_toldOfKey_79
  have hf := gif_f h7 hf
  by_cases h12 : p2 = (3 : Int32)
  · have hf := gif_t h12 hf
    refine g_swIn hE h12 dX1_toldOfKey_1 (3) ⟨by decide, by decide⟩ (by decide) (off := 79) rfl (tgt := 80) rfl ?_
    refine lv_aload_n hx hb dX1_toldOfKey_80 rfl (lv_at hl 0 rfl) ?_
    refine g_get hE okX1 fl_X1_46 hP 0 rfl (v := .ref (a0 24)) rfl dX1_toldOfKey_81 ?_
    refine lv_iload_n hx hb dX1_toldOfKey_84 rfl (lv_at hl 1 rfl) ?_
    obtain ⟨hg13, hf⟩ := ggd hf
    refine g_iald hE hP 24 (f := (Bk_lapses s0)) rfl hg13 dX1_toldOfKey_85 ?_
    cases hf
    exact hq rfl dX1_toldOfKey_86
  have hf := gif_f h12 hf
  refine lv_tableOut hx hb dX1_toldOfKey_1 (by have := nti h1 (k := 0) (by decide); have := nti h5 (k := 1) (by decide); have := nti h7 (k := 2) (by decide); have := nti h12 (k := 3) (by decide); omega) (tgt := 87) rfl ?_
  refine lv_aload_n hx hb dX1_toldOfKey_87 rfl (lv_at hl 0 rfl) ?_
  refine g_get hE okX1 fl_X1_24 hP 0 rfl (v := .ref (a0 5)) rfl dX1_toldOfKey_88 ?_
  refine g_get hE okX0 fl_X1_111 hP 5 rfl (v := .ref (a0 9)) rfl dX1_toldOfKey_91 ?_
  refine g_get hE okX2 fl_X1_158 hP 9 rfl (v := .ref (a0 13)) rfl dX1_toldOfKey_94 ?_
  refine lv_iload_n hx hb dX1_toldOfKey_97 rfl (lv_at hl 1 rfl) ?_
  obtain ⟨hg14, hf⟩ := ggd hf
  refine g_iald hE hP 13 (f := (Lg_byKey (Bd_ledger (Bk_board s0)))) rfl hg14 dX1_toldOfKey_98 ?_
  cases hf
  exact hq rfl dX1_toldOfKey_99
theorem dX1_keyOfNextLapse_0 : decode cX1_keyOfNextLapse 0 = .ok (.bipush (-2), 2) := by decide +kernel
theorem dX1_keyOfNextLapse_2 : decode cX1_keyOfNextLapse 2 = .ok (.istore_n 1, 1) := by decide +kernel
theorem dX1_keyOfNextLapse_3 : decode cX1_keyOfNextLapse 3 = .ok (.iconst 0, 1) := by decide +kernel
theorem dX1_keyOfNextLapse_4 : decode cX1_keyOfNextLapse 4 = .ok (.istore_n 2, 1) := by decide +kernel
theorem dX1_keyOfNextLapse_5 : decode cX1_keyOfNextLapse 5 = .ok (.iload_n 2, 1) := by decide +kernel
theorem dX1_keyOfNextLapse_6 : decode cX1_keyOfNextLapse 6 = .ok (.bipush 8, 2) := by decide +kernel
theorem dX1_keyOfNextLapse_8 : decode cX1_keyOfNextLapse 8 = .ok (.if_icmp .ge 40, 3) := by decide +kernel
theorem dX1_keyOfNextLapse_11 : decode cX1_keyOfNextLapse 11 = .ok (.aload_n 0, 1) := by decide +kernel
theorem dX1_keyOfNextLapse_12 : decode cX1_keyOfNextLapse 12 = .ok (.iload_n 2, 1) := by decide +kernel
theorem dX1_keyOfNextLapse_13 : decode cX1_keyOfNextLapse 13 = .ok (.invokevirtual 100, 3) := by decide +kernel
theorem dX1_keyOfNextLapse_16 : decode cX1_keyOfNextLapse 16 = .ok (.ifCond .eq 26, 3) := by decide +kernel
theorem dX1_keyOfNextLapse_19 : decode cX1_keyOfNextLapse 19 = .ok (.iload_n 1, 1) := by decide +kernel
theorem dX1_keyOfNextLapse_20 : decode cX1_keyOfNextLapse 20 = .ok (.bipush (-2), 2) := by decide +kernel
theorem dX1_keyOfNextLapse_22 : decode cX1_keyOfNextLapse 22 = .ok (.if_icmp .eq 18, 3) := by decide +kernel
theorem dX1_keyOfNextLapse_25 : decode cX1_keyOfNextLapse 25 = .ok (.aload_n 0, 1) := by decide +kernel
theorem dX1_keyOfNextLapse_26 : decode cX1_keyOfNextLapse 26 = .ok (.getfield 42, 3) := by decide +kernel
theorem dX1_keyOfNextLapse_29 : decode cX1_keyOfNextLapse 29 = .ok (.iload_n 2, 1) := by decide +kernel
theorem dX1_keyOfNextLapse_30 : decode cX1_keyOfNextLapse 30 = .ok (.iaload, 1) := by decide +kernel
theorem dX1_keyOfNextLapse_31 : decode cX1_keyOfNextLapse 31 = .ok (.aload_n 0, 1) := by decide +kernel
theorem dX1_keyOfNextLapse_32 : decode cX1_keyOfNextLapse 32 = .ok (.getfield 42, 3) := by decide +kernel
theorem dX1_keyOfNextLapse_35 : decode cX1_keyOfNextLapse 35 = .ok (.iload_n 1, 1) := by decide +kernel
theorem dX1_keyOfNextLapse_36 : decode cX1_keyOfNextLapse 36 = .ok (.iaload, 1) := by decide +kernel
theorem dX1_keyOfNextLapse_37 : decode cX1_keyOfNextLapse 37 = .ok (.if_icmp .ge 5, 3) := by decide +kernel
theorem dX1_keyOfNextLapse_40 : decode cX1_keyOfNextLapse 40 = .ok (.iload_n 2, 1) := by decide +kernel
theorem dX1_keyOfNextLapse_41 : decode cX1_keyOfNextLapse 41 = .ok (.istore_n 1, 1) := by decide +kernel
theorem dX1_keyOfNextLapse_42 : decode cX1_keyOfNextLapse 42 = .ok (.iinc 2 1, 3) := by decide +kernel
theorem dX1_keyOfNextLapse_45 : decode cX1_keyOfNextLapse 45 = .ok (.goto (-40), 3) := by decide +kernel
theorem dX1_keyOfNextLapse_48 : decode cX1_keyOfNextLapse 48 = .ok (.iload_n 1, 1) := by decide +kernel
theorem dX1_keyOfNextLapse_49 : decode cX1_keyOfNextLapse 49 = .ok (.ireturn, 1) := by decide +kernel
def f_X1_keyOfNextLapse_L5_5 (s0 : BkT) (K1 : (Int32 → Option (Int32))) : Nat → Int32 → Int32 → Option (Int32)
  | 0, _, _ => none
  | n6 + 1, x1_3, x2_4 => if (8 : Int32) ≤ x2_4 then K1 x1_3
  else (f_X1_lives s0 x2_4).bind fun r8 =>
  if r8 = 0 then f_X1_keyOfNextLapse_L5_5 s0 K1 n6 x1_3 (x2_4 + (1 : Int32))
  else if x1_3 = (-2 : Int32) then f_X1_keyOfNextLapse_L5_5 s0 K1 n6 x2_4 (x2_4 + (1 : Int32))
  else if inb x2_4 8 then if inb x1_3 8 then if ((Bk_latest s0) (ix x1_3)) ≤ ((Bk_latest s0) (ix x2_4)) then f_X1_keyOfNextLapse_L5_5 s0 K1 n6 x1_3 (x2_4 + (1 : Int32))
  else f_X1_keyOfNextLapse_L5_5 s0 K1 n6 x2_4 (x2_4 + (1 : Int32)) else none else none
def f_X1_keyOfNextLapse (s0 : BkT) : Option (Int32) :=
  glt (fun (x1_2 : Int32) => some (x1_2)) fun K1 =>
  f_X1_keyOfNextLapse_L5_5 s0 K1 10000 (-2 : Int32) (0 : Int32)
abbrev rm_X1_keyOfNextLapse : Room := { frames := 1, cells := 0, slots := 0, locals := 21 }
set_option maxHeartbeats 4000000 in
set_option maxRecDepth 100000 in
theorem c_X1_keyOfNextLapse (l : Launch) (g : GK) (a0 : Nat → Nat) (s0 : BkT) (res : (Int32)) (hf : f_X1_keyOfNextLapse s0 = some res) : gR l yX1_keyOfNextLapse cX1_keyOfNextLapse 3 (some .int) rm_X1_keyOfNextLapse g [.ref (a0 0)] (Bk_c g a0 s0) (some (.int res)) := by
  refine gR_introI RX1 (by decide) rfl (Nat.le_of_ble_eq_true rfl) (fun p e s m args below meth c Q H locs ls hE hP hZ hS hq hl => ?_)
  have hl : lv_has ls 3 [(0, .ref (a0 0))] := hl
  have hx := hE.1
  have hb := hE.2.1
  rw [f_X1_keyOfNextLapse] at hf
  refine lv_bipush hx hb dX1_keyOfNextLapse_0 kcb_m2 ?_
  refine lv_istore_n hx hb dX1_keyOfNextLapse_2 rfl hl (by decide) (lv' := [(1, .int (-2 : Int32)), (0, .ref (a0 0))]) rfl (fun ls hl => ?_)
  refine lv_iconst hx hb dX1_keyOfNextLapse_3 kci_0 ?_
  refine lv_istore_n hx hb dX1_keyOfNextLapse_4 rfl hl (by decide) (lv' := [(2, .int (0 : Int32)), (1, .int (-2 : Int32)), (0, .ref (a0 0))]) rfl (fun ls hl => ?_)
  obtain ⟨K1, eK1, hf⟩ := gltd hf
  have kK1 : ∀ (x1_2 : Int32) (ls : Array Slot), K1 x1_2 = some res → lv_has ls 3 [(1, .int x1_2)] → W p l e rm_X1_keyOfNextLapse s m args below meth c H locs 0 0 Q (F0 m 48 ls []) := by
    intro x1_2 ls hf hl
    rw [eK1] at hf
    refine lv_iload_n hx hb dX1_keyOfNextLapse_48 rfl (lv_at hl 0 rfl) ?_
    cases hf
    exact hq rfl dX1_keyOfNextLapse_49
  have lpn6 : ∀ (n6 : Nat) (x1_3 : Int32) (x2_4 : Int32) (ls : Array Slot), f_X1_keyOfNextLapse_L5_5 s0 K1 n6 x1_3 x2_4 = some res → lv_has ls 3 [(0, .ref (a0 0)), (1, .int x1_3), (2, .int x2_4)] → W p l e rm_X1_keyOfNextLapse s m args below meth c H locs 0 0 Q (F0 m 5 ls []) := by
    intro n6
    induction n6 with
    | zero => intro x1_3 x2_4 ls hf hl; rw [f_X1_keyOfNextLapse_L5_5] at hf; cases hf
    | succ n6 ihn6 =>
      intro x1_3 x2_4 ls hf hl
      rw [f_X1_keyOfNextLapse_L5_5] at hf
      refine lv_iload_n hx hb dX1_keyOfNextLapse_5 rfl (lv_at hl 2 rfl) ?_
      refine lv_bipush hx hb dX1_keyOfNextLapse_6 kcb_8 ?_
      refine lv_icmp_ge hx hb dX1_keyOfNextLapse_8 (tgt := 48) rfl (fun h7 => ?_) (fun h7 => ?_)
      · have hf := gif_t h7 hf
        exact kK1 x1_3 ls hf (lv_sub hl [1] rfl)
      · have hf := gif_f h7 hf
        refine lv_aload_n hx hb dX1_keyOfNextLapse_11 rfl (lv_at hl 0 rfl) ?_
        refine lv_iload_n hx hb dX1_keyOfNextLapse_12 rfl (lv_at hl 2 rfl) ?_
        obtain ⟨r8, hc9, hf⟩ := gbd hf
        refine gr_callV (As := [.int x2_4]) (rest := []) (st1 := [.int r8]) hE hl.1 ml_X1_100 (c_X1_lives l g a0 s0 x2_4 r8 hc9) hZ hS hP [(0, 25)] rfl okX1 rfl rfl rfl rfl ⟨rfl, rfl⟩ ⟨Nat.le_of_ble_eq_true rfl, Nat.le_of_ble_eq_true rfl⟩ ⟨Nat.le_refl _, Nat.le_refl _⟩ (Nat.le_of_ble_eq_true rfl) dX1_keyOfNextLapse_13 ?_
        refine lv_if_eq hx hb dX1_keyOfNextLapse_16 (tgt := 42) rfl (fun h10 => ?_) (fun h10 => ?_)
        · have hf := gif_t h10 hf
          refine lv_iinc hx hb dX1_keyOfNextLapse_42 hl (k := 2) (x := x2_4) rfl (kinc_1 _) (by decide) (lv' := [(2, .int (x2_4 + (1 : Int32))), (0, .ref (a0 0)), (1, .int x1_3)]) rfl (fun ls hl => ?_)
          refine lv_goto hx hb dX1_keyOfNextLapse_45 (tgt := 5) rfl ?_
          exact ihn6 x1_3 (x2_4 + (1 : Int32)) ls hf (lv_sub hl [1, 2, 0] rfl)
        · have hf := gif_f h10 hf
          refine lv_iload_n hx hb dX1_keyOfNextLapse_19 rfl (lv_at hl 1 rfl) ?_
          refine lv_bipush hx hb dX1_keyOfNextLapse_20 kcb_m2 ?_
          refine lv_icmp_eq hx hb dX1_keyOfNextLapse_22 (tgt := 40) rfl (fun h11 => ?_) (fun h11 => ?_)
          · have hf := gif_t h11 hf
            refine lv_iload_n hx hb dX1_keyOfNextLapse_40 rfl (lv_at hl 2 rfl) ?_
            refine lv_istore_n hx hb dX1_keyOfNextLapse_41 rfl hl (by decide) (lv' := [(1, .int x2_4), (0, .ref (a0 0)), (2, .int x2_4)]) rfl (fun ls hl => ?_)
            refine lv_iinc hx hb dX1_keyOfNextLapse_42 hl (k := 2) (x := x2_4) rfl (kinc_1 _) (by decide) (lv' := [(2, .int (x2_4 + (1 : Int32))), (1, .int x2_4), (0, .ref (a0 0))]) rfl (fun ls hl => ?_)
            refine lv_goto hx hb dX1_keyOfNextLapse_45 (tgt := 5) rfl ?_
            exact ihn6 x2_4 (x2_4 + (1 : Int32)) ls hf (lv_sub hl [2, 1, 0] rfl)
          · have hf := gif_f h11 hf
            refine lv_aload_n hx hb dX1_keyOfNextLapse_25 rfl (lv_at hl 0 rfl) ?_
            refine g_get hE okX1 fl_X1_42 hP 0 rfl (v := .ref (a0 23)) rfl dX1_keyOfNextLapse_26 ?_
            refine lv_iload_n hx hb dX1_keyOfNextLapse_29 rfl (lv_at hl 2 rfl) ?_
            obtain ⟨hg12, hf⟩ := ggd hf
            refine g_iald hE hP 23 (f := (Bk_latest s0)) rfl hg12 dX1_keyOfNextLapse_30 ?_
            refine lv_aload_n hx hb dX1_keyOfNextLapse_31 rfl (lv_at hl 0 rfl) ?_
            refine g_get hE okX1 fl_X1_42 hP 0 rfl (v := .ref (a0 23)) rfl dX1_keyOfNextLapse_32 ?_
            refine lv_iload_n hx hb dX1_keyOfNextLapse_35 rfl (lv_at hl 1 rfl) ?_
            obtain ⟨hg13, hf⟩ := ggd hf
            refine g_iald hE hP 23 (f := (Bk_latest s0)) rfl hg13 dX1_keyOfNextLapse_36 ?_
            refine lv_icmp_ge hx hb dX1_keyOfNextLapse_37 (tgt := 42) rfl (fun h14 => ?_) (fun h14 => ?_)
            · have hf := gif_t h14 hf
              refine lv_iinc hx hb dX1_keyOfNextLapse_42 hl (k := 2) (x := x2_4) rfl (kinc_1 _) (by decide) (lv' := [(2, .int (x2_4 + (1 : Int32))), (0, .ref (a0 0)), (1, .int x1_3)]) rfl (fun ls hl => ?_)
              refine lv_goto hx hb dX1_keyOfNextLapse_45 (tgt := 5) rfl ?_
              exact ihn6 x1_3 (x2_4 + (1 : Int32)) ls hf (lv_sub hl [1, 2, 0] rfl)
            · have hf := gif_f h14 hf
              refine lv_iload_n hx hb dX1_keyOfNextLapse_40 rfl (lv_at hl 2 rfl) ?_
              refine lv_istore_n hx hb dX1_keyOfNextLapse_41 rfl hl (by decide) (lv' := [(1, .int x2_4), (0, .ref (a0 0)), (2, .int x2_4)]) rfl (fun ls hl => ?_)
              refine lv_iinc hx hb dX1_keyOfNextLapse_42 hl (k := 2) (x := x2_4) rfl (kinc_1 _) (by decide) (lv' := [(2, .int (x2_4 + (1 : Int32))), (1, .int x2_4), (0, .ref (a0 0))]) rfl (fun ls hl => ?_)
              refine lv_goto hx hb dX1_keyOfNextLapse_45 (tgt := 5) rfl ?_
              exact ihn6 x2_4 (x2_4 + (1 : Int32)) ls hf (lv_sub hl [2, 1, 0] rfl)
  exact lpn6 10000 (-2 : Int32) (0 : Int32) ls hf (lv_sub hl [2, 1, 0] rfl)
theorem dX1_lonelyKey_0 : decode cX1_lonelyKey 0 = .ok (.iconst 0, 1) := by decide +kernel
theorem dX1_lonelyKey_1 : decode cX1_lonelyKey 1 = .ok (.istore_n 2, 1) := by decide +kernel
theorem dX1_lonelyKey_2 : decode cX1_lonelyKey 2 = .ok (.iconst 0, 1) := by decide +kernel
theorem dX1_lonelyKey_3 : decode cX1_lonelyKey 3 = .ok (.istore_n 3, 1) := by decide +kernel
theorem dX1_lonelyKey_4 : decode cX1_lonelyKey 4 = .ok (.iload_n 3, 1) := by decide +kernel
theorem dX1_lonelyKey_5 : decode cX1_lonelyKey 5 = .ok (.bipush 8, 2) := by decide +kernel
theorem dX1_lonelyKey_7 : decode cX1_lonelyKey 7 = .ok (.if_icmp .ge 48, 3) := by decide +kernel
theorem dX1_lonelyKey_10 : decode cX1_lonelyKey 10 = .ok (.aload_n 0, 1) := by decide +kernel
theorem dX1_lonelyKey_11 : decode cX1_lonelyKey 11 = .ok (.iload_n 3, 1) := by decide +kernel
theorem dX1_lonelyKey_12 : decode cX1_lonelyKey 12 = .ok (.invokevirtual 100, 3) := by decide +kernel
theorem dX1_lonelyKey_15 : decode cX1_lonelyKey 15 = .ok (.ifCond .eq 34, 3) := by decide +kernel
theorem dX1_lonelyKey_18 : decode cX1_lonelyKey 18 = .ok (.aload_n 0, 1) := by decide +kernel
theorem dX1_lonelyKey_19 : decode cX1_lonelyKey 19 = .ok (.getfield 24, 3) := by decide +kernel
theorem dX1_lonelyKey_22 : decode cX1_lonelyKey 22 = .ok (.iconst 0, 1) := by decide +kernel
theorem dX1_lonelyKey_23 : decode cX1_lonelyKey 23 = .ok (.iload_n 3, 1) := by decide +kernel
theorem dX1_lonelyKey_24 : decode cX1_lonelyKey 24 = .ok (.invokevirtual 161, 3) := by decide +kernel
theorem dX1_lonelyKey_27 : decode cX1_lonelyKey 27 = .ok (.aload_n 0, 1) := by decide +kernel
theorem dX1_lonelyKey_28 : decode cX1_lonelyKey 28 = .ok (.getfield 24, 3) := by decide +kernel
theorem dX1_lonelyKey_31 : decode cX1_lonelyKey 31 = .ok (.iconst 1, 1) := by decide +kernel
theorem dX1_lonelyKey_32 : decode cX1_lonelyKey 32 = .ok (.iload_n 3, 1) := by decide +kernel
theorem dX1_lonelyKey_33 : decode cX1_lonelyKey 33 = .ok (.invokevirtual 161, 3) := by decide +kernel
theorem dX1_lonelyKey_36 : decode cX1_lonelyKey 36 = .ok (.if_icmp .eq 13, 3) := by decide +kernel
theorem dX1_lonelyKey_39 : decode cX1_lonelyKey 39 = .ok (.iload_n 2, 1) := by decide +kernel
theorem dX1_lonelyKey_40 : decode cX1_lonelyKey 40 = .ok (.iload_n 1, 1) := by decide +kernel
theorem dX1_lonelyKey_41 : decode cX1_lonelyKey 41 = .ok (.if_icmp .ne 5, 3) := by decide +kernel
theorem dX1_lonelyKey_44 : decode cX1_lonelyKey 44 = .ok (.iload_n 3, 1) := by decide +kernel
theorem dX1_lonelyKey_45 : decode cX1_lonelyKey 45 = .ok (.ireturn, 1) := by decide +kernel
theorem dX1_lonelyKey_46 : decode cX1_lonelyKey 46 = .ok (.iinc 2 1, 3) := by decide +kernel
theorem dX1_lonelyKey_49 : decode cX1_lonelyKey 49 = .ok (.iinc 3 1, 3) := by decide +kernel
theorem dX1_lonelyKey_52 : decode cX1_lonelyKey 52 = .ok (.goto (-48), 3) := by decide +kernel
theorem dX1_lonelyKey_55 : decode cX1_lonelyKey 55 = .ok (.iconst (-1), 1) := by decide +kernel
theorem dX1_lonelyKey_56 : decode cX1_lonelyKey 56 = .ok (.ireturn, 1) := by decide +kernel
def f_X1_lonelyKey_L4_6 (s0 : BkT) (p1 : Int32) (K1 : (Int32 → Option (Int32))) (K3 : (Unit → Option (Int32))) : Nat → Int32 → Int32 → Option (Int32)
  | 0, _, _ => none
  | n7 + 1, x2_4, x3_5 => if (8 : Int32) ≤ x3_5 then K3 ()
  else (f_X1_lives s0 x3_5).bind fun r9 =>
  if r9 = 0 then f_X1_lonelyKey_L4_6 s0 p1 K1 K3 n7 x2_4 (x3_5 + (1 : Int32))
  else (f_X0_has (Bk_board s0) (0 : Int32) x3_5).bind fun r12 =>
  (f_X0_has (Bk_board s0) (1 : Int32) x3_5).bind fun r14 =>
  if r12 = r14 then f_X1_lonelyKey_L4_6 s0 p1 K1 K3 n7 x2_4 (x3_5 + (1 : Int32))
  else if x2_4 = p1 then K1 x3_5
  else f_X1_lonelyKey_L4_6 s0 p1 K1 K3 n7 (x2_4 + (1 : Int32)) (x3_5 + (1 : Int32))
def f_X1_lonelyKey (s0 : BkT) (p1 : Int32) : Option (Int32) :=
  glt (fun (x3_2 : Int32) => some (x3_2)) fun K1 =>
  glt (fun (_ : Unit) => some ((-1 : Int32))) fun K3 =>
  f_X1_lonelyKey_L4_6 s0 p1 K1 K3 10000 (0 : Int32) (0 : Int32)
abbrev rm_X1_lonelyKey : Room := { frames := 2, cells := 0, slots := 0, locals := 45 }
set_option maxHeartbeats 4000000 in
set_option maxRecDepth 100000 in
theorem c_X1_lonelyKey (l : Launch) (g : GK) (a0 : Nat → Nat) (s0 : BkT) (p1 : Int32) (res : (Int32)) (hf : f_X1_lonelyKey s0 p1 = some res) : gR l yX1_lonelyKey cX1_lonelyKey 4 (some .int) rm_X1_lonelyKey g [.ref (a0 0), .int p1] (Bk_c g a0 s0) (some (.int res)) := by
  refine gR_introI RX1 (by decide) rfl (Nat.le_of_ble_eq_true rfl) (fun p e s m args below meth c Q H locs ls hE hP hZ hS hq hl => ?_)
  have hl : lv_has ls 4 [(0, .ref (a0 0)), (1, .int p1)] := hl
  have hx := hE.1
  have hb := hE.2.1
  rw [f_X1_lonelyKey] at hf
  refine lv_iconst hx hb dX1_lonelyKey_0 kci_0 ?_
  refine lv_istore_n hx hb dX1_lonelyKey_1 rfl hl (by decide) (lv' := [(2, .int (0 : Int32)), (0, .ref (a0 0)), (1, .int p1)]) rfl (fun ls hl => ?_)
  refine lv_iconst hx hb dX1_lonelyKey_2 kci_0 ?_
  refine lv_istore_n hx hb dX1_lonelyKey_3 rfl hl (by decide) (lv' := [(3, .int (0 : Int32)), (2, .int (0 : Int32)), (0, .ref (a0 0)), (1, .int p1)]) rfl (fun ls hl => ?_)
  obtain ⟨K1, eK1, hf⟩ := gltd hf
  have kK1 : ∀ (x3_2 : Int32) (ls : Array Slot), K1 x3_2 = some res → lv_has ls 4 [(3, .int x3_2)] → W p l e rm_X1_lonelyKey s m args below meth c H locs 0 0 Q (F0 m 44 ls []) := by
    intro x3_2 ls hf hl
    rw [eK1] at hf
    refine lv_iload_n hx hb dX1_lonelyKey_44 rfl (lv_at hl 0 rfl) ?_
    cases hf
    exact hq rfl dX1_lonelyKey_45
  obtain ⟨K3, eK3, hf⟩ := gltd hf
  have kK3 : ∀ (_ : Unit) (ls : Array Slot), K3 () = some res → lv_has ls 4 [] → W p l e rm_X1_lonelyKey s m args below meth c H locs 0 0 Q (F0 m 55 ls []) := by
    intro _ ls hf hl
    rw [eK3] at hf
    refine lv_iconst hx hb dX1_lonelyKey_55 kci_m1 ?_
    cases hf
    exact hq rfl dX1_lonelyKey_56
  have lpn7 : ∀ (n7 : Nat) (x2_4 : Int32) (x3_5 : Int32) (ls : Array Slot), f_X1_lonelyKey_L4_6 s0 p1 K1 K3 n7 x2_4 x3_5 = some res → lv_has ls 4 [(0, .ref (a0 0)), (1, .int p1), (2, .int x2_4), (3, .int x3_5)] → W p l e rm_X1_lonelyKey s m args below meth c H locs 0 0 Q (F0 m 4 ls []) := by
    intro n7
    induction n7 with
    | zero => intro x2_4 x3_5 ls hf hl; rw [f_X1_lonelyKey_L4_6] at hf; cases hf
    | succ n7 ihn7 =>
      intro x2_4 x3_5 ls hf hl
      rw [f_X1_lonelyKey_L4_6] at hf
      refine lv_iload_n hx hb dX1_lonelyKey_4 rfl (lv_at hl 3 rfl) ?_
      refine lv_bipush hx hb dX1_lonelyKey_5 kcb_8 ?_
      refine lv_icmp_ge hx hb dX1_lonelyKey_7 (tgt := 55) rfl (fun h8 => ?_) (fun h8 => ?_)
      · have hf := gif_t h8 hf
        exact kK3 () ls hf (lv_sub hl [] rfl)
      · have hf := gif_f h8 hf
        refine lv_aload_n hx hb dX1_lonelyKey_10 rfl (lv_at hl 0 rfl) ?_
        refine lv_iload_n hx hb dX1_lonelyKey_11 rfl (lv_at hl 3 rfl) ?_
        obtain ⟨r9, hc10, hf⟩ := gbd hf
        refine gr_callV (As := [.int x3_5]) (rest := []) (st1 := [.int r9]) hE hl.1 ml_X1_100 (c_X1_lives l g a0 s0 x3_5 r9 hc10) hZ hS hP [(0, 25)] rfl okX1 rfl rfl rfl rfl ⟨rfl, rfl⟩ ⟨Nat.le_of_ble_eq_true rfl, Nat.le_of_ble_eq_true rfl⟩ ⟨Nat.le_refl _, Nat.le_refl _⟩ (Nat.le_of_ble_eq_true rfl) dX1_lonelyKey_12 ?_
        refine lv_if_eq hx hb dX1_lonelyKey_15 (tgt := 49) rfl (fun h11 => ?_) (fun h11 => ?_)
        · have hf := gif_t h11 hf
          refine lv_iinc hx hb dX1_lonelyKey_49 hl (k := 3) (x := x3_5) rfl (kinc_1 _) (by decide) (lv' := [(3, .int (x3_5 + (1 : Int32))), (0, .ref (a0 0)), (1, .int p1), (2, .int x2_4)]) rfl (fun ls hl => ?_)
          refine lv_goto hx hb dX1_lonelyKey_52 (tgt := 4) rfl ?_
          exact ihn7 x2_4 (x3_5 + (1 : Int32)) ls hf (lv_sub hl [1, 2, 3, 0] rfl)
        · have hf := gif_f h11 hf
          refine lv_aload_n hx hb dX1_lonelyKey_18 rfl (lv_at hl 0 rfl) ?_
          refine g_get hE okX1 fl_X1_24 hP 0 rfl (v := .ref (a0 5)) rfl dX1_lonelyKey_19 ?_
          refine lv_iconst hx hb dX1_lonelyKey_22 kci_0 ?_
          refine lv_iload_n hx hb dX1_lonelyKey_23 rfl (lv_at hl 3 rfl) ?_
          obtain ⟨r12, hc13, hf⟩ := gbd hf
          refine gr_callV (As := [.int (0 : Int32), .int x3_5]) (rest := []) (st1 := [.int r12]) hE hl.1 ml_X1_161 (c_X0_has l g (fun k => a0 (k + 5)) (Bk_board s0) (0 : Int32) x3_5 r12 hc13) hZ hS hP [(5, 9)] rfl okX0 rfl rfl rfl rfl ⟨rfl, rfl⟩ ⟨Nat.le_of_ble_eq_true rfl, Nat.le_of_ble_eq_true rfl⟩ ⟨Nat.le_refl _, Nat.le_refl _⟩ (Nat.le_of_ble_eq_true rfl) dX1_lonelyKey_24 ?_
          refine lv_aload_n hx hb dX1_lonelyKey_27 rfl (lv_at hl 0 rfl) ?_
          refine g_get hE okX1 fl_X1_24 hP 0 rfl (v := .ref (a0 5)) rfl dX1_lonelyKey_28 ?_
          refine lv_iconst hx hb dX1_lonelyKey_31 kci_1 ?_
          refine lv_iload_n hx hb dX1_lonelyKey_32 rfl (lv_at hl 3 rfl) ?_
          obtain ⟨r14, hc15, hf⟩ := gbd hf
          refine gr_callV (As := [.int (1 : Int32), .int x3_5]) (rest := [.int r12]) (st1 := [.int r14, .int r12]) hE hl.1 ml_X1_161 (c_X0_has l g (fun k => a0 (k + 5)) (Bk_board s0) (1 : Int32) x3_5 r14 hc15) hZ hS hP [(5, 9)] rfl okX0 rfl rfl rfl rfl ⟨rfl, rfl⟩ ⟨Nat.le_of_ble_eq_true rfl, Nat.le_of_ble_eq_true rfl⟩ ⟨Nat.le_refl _, Nat.le_refl _⟩ (Nat.le_of_ble_eq_true rfl) dX1_lonelyKey_33 ?_
          refine lv_icmp_eq hx hb dX1_lonelyKey_36 (tgt := 49) rfl (fun h16 => ?_) (fun h16 => ?_)
          · have hf := gif_t h16 hf
            refine lv_iinc hx hb dX1_lonelyKey_49 hl (k := 3) (x := x3_5) rfl (kinc_1 _) (by decide) (lv' := [(3, .int (x3_5 + (1 : Int32))), (0, .ref (a0 0)), (1, .int p1), (2, .int x2_4)]) rfl (fun ls hl => ?_)
            refine lv_goto hx hb dX1_lonelyKey_52 (tgt := 4) rfl ?_
            exact ihn7 x2_4 (x3_5 + (1 : Int32)) ls hf (lv_sub hl [1, 2, 3, 0] rfl)
          · have hf := gif_f h16 hf
            refine lv_iload_n hx hb dX1_lonelyKey_39 rfl (lv_at hl 2 rfl) ?_
            refine lv_iload_n hx hb dX1_lonelyKey_40 rfl (lv_at hl 1 rfl) ?_
            refine lv_icmp_ne hx hb dX1_lonelyKey_41 (tgt := 46) rfl (fun h17 => ?_) (fun h17 => ?_)
            · have hf := gif_f h17 hf
              refine lv_iinc hx hb dX1_lonelyKey_46 hl (k := 2) (x := x2_4) rfl (kinc_1 _) (by decide) (lv' := [(2, .int (x2_4 + (1 : Int32))), (0, .ref (a0 0)), (1, .int p1), (3, .int x3_5)]) rfl (fun ls hl => ?_)
              refine lv_iinc hx hb dX1_lonelyKey_49 hl (k := 3) (x := x3_5) rfl (kinc_1 _) (by decide) (lv' := [(3, .int (x3_5 + (1 : Int32))), (2, .int (x2_4 + (1 : Int32))), (0, .ref (a0 0)), (1, .int p1)]) rfl (fun ls hl => ?_)
              refine lv_goto hx hb dX1_lonelyKey_52 (tgt := 4) rfl ?_
              exact ihn7 (x2_4 + (1 : Int32)) (x3_5 + (1 : Int32)) ls hf (lv_sub hl [2, 3, 1, 0] rfl)
            · have hf := gif_t h17 hf
              exact kK1 x3_5 ls hf (lv_sub hl [3] rfl)
  exact lpn7 10000 (0 : Int32) (0 : Int32) ls hf (lv_sub hl [2, 3, 1, 0] rfl)
theorem dX1_advance_0 : decode cX1_advance 0 = .ok (.aload_n 0, 1) := by decide +kernel
theorem dX1_advance_1 : decode cX1_advance 1 = .ok (.aload_n 0, 1) := by decide +kernel
theorem dX1_advance_2 : decode cX1_advance 2 = .ok (.getfield 56, 3) := by decide +kernel
theorem dX1_advance_5 : decode cX1_advance 5 = .ok (.iload_n 1, 1) := by decide +kernel
theorem dX1_advance_6 : decode cX1_advance 6 = .ok (.invokestatic 124, 3) := by decide +kernel
theorem dX1_advance_9 : decode cX1_advance 9 = .ok (.putfield 56, 3) := by decide +kernel
theorem dX1_advance_12 : decode cX1_advance 12 = .ok (.aload_n 0, 1) := by decide +kernel
theorem dX1_advance_13 : decode cX1_advance 13 = .ok (.getfield 62, 3) := by decide +kernel
theorem dX1_advance_16 : decode cX1_advance 16 = .ok (.istore_n 2, 1) := by decide +kernel
theorem dX1_advance_17 : decode cX1_advance 17 = .ok (.iconst 0, 1) := by decide +kernel
theorem dX1_advance_18 : decode cX1_advance 18 = .ok (.istore_n 3, 1) := by decide +kernel
theorem dX1_advance_19 : decode cX1_advance 19 = .ok (.iload_n 3, 1) := by decide +kernel
theorem dX1_advance_20 : decode cX1_advance 20 = .ok (.bipush 8, 2) := by decide +kernel
theorem dX1_advance_22 : decode cX1_advance 22 = .ok (.if_icmp .ge 57, 3) := by decide +kernel
theorem dX1_advance_25 : decode cX1_advance 25 = .ok (.aload_n 0, 1) := by decide +kernel
theorem dX1_advance_26 : decode cX1_advance 26 = .ok (.iload_n 3, 1) := by decide +kernel
theorem dX1_advance_27 : decode cX1_advance 27 = .ok (.aload_n 0, 1) := by decide +kernel
theorem dX1_advance_28 : decode cX1_advance 28 = .ok (.getfield 56, 3) := by decide +kernel
theorem dX1_advance_31 : decode cX1_advance 31 = .ok (.invokevirtual 136, 3) := by decide +kernel
theorem dX1_advance_34 : decode cX1_advance 34 = .ok (.ifCond .eq 39, 3) := by decide +kernel
theorem dX1_advance_37 : decode cX1_advance 37 = .ok (.aload_n 0, 1) := by decide +kernel
theorem dX1_advance_38 : decode cX1_advance 38 = .ok (.getfield 24, 3) := by decide +kernel
theorem dX1_advance_41 : decode cX1_advance 41 = .ok (.iload_n 3, 1) := by decide +kernel
theorem dX1_advance_42 : decode cX1_advance 42 = .ok (.invokevirtual 140, 3) := by decide +kernel
theorem dX1_advance_45 : decode cX1_advance 45 = .ok (.aload_n 0, 1) := by decide +kernel
theorem dX1_advance_46 : decode cX1_advance 46 = .ok (.getfield 42, 3) := by decide +kernel
theorem dX1_advance_49 : decode cX1_advance 49 = .ok (.iload_n 3, 1) := by decide +kernel
theorem dX1_advance_50 : decode cX1_advance 50 = .ok (.bipush (-2), 2) := by decide +kernel
theorem dX1_advance_52 : decode cX1_advance 52 = .ok (.iastore, 1) := by decide +kernel
theorem dX1_advance_53 : decode cX1_advance 53 = .ok (.aload_n 0, 1) := by decide +kernel
theorem dX1_advance_54 : decode cX1_advance 54 = .ok (.getfield 46, 3) := by decide +kernel
theorem dX1_advance_57 : decode cX1_advance 57 = .ok (.iload_n 3, 1) := by decide +kernel
theorem dX1_advance_58 : decode cX1_advance 58 = .ok (.dup2, 1) := by decide +kernel
theorem dX1_advance_59 : decode cX1_advance 59 = .ok (.iaload, 1) := by decide +kernel
theorem dX1_advance_60 : decode cX1_advance 60 = .ok (.iconst 1, 1) := by decide +kernel
theorem dX1_advance_61 : decode cX1_advance 61 = .ok (.iadd, 1) := by decide +kernel
theorem dX1_advance_62 : decode cX1_advance 62 = .ok (.iastore, 1) := by decide +kernel
theorem dX1_advance_63 : decode cX1_advance 63 = .ok (.aload_n 0, 1) := by decide +kernel
theorem dX1_advance_64 : decode cX1_advance 64 = .ok (.dup, 1) := by decide +kernel
theorem dX1_advance_65 : decode cX1_advance 65 = .ok (.getfield 62, 3) := by decide +kernel
theorem dX1_advance_68 : decode cX1_advance 68 = .ok (.iconst 1, 1) := by decide +kernel
theorem dX1_advance_69 : decode cX1_advance 69 = .ok (.iadd, 1) := by decide +kernel
theorem dX1_advance_70 : decode cX1_advance 70 = .ok (.putfield 62, 3) := by decide +kernel
theorem dX1_advance_73 : decode cX1_advance 73 = .ok (.iinc 3 1, 3) := by decide +kernel
theorem dX1_advance_76 : decode cX1_advance 76 = .ok (.goto (-57), 3) := by decide +kernel
theorem dX1_advance_79 : decode cX1_advance 79 = .ok (.aload_n 0, 1) := by decide +kernel
theorem dX1_advance_80 : decode cX1_advance 80 = .ok (.getfield 62, 3) := by decide +kernel
theorem dX1_advance_83 : decode cX1_advance 83 = .ok (.iload_n 2, 1) := by decide +kernel
theorem dX1_advance_84 : decode cX1_advance 84 = .ok (.isub, 1) := by decide +kernel
theorem dX1_advance_85 : decode cX1_advance 85 = .ok (.ireturn, 1) := by decide +kernel
def f_X1_advance_L19_5 (K1 : (BkT → Option (Int32 × BkT))) : Nat → Int32 → BkT → Option (Int32 × BkT)
  | 0, _, _ => none
  | n6 + 1, x3_3, s0_4 => if (8 : Int32) ≤ x3_3 then K1 s0_4
  else (f_X1_lapsesAt s0_4 x3_3 (Bk_clock s0_4)).bind fun r8 =>
  if r8 = 0 then f_X1_advance_L19_5 K1 n6 (x3_3 + (1 : Int32)) s0_4
  else (f_X0_emptyKey (Bk_board s0_4) x3_3).bind fun r11 =>
  if inb x3_3 8 then if inb x3_3 8 then if inb x3_3 8 then f_X1_advance_L19_5 K1 n6 (x3_3 + (1 : Int32)) (Bk_w_lapsed (Bk_w_lapses (Bk_w_latest (Bk_w_board s0_4 r11) (upd (Bk_latest s0_4) (ix x3_3) (-2 : Int32))) (upd (Bk_lapses s0_4) (ix x3_3) (((Bk_lapses s0_4) (ix x3_3)) + (1 : Int32)))) ((Bk_lapsed s0_4) + (1 : Int32))) else none else none else none
def f_X1_advance (s0 : BkT) (p1 : Int32) : Option (Int32 × BkT) :=
  glt (fun (s0_2 : BkT) => some (((Bk_lapsed s0_2) - (Bk_lapsed s0)), s0_2)) fun K1 =>
  f_X1_advance_L19_5 K1 10000 (0 : Int32) (Bk_w_clock s0 (if (Bk_clock s0) < p1 then p1 else (Bk_clock s0)))
abbrev rm_X1_advance : Room := { frames := 3, cells := 0, slots := 0, locals := 68 }
set_option maxHeartbeats 4000000 in
set_option maxRecDepth 100000 in
theorem c_X1_advance (l : Launch) (g : GK) (a0 : Nat → Nat) (s0 : BkT) (p1 : Int32) (res : (Int32 × BkT)) (hf : f_X1_advance s0 p1 = some res) : gM l yX1_advance cX1_advance 4 (some .int) rm_X1_advance g [.ref (a0 0), .int p1] (Bk_c g a0 s0) (fun _ : Unit => (some (.int (res.1)))) (fun _ => (Bk_c g a0 (res.2))) 0 0 := by
  refine gM_introI RX1 (by decide) rfl (Nat.le_of_ble_eq_true rfl) (fun p e s m args below meth c Q H locs ls A hE hZ hA hP hD hS hq hl => ?_)
  have hl : lv_has ls 4 [(0, .ref (a0 0)), (1, .int p1)] := hl
  have hx := hE.1
  have hb := hE.2.1
  rw [f_X1_advance] at hf
  refine lv_aload_n hx hb dX1_advance_0 rfl (lv_at hl 0 rfl) ?_
  refine lv_aload_n hx hb dX1_advance_1 rfl (lv_at hl 0 rfl) ?_
  refine g_get hE okX1 fl_X1_56 hP 0 rfl (v := .int (Bk_clock s0)) rfl dX1_advance_2 ?_
  refine lv_iload_n hx hb dX1_advance_5 rfl (lv_at hl 1 rfl) ?_
  refine g_mmax hE hl.1 km_X1_124 (Nat.le_of_ble_eq_true rfl) (rest := [.ref (a0 0)]) (Nat.le_of_ble_eq_true rfl) ⟨Nat.le_refl _, Nat.le_refl _⟩ dX1_advance_6 ?_
  refine g_put hE okX1 fl_X1_56 hP hD hS 0 rfl rfl rfl rfl (Nat.le_of_ble_eq_true rfl) (Bk_c g a0 (Bk_w_clock s0 (if (Bk_clock s0) < p1 then p1 else (Bk_clock s0)))) rfl dX1_advance_9 (fun H locs hP hD hS => ?_)
  refine lv_aload_n hx hb dX1_advance_12 rfl (lv_at hl 0 rfl) ?_
  refine g_get hE okX1 fl_X1_62 hP 0 rfl (v := .int (Bk_lapsed s0)) rfl dX1_advance_13 ?_
  refine lv_istore_n hx hb dX1_advance_16 rfl hl (by decide) (lv' := [(2, .int (Bk_lapsed s0)), (0, .ref (a0 0)), (1, .int p1)]) rfl (fun ls hl => ?_)
  refine lv_iconst hx hb dX1_advance_17 kci_0 ?_
  refine lv_istore_n hx hb dX1_advance_18 rfl hl (by decide) (lv' := [(3, .int (0 : Int32)), (2, .int (Bk_lapsed s0)), (0, .ref (a0 0)), (1, .int p1)]) rfl (fun ls hl => ?_)
  obtain ⟨K1, eK1, hf⟩ := gltd hf
  have kK1 : ∀ (s0_2 : BkT) (ls : Array Slot) (H : Heap) (locs : List Loc), K1 s0_2 = some res → lv_has ls 4 [(0, .ref (a0 0)), (2, .int (Bk_lapsed s0))] → gP g (Bk_c g a0 s0_2) H → va_D A (Bk_c g a0 s0_2) → va_S A s.heap H locs → W p l e rm_X1_advance s m args below meth c H locs 0 0 Q (F0 m 79 ls []) := by
    intro s0_2 ls H locs hf hl hP hD hS
    rw [eK1] at hf
    refine lv_aload_n hx hb dX1_advance_79 rfl (lv_at hl 0 rfl) ?_
    refine g_get hE okX1 fl_X1_62 hP 0 rfl (v := .int (Bk_lapsed s0_2)) rfl dX1_advance_80 ?_
    refine lv_iload_n hx hb dX1_advance_83 rfl (lv_at hl 1 rfl) ?_
    refine lv_isub hx hb dX1_advance_84 ?_
    cases hf
    exact hq () rfl hP hD hS dX1_advance_85
  have lpn6 : ∀ (n6 : Nat) (x3_3 : Int32) (s0_4 : BkT) (ls : Array Slot) (H : Heap) (locs : List Loc), f_X1_advance_L19_5 K1 n6 x3_3 s0_4 = some res → lv_has ls 4 [(0, .ref (a0 0)), (2, .int (Bk_lapsed s0)), (3, .int x3_3)] → gP g (Bk_c g a0 s0_4) H → va_D A (Bk_c g a0 s0_4) → va_S A s.heap H locs → W p l e rm_X1_advance s m args below meth c H locs 0 0 Q (F0 m 19 ls []) := by
    intro n6
    induction n6 with
    | zero => intro x3_3 s0_4 ls H locs hf hl hP hD hS; rw [f_X1_advance_L19_5] at hf; cases hf
    | succ n6 ihn6 =>
      intro x3_3 s0_4 ls H locs hf hl hP hD hS
      rw [f_X1_advance_L19_5] at hf
      refine lv_iload_n hx hb dX1_advance_19 rfl (lv_at hl 2 rfl) ?_
      refine lv_bipush hx hb dX1_advance_20 kcb_8 ?_
      refine lv_icmp_ge hx hb dX1_advance_22 (tgt := 79) rfl (fun h7 => ?_) (fun h7 => ?_)
      · have hf := gif_t h7 hf
        exact kK1 s0_4 ls H locs hf (lv_sub hl [0, 1] rfl) hP hD hS
      · have hf := gif_f h7 hf
        refine lv_aload_n hx hb dX1_advance_25 rfl (lv_at hl 0 rfl) ?_
        refine lv_iload_n hx hb dX1_advance_26 rfl (lv_at hl 2 rfl) ?_
        refine lv_aload_n hx hb dX1_advance_27 rfl (lv_at hl 0 rfl) ?_
        refine g_get hE okX1 fl_X1_56 hP 0 rfl (v := .int (Bk_clock s0_4)) rfl dX1_advance_28 ?_
        obtain ⟨r8, hc9, hf⟩ := gbd hf
        refine gr_callV (As := [.int x3_3, .int (Bk_clock s0_4)]) (rest := []) (st1 := [.int r8]) hE hl.1 ml_X1_136 (c_X1_lapsesAt l g a0 s0_4 x3_3 (Bk_clock s0_4) r8 hc9) hZ hS hP [(0, 25)] rfl okX1 rfl rfl rfl rfl ⟨rfl, rfl⟩ ⟨Nat.le_of_ble_eq_true rfl, Nat.le_of_ble_eq_true rfl⟩ ⟨Nat.le_refl _, Nat.le_refl _⟩ (Nat.le_of_ble_eq_true rfl) dX1_advance_31 ?_
        refine lv_if_eq hx hb dX1_advance_34 (tgt := 73) rfl (fun h10 => ?_) (fun h10 => ?_)
        · have hf := gif_t h10 hf
          refine lv_iinc hx hb dX1_advance_73 hl (k := 2) (x := x3_3) rfl (kinc_1 _) (by decide) (lv' := [(3, .int (x3_3 + (1 : Int32))), (0, .ref (a0 0)), (2, .int (Bk_lapsed s0))]) rfl (fun ls hl => ?_)
          refine lv_goto hx hb dX1_advance_76 (tgt := 19) rfl ?_
          exact ihn6 (x3_3 + (1 : Int32)) s0_4 ls H locs hf (lv_sub hl [1, 2, 0] rfl) hP hD hS
        · have hf := gif_f h10 hf
          refine lv_aload_n hx hb dX1_advance_37 rfl (lv_at hl 0 rfl) ?_
          refine g_get hE okX1 fl_X1_24 hP 0 rfl (v := .ref (a0 5)) rfl dX1_advance_38 ?_
          refine lv_iload_n hx hb dX1_advance_41 rfl (lv_at hl 2 rfl) ?_
          obtain ⟨r11, hc12, hf⟩ := gbd hf
          refine gm_callV1 (As := [.int x3_3]) (rest := []) (st1 := fun _ => []) (ws' := fun _ => (Bk_c g a0 (Bk_w_board s0_4 r11))) hE hl.1 ml_X1_140 (c_X0_emptyKey l g (fun k => a0 (k + 5)) (Bk_board s0_4) x3_3 r11 hc12) hZ hP hD hS hA 5 14 rfl (fun _ => rfl) okX0 rfl rfl rfl (fun _ => rfl) ⟨rfl, rfl⟩ ⟨Nat.le_of_ble_eq_true rfl, Nat.le_of_ble_eq_true rfl⟩ ⟨Nat.le_refl _, Nat.le_refl _⟩ (Nat.le_of_ble_eq_true rfl) dX1_advance_42 (fun _ H locs hP hD hS => ?_)
          refine lv_aload_n hx hb dX1_advance_45 rfl (lv_at hl 0 rfl) ?_
          refine g_get hE okX1 fl_X1_42 hP 0 rfl (v := .ref (a0 23)) rfl dX1_advance_46 ?_
          refine lv_iload_n hx hb dX1_advance_49 rfl (lv_at hl 2 rfl) ?_
          refine lv_bipush hx hb dX1_advance_50 kcb_m2 ?_
          obtain ⟨hg13, hf⟩ := ggd hf
          refine g_iast hE hP hD hS 23 (f := (Bk_latest s0_4)) rfl hg13 (Bk_c g a0 (Bk_w_latest (Bk_w_board s0_4 r11) (upd (Bk_latest s0_4) (ix x3_3) (-2 : Int32)))) rfl dX1_advance_52 (fun H locs hP hD hS => ?_)
          refine lv_aload_n hx hb dX1_advance_53 rfl (lv_at hl 0 rfl) ?_
          refine g_get hE okX1 fl_X1_46 hP 0 rfl (v := .ref (a0 24)) rfl dX1_advance_54 ?_
          refine lv_iload_n hx hb dX1_advance_57 rfl (lv_at hl 2 rfl) ?_
          refine lv_dup2_11 hx hb dX1_advance_58 rfl rfl ?_
          obtain ⟨hg14, hf⟩ := ggd hf
          refine g_iald hE hP 24 (f := (Bk_lapses s0_4)) rfl hg14 dX1_advance_59 ?_
          refine lv_iconst hx hb dX1_advance_60 kci_1 ?_
          refine lv_iadd hx hb dX1_advance_61 ?_
          obtain ⟨hg15, hf⟩ := ggd hf
          refine g_iast hE hP hD hS 24 (f := (Bk_lapses s0_4)) rfl hg15 (Bk_c g a0 (Bk_w_lapses (Bk_w_latest (Bk_w_board s0_4 r11) (upd (Bk_latest s0_4) (ix x3_3) (-2 : Int32))) (upd (Bk_lapses s0_4) (ix x3_3) (((Bk_lapses s0_4) (ix x3_3)) + (1 : Int32))))) rfl dX1_advance_62 (fun H locs hP hD hS => ?_)
          refine lv_aload_n hx hb dX1_advance_63 rfl (lv_at hl 0 rfl) ?_
          refine lv_dup hx hb dX1_advance_64 rfl ?_
          refine g_get hE okX1 fl_X1_62 hP 0 rfl (v := .int (Bk_lapsed s0_4)) rfl dX1_advance_65 ?_
          refine lv_iconst hx hb dX1_advance_68 kci_1 ?_
          refine lv_iadd hx hb dX1_advance_69 ?_
          refine g_put hE okX1 fl_X1_62 hP hD hS 0 rfl rfl rfl rfl (Nat.le_of_ble_eq_true rfl) (Bk_c g a0 (Bk_w_lapsed (Bk_w_lapses (Bk_w_latest (Bk_w_board s0_4 r11) (upd (Bk_latest s0_4) (ix x3_3) (-2 : Int32))) (upd (Bk_lapses s0_4) (ix x3_3) (((Bk_lapses s0_4) (ix x3_3)) + (1 : Int32)))) ((Bk_lapsed s0_4) + (1 : Int32)))) rfl dX1_advance_70 (fun H locs hP hD hS => ?_)
          refine lv_iinc hx hb dX1_advance_73 hl (k := 2) (x := x3_3) rfl (kinc_1 _) (by decide) (lv' := [(3, .int (x3_3 + (1 : Int32))), (0, .ref (a0 0)), (2, .int (Bk_lapsed s0))]) rfl (fun ls hl => ?_)
          refine lv_goto hx hb dX1_advance_76 (tgt := 19) rfl ?_
          exact ihn6 (x3_3 + (1 : Int32)) (Bk_w_lapsed (Bk_w_lapses (Bk_w_latest (Bk_w_board s0_4 r11) (upd (Bk_latest s0_4) (ix x3_3) (-2 : Int32))) (upd (Bk_lapses s0_4) (ix x3_3) (((Bk_lapses s0_4) (ix x3_3)) + (1 : Int32)))) ((Bk_lapsed s0_4) + (1 : Int32))) ls H locs hf (lv_sub hl [1, 2, 0] rfl) hP hD hS
  exact lpn6 10000 (0 : Int32) (Bk_w_clock s0 (if (Bk_clock s0) < p1 then p1 else (Bk_clock s0))) ls H locs hf (lv_sub hl [2, 1, 0] rfl) hP hD hS
theorem dX1_happen_0 : decode cX1_happen 0 = .ok (.aload_n 0, 1) := by decide +kernel
theorem dX1_happen_1 : decode cX1_happen 1 = .ok (.iload 5, 2) := by decide +kernel
theorem dX1_happen_3 : decode cX1_happen 3 = .ok (.invokevirtual 104, 3) := by decide +kernel
theorem dX1_happen_6 : decode cX1_happen 6 = .ok (.ifCond .eq 16, 3) := by decide +kernel
theorem dX1_happen_9 : decode cX1_happen 9 = .ok (.aload_n 0, 1) := by decide +kernel
theorem dX1_happen_10 : decode cX1_happen 10 = .ok (.dup, 1) := by decide +kernel
theorem dX1_happen_11 : decode cX1_happen 11 = .ok (.getfield 59, 3) := by decide +kernel
theorem dX1_happen_14 : decode cX1_happen 14 = .ok (.iconst 1, 1) := by decide +kernel
theorem dX1_happen_15 : decode cX1_happen 15 = .ok (.iadd, 1) := by decide +kernel
theorem dX1_happen_16 : decode cX1_happen 16 = .ok (.putfield 59, 3) := by decide +kernel
theorem dX1_happen_19 : decode cX1_happen 19 = .ok (.bipush (-2), 2) := by decide +kernel
theorem dX1_happen_21 : decode cX1_happen 21 = .ok (.ireturn, 1) := by decide +kernel
theorem dX1_happen_22 : decode cX1_happen 22 = .ok (.aload_n 0, 1) := by decide +kernel
theorem dX1_happen_23 : decode cX1_happen 23 = .ok (.iload 5, 2) := by decide +kernel
theorem dX1_happen_25 : decode cX1_happen 25 = .ok (.invokevirtual 107, 3) := by decide +kernel
theorem dX1_happen_28 : decode cX1_happen 28 = .ok (.pop, 1) := by decide +kernel
theorem dX1_happen_29 : decode cX1_happen 29 = .ok (.aload_n 0, 1) := by decide +kernel
theorem dX1_happen_30 : decode cX1_happen 30 = .ok (.getfield 24, 3) := by decide +kernel
theorem dX1_happen_33 : decode cX1_happen 33 = .ok (.getfield 111, 3) := by decide +kernel
theorem dX1_happen_36 : decode cX1_happen 36 = .ok (.invokevirtual 115, 3) := by decide +kernel
theorem dX1_happen_39 : decode cX1_happen 39 = .ok (.aload_n 0, 1) := by decide +kernel
theorem dX1_happen_40 : decode cX1_happen 40 = .ok (.getfield 24, 3) := by decide +kernel
theorem dX1_happen_43 : decode cX1_happen 43 = .ok (.iload_n 1, 1) := by decide +kernel
theorem dX1_happen_44 : decode cX1_happen 44 = .ok (.iload_n 2, 1) := by decide +kernel
theorem dX1_happen_45 : decode cX1_happen 45 = .ok (.iload_n 3, 1) := by decide +kernel
theorem dX1_happen_46 : decode cX1_happen 46 = .ok (.iload 4, 2) := by decide +kernel
theorem dX1_happen_48 : decode cX1_happen 48 = .ok (.invokevirtual 120, 3) := by decide +kernel
theorem dX1_happen_51 : decode cX1_happen 51 = .ok (.aload_n 0, 1) := by decide +kernel
theorem dX1_happen_52 : decode cX1_happen 52 = .ok (.getfield 42, 3) := by decide +kernel
theorem dX1_happen_55 : decode cX1_happen 55 = .ok (.iload_n 2, 1) := by decide +kernel
theorem dX1_happen_56 : decode cX1_happen 56 = .ok (.aload_n 0, 1) := by decide +kernel
theorem dX1_happen_57 : decode cX1_happen 57 = .ok (.getfield 42, 3) := by decide +kernel
theorem dX1_happen_60 : decode cX1_happen 60 = .ok (.iload_n 2, 1) := by decide +kernel
theorem dX1_happen_61 : decode cX1_happen 61 = .ok (.iaload, 1) := by decide +kernel
theorem dX1_happen_62 : decode cX1_happen 62 = .ok (.iload 5, 2) := by decide +kernel
theorem dX1_happen_64 : decode cX1_happen 64 = .ok (.invokestatic 124, 3) := by decide +kernel
theorem dX1_happen_67 : decode cX1_happen 67 = .ok (.iastore, 1) := by decide +kernel
theorem dX1_happen_68 : decode cX1_happen 68 = .ok (.aload_n 0, 1) := by decide +kernel
theorem dX1_happen_69 : decode cX1_happen 69 = .ok (.getfield 31, 3) := by decide +kernel
theorem dX1_happen_72 : decode cX1_happen 72 = .ok (.iload_n 1, 1) := by decide +kernel
theorem dX1_happen_73 : decode cX1_happen 73 = .ok (.iload_n 2, 1) := by decide +kernel
theorem dX1_happen_74 : decode cX1_happen 74 = .ok (.iload_n 3, 1) := by decide +kernel
theorem dX1_happen_75 : decode cX1_happen 75 = .ok (.iload 4, 2) := by decide +kernel
theorem dX1_happen_77 : decode cX1_happen 77 = .ok (.invokevirtual 130, 3) := by decide +kernel
theorem dX1_happen_80 : decode cX1_happen 80 = .ok (.aload_n 0, 1) := by decide +kernel
theorem dX1_happen_81 : decode cX1_happen 81 = .ok (.getfield 24, 3) := by decide +kernel
theorem dX1_happen_84 : decode cX1_happen 84 = .ok (.getfield 111, 3) := by decide +kernel
theorem dX1_happen_87 : decode cX1_happen 87 = .ok (.getfield 133, 3) := by decide +kernel
theorem dX1_happen_90 : decode cX1_happen 90 = .ok (.ireturn, 1) := by decide +kernel
def f_X1_happen (s0 : BkT) (p1 : Int32) (p2 : Int32) (p3 : Int32) (p4 : Int32) (p5 : Int32) : Option (Int32 × BkT) :=
  (f_X1_isTooLate s0 p5).bind fun r1 =>
  if r1 = 0 then (f_X1_advance s0 p5).bind fun r4 =>
  (f_X2_openAct (Bd_ledger (Bk_board (r4.2)))).bind fun r6 =>
  (f_X0_change (Bd_w_ledger (Bk_board (r4.2)) r6) p1 p2 p3 p4).bind fun r8 =>
  if inb p2 8 then if inb p2 8 then (f_X4_add (Bk_store (r4.2)) p1 p2 p3 p4).bind fun r12 =>
  some ((Lg_inAct (Bd_ledger r8)), (Bk_w_latest (Bk_w_store (Bk_w_board (r4.2) r8) r12) (upd (Bk_latest (r4.2)) (ix p2) (if ((Bk_latest (r4.2)) (ix p2)) < p5 then p5 else ((Bk_latest (r4.2)) (ix p2)))))) else none else none
  else some ((-2 : Int32), (Bk_w_tooLate s0 ((Bk_tooLate s0) + (1 : Int32))))
abbrev rm_X1_happen : Room := { frames := 4, cells := 0, slots := 0, locals := 105 }
set_option maxHeartbeats 4000000 in
set_option maxRecDepth 100000 in
theorem c_X1_happen (l : Launch) (g : GK) (a0 : Nat → Nat) (s0 : BkT) (p1 : Int32) (p2 : Int32) (p3 : Int32) (p4 : Int32) (p5 : Int32) (res : (Int32 × BkT)) (hf : f_X1_happen s0 p1 p2 p3 p4 p5 = some res) : gM l yX1_happen cX1_happen 6 (some .int) rm_X1_happen g [.ref (a0 0), .int p1, .int p2, .int p3, .int p4, .int p5] (Bk_c g a0 s0) (fun _ : Unit => (some (.int (res.1)))) (fun _ => (Bk_c g a0 (res.2))) 0 0 := by
  refine gM_introI RX1 (by decide) rfl (Nat.le_of_ble_eq_true rfl) (fun p e s m args below meth c Q H locs ls A hE hZ hA hP hD hS hq hl => ?_)
  have hl : lv_has ls 6 [(0, .ref (a0 0)), (1, .int p1), (2, .int p2), (3, .int p3), (4, .int p4), (5, .int p5)] := hl
  have hx := hE.1
  have hb := hE.2.1
  rw [f_X1_happen] at hf
  refine lv_aload_n hx hb dX1_happen_0 rfl (lv_at hl 0 rfl) ?_
  refine lv_iload hx hb dX1_happen_1 (lv_at hl 5 rfl) ?_
  obtain ⟨r1, hc2, hf⟩ := gbd hf
  refine gr_callV (As := [.int p5]) (rest := []) (st1 := [.int r1]) hE hl.1 ml_X1_104 (c_X1_isTooLate l g a0 s0 p5 r1 hc2) hZ hS hP [(0, 25)] rfl okX1 rfl rfl rfl rfl ⟨rfl, rfl⟩ ⟨Nat.le_of_ble_eq_true rfl, Nat.le_of_ble_eq_true rfl⟩ ⟨Nat.le_refl _, Nat.le_refl _⟩ (Nat.le_of_ble_eq_true rfl) dX1_happen_3 ?_
  refine lv_if_eq hx hb dX1_happen_6 (tgt := 22) rfl (fun h3 => ?_) (fun h3 => ?_)
  · have hf := gif_t h3 hf
    refine lv_aload_n hx hb dX1_happen_22 rfl (lv_at hl 0 rfl) ?_
    refine lv_iload hx hb dX1_happen_23 (lv_at hl 5 rfl) ?_
    obtain ⟨r4, hc5, hf⟩ := gbd hf
    refine gm_callV1 (As := [.int p5]) (rest := []) (st1 := fun _ => [.int (r4.1)]) (ws' := fun _ => (Bk_c g a0 (r4.2))) hE hl.1 ml_X1_107 (c_X1_advance l g a0 s0 p5 r4 hc5) hZ hP hD hS hA 0 25 rfl (fun _ => rfl) okX1 rfl rfl rfl (fun _ => rfl) ⟨rfl, rfl⟩ ⟨Nat.le_of_ble_eq_true rfl, Nat.le_of_ble_eq_true rfl⟩ ⟨Nat.le_refl _, Nat.le_refl _⟩ (Nat.le_of_ble_eq_true rfl) dX1_happen_25 (fun _ H locs hP hD hS => ?_)
    refine lv_pop hx hb dX1_happen_28 rfl ?_
    refine lv_aload_n hx hb dX1_happen_29 rfl (lv_at hl 0 rfl) ?_
    refine g_get hE okX1 fl_X1_24 hP 0 rfl (v := .ref (a0 5)) rfl dX1_happen_30 ?_
    refine g_get hE okX0 fl_X1_111 hP 5 rfl (v := .ref (a0 9)) rfl dX1_happen_33 ?_
    obtain ⟨r6, hc7, hf⟩ := gbd hf
    refine gm_callV1 (As := []) (rest := []) (st1 := fun _ => []) (ws' := fun _ => (Bk_c g a0 (Bk_w_board (r4.2) (Bd_w_ledger (Bk_board (r4.2)) r6)))) hE hl.1 ml_X1_115 (c_X2_openAct l g (fun k => a0 (k + 9)) (Bd_ledger (Bk_board (r4.2))) r6 hc7) hZ hP hD hS hA 9 14 rfl (fun _ => rfl) okX2 rfl rfl rfl (fun _ => rfl) ⟨rfl, rfl⟩ ⟨Nat.le_of_ble_eq_true rfl, Nat.le_of_ble_eq_true rfl⟩ ⟨Nat.le_refl _, Nat.le_refl _⟩ (Nat.le_of_ble_eq_true rfl) dX1_happen_36 (fun _ H locs hP hD hS => ?_)
    refine lv_aload_n hx hb dX1_happen_39 rfl (lv_at hl 0 rfl) ?_
    refine g_get hE okX1 fl_X1_24 hP 0 rfl (v := .ref (a0 5)) rfl dX1_happen_40 ?_
    refine lv_iload_n hx hb dX1_happen_43 rfl (lv_at hl 1 rfl) ?_
    refine lv_iload_n hx hb dX1_happen_44 rfl (lv_at hl 2 rfl) ?_
    refine lv_iload_n hx hb dX1_happen_45 rfl (lv_at hl 3 rfl) ?_
    refine lv_iload hx hb dX1_happen_46 (lv_at hl 4 rfl) ?_
    obtain ⟨r8, hc9, hf⟩ := gbd hf
    refine gm_callV1 (As := [.int p1, .int p2, .int p3, .int p4]) (rest := []) (st1 := fun _ => []) (ws' := fun _ => (Bk_c g a0 (Bk_w_board (r4.2) r8))) hE hl.1 ml_X1_120 (c_X0_change l g (fun k => a0 (k + 5)) (Bd_w_ledger (Bk_board (r4.2)) r6) p1 p2 p3 p4 r8 hc9) hZ hP hD hS hA 5 14 rfl (fun _ => rfl) okX0 rfl rfl rfl (fun _ => rfl) ⟨rfl, rfl⟩ ⟨Nat.le_of_ble_eq_true rfl, Nat.le_of_ble_eq_true rfl⟩ ⟨Nat.le_refl _, Nat.le_refl _⟩ (Nat.le_of_ble_eq_true rfl) dX1_happen_48 (fun _ H locs hP hD hS => ?_)
    refine lv_aload_n hx hb dX1_happen_51 rfl (lv_at hl 0 rfl) ?_
    refine g_get hE okX1 fl_X1_42 hP 0 rfl (v := .ref (a0 23)) rfl dX1_happen_52 ?_
    refine lv_iload_n hx hb dX1_happen_55 rfl (lv_at hl 2 rfl) ?_
    refine lv_aload_n hx hb dX1_happen_56 rfl (lv_at hl 0 rfl) ?_
    refine g_get hE okX1 fl_X1_42 hP 0 rfl (v := .ref (a0 23)) rfl dX1_happen_57 ?_
    refine lv_iload_n hx hb dX1_happen_60 rfl (lv_at hl 2 rfl) ?_
    obtain ⟨hg10, hf⟩ := ggd hf
    refine g_iald hE hP 23 (f := (Bk_latest (r4.2))) rfl hg10 dX1_happen_61 ?_
    refine lv_iload hx hb dX1_happen_62 (lv_at hl 5 rfl) ?_
    refine g_mmax hE hl.1 km_X1_124 (Nat.le_of_ble_eq_true rfl) (rest := [.int p2, .ref (a0 23)]) (Nat.le_of_ble_eq_true rfl) ⟨Nat.le_refl _, Nat.le_refl _⟩ dX1_happen_64 ?_
    obtain ⟨hg11, hf⟩ := ggd hf
    refine g_iast hE hP hD hS 23 (f := (Bk_latest (r4.2))) rfl hg11 (Bk_c g a0 (Bk_w_latest (Bk_w_board (r4.2) r8) (upd (Bk_latest (r4.2)) (ix p2) (if ((Bk_latest (r4.2)) (ix p2)) < p5 then p5 else ((Bk_latest (r4.2)) (ix p2)))))) rfl dX1_happen_67 (fun H locs hP hD hS => ?_)
    refine lv_aload_n hx hb dX1_happen_68 rfl (lv_at hl 0 rfl) ?_
    refine g_get hE okX1 fl_X1_31 hP 0 rfl (v := .ref (a0 14)) rfl dX1_happen_69 ?_
    refine lv_iload_n hx hb dX1_happen_72 rfl (lv_at hl 1 rfl) ?_
    refine lv_iload_n hx hb dX1_happen_73 rfl (lv_at hl 2 rfl) ?_
    refine lv_iload_n hx hb dX1_happen_74 rfl (lv_at hl 3 rfl) ?_
    refine lv_iload hx hb dX1_happen_75 (lv_at hl 4 rfl) ?_
    obtain ⟨r12, hc13, hf⟩ := gbd hf
    refine gm_callV1 (As := [.int p1, .int p2, .int p3, .int p4]) (rest := []) (st1 := fun _ => []) (ws' := fun _ => (Bk_c g a0 (Bk_w_latest (Bk_w_store (Bk_w_board (r4.2) r8) r12) (upd (Bk_latest (r4.2)) (ix p2) (if ((Bk_latest (r4.2)) (ix p2)) < p5 then p5 else ((Bk_latest (r4.2)) (ix p2))))))) hE hl.1 ml_X1_130 (c_X4_add l g (fun k => a0 (k + 14)) (Bk_store (r4.2)) p1 p2 p3 p4 r12 hc13) hZ hP hD hS hA 14 19 rfl (fun _ => rfl) okX4 rfl rfl rfl (fun _ => rfl) ⟨rfl, rfl⟩ ⟨Nat.le_of_ble_eq_true rfl, Nat.le_of_ble_eq_true rfl⟩ ⟨Nat.le_refl _, Nat.le_refl _⟩ (Nat.le_of_ble_eq_true rfl) dX1_happen_77 (fun _ H locs hP hD hS => ?_)
    refine lv_aload_n hx hb dX1_happen_80 rfl (lv_at hl 0 rfl) ?_
    refine g_get hE okX1 fl_X1_24 hP 0 rfl (v := .ref (a0 5)) rfl dX1_happen_81 ?_
    refine g_get hE okX0 fl_X1_111 hP 5 rfl (v := .ref (a0 9)) rfl dX1_happen_84 ?_
    refine g_get hE okX2 fl_X1_133 hP 9 rfl (v := .int (Lg_inAct (Bd_ledger r8))) rfl dX1_happen_87 ?_
    cases hf
    exact hq () rfl hP hD hS dX1_happen_90
  · have hf := gif_f h3 hf
    refine lv_aload_n hx hb dX1_happen_9 rfl (lv_at hl 0 rfl) ?_
    refine lv_dup hx hb dX1_happen_10 rfl ?_
    refine g_get hE okX1 fl_X1_59 hP 0 rfl (v := .int (Bk_tooLate s0)) rfl dX1_happen_11 ?_
    refine lv_iconst hx hb dX1_happen_14 kci_1 ?_
    refine lv_iadd hx hb dX1_happen_15 ?_
    refine g_put hE okX1 fl_X1_59 hP hD hS 0 rfl rfl rfl rfl (Nat.le_of_ble_eq_true rfl) (Bk_c g a0 (Bk_w_tooLate s0 ((Bk_tooLate s0) + (1 : Int32)))) rfl dX1_happen_16 (fun H locs hP hD hS => ?_)
    refine lv_bipush hx hb dX1_happen_19 kcb_m2 ?_
    cases hf
    exact hq () rfl hP hD hS dX1_happen_21
theorem dX1_exchange_0 : decode cX1_exchange 0 = .ok (.aload_n 0, 1) := by decide +kernel
theorem dX1_exchange_1 : decode cX1_exchange 1 = .ok (.getfield 24, 3) := by decide +kernel
theorem dX1_exchange_4 : decode cX1_exchange 4 = .ok (.getfield 111, 3) := by decide +kernel
theorem dX1_exchange_7 : decode cX1_exchange 7 = .ok (.invokevirtual 115, 3) := by decide +kernel
theorem dX1_exchange_10 : decode cX1_exchange 10 = .ok (.iconst 0, 1) := by decide +kernel
theorem dX1_exchange_11 : decode cX1_exchange 11 = .ok (.istore_n 2, 1) := by decide +kernel
theorem dX1_exchange_12 : decode cX1_exchange 12 = .ok (.iload_n 2, 1) := by decide +kernel
theorem dX1_exchange_13 : decode cX1_exchange 13 = .ok (.bipush 8, 2) := by decide +kernel
theorem dX1_exchange_15 : decode cX1_exchange 15 = .ok (.if_icmp .ge 26, 3) := by decide +kernel
theorem dX1_exchange_18 : decode cX1_exchange 18 = .ok (.aload_n 0, 1) := by decide +kernel
theorem dX1_exchange_19 : decode cX1_exchange 19 = .ok (.iload_n 2, 1) := by decide +kernel
theorem dX1_exchange_20 : decode cX1_exchange 20 = .ok (.invokevirtual 100, 3) := by decide +kernel
theorem dX1_exchange_23 : decode cX1_exchange 23 = .ok (.ifCond .eq 12, 3) := by decide +kernel
theorem dX1_exchange_26 : decode cX1_exchange 26 = .ok (.aload_n 0, 1) := by decide +kernel
theorem dX1_exchange_27 : decode cX1_exchange 27 = .ok (.getfield 24, 3) := by decide +kernel
theorem dX1_exchange_30 : decode cX1_exchange 30 = .ok (.iload_n 2, 1) := by decide +kernel
theorem dX1_exchange_31 : decode cX1_exchange 31 = .ok (.iload_n 1, 1) := by decide +kernel
theorem dX1_exchange_32 : decode cX1_exchange 32 = .ok (.invokevirtual 143, 3) := by decide +kernel
theorem dX1_exchange_35 : decode cX1_exchange 35 = .ok (.iinc 2 1, 3) := by decide +kernel
theorem dX1_exchange_38 : decode cX1_exchange 38 = .ok (.goto (-26), 3) := by decide +kernel
theorem dX1_exchange_41 : decode cX1_exchange 41 = .ok (.aload_n 0, 1) := by decide +kernel
theorem dX1_exchange_42 : decode cX1_exchange 42 = .ok (.getfield 24, 3) := by decide +kernel
theorem dX1_exchange_45 : decode cX1_exchange 45 = .ok (.iload_n 1, 1) := by decide +kernel
theorem dX1_exchange_46 : decode cX1_exchange 46 = .ok (.putfield 147, 3) := by decide +kernel
theorem dX1_exchange_49 : decode cX1_exchange 49 = .ok (.aload_n 0, 1) := by decide +kernel
theorem dX1_exchange_50 : decode cX1_exchange 50 = .ok (.getfield 24, 3) := by decide +kernel
theorem dX1_exchange_53 : decode cX1_exchange 53 = .ok (.getfield 111, 3) := by decide +kernel
theorem dX1_exchange_56 : decode cX1_exchange 56 = .ok (.getfield 133, 3) := by decide +kernel
theorem dX1_exchange_59 : decode cX1_exchange 59 = .ok (.ireturn, 1) := by decide +kernel
def f_X1_exchange_L12_7 (p1 : Int32) (K3 : (BkT → Option (Int32 × BkT))) : Nat → Int32 → BkT → Option (Int32 × BkT)
  | 0, _, _ => none
  | n8 + 1, x2_5, s0_6 => if (8 : Int32) ≤ x2_5 then K3 s0_6
  else (f_X1_lives s0_6 x2_5).bind fun r10 =>
  if r10 = 0 then f_X1_exchange_L12_7 p1 K3 n8 (x2_5 + (1 : Int32)) s0_6
  else (f_X0_exchangeOuters (Bk_board s0_6) x2_5 p1).bind fun r13 =>
  f_X1_exchange_L12_7 p1 K3 n8 (x2_5 + (1 : Int32)) (Bk_w_board s0_6 r13)
def f_X1_exchange (s0 : BkT) (p1 : Int32) : Option (Int32 × BkT) :=
  (f_X2_openAct (Bd_ledger (Bk_board s0))).bind fun r1 =>
  glt (fun (s0_4 : BkT) => some ((Lg_inAct (Bd_ledger (Bk_board s0_4))), (Bk_w_board s0_4 (Bd_w_how (Bk_board s0_4) p1)))) fun K3 =>
  f_X1_exchange_L12_7 p1 K3 10000 (0 : Int32) (Bk_w_board s0 (Bd_w_ledger (Bk_board s0) r1))
abbrev rm_X1_exchange : Room := { frames := 4, cells := 0, slots := 0, locals := 97 }
set_option maxHeartbeats 4000000 in
set_option maxRecDepth 100000 in
theorem c_X1_exchange (l : Launch) (g : GK) (a0 : Nat → Nat) (s0 : BkT) (p1 : Int32) (res : (Int32 × BkT)) (hf : f_X1_exchange s0 p1 = some res) : gM l yX1_exchange cX1_exchange 3 (some .int) rm_X1_exchange g [.ref (a0 0), .int p1] (Bk_c g a0 s0) (fun _ : Unit => (some (.int (res.1)))) (fun _ => (Bk_c g a0 (res.2))) 0 0 := by
  refine gM_introI RX1 (by decide) rfl (Nat.le_of_ble_eq_true rfl) (fun p e s m args below meth c Q H locs ls A hE hZ hA hP hD hS hq hl => ?_)
  have hl : lv_has ls 3 [(0, .ref (a0 0)), (1, .int p1)] := hl
  have hx := hE.1
  have hb := hE.2.1
  rw [f_X1_exchange] at hf
  refine lv_aload_n hx hb dX1_exchange_0 rfl (lv_at hl 0 rfl) ?_
  refine g_get hE okX1 fl_X1_24 hP 0 rfl (v := .ref (a0 5)) rfl dX1_exchange_1 ?_
  refine g_get hE okX0 fl_X1_111 hP 5 rfl (v := .ref (a0 9)) rfl dX1_exchange_4 ?_
  obtain ⟨r1, hc2, hf⟩ := gbd hf
  refine gm_callV1 (As := []) (rest := []) (st1 := fun _ => []) (ws' := fun _ => (Bk_c g a0 (Bk_w_board s0 (Bd_w_ledger (Bk_board s0) r1)))) hE hl.1 ml_X1_115 (c_X2_openAct l g (fun k => a0 (k + 9)) (Bd_ledger (Bk_board s0)) r1 hc2) hZ hP hD hS hA 9 14 rfl (fun _ => rfl) okX2 rfl rfl rfl (fun _ => rfl) ⟨rfl, rfl⟩ ⟨Nat.le_of_ble_eq_true rfl, Nat.le_of_ble_eq_true rfl⟩ ⟨Nat.le_refl _, Nat.le_refl _⟩ (Nat.le_of_ble_eq_true rfl) dX1_exchange_7 (fun _ H locs hP hD hS => ?_)
  refine lv_iconst hx hb dX1_exchange_10 kci_0 ?_
  refine lv_istore_n hx hb dX1_exchange_11 rfl hl (by decide) (lv' := [(2, .int (0 : Int32)), (0, .ref (a0 0)), (1, .int p1)]) rfl (fun ls hl => ?_)
  obtain ⟨K3, eK3, hf⟩ := gltd hf
  have kK3 : ∀ (s0_4 : BkT) (ls : Array Slot) (H : Heap) (locs : List Loc), K3 s0_4 = some res → lv_has ls 3 [(0, .ref (a0 0)), (1, .int p1)] → gP g (Bk_c g a0 s0_4) H → va_D A (Bk_c g a0 s0_4) → va_S A s.heap H locs → W p l e rm_X1_exchange s m args below meth c H locs 0 0 Q (F0 m 41 ls []) := by
    intro s0_4 ls H locs hf hl hP hD hS
    rw [eK3] at hf
    refine lv_aload_n hx hb dX1_exchange_41 rfl (lv_at hl 0 rfl) ?_
    refine g_get hE okX1 fl_X1_24 hP 0 rfl (v := .ref (a0 5)) rfl dX1_exchange_42 ?_
    refine lv_iload_n hx hb dX1_exchange_45 rfl (lv_at hl 1 rfl) ?_
    refine g_put hE okX0 fl_X1_147 hP hD hS 5 rfl rfl rfl rfl (Nat.le_of_ble_eq_true rfl) (Bk_c g a0 (Bk_w_board s0_4 (Bd_w_how (Bk_board s0_4) p1))) rfl dX1_exchange_46 (fun H locs hP hD hS => ?_)
    refine lv_aload_n hx hb dX1_exchange_49 rfl (lv_at hl 0 rfl) ?_
    refine g_get hE okX1 fl_X1_24 hP 0 rfl (v := .ref (a0 5)) rfl dX1_exchange_50 ?_
    refine g_get hE okX0 fl_X1_111 hP 5 rfl (v := .ref (a0 9)) rfl dX1_exchange_53 ?_
    refine g_get hE okX2 fl_X1_133 hP 9 rfl (v := .int (Lg_inAct (Bd_ledger (Bk_board s0_4)))) rfl dX1_exchange_56 ?_
    cases hf
    exact hq () rfl hP hD hS dX1_exchange_59
  have lpn8 : ∀ (n8 : Nat) (x2_5 : Int32) (s0_6 : BkT) (ls : Array Slot) (H : Heap) (locs : List Loc), f_X1_exchange_L12_7 p1 K3 n8 x2_5 s0_6 = some res → lv_has ls 3 [(0, .ref (a0 0)), (1, .int p1), (2, .int x2_5)] → gP g (Bk_c g a0 s0_6) H → va_D A (Bk_c g a0 s0_6) → va_S A s.heap H locs → W p l e rm_X1_exchange s m args below meth c H locs 0 0 Q (F0 m 12 ls []) := by
    intro n8
    induction n8 with
    | zero => intro x2_5 s0_6 ls H locs hf hl hP hD hS; rw [f_X1_exchange_L12_7] at hf; cases hf
    | succ n8 ihn8 =>
      intro x2_5 s0_6 ls H locs hf hl hP hD hS
      rw [f_X1_exchange_L12_7] at hf
      refine lv_iload_n hx hb dX1_exchange_12 rfl (lv_at hl 2 rfl) ?_
      refine lv_bipush hx hb dX1_exchange_13 kcb_8 ?_
      refine lv_icmp_ge hx hb dX1_exchange_15 (tgt := 41) rfl (fun h9 => ?_) (fun h9 => ?_)
      · have hf := gif_t h9 hf
        exact kK3 s0_6 ls H locs hf (lv_sub hl [0, 1] rfl) hP hD hS
      · have hf := gif_f h9 hf
        refine lv_aload_n hx hb dX1_exchange_18 rfl (lv_at hl 0 rfl) ?_
        refine lv_iload_n hx hb dX1_exchange_19 rfl (lv_at hl 2 rfl) ?_
        obtain ⟨r10, hc11, hf⟩ := gbd hf
        refine gr_callV (As := [.int x2_5]) (rest := []) (st1 := [.int r10]) hE hl.1 ml_X1_100 (c_X1_lives l g a0 s0_6 x2_5 r10 hc11) hZ hS hP [(0, 25)] rfl okX1 rfl rfl rfl rfl ⟨rfl, rfl⟩ ⟨Nat.le_of_ble_eq_true rfl, Nat.le_of_ble_eq_true rfl⟩ ⟨Nat.le_refl _, Nat.le_refl _⟩ (Nat.le_of_ble_eq_true rfl) dX1_exchange_20 ?_
        refine lv_if_eq hx hb dX1_exchange_23 (tgt := 35) rfl (fun h12 => ?_) (fun h12 => ?_)
        · have hf := gif_t h12 hf
          refine lv_iinc hx hb dX1_exchange_35 hl (k := 2) (x := x2_5) rfl (kinc_1 _) (by decide) (lv' := [(2, .int (x2_5 + (1 : Int32))), (0, .ref (a0 0)), (1, .int p1)]) rfl (fun ls hl => ?_)
          refine lv_goto hx hb dX1_exchange_38 (tgt := 12) rfl ?_
          exact ihn8 (x2_5 + (1 : Int32)) s0_6 ls H locs hf (lv_sub hl [1, 2, 0] rfl) hP hD hS
        · have hf := gif_f h12 hf
          refine lv_aload_n hx hb dX1_exchange_26 rfl (lv_at hl 0 rfl) ?_
          refine g_get hE okX1 fl_X1_24 hP 0 rfl (v := .ref (a0 5)) rfl dX1_exchange_27 ?_
          refine lv_iload_n hx hb dX1_exchange_30 rfl (lv_at hl 2 rfl) ?_
          refine lv_iload_n hx hb dX1_exchange_31 rfl (lv_at hl 1 rfl) ?_
          obtain ⟨r13, hc14, hf⟩ := gbd hf
          refine gm_callV1 (As := [.int x2_5, .int p1]) (rest := []) (st1 := fun _ => []) (ws' := fun _ => (Bk_c g a0 (Bk_w_board s0_6 r13))) hE hl.1 ml_X1_143 (c_X0_exchangeOuters l g (fun k => a0 (k + 5)) (Bk_board s0_6) x2_5 p1 r13 hc14) hZ hP hD hS hA 5 14 rfl (fun _ => rfl) okX0 rfl rfl rfl (fun _ => rfl) ⟨rfl, rfl⟩ ⟨Nat.le_of_ble_eq_true rfl, Nat.le_of_ble_eq_true rfl⟩ ⟨Nat.le_refl _, Nat.le_refl _⟩ (Nat.le_of_ble_eq_true rfl) dX1_exchange_32 (fun _ H locs hP hD hS => ?_)
          refine lv_iinc hx hb dX1_exchange_35 hl (k := 2) (x := x2_5) rfl (kinc_1 _) (by decide) (lv' := [(2, .int (x2_5 + (1 : Int32))), (0, .ref (a0 0)), (1, .int p1)]) rfl (fun ls hl => ?_)
          refine lv_goto hx hb dX1_exchange_38 (tgt := 12) rfl ?_
          exact ihn8 (x2_5 + (1 : Int32)) (Bk_w_board s0_6 r13) ls H locs hf (lv_sub hl [1, 2, 0] rfl) hP hD hS
  exact lpn8 10000 (0 : Int32) (Bk_w_board s0 (Bd_w_ledger (Bk_board s0) r1)) ls H locs hf (lv_sub hl [1, 2, 0] rfl) hP hD hS
theorem dX1_clear_0 : decode cX1_clear 0 = .ok (.aload_n 0, 1) := by decide +kernel
theorem dX1_clear_1 : decode cX1_clear 1 = .ok (.getfield 12, 3) := by decide +kernel
theorem dX1_clear_4 : decode cX1_clear 4 = .ok (.invokevirtual 65, 3) := by decide +kernel
theorem dX1_clear_7 : decode cX1_clear 7 = .ok (.aload_n 0, 1) := by decide +kernel
theorem dX1_clear_8 : decode cX1_clear 8 = .ok (.getfield 18, 3) := by decide +kernel
theorem dX1_clear_11 : decode cX1_clear 11 = .ok (.invokevirtual 65, 3) := by decide +kernel
theorem dX1_clear_14 : decode cX1_clear 14 = .ok (.aload_n 0, 1) := by decide +kernel
theorem dX1_clear_15 : decode cX1_clear 15 = .ok (.getfield 24, 3) := by decide +kernel
theorem dX1_clear_18 : decode cX1_clear 18 = .ok (.iload_n 1, 1) := by decide +kernel
theorem dX1_clear_19 : decode cX1_clear 19 = .ok (.invokevirtual 68, 3) := by decide +kernel
theorem dX1_clear_22 : decode cX1_clear 22 = .ok (.aload_n 0, 1) := by decide +kernel
theorem dX1_clear_23 : decode cX1_clear 23 = .ok (.getfield 31, 3) := by decide +kernel
theorem dX1_clear_26 : decode cX1_clear 26 = .ok (.iconst 0, 1) := by decide +kernel
theorem dX1_clear_27 : decode cX1_clear 27 = .ok (.putfield 71, 3) := by decide +kernel
theorem dX1_clear_30 : decode cX1_clear 30 = .ok (.aload_n 0, 1) := by decide +kernel
theorem dX1_clear_31 : decode cX1_clear 31 = .ok (.getfield 38, 3) := by decide +kernel
theorem dX1_clear_34 : decode cX1_clear 34 = .ok (.invokevirtual 74, 3) := by decide +kernel
theorem dX1_clear_37 : decode cX1_clear 37 = .ok (.aload_n 0, 1) := by decide +kernel
theorem dX1_clear_38 : decode cX1_clear 38 = .ok (.getfield 42, 3) := by decide +kernel
theorem dX1_clear_41 : decode cX1_clear 41 = .ok (.bipush (-2), 2) := by decide +kernel
theorem dX1_clear_43 : decode cX1_clear 43 = .ok (.invokestatic 75, 3) := by decide +kernel
theorem dX1_clear_46 : decode cX1_clear 46 = .ok (.aload_n 0, 1) := by decide +kernel
theorem dX1_clear_47 : decode cX1_clear 47 = .ok (.getfield 46, 3) := by decide +kernel
theorem dX1_clear_50 : decode cX1_clear 50 = .ok (.iconst 0, 1) := by decide +kernel
theorem dX1_clear_51 : decode cX1_clear 51 = .ok (.invokestatic 75, 3) := by decide +kernel
theorem dX1_clear_54 : decode cX1_clear 54 = .ok (.aload_n 0, 1) := by decide +kernel
theorem dX1_clear_55 : decode cX1_clear 55 = .ok (.iload_n 2, 1) := by decide +kernel
theorem dX1_clear_56 : decode cX1_clear 56 = .ok (.putfield 49, 3) := by decide +kernel
theorem dX1_clear_59 : decode cX1_clear 59 = .ok (.aload_n 0, 1) := by decide +kernel
theorem dX1_clear_60 : decode cX1_clear 60 = .ok (.iload_n 3, 1) := by decide +kernel
theorem dX1_clear_61 : decode cX1_clear 61 = .ok (.putfield 53, 3) := by decide +kernel
theorem dX1_clear_64 : decode cX1_clear 64 = .ok (.aload_n 0, 1) := by decide +kernel
theorem dX1_clear_65 : decode cX1_clear 65 = .ok (.iconst 0, 1) := by decide +kernel
theorem dX1_clear_66 : decode cX1_clear 66 = .ok (.putfield 56, 3) := by decide +kernel
theorem dX1_clear_69 : decode cX1_clear 69 = .ok (.aload_n 0, 1) := by decide +kernel
theorem dX1_clear_70 : decode cX1_clear 70 = .ok (.iconst 0, 1) := by decide +kernel
theorem dX1_clear_71 : decode cX1_clear 71 = .ok (.putfield 59, 3) := by decide +kernel
theorem dX1_clear_74 : decode cX1_clear 74 = .ok (.aload_n 0, 1) := by decide +kernel
theorem dX1_clear_75 : decode cX1_clear 75 = .ok (.iconst 0, 1) := by decide +kernel
theorem dX1_clear_76 : decode cX1_clear 76 = .ok (.putfield 62, 3) := by decide +kernel
theorem dX1_clear_79 : decode cX1_clear 79 = .ok (.return_, 1) := by decide +kernel
def f_X1_clear (s0 : BkT) (p1 : Int32) (p2 : Int32) (p3 : Int32) : Option (BkT) :=
  (f_X7_clear (Bk_keys s0)).bind fun r1 =>
  (f_X7_clear (Bk_values s0)).bind fun r3 =>
  (f_X0_clear (Bk_board s0) p1).bind fun r5 =>
  (f_X5_clear (Bk_subscribers s0)).bind fun r7 =>
  (f_J7_fill_53178 8 (Bk_latest s0) (-2 : Int32)).bind fun r9 =>
  (f_J7_fill_53178 8 (Bk_lapses s0) (0 : Int32)).bind fun r11 =>
  some ((Bk_w_lapsed (Bk_w_tooLate (Bk_w_clock (Bk_w_late (Bk_w_keep (Bk_w_lapses (Bk_w_latest (Bk_w_subscribers (Bk_w_store (Bk_w_board (Bk_w_values (Bk_w_keys s0 r1) r3) r5) (St_w_count (Bk_store s0) (0 : Int32))) r7) r9) r11) p2) p3) (0 : Int32)) (0 : Int32)) (0 : Int32)))
abbrev rm_X1_clear : Room := { frames := 3, cells := 0, slots := 0, locals := 64 }
set_option maxHeartbeats 4000000 in
set_option maxRecDepth 100000 in
theorem c_X1_clear (l : Launch) (g : GK) (a0 : Nat → Nat) (s0 : BkT) (p1 : Int32) (p2 : Int32) (p3 : Int32) (res : (BkT)) (hf : f_X1_clear s0 p1 p2 p3 = some res) : gM l yX1_clear cX1_clear 4 none rm_X1_clear g [.ref (a0 0), .int p1, .int p2, .int p3] (Bk_c g a0 s0) (fun _ : Unit => none) (fun _ => (Bk_c g a0 res)) 0 0 := by
  refine gM_introV RX1 (by decide) rfl (Nat.le_of_ble_eq_true rfl) (fun p e s m args below meth c Q H locs ls A hE hnm hZ hA hP hD hS hq hl => ?_)
  have hl : lv_has ls 4 [(0, .ref (a0 0)), (1, .int p1), (2, .int p2), (3, .int p3)] := hl
  have hx := hE.1
  have hb := hE.2.1
  rw [f_X1_clear] at hf
  refine lv_aload_n hx hb dX1_clear_0 rfl (lv_at hl 0 rfl) ?_
  refine g_get hE okX1 fl_X1_12 hP 0 rfl (v := .ref (a0 1)) rfl dX1_clear_1 ?_
  obtain ⟨r1, hc2, hf⟩ := gbd hf
  refine gm_callV1 (As := []) (rest := []) (st1 := fun _ => []) (ws' := fun _ => (Bk_c g a0 (Bk_w_keys s0 r1))) hE hl.1 ml_X1_65 (c_X7_clear l g (fun k => a0 (k + 1)) (Bk_keys s0) r1 hc2) hZ hP hD hS hA 1 3 rfl (fun _ => rfl) okX7 rfl rfl rfl (fun _ => rfl) ⟨rfl, rfl⟩ ⟨Nat.le_of_ble_eq_true rfl, Nat.le_of_ble_eq_true rfl⟩ ⟨Nat.le_refl _, Nat.le_refl _⟩ (Nat.le_of_ble_eq_true rfl) dX1_clear_4 (fun _ H locs hP hD hS => ?_)
  refine lv_aload_n hx hb dX1_clear_7 rfl (lv_at hl 0 rfl) ?_
  refine g_get hE okX1 fl_X1_18 hP 0 rfl (v := .ref (a0 3)) rfl dX1_clear_8 ?_
  obtain ⟨r3, hc4, hf⟩ := gbd hf
  refine gm_callV1 (As := []) (rest := []) (st1 := fun _ => []) (ws' := fun _ => (Bk_c g a0 (Bk_w_values (Bk_w_keys s0 r1) r3))) hE hl.1 ml_X1_65 (c_X7_clear l g (fun k => a0 (k + 3)) (Bk_values s0) r3 hc4) hZ hP hD hS hA 3 5 rfl (fun _ => rfl) okX7 rfl rfl rfl (fun _ => rfl) ⟨rfl, rfl⟩ ⟨Nat.le_of_ble_eq_true rfl, Nat.le_of_ble_eq_true rfl⟩ ⟨Nat.le_refl _, Nat.le_refl _⟩ (Nat.le_of_ble_eq_true rfl) dX1_clear_11 (fun _ H locs hP hD hS => ?_)
  refine lv_aload_n hx hb dX1_clear_14 rfl (lv_at hl 0 rfl) ?_
  refine g_get hE okX1 fl_X1_24 hP 0 rfl (v := .ref (a0 5)) rfl dX1_clear_15 ?_
  refine lv_iload_n hx hb dX1_clear_18 rfl (lv_at hl 1 rfl) ?_
  obtain ⟨r5, hc6, hf⟩ := gbd hf
  refine gm_callV1 (As := [.int p1]) (rest := []) (st1 := fun _ => []) (ws' := fun _ => (Bk_c g a0 (Bk_w_board (Bk_w_values (Bk_w_keys s0 r1) r3) r5))) hE hl.1 ml_X1_68 (c_X0_clear l g (fun k => a0 (k + 5)) (Bk_board s0) p1 r5 hc6) hZ hP hD hS hA 5 14 rfl (fun _ => rfl) okX0 rfl rfl rfl (fun _ => rfl) ⟨rfl, rfl⟩ ⟨Nat.le_of_ble_eq_true rfl, Nat.le_of_ble_eq_true rfl⟩ ⟨Nat.le_refl _, Nat.le_refl _⟩ (Nat.le_of_ble_eq_true rfl) dX1_clear_19 (fun _ H locs hP hD hS => ?_)
  refine lv_aload_n hx hb dX1_clear_22 rfl (lv_at hl 0 rfl) ?_
  refine g_get hE okX1 fl_X1_31 hP 0 rfl (v := .ref (a0 14)) rfl dX1_clear_23 ?_
  refine lv_iconst hx hb dX1_clear_26 kci_0 ?_
  refine g_put hE okX4 fl_X1_71 hP hD hS 14 rfl rfl rfl rfl (Nat.le_of_ble_eq_true rfl) (Bk_c g a0 (Bk_w_store (Bk_w_board (Bk_w_values (Bk_w_keys s0 r1) r3) r5) (St_w_count (Bk_store s0) (0 : Int32)))) rfl dX1_clear_27 (fun H locs hP hD hS => ?_)
  refine lv_aload_n hx hb dX1_clear_30 rfl (lv_at hl 0 rfl) ?_
  refine g_get hE okX1 fl_X1_38 hP 0 rfl (v := .ref (a0 19)) rfl dX1_clear_31 ?_
  obtain ⟨r7, hc8, hf⟩ := gbd hf
  refine gm_callV1 (As := []) (rest := []) (st1 := fun _ => []) (ws' := fun _ => (Bk_c g a0 (Bk_w_subscribers (Bk_w_store (Bk_w_board (Bk_w_values (Bk_w_keys s0 r1) r3) r5) (St_w_count (Bk_store s0) (0 : Int32))) r7))) hE hl.1 ml_X1_74 (c_X5_clear l g (fun k => a0 (k + 19)) (Bk_subscribers s0) r7 hc8) hZ hP hD hS hA 19 23 rfl (fun _ => rfl) okX5 rfl rfl rfl (fun _ => rfl) ⟨rfl, rfl⟩ ⟨Nat.le_of_ble_eq_true rfl, Nat.le_of_ble_eq_true rfl⟩ ⟨Nat.le_refl _, Nat.le_refl _⟩ (Nat.le_of_ble_eq_true rfl) dX1_clear_34 (fun _ H locs hP hD hS => ?_)
  refine lv_aload_n hx hb dX1_clear_37 rfl (lv_at hl 0 rfl) ?_
  refine g_get hE okX1 fl_X1_42 hP 0 rfl (v := .ref (a0 23)) rfl dX1_clear_38 ?_
  refine lv_bipush hx hb dX1_clear_41 kcb_m2 ?_
  obtain ⟨r9, hc10, hf⟩ := gbd hf
  refine gm_callS1 (As := [.ref (a0 23), .int (-2 : Int32)]) (rest := []) (st1 := fun _ => []) (ws' := fun _ => (Bk_c g a0 (Bk_w_latest (Bk_w_subscribers (Bk_w_store (Bk_w_board (Bk_w_values (Bk_w_keys s0 r1) r3) r5) (St_w_count (Bk_store s0) (0 : Int32))) r7) r9))) hE hl.1 ml_X1_75 (c_J7_fill_53178 l g (a0 23) 8 (Bk_latest s0) (-2 : Int32) r9 hc10) hZ hP hD hS hA 23 24 rfl (fun _ => rfl)  rfl rfl (fun _ => rfl) ⟨rfl, rfl⟩ ⟨Nat.le_of_ble_eq_true rfl, Nat.le_of_ble_eq_true rfl⟩ ⟨Nat.le_refl _, Nat.le_refl _⟩ (Nat.le_of_ble_eq_true rfl) dX1_clear_43 (fun _ H locs hP hD hS => ?_)
  refine lv_aload_n hx hb dX1_clear_46 rfl (lv_at hl 0 rfl) ?_
  refine g_get hE okX1 fl_X1_46 hP 0 rfl (v := .ref (a0 24)) rfl dX1_clear_47 ?_
  refine lv_iconst hx hb dX1_clear_50 kci_0 ?_
  obtain ⟨r11, hc12, hf⟩ := gbd hf
  refine gm_callS1 (As := [.ref (a0 24), .int (0 : Int32)]) (rest := []) (st1 := fun _ => []) (ws' := fun _ => (Bk_c g a0 (Bk_w_lapses (Bk_w_latest (Bk_w_subscribers (Bk_w_store (Bk_w_board (Bk_w_values (Bk_w_keys s0 r1) r3) r5) (St_w_count (Bk_store s0) (0 : Int32))) r7) r9) r11))) hE hl.1 ml_X1_75 (c_J7_fill_53178 l g (a0 24) 8 (Bk_lapses s0) (0 : Int32) r11 hc12) hZ hP hD hS hA 24 25 rfl (fun _ => rfl)  rfl rfl (fun _ => rfl) ⟨rfl, rfl⟩ ⟨Nat.le_of_ble_eq_true rfl, Nat.le_of_ble_eq_true rfl⟩ ⟨Nat.le_refl _, Nat.le_refl _⟩ (Nat.le_of_ble_eq_true rfl) dX1_clear_51 (fun _ H locs hP hD hS => ?_)
  refine lv_aload_n hx hb dX1_clear_54 rfl (lv_at hl 0 rfl) ?_
  refine lv_iload_n hx hb dX1_clear_55 rfl (lv_at hl 2 rfl) ?_
  refine g_put hE okX1 fl_X1_49 hP hD hS 0 rfl rfl rfl rfl (Nat.le_of_ble_eq_true rfl) (Bk_c g a0 (Bk_w_keep (Bk_w_lapses (Bk_w_latest (Bk_w_subscribers (Bk_w_store (Bk_w_board (Bk_w_values (Bk_w_keys s0 r1) r3) r5) (St_w_count (Bk_store s0) (0 : Int32))) r7) r9) r11) p2)) rfl dX1_clear_56 (fun H locs hP hD hS => ?_)
  refine lv_aload_n hx hb dX1_clear_59 rfl (lv_at hl 0 rfl) ?_
  refine lv_iload_n hx hb dX1_clear_60 rfl (lv_at hl 3 rfl) ?_
  refine g_put hE okX1 fl_X1_53 hP hD hS 0 rfl rfl rfl rfl (Nat.le_of_ble_eq_true rfl) (Bk_c g a0 (Bk_w_late (Bk_w_keep (Bk_w_lapses (Bk_w_latest (Bk_w_subscribers (Bk_w_store (Bk_w_board (Bk_w_values (Bk_w_keys s0 r1) r3) r5) (St_w_count (Bk_store s0) (0 : Int32))) r7) r9) r11) p2) p3)) rfl dX1_clear_61 (fun H locs hP hD hS => ?_)
  refine lv_aload_n hx hb dX1_clear_64 rfl (lv_at hl 0 rfl) ?_
  refine lv_iconst hx hb dX1_clear_65 kci_0 ?_
  refine g_put hE okX1 fl_X1_56 hP hD hS 0 rfl rfl rfl rfl (Nat.le_of_ble_eq_true rfl) (Bk_c g a0 (Bk_w_clock (Bk_w_late (Bk_w_keep (Bk_w_lapses (Bk_w_latest (Bk_w_subscribers (Bk_w_store (Bk_w_board (Bk_w_values (Bk_w_keys s0 r1) r3) r5) (St_w_count (Bk_store s0) (0 : Int32))) r7) r9) r11) p2) p3) (0 : Int32))) rfl dX1_clear_66 (fun H locs hP hD hS => ?_)
  refine lv_aload_n hx hb dX1_clear_69 rfl (lv_at hl 0 rfl) ?_
  refine lv_iconst hx hb dX1_clear_70 kci_0 ?_
  refine g_put hE okX1 fl_X1_59 hP hD hS 0 rfl rfl rfl rfl (Nat.le_of_ble_eq_true rfl) (Bk_c g a0 (Bk_w_tooLate (Bk_w_clock (Bk_w_late (Bk_w_keep (Bk_w_lapses (Bk_w_latest (Bk_w_subscribers (Bk_w_store (Bk_w_board (Bk_w_values (Bk_w_keys s0 r1) r3) r5) (St_w_count (Bk_store s0) (0 : Int32))) r7) r9) r11) p2) p3) (0 : Int32)) (0 : Int32))) rfl dX1_clear_71 (fun H locs hP hD hS => ?_)
  refine lv_aload_n hx hb dX1_clear_74 rfl (lv_at hl 0 rfl) ?_
  refine lv_iconst hx hb dX1_clear_75 kci_0 ?_
  refine g_put hE okX1 fl_X1_62 hP hD hS 0 rfl rfl rfl rfl (Nat.le_of_ble_eq_true rfl) (Bk_c g a0 (Bk_w_lapsed (Bk_w_tooLate (Bk_w_clock (Bk_w_late (Bk_w_keep (Bk_w_lapses (Bk_w_latest (Bk_w_subscribers (Bk_w_store (Bk_w_board (Bk_w_values (Bk_w_keys s0 r1) r3) r5) (St_w_count (Bk_store s0) (0 : Int32))) r7) r9) r11) p2) p3) (0 : Int32)) (0 : Int32)) (0 : Int32))) rfl dX1_clear_76 (fun H locs hP hD hS => ?_)
  cases hf
  exact hq () rfl hP hD hS dX1_clear_79
theorem dX1_copyFrom_0 : decode cX1_copyFrom 0 = .ok (.aload_n 0, 1) := by decide +kernel
theorem dX1_copyFrom_1 : decode cX1_copyFrom 1 = .ok (.getfield 12, 3) := by decide +kernel
theorem dX1_copyFrom_4 : decode cX1_copyFrom 4 = .ok (.aload_n 1, 1) := by decide +kernel
theorem dX1_copyFrom_5 : decode cX1_copyFrom 5 = .ok (.getfield 12, 3) := by decide +kernel
theorem dX1_copyFrom_8 : decode cX1_copyFrom 8 = .ok (.invokevirtual 81, 3) := by decide +kernel
theorem dX1_copyFrom_11 : decode cX1_copyFrom 11 = .ok (.aload_n 0, 1) := by decide +kernel
theorem dX1_copyFrom_12 : decode cX1_copyFrom 12 = .ok (.getfield 18, 3) := by decide +kernel
theorem dX1_copyFrom_15 : decode cX1_copyFrom 15 = .ok (.aload_n 1, 1) := by decide +kernel
theorem dX1_copyFrom_16 : decode cX1_copyFrom 16 = .ok (.getfield 18, 3) := by decide +kernel
theorem dX1_copyFrom_19 : decode cX1_copyFrom 19 = .ok (.invokevirtual 81, 3) := by decide +kernel
theorem dX1_copyFrom_22 : decode cX1_copyFrom 22 = .ok (.aload_n 0, 1) := by decide +kernel
theorem dX1_copyFrom_23 : decode cX1_copyFrom 23 = .ok (.getfield 24, 3) := by decide +kernel
theorem dX1_copyFrom_26 : decode cX1_copyFrom 26 = .ok (.aload_n 1, 1) := by decide +kernel
theorem dX1_copyFrom_27 : decode cX1_copyFrom 27 = .ok (.getfield 24, 3) := by decide +kernel
theorem dX1_copyFrom_30 : decode cX1_copyFrom 30 = .ok (.invokevirtual 85, 3) := by decide +kernel
theorem dX1_copyFrom_33 : decode cX1_copyFrom 33 = .ok (.aload_n 0, 1) := by decide +kernel
theorem dX1_copyFrom_34 : decode cX1_copyFrom 34 = .ok (.getfield 31, 3) := by decide +kernel
theorem dX1_copyFrom_37 : decode cX1_copyFrom 37 = .ok (.aload_n 1, 1) := by decide +kernel
theorem dX1_copyFrom_38 : decode cX1_copyFrom 38 = .ok (.getfield 31, 3) := by decide +kernel
theorem dX1_copyFrom_41 : decode cX1_copyFrom 41 = .ok (.invokevirtual 88, 3) := by decide +kernel
theorem dX1_copyFrom_44 : decode cX1_copyFrom 44 = .ok (.aload_n 0, 1) := by decide +kernel
theorem dX1_copyFrom_45 : decode cX1_copyFrom 45 = .ok (.getfield 38, 3) := by decide +kernel
theorem dX1_copyFrom_48 : decode cX1_copyFrom 48 = .ok (.aload_n 1, 1) := by decide +kernel
theorem dX1_copyFrom_49 : decode cX1_copyFrom 49 = .ok (.getfield 38, 3) := by decide +kernel
theorem dX1_copyFrom_52 : decode cX1_copyFrom 52 = .ok (.invokevirtual 91, 3) := by decide +kernel
theorem dX1_copyFrom_55 : decode cX1_copyFrom 55 = .ok (.aload_n 1, 1) := by decide +kernel
theorem dX1_copyFrom_56 : decode cX1_copyFrom 56 = .ok (.getfield 42, 3) := by decide +kernel
theorem dX1_copyFrom_59 : decode cX1_copyFrom 59 = .ok (.iconst 0, 1) := by decide +kernel
theorem dX1_copyFrom_60 : decode cX1_copyFrom 60 = .ok (.aload_n 0, 1) := by decide +kernel
theorem dX1_copyFrom_61 : decode cX1_copyFrom 61 = .ok (.getfield 42, 3) := by decide +kernel
theorem dX1_copyFrom_64 : decode cX1_copyFrom 64 = .ok (.iconst 0, 1) := by decide +kernel
theorem dX1_copyFrom_65 : decode cX1_copyFrom 65 = .ok (.bipush 8, 2) := by decide +kernel
theorem dX1_copyFrom_67 : decode cX1_copyFrom 67 = .ok (.invokestatic 94, 3) := by decide +kernel
theorem dX1_copyFrom_70 : decode cX1_copyFrom 70 = .ok (.aload_n 1, 1) := by decide +kernel
theorem dX1_copyFrom_71 : decode cX1_copyFrom 71 = .ok (.getfield 46, 3) := by decide +kernel
theorem dX1_copyFrom_74 : decode cX1_copyFrom 74 = .ok (.iconst 0, 1) := by decide +kernel
theorem dX1_copyFrom_75 : decode cX1_copyFrom 75 = .ok (.aload_n 0, 1) := by decide +kernel
theorem dX1_copyFrom_76 : decode cX1_copyFrom 76 = .ok (.getfield 46, 3) := by decide +kernel
theorem dX1_copyFrom_79 : decode cX1_copyFrom 79 = .ok (.iconst 0, 1) := by decide +kernel
theorem dX1_copyFrom_80 : decode cX1_copyFrom 80 = .ok (.bipush 8, 2) := by decide +kernel
theorem dX1_copyFrom_82 : decode cX1_copyFrom 82 = .ok (.invokestatic 94, 3) := by decide +kernel
theorem dX1_copyFrom_85 : decode cX1_copyFrom 85 = .ok (.aload_n 0, 1) := by decide +kernel
theorem dX1_copyFrom_86 : decode cX1_copyFrom 86 = .ok (.aload_n 1, 1) := by decide +kernel
theorem dX1_copyFrom_87 : decode cX1_copyFrom 87 = .ok (.getfield 49, 3) := by decide +kernel
theorem dX1_copyFrom_90 : decode cX1_copyFrom 90 = .ok (.putfield 49, 3) := by decide +kernel
theorem dX1_copyFrom_93 : decode cX1_copyFrom 93 = .ok (.aload_n 0, 1) := by decide +kernel
theorem dX1_copyFrom_94 : decode cX1_copyFrom 94 = .ok (.aload_n 1, 1) := by decide +kernel
theorem dX1_copyFrom_95 : decode cX1_copyFrom 95 = .ok (.getfield 53, 3) := by decide +kernel
theorem dX1_copyFrom_98 : decode cX1_copyFrom 98 = .ok (.putfield 53, 3) := by decide +kernel
theorem dX1_copyFrom_101 : decode cX1_copyFrom 101 = .ok (.aload_n 0, 1) := by decide +kernel
theorem dX1_copyFrom_102 : decode cX1_copyFrom 102 = .ok (.aload_n 1, 1) := by decide +kernel
theorem dX1_copyFrom_103 : decode cX1_copyFrom 103 = .ok (.getfield 56, 3) := by decide +kernel
theorem dX1_copyFrom_106 : decode cX1_copyFrom 106 = .ok (.putfield 56, 3) := by decide +kernel
theorem dX1_copyFrom_109 : decode cX1_copyFrom 109 = .ok (.aload_n 0, 1) := by decide +kernel
theorem dX1_copyFrom_110 : decode cX1_copyFrom 110 = .ok (.aload_n 1, 1) := by decide +kernel
theorem dX1_copyFrom_111 : decode cX1_copyFrom 111 = .ok (.getfield 59, 3) := by decide +kernel
theorem dX1_copyFrom_114 : decode cX1_copyFrom 114 = .ok (.putfield 59, 3) := by decide +kernel
theorem dX1_copyFrom_117 : decode cX1_copyFrom 117 = .ok (.aload_n 0, 1) := by decide +kernel
theorem dX1_copyFrom_118 : decode cX1_copyFrom 118 = .ok (.aload_n 1, 1) := by decide +kernel
theorem dX1_copyFrom_119 : decode cX1_copyFrom 119 = .ok (.getfield 62, 3) := by decide +kernel
theorem dX1_copyFrom_122 : decode cX1_copyFrom 122 = .ok (.putfield 62, 3) := by decide +kernel
theorem dX1_copyFrom_125 : decode cX1_copyFrom 125 = .ok (.return_, 1) := by decide +kernel
def f_X1_copyFrom (s0 : BkT) (s1 : BkT) : Option (BkT) :=
  (f_X7_copyFrom (Bk_keys s0) (Bk_keys s1)).bind fun r1 =>
  (f_X7_copyFrom (Bk_values s0) (Bk_values s1)).bind fun r3 =>
  (f_X0_copyFrom (Bk_board s0) (Bk_board s1)).bind fun r5 =>
  (f_X4_copyFrom (Bk_store s0) (Bk_store s1)).bind fun r7 =>
  (f_X5_copyFrom (Bk_subscribers s0) (Bk_subscribers s1)).bind fun r9 =>
  if cpok (0 : Int32) (0 : Int32) (8 : Int32) 8 8 then if cpok (0 : Int32) (0 : Int32) (8 : Int32) 8 8 then some ((Bk_w_lapsed (Bk_w_tooLate (Bk_w_clock (Bk_w_late (Bk_w_keep (Bk_w_lapses (Bk_w_latest (Bk_w_subscribers (Bk_w_store (Bk_w_board (Bk_w_values (Bk_w_keys s0 r1) r3) r5) r7) r9) (va_cpy (Bk_latest s1) (Bk_latest s0) (ix (0 : Int32)) (ix (0 : Int32)) (ix (8 : Int32)))) (va_cpy (Bk_lapses s1) (Bk_lapses s0) (ix (0 : Int32)) (ix (0 : Int32)) (ix (8 : Int32)))) (Bk_keep s1)) (Bk_late s1)) (Bk_clock s1)) (Bk_tooLate s1)) (Bk_lapsed s1))) else none else none
abbrev rm_X1_copyFrom : Room := { frames := 3, cells := 0, slots := 0, locals := 82 }
set_option maxHeartbeats 4000000 in
set_option maxRecDepth 100000 in
theorem c_X1_copyFrom (l : Launch) (g : GK) (a0 : Nat → Nat) (s0 : BkT) (a1 : Nat → Nat) (s1 : BkT) (res : (BkT)) (hf : f_X1_copyFrom s0 s1 = some res) : gM l yX1_copyFrom cX1_copyFrom 2 none rm_X1_copyFrom g [.ref (a0 0), .ref (a1 0)] (Bk_c g a0 s0 ++ Bk_c g a1 s1) (fun _ : Unit => none) (fun _ => (Bk_c g a0 res ++ Bk_c g a1 s1)) 0 0 := by
  refine gM_introV RX1 (by decide) rfl (Nat.le_of_ble_eq_true rfl) (fun p e s m args below meth c Q H locs ls A hE hnm hZ hA hP hD hS hq hl => ?_)
  have hl : lv_has ls 2 [(0, .ref (a0 0)), (1, .ref (a1 0))] := hl
  have hx := hE.1
  have hb := hE.2.1
  rw [f_X1_copyFrom] at hf
  refine lv_aload_n hx hb dX1_copyFrom_0 rfl (lv_at hl 0 rfl) ?_
  refine g_get hE okX1 fl_X1_12 hP 0 rfl (v := .ref (a0 1)) rfl dX1_copyFrom_1 ?_
  refine lv_aload_n hx hb dX1_copyFrom_4 rfl (lv_at hl 1 rfl) ?_
  refine g_get hE okX1 fl_X1_12 hP 25 rfl (v := .ref (a1 1)) rfl dX1_copyFrom_5 ?_
  obtain ⟨r1, hc2, hf⟩ := gbd hf
  refine gm_callV2 (As := [.ref (a1 1)]) (rest := []) (st1 := fun _ => []) (ws' := fun _ => (Bk_c g a0 (Bk_w_keys s0 r1) ++ Bk_c g a1 s1)) hE hl.1 ml_X1_81 (c_X7_copyFrom l g (fun k => a0 (k + 1)) (Bk_keys s0) (fun k => a1 (k + 1)) (Bk_keys s1) r1 hc2) hZ hP hD hS hA 1 3 23 28 rfl (fun _ => rfl) okX7 rfl rfl rfl (fun _ => rfl) ⟨rfl, rfl⟩ ⟨Nat.le_of_ble_eq_true rfl, Nat.le_of_ble_eq_true rfl⟩ ⟨Nat.le_refl _, Nat.le_refl _⟩ (Nat.le_of_ble_eq_true rfl) dX1_copyFrom_8 (fun _ H locs hP hD hS => ?_)
  refine lv_aload_n hx hb dX1_copyFrom_11 rfl (lv_at hl 0 rfl) ?_
  refine g_get hE okX1 fl_X1_18 hP 0 rfl (v := .ref (a0 3)) rfl dX1_copyFrom_12 ?_
  refine lv_aload_n hx hb dX1_copyFrom_15 rfl (lv_at hl 1 rfl) ?_
  refine g_get hE okX1 fl_X1_18 hP 25 rfl (v := .ref (a1 3)) rfl dX1_copyFrom_16 ?_
  obtain ⟨r3, hc4, hf⟩ := gbd hf
  refine gm_callV2 (As := [.ref (a1 3)]) (rest := []) (st1 := fun _ => []) (ws' := fun _ => (Bk_c g a0 (Bk_w_values (Bk_w_keys s0 r1) r3) ++ Bk_c g a1 s1)) hE hl.1 ml_X1_81 (c_X7_copyFrom l g (fun k => a0 (k + 3)) (Bk_values s0) (fun k => a1 (k + 3)) (Bk_values s1) r3 hc4) hZ hP hD hS hA 3 5 23 30 rfl (fun _ => rfl) okX7 rfl rfl rfl (fun _ => rfl) ⟨rfl, rfl⟩ ⟨Nat.le_of_ble_eq_true rfl, Nat.le_of_ble_eq_true rfl⟩ ⟨Nat.le_refl _, Nat.le_refl _⟩ (Nat.le_of_ble_eq_true rfl) dX1_copyFrom_19 (fun _ H locs hP hD hS => ?_)
  refine lv_aload_n hx hb dX1_copyFrom_22 rfl (lv_at hl 0 rfl) ?_
  refine g_get hE okX1 fl_X1_24 hP 0 rfl (v := .ref (a0 5)) rfl dX1_copyFrom_23 ?_
  refine lv_aload_n hx hb dX1_copyFrom_26 rfl (lv_at hl 1 rfl) ?_
  refine g_get hE okX1 fl_X1_24 hP 25 rfl (v := .ref (a1 5)) rfl dX1_copyFrom_27 ?_
  obtain ⟨r5, hc6, hf⟩ := gbd hf
  refine gm_callV2 (As := [.ref (a1 5)]) (rest := []) (st1 := fun _ => []) (ws' := fun _ => (Bk_c g a0 (Bk_w_board (Bk_w_values (Bk_w_keys s0 r1) r3) r5) ++ Bk_c g a1 s1)) hE hl.1 ml_X1_85 (c_X0_copyFrom l g (fun k => a0 (k + 5)) (Bk_board s0) (fun k => a1 (k + 5)) (Bk_board s1) r5 hc6) hZ hP hD hS hA 5 14 16 39 rfl (fun _ => rfl) okX0 rfl rfl rfl (fun _ => rfl) ⟨rfl, rfl⟩ ⟨Nat.le_of_ble_eq_true rfl, Nat.le_of_ble_eq_true rfl⟩ ⟨Nat.le_refl _, Nat.le_refl _⟩ (Nat.le_of_ble_eq_true rfl) dX1_copyFrom_30 (fun _ H locs hP hD hS => ?_)
  refine lv_aload_n hx hb dX1_copyFrom_33 rfl (lv_at hl 0 rfl) ?_
  refine g_get hE okX1 fl_X1_31 hP 0 rfl (v := .ref (a0 14)) rfl dX1_copyFrom_34 ?_
  refine lv_aload_n hx hb dX1_copyFrom_37 rfl (lv_at hl 1 rfl) ?_
  refine g_get hE okX1 fl_X1_31 hP 25 rfl (v := .ref (a1 14)) rfl dX1_copyFrom_38 ?_
  obtain ⟨r7, hc8, hf⟩ := gbd hf
  refine gm_callV2 (As := [.ref (a1 14)]) (rest := []) (st1 := fun _ => []) (ws' := fun _ => (Bk_c g a0 (Bk_w_store (Bk_w_board (Bk_w_values (Bk_w_keys s0 r1) r3) r5) r7) ++ Bk_c g a1 s1)) hE hl.1 ml_X1_88 (c_X4_copyFrom l g (fun k => a0 (k + 14)) (Bk_store s0) (fun k => a1 (k + 14)) (Bk_store s1) r7 hc8) hZ hP hD hS hA 14 19 20 44 rfl (fun _ => rfl) okX4 rfl rfl rfl (fun _ => rfl) ⟨rfl, rfl⟩ ⟨Nat.le_of_ble_eq_true rfl, Nat.le_of_ble_eq_true rfl⟩ ⟨Nat.le_refl _, Nat.le_refl _⟩ (Nat.le_of_ble_eq_true rfl) dX1_copyFrom_41 (fun _ H locs hP hD hS => ?_)
  refine lv_aload_n hx hb dX1_copyFrom_44 rfl (lv_at hl 0 rfl) ?_
  refine g_get hE okX1 fl_X1_38 hP 0 rfl (v := .ref (a0 19)) rfl dX1_copyFrom_45 ?_
  refine lv_aload_n hx hb dX1_copyFrom_48 rfl (lv_at hl 1 rfl) ?_
  refine g_get hE okX1 fl_X1_38 hP 25 rfl (v := .ref (a1 19)) rfl dX1_copyFrom_49 ?_
  obtain ⟨r9, hc10, hf⟩ := gbd hf
  refine gm_callV2 (As := [.ref (a1 19)]) (rest := []) (st1 := fun _ => []) (ws' := fun _ => (Bk_c g a0 (Bk_w_subscribers (Bk_w_store (Bk_w_board (Bk_w_values (Bk_w_keys s0 r1) r3) r5) r7) r9) ++ Bk_c g a1 s1)) hE hl.1 ml_X1_91 (c_X5_copyFrom l g (fun k => a0 (k + 19)) (Bk_subscribers s0) (fun k => a1 (k + 19)) (Bk_subscribers s1) r9 hc10) hZ hP hD hS hA 19 23 21 48 rfl (fun _ => rfl) okX5 rfl rfl rfl (fun _ => rfl) ⟨rfl, rfl⟩ ⟨Nat.le_of_ble_eq_true rfl, Nat.le_of_ble_eq_true rfl⟩ ⟨Nat.le_refl _, Nat.le_refl _⟩ (Nat.le_of_ble_eq_true rfl) dX1_copyFrom_52 (fun _ H locs hP hD hS => ?_)
  refine lv_aload_n hx hb dX1_copyFrom_55 rfl (lv_at hl 1 rfl) ?_
  refine g_get hE okX1 fl_X1_42 hP 25 rfl (v := .ref (a1 23)) rfl dX1_copyFrom_56 ?_
  refine lv_iconst hx hb dX1_copyFrom_59 kci_0 ?_
  refine lv_aload_n hx hb dX1_copyFrom_60 rfl (lv_at hl 0 rfl) ?_
  refine g_get hE okX1 fl_X1_42 hP 0 rfl (v := .ref (a0 23)) rfl dX1_copyFrom_61 ?_
  refine lv_iconst hx hb dX1_copyFrom_64 kci_0 ?_
  refine lv_bipush hx hb dX1_copyFrom_65 kcb_8 ?_
  obtain ⟨hg11, hf⟩ := ggd hf
  refine g_copyi hE hl.1 km_X1_94 hP hD hS 48 23 (f := (Bk_latest s1)) (f2 := (Bk_latest s0)) rfl rfl hg11 (Nat.le_of_ble_eq_true rfl) (rest := []) (Nat.le_of_ble_eq_true rfl) (Bk_c g a0 (Bk_w_latest (Bk_w_subscribers (Bk_w_store (Bk_w_board (Bk_w_values (Bk_w_keys s0 r1) r3) r5) r7) r9) (va_cpy (Bk_latest s1) (Bk_latest s0) (ix (0 : Int32)) (ix (0 : Int32)) (ix (8 : Int32)))) ++ Bk_c g a1 s1) rfl dX1_copyFrom_67 (fun H locs hP hD hS => ?_)
  refine lv_aload_n hx hb dX1_copyFrom_70 rfl (lv_at hl 1 rfl) ?_
  refine g_get hE okX1 fl_X1_46 hP 25 rfl (v := .ref (a1 24)) rfl dX1_copyFrom_71 ?_
  refine lv_iconst hx hb dX1_copyFrom_74 kci_0 ?_
  refine lv_aload_n hx hb dX1_copyFrom_75 rfl (lv_at hl 0 rfl) ?_
  refine g_get hE okX1 fl_X1_46 hP 0 rfl (v := .ref (a0 24)) rfl dX1_copyFrom_76 ?_
  refine lv_iconst hx hb dX1_copyFrom_79 kci_0 ?_
  refine lv_bipush hx hb dX1_copyFrom_80 kcb_8 ?_
  obtain ⟨hg12, hf⟩ := ggd hf
  refine g_copyi hE hl.1 km_X1_94 hP hD hS 49 24 (f := (Bk_lapses s1)) (f2 := (Bk_lapses s0)) rfl rfl hg12 (Nat.le_of_ble_eq_true rfl) (rest := []) (Nat.le_of_ble_eq_true rfl) (Bk_c g a0 (Bk_w_lapses (Bk_w_latest (Bk_w_subscribers (Bk_w_store (Bk_w_board (Bk_w_values (Bk_w_keys s0 r1) r3) r5) r7) r9) (va_cpy (Bk_latest s1) (Bk_latest s0) (ix (0 : Int32)) (ix (0 : Int32)) (ix (8 : Int32)))) (va_cpy (Bk_lapses s1) (Bk_lapses s0) (ix (0 : Int32)) (ix (0 : Int32)) (ix (8 : Int32)))) ++ Bk_c g a1 s1) rfl dX1_copyFrom_82 (fun H locs hP hD hS => ?_)
  refine lv_aload_n hx hb dX1_copyFrom_85 rfl (lv_at hl 0 rfl) ?_
  refine lv_aload_n hx hb dX1_copyFrom_86 rfl (lv_at hl 1 rfl) ?_
  refine g_get hE okX1 fl_X1_49 hP 25 rfl (v := .int (Bk_keep s1)) rfl dX1_copyFrom_87 ?_
  refine g_put hE okX1 fl_X1_49 hP hD hS 0 rfl rfl rfl rfl (Nat.le_of_ble_eq_true rfl) (Bk_c g a0 (Bk_w_keep (Bk_w_lapses (Bk_w_latest (Bk_w_subscribers (Bk_w_store (Bk_w_board (Bk_w_values (Bk_w_keys s0 r1) r3) r5) r7) r9) (va_cpy (Bk_latest s1) (Bk_latest s0) (ix (0 : Int32)) (ix (0 : Int32)) (ix (8 : Int32)))) (va_cpy (Bk_lapses s1) (Bk_lapses s0) (ix (0 : Int32)) (ix (0 : Int32)) (ix (8 : Int32)))) (Bk_keep s1)) ++ Bk_c g a1 s1) rfl dX1_copyFrom_90 (fun H locs hP hD hS => ?_)
  refine lv_aload_n hx hb dX1_copyFrom_93 rfl (lv_at hl 0 rfl) ?_
  refine lv_aload_n hx hb dX1_copyFrom_94 rfl (lv_at hl 1 rfl) ?_
  refine g_get hE okX1 fl_X1_53 hP 25 rfl (v := .int (Bk_late s1)) rfl dX1_copyFrom_95 ?_
  refine g_put hE okX1 fl_X1_53 hP hD hS 0 rfl rfl rfl rfl (Nat.le_of_ble_eq_true rfl) (Bk_c g a0 (Bk_w_late (Bk_w_keep (Bk_w_lapses (Bk_w_latest (Bk_w_subscribers (Bk_w_store (Bk_w_board (Bk_w_values (Bk_w_keys s0 r1) r3) r5) r7) r9) (va_cpy (Bk_latest s1) (Bk_latest s0) (ix (0 : Int32)) (ix (0 : Int32)) (ix (8 : Int32)))) (va_cpy (Bk_lapses s1) (Bk_lapses s0) (ix (0 : Int32)) (ix (0 : Int32)) (ix (8 : Int32)))) (Bk_keep s1)) (Bk_late s1)) ++ Bk_c g a1 s1) rfl dX1_copyFrom_98 (fun H locs hP hD hS => ?_)
  refine lv_aload_n hx hb dX1_copyFrom_101 rfl (lv_at hl 0 rfl) ?_
  refine lv_aload_n hx hb dX1_copyFrom_102 rfl (lv_at hl 1 rfl) ?_
  refine g_get hE okX1 fl_X1_56 hP 25 rfl (v := .int (Bk_clock s1)) rfl dX1_copyFrom_103 ?_
  refine g_put hE okX1 fl_X1_56 hP hD hS 0 rfl rfl rfl rfl (Nat.le_of_ble_eq_true rfl) (Bk_c g a0 (Bk_w_clock (Bk_w_late (Bk_w_keep (Bk_w_lapses (Bk_w_latest (Bk_w_subscribers (Bk_w_store (Bk_w_board (Bk_w_values (Bk_w_keys s0 r1) r3) r5) r7) r9) (va_cpy (Bk_latest s1) (Bk_latest s0) (ix (0 : Int32)) (ix (0 : Int32)) (ix (8 : Int32)))) (va_cpy (Bk_lapses s1) (Bk_lapses s0) (ix (0 : Int32)) (ix (0 : Int32)) (ix (8 : Int32)))) (Bk_keep s1)) (Bk_late s1)) (Bk_clock s1)) ++ Bk_c g a1 s1) rfl dX1_copyFrom_106 (fun H locs hP hD hS => ?_)
  refine lv_aload_n hx hb dX1_copyFrom_109 rfl (lv_at hl 0 rfl) ?_
  refine lv_aload_n hx hb dX1_copyFrom_110 rfl (lv_at hl 1 rfl) ?_
  refine g_get hE okX1 fl_X1_59 hP 25 rfl (v := .int (Bk_tooLate s1)) rfl dX1_copyFrom_111 ?_
  refine g_put hE okX1 fl_X1_59 hP hD hS 0 rfl rfl rfl rfl (Nat.le_of_ble_eq_true rfl) (Bk_c g a0 (Bk_w_tooLate (Bk_w_clock (Bk_w_late (Bk_w_keep (Bk_w_lapses (Bk_w_latest (Bk_w_subscribers (Bk_w_store (Bk_w_board (Bk_w_values (Bk_w_keys s0 r1) r3) r5) r7) r9) (va_cpy (Bk_latest s1) (Bk_latest s0) (ix (0 : Int32)) (ix (0 : Int32)) (ix (8 : Int32)))) (va_cpy (Bk_lapses s1) (Bk_lapses s0) (ix (0 : Int32)) (ix (0 : Int32)) (ix (8 : Int32)))) (Bk_keep s1)) (Bk_late s1)) (Bk_clock s1)) (Bk_tooLate s1)) ++ Bk_c g a1 s1) rfl dX1_copyFrom_114 (fun H locs hP hD hS => ?_)
  refine lv_aload_n hx hb dX1_copyFrom_117 rfl (lv_at hl 0 rfl) ?_
  refine lv_aload_n hx hb dX1_copyFrom_118 rfl (lv_at hl 1 rfl) ?_
  refine g_get hE okX1 fl_X1_62 hP 25 rfl (v := .int (Bk_lapsed s1)) rfl dX1_copyFrom_119 ?_
  refine g_put hE okX1 fl_X1_62 hP hD hS 0 rfl rfl rfl rfl (Nat.le_of_ble_eq_true rfl) (Bk_c g a0 (Bk_w_lapsed (Bk_w_tooLate (Bk_w_clock (Bk_w_late (Bk_w_keep (Bk_w_lapses (Bk_w_latest (Bk_w_subscribers (Bk_w_store (Bk_w_board (Bk_w_values (Bk_w_keys s0 r1) r3) r5) r7) r9) (va_cpy (Bk_latest s1) (Bk_latest s0) (ix (0 : Int32)) (ix (0 : Int32)) (ix (8 : Int32)))) (va_cpy (Bk_lapses s1) (Bk_lapses s0) (ix (0 : Int32)) (ix (0 : Int32)) (ix (8 : Int32)))) (Bk_keep s1)) (Bk_late s1)) (Bk_clock s1)) (Bk_tooLate s1)) (Bk_lapsed s1)) ++ Bk_c g a1 s1) rfl dX1_copyFrom_122 (fun H locs hP hD hS => ?_)
  cases hf
  exact hq () rfl hP hD hS dX1_copyFrom_125
