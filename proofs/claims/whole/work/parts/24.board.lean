abbrev BdT : Type := (Nat → Int32) × (Nat → Int32) × (Nat → Int32) × LgT × Int32
abbrev Bd_nets (s : BdT) : (Nat → Int32) := s.1
abbrev Bd_sums (s : BdT) : (Nat → Int32) := s.2.1
abbrev Bd_turns (s : BdT) : (Nat → Int32) := s.2.2.1
abbrev Bd_ledger (s : BdT) : LgT := s.2.2.2.1
abbrev Bd_how (s : BdT) : Int32 := s.2.2.2.2
abbrev Bd_mk (x0 : (Nat → Int32)) (x1 : (Nat → Int32)) (x2 : (Nat → Int32)) (x3 : LgT) (x4 : Int32) : BdT := (x0, x1, x2, x3, x4)
abbrev Bd_w_nets (s : BdT) (v : (Nat → Int32)) : BdT := (v, s.2.1, s.2.2.1, s.2.2.2.1, s.2.2.2.2)
abbrev Bd_w_sums (s : BdT) (v : (Nat → Int32)) : BdT := (s.1, v, s.2.2.1, s.2.2.2.1, s.2.2.2.2)
abbrev Bd_w_turns (s : BdT) (v : (Nat → Int32)) : BdT := (s.1, s.2.1, v, s.2.2.2.1, s.2.2.2.2)
abbrev Bd_w_ledger (s : BdT) (v : LgT) : BdT := (s.1, s.2.1, s.2.2.1, v, s.2.2.2.2)
abbrev Bd_w_how (s : BdT) (v : Int32) : BdT := (s.1, s.2.1, s.2.2.1, s.2.2.2.1, v)
abbrev Bd_c (g : GK) (a : Nat → Nat) (s : BdT) : va_W := [(a 0, .inr (1, [.ref (a 1), .ref (a 2), .ref (a 3), .ref (a 4), .int (Bd_how s)])), (a 1, .inl (g.2.1, 128, .inl (Bd_nets s))), (a 2, .inl (g.2.1, 648, .inl (Bd_sums s))), (a 3, .inl (g.2.1, 16, .inl (Bd_turns s))), (a 4, .inr (3, [.ref (a 5), .ref (a 6), .ref (a 7), .ref (a 8), .int (Lg_total (Bd_ledger s)), .int (Lg_came (Bd_ledger s)), .int (Lg_went (Bd_ledger s)), .int (Lg_acts (Bd_ledger s)), .int (Lg_inAct (Bd_ledger s)), .int (Lg_most (Bd_ledger s)), .int (Lg_actOfMost (Bd_ledger s))])), (a 5, .inl (g.2.1, 60, .inl (Lg_places (Bd_ledger s)))), (a 6, .inl (g.2.1, 60, .inl (Lg_amounts (Bd_ledger s)))), (a 7, .inl (g.2.1, 60, .inl (Lg_numbers (Bd_ledger s)))), (a 8, .inl (g.2.1, 8, .inl (Lg_byKey (Bd_ledger s))))]
theorem km_X0_79 : Cond.methodLink RX0 79 arraycopyName ∈ TBL := tb (in5 (List.mem_of_getElem? (i := 148) (by decide +kernel))) (by decide +kernel)
theorem kcb_64 : (Int8.ofInt (64)).toInt32 = (64 : Int32) := by decide
theorem kci_2 : Int32.ofInt (2) = (2 : Int32) := by decide
theorem dX0_netPlace_0 : decode cX0_netPlace 0 = .ok (.iload_n 0, 1) := by decide +kernel
theorem dX0_netPlace_1 : decode cX0_netPlace 1 = .ok (.bipush 8, 2) := by decide +kernel
theorem dX0_netPlace_3 : decode cX0_netPlace 3 = .ok (.imul, 1) := by decide +kernel
theorem dX0_netPlace_4 : decode cX0_netPlace 4 = .ok (.iload_n 1, 1) := by decide +kernel
theorem dX0_netPlace_5 : decode cX0_netPlace 5 = .ok (.iadd, 1) := by decide +kernel
theorem dX0_netPlace_6 : decode cX0_netPlace 6 = .ok (.bipush 8, 2) := by decide +kernel
theorem dX0_netPlace_8 : decode cX0_netPlace 8 = .ok (.imul, 1) := by decide +kernel
theorem dX0_netPlace_9 : decode cX0_netPlace 9 = .ok (.iload_n 2, 1) := by decide +kernel
theorem dX0_netPlace_10 : decode cX0_netPlace 10 = .ok (.iadd, 1) := by decide +kernel
theorem dX0_netPlace_11 : decode cX0_netPlace 11 = .ok (.ireturn, 1) := by decide +kernel
def f_X0_netPlace (p1 : Int32) (p2 : Int32) (p3 : Int32) : Option (Int32) :=
  some (((((p1 * (8 : Int32)) + p2) * (8 : Int32)) + p3))
abbrev rm_X0_netPlace : Room := { frames := 0, cells := 0, slots := 0, locals := 0 }
set_option maxHeartbeats 4000000 in
set_option maxRecDepth 100000 in
theorem c_X0_netPlace (l : Launch) (g : GK) (p1 : Int32) (p2 : Int32) (p3 : Int32) (res : (Int32)) (hf : f_X0_netPlace p1 p2 p3 = some res) : gR l yX0_netPlace cX0_netPlace 3 (some .int) rm_X0_netPlace g [.int p1, .int p2, .int p3] [] (some (.int res)) := by
  refine gR_introI RX0 (by decide) rfl (Nat.le_of_ble_eq_true rfl) (fun p e s m args below meth c Q H locs ls hE hP hZ hS hq hl => ?_)
  have hl : lv_has ls 3 [(0, .int p1), (1, .int p2), (2, .int p3)] := hl
  have hx := hE.1
  have hb := hE.2.1
  rw [f_X0_netPlace] at hf
  refine lv_iload_n hx hb dX0_netPlace_0 rfl (lv_at hl 0 rfl) ?_
  refine lv_bipush hx hb dX0_netPlace_1 kcb_8 ?_
  refine lv_imul hx hb dX0_netPlace_3 ?_
  refine lv_iload_n hx hb dX0_netPlace_4 rfl (lv_at hl 1 rfl) ?_
  refine lv_iadd hx hb dX0_netPlace_5 ?_
  refine lv_bipush hx hb dX0_netPlace_6 kcb_8 ?_
  refine lv_imul hx hb dX0_netPlace_8 ?_
  refine lv_iload_n hx hb dX0_netPlace_9 rfl (lv_at hl 2 rfl) ?_
  refine lv_iadd hx hb dX0_netPlace_10 ?_
  cases hf
  exact hq rfl dX0_netPlace_11
theorem dX0_hasOuter_0 : decode cX0_hasOuter 0 = .ok (.iload_n 0, 1) := by decide +kernel
theorem dX0_hasOuter_1 : decode cX0_hasOuter 1 = .ok (.iconst 1, 1) := by decide +kernel
theorem dX0_hasOuter_2 : decode cX0_hasOuter 2 = .ok (.iload_n 1, 1) := by decide +kernel
theorem dX0_hasOuter_3 : decode cX0_hasOuter 3 = .ok (.ishl, 1) := by decide +kernel
theorem dX0_hasOuter_4 : decode cX0_hasOuter 4 = .ok (.iand, 1) := by decide +kernel
theorem dX0_hasOuter_5 : decode cX0_hasOuter 5 = .ok (.ifCond .eq 7, 3) := by decide +kernel
theorem dX0_hasOuter_8 : decode cX0_hasOuter 8 = .ok (.iconst 1, 1) := by decide +kernel
theorem dX0_hasOuter_9 : decode cX0_hasOuter 9 = .ok (.goto 4, 3) := by decide +kernel
theorem dX0_hasOuter_12 : decode cX0_hasOuter 12 = .ok (.iconst 0, 1) := by decide +kernel
theorem dX0_hasOuter_13 : decode cX0_hasOuter 13 = .ok (.ireturn, 1) := by decide +kernel
def f_X0_hasOuter (p1 : Int32) (p2 : Int32) : Option (Int32) :=
  if (p1 &&& ((1 : Int32) <<< (p2 &&& 31))) = 0 then some ((0 : Int32))
  else some ((1 : Int32))
abbrev rm_X0_hasOuter : Room := { frames := 0, cells := 0, slots := 0, locals := 0 }
set_option maxHeartbeats 4000000 in
set_option maxRecDepth 100000 in
theorem c_X0_hasOuter (l : Launch) (g : GK) (p1 : Int32) (p2 : Int32) (res : (Int32)) (hf : f_X0_hasOuter p1 p2 = some res) : gR l yX0_hasOuter cX0_hasOuter 2 (some .boolean) rm_X0_hasOuter g [.int p1, .int p2] [] (some (.int res)) := by
  refine gR_introZ RX0 (by decide) rfl (Nat.le_of_ble_eq_true rfl) (fun p e s m args below meth c Q H locs ls hE hP hZ hS hq hl => ?_)
  have hl : lv_has ls 2 [(0, .int p1), (1, .int p2)] := hl
  have hx := hE.1
  have hb := hE.2.1
  rw [f_X0_hasOuter] at hf
  refine lv_iload_n hx hb dX0_hasOuter_0 rfl (lv_at hl 0 rfl) ?_
  refine lv_iconst hx hb dX0_hasOuter_1 kci_1 ?_
  refine lv_iload_n hx hb dX0_hasOuter_2 rfl (lv_at hl 1 rfl) ?_
  refine lv_ishl hx hb dX0_hasOuter_3 ?_
  refine lv_iand hx hb dX0_hasOuter_4 ?_
  refine lv_if_eq hx hb dX0_hasOuter_5 (tgt := 12) rfl (fun h1 => ?_) (fun h1 => ?_)
  · have hf := gif_t h1 hf
    refine lv_iconst hx hb dX0_hasOuter_12 kci_0 ?_
    cases hf
    exact hq (by decide) rfl dX0_hasOuter_13
  · have hf := gif_f h1 hf
    refine lv_iconst hx hb dX0_hasOuter_8 kci_1 ?_
    refine lv_goto hx hb dX0_hasOuter_9 (tgt := 13) rfl ?_
    cases hf
    exact hq (by decide) rfl dX0_hasOuter_13
theorem dX0_netOf_0 : decode cX0_netOf 0 = .ok (.aload_n 0, 1) := by decide +kernel
theorem dX0_netOf_1 : decode cX0_netOf 1 = .ok (.getfield 9, 3) := by decide +kernel
theorem dX0_netOf_4 : decode cX0_netOf 4 = .ok (.iload_n 1, 1) := by decide +kernel
theorem dX0_netOf_5 : decode cX0_netOf 5 = .ok (.iload_n 2, 1) := by decide +kernel
theorem dX0_netOf_6 : decode cX0_netOf 6 = .ok (.iload_n 3, 1) := by decide +kernel
theorem dX0_netOf_7 : decode cX0_netOf 7 = .ok (.invokestatic 32, 3) := by decide +kernel
theorem dX0_netOf_10 : decode cX0_netOf 10 = .ok (.iaload, 1) := by decide +kernel
theorem dX0_netOf_11 : decode cX0_netOf 11 = .ok (.ireturn, 1) := by decide +kernel
def f_X0_netOf (s0 : BdT) (p1 : Int32) (p2 : Int32) (p3 : Int32) : Option (Int32) :=
  (f_X0_netPlace p1 p2 p3).bind fun r1 =>
  if inb r1 128 then some (((Bd_nets s0) (ix r1))) else none
abbrev rm_X0_netOf : Room := { frames := 1, cells := 0, slots := 0, locals := 22 }
set_option maxHeartbeats 4000000 in
set_option maxRecDepth 100000 in
theorem c_X0_netOf (l : Launch) (g : GK) (a0 : Nat → Nat) (s0 : BdT) (p1 : Int32) (p2 : Int32) (p3 : Int32) (res : (Int32)) (hf : f_X0_netOf s0 p1 p2 p3 = some res) : gR l yX0_netOf cX0_netOf 4 (some .int) rm_X0_netOf g [.ref (a0 0), .int p1, .int p2, .int p3] (Bd_c g a0 s0) (some (.int res)) := by
  refine gR_introI RX0 (by decide) rfl (Nat.le_of_ble_eq_true rfl) (fun p e s m args below meth c Q H locs ls hE hP hZ hS hq hl => ?_)
  have hl : lv_has ls 4 [(0, .ref (a0 0)), (1, .int p1), (2, .int p2), (3, .int p3)] := hl
  have hx := hE.1
  have hb := hE.2.1
  rw [f_X0_netOf] at hf
  refine lv_aload_n hx hb dX0_netOf_0 rfl (lv_at hl 0 rfl) ?_
  refine g_get hE okX0 fl_X0_9 hP 0 rfl (v := .ref (a0 1)) rfl dX0_netOf_1 ?_
  refine lv_iload_n hx hb dX0_netOf_4 rfl (lv_at hl 1 rfl) ?_
  refine lv_iload_n hx hb dX0_netOf_5 rfl (lv_at hl 2 rfl) ?_
  refine lv_iload_n hx hb dX0_netOf_6 rfl (lv_at hl 3 rfl) ?_
  obtain ⟨r1, hc2, hf⟩ := gbd hf
  refine gr_callS (As := [.int p1, .int p2, .int p3]) (rest := [.ref (a0 1)]) (st1 := [.int r1, .ref (a0 1)]) hE hl.1 ml_X0_32 (c_X0_netPlace l g p1 p2 p3 r1 hc2) hZ hS hP [] rfl rfl rfl rfl ⟨rfl, rfl⟩ ⟨Nat.le_of_ble_eq_true rfl, Nat.le_of_ble_eq_true rfl⟩ ⟨Nat.le_refl _, Nat.le_refl _⟩ (Nat.le_of_ble_eq_true rfl) dX0_netOf_7 ?_
  obtain ⟨hg3, hf⟩ := ggd hf
  refine g_iald hE hP 1 (f := (Bd_nets s0)) rfl hg3 dX0_netOf_10 ?_
  cases hf
  exact hq rfl dX0_netOf_11
theorem dX0_thereOf_0 : decode cX0_thereOf 0 = .ok (.aload_n 0, 1) := by decide +kernel
theorem dX0_thereOf_1 : decode cX0_thereOf 1 = .ok (.getfield 9, 3) := by decide +kernel
theorem dX0_thereOf_4 : decode cX0_thereOf 4 = .ok (.iload_n 1, 1) := by decide +kernel
theorem dX0_thereOf_5 : decode cX0_thereOf 5 = .ok (.iload_n 2, 1) := by decide +kernel
theorem dX0_thereOf_6 : decode cX0_thereOf 6 = .ok (.iload_n 3, 1) := by decide +kernel
theorem dX0_thereOf_7 : decode cX0_thereOf 7 = .ok (.invokestatic 32, 3) := by decide +kernel
theorem dX0_thereOf_10 : decode cX0_thereOf 10 = .ok (.iaload, 1) := by decide +kernel
theorem dX0_thereOf_11 : decode cX0_thereOf 11 = .ok (.istore 4, 2) := by decide +kernel
theorem dX0_thereOf_13 : decode cX0_thereOf 13 = .ok (.iload 4, 2) := by decide +kernel
theorem dX0_thereOf_15 : decode cX0_thereOf 15 = .ok (.ifCond .le 8, 3) := by decide +kernel
theorem dX0_thereOf_18 : decode cX0_thereOf 18 = .ok (.iload 4, 2) := by decide +kernel
theorem dX0_thereOf_20 : decode cX0_thereOf 20 = .ok (.goto 4, 3) := by decide +kernel
theorem dX0_thereOf_23 : decode cX0_thereOf 23 = .ok (.iconst 0, 1) := by decide +kernel
theorem dX0_thereOf_24 : decode cX0_thereOf 24 = .ok (.ireturn, 1) := by decide +kernel
def f_X0_thereOf (s0 : BdT) (p1 : Int32) (p2 : Int32) (p3 : Int32) : Option (Int32) :=
  (f_X0_netPlace p1 p2 p3).bind fun r1 =>
  if inb r1 128 then if ((Bd_nets s0) (ix r1)) ≤ 0 then some ((0 : Int32))
  else some (((Bd_nets s0) (ix r1))) else none
abbrev rm_X0_thereOf : Room := { frames := 1, cells := 0, slots := 0, locals := 22 }
set_option maxHeartbeats 4000000 in
set_option maxRecDepth 100000 in
theorem c_X0_thereOf (l : Launch) (g : GK) (a0 : Nat → Nat) (s0 : BdT) (p1 : Int32) (p2 : Int32) (p3 : Int32) (res : (Int32)) (hf : f_X0_thereOf s0 p1 p2 p3 = some res) : gR l yX0_thereOf cX0_thereOf 5 (some .int) rm_X0_thereOf g [.ref (a0 0), .int p1, .int p2, .int p3] (Bd_c g a0 s0) (some (.int res)) := by
  refine gR_introI RX0 (by decide) rfl (Nat.le_of_ble_eq_true rfl) (fun p e s m args below meth c Q H locs ls hE hP hZ hS hq hl => ?_)
  have hl : lv_has ls 5 [(0, .ref (a0 0)), (1, .int p1), (2, .int p2), (3, .int p3)] := hl
  have hx := hE.1
  have hb := hE.2.1
  rw [f_X0_thereOf] at hf
  refine lv_aload_n hx hb dX0_thereOf_0 rfl (lv_at hl 0 rfl) ?_
  refine g_get hE okX0 fl_X0_9 hP 0 rfl (v := .ref (a0 1)) rfl dX0_thereOf_1 ?_
  refine lv_iload_n hx hb dX0_thereOf_4 rfl (lv_at hl 1 rfl) ?_
  refine lv_iload_n hx hb dX0_thereOf_5 rfl (lv_at hl 2 rfl) ?_
  refine lv_iload_n hx hb dX0_thereOf_6 rfl (lv_at hl 3 rfl) ?_
  obtain ⟨r1, hc2, hf⟩ := gbd hf
  refine gr_callS (As := [.int p1, .int p2, .int p3]) (rest := [.ref (a0 1)]) (st1 := [.int r1, .ref (a0 1)]) hE hl.1 ml_X0_32 (c_X0_netPlace l g p1 p2 p3 r1 hc2) hZ hS hP [] rfl rfl rfl rfl ⟨rfl, rfl⟩ ⟨Nat.le_of_ble_eq_true rfl, Nat.le_of_ble_eq_true rfl⟩ ⟨Nat.le_refl _, Nat.le_refl _⟩ (Nat.le_of_ble_eq_true rfl) dX0_thereOf_7 ?_
  obtain ⟨hg3, hf⟩ := ggd hf
  refine g_iald hE hP 1 (f := (Bd_nets s0)) rfl hg3 dX0_thereOf_10 ?_
  refine lv_istore hx hb dX0_thereOf_11 hl (by decide) (lv' := [(4, .int ((Bd_nets s0) (ix r1))), (0, .ref (a0 0)), (1, .int p1), (2, .int p2), (3, .int p3)]) rfl (fun ls hl => ?_)
  refine lv_iload hx hb dX0_thereOf_13 (lv_at hl 0 rfl) ?_
  refine lv_if_le hx hb dX0_thereOf_15 (tgt := 23) rfl (fun h4 => ?_) (fun h4 => ?_)
  · have hf := gif_t h4 hf
    refine lv_iconst hx hb dX0_thereOf_23 kci_0 ?_
    cases hf
    exact hq rfl dX0_thereOf_24
  · have hf := gif_f h4 hf
    refine lv_iload hx hb dX0_thereOf_18 (lv_at hl 0 rfl) ?_
    refine lv_goto hx hb dX0_thereOf_20 (tgt := 24) rfl ?_
    cases hf
    exact hq rfl dX0_thereOf_24
theorem dX0_thereOfAll_0 : decode cX0_thereOfAll 0 = .ok (.iconst 0, 1) := by decide +kernel
theorem dX0_thereOfAll_1 : decode cX0_thereOfAll 1 = .ok (.istore_n 3, 1) := by decide +kernel
theorem dX0_thereOfAll_2 : decode cX0_thereOfAll 2 = .ok (.iconst 0, 1) := by decide +kernel
theorem dX0_thereOfAll_3 : decode cX0_thereOfAll 3 = .ok (.istore 4, 2) := by decide +kernel
theorem dX0_thereOfAll_5 : decode cX0_thereOfAll 5 = .ok (.iload 4, 2) := by decide +kernel
theorem dX0_thereOfAll_7 : decode cX0_thereOfAll 7 = .ok (.bipush 8, 2) := by decide +kernel
theorem dX0_thereOfAll_9 : decode cX0_thereOfAll 9 = .ok (.if_icmp .ge 20, 3) := by decide +kernel
theorem dX0_thereOfAll_12 : decode cX0_thereOfAll 12 = .ok (.iload_n 3, 1) := by decide +kernel
theorem dX0_thereOfAll_13 : decode cX0_thereOfAll 13 = .ok (.aload_n 0, 1) := by decide +kernel
theorem dX0_thereOfAll_14 : decode cX0_thereOfAll 14 = .ok (.iload_n 1, 1) := by decide +kernel
theorem dX0_thereOfAll_15 : decode cX0_thereOfAll 15 = .ok (.iload_n 2, 1) := by decide +kernel
theorem dX0_thereOfAll_16 : decode cX0_thereOfAll 16 = .ok (.iload 4, 2) := by decide +kernel
theorem dX0_thereOfAll_18 : decode cX0_thereOfAll 18 = .ok (.invokevirtual 36, 3) := by decide +kernel
theorem dX0_thereOfAll_21 : decode cX0_thereOfAll 21 = .ok (.iadd, 1) := by decide +kernel
theorem dX0_thereOfAll_22 : decode cX0_thereOfAll 22 = .ok (.istore_n 3, 1) := by decide +kernel
theorem dX0_thereOfAll_23 : decode cX0_thereOfAll 23 = .ok (.iinc 4 1, 3) := by decide +kernel
theorem dX0_thereOfAll_26 : decode cX0_thereOfAll 26 = .ok (.goto (-21), 3) := by decide +kernel
theorem dX0_thereOfAll_29 : decode cX0_thereOfAll 29 = .ok (.iload_n 3, 1) := by decide +kernel
theorem dX0_thereOfAll_30 : decode cX0_thereOfAll 30 = .ok (.ireturn, 1) := by decide +kernel
def f_X0_thereOfAll_L5_5 (s0 : BdT) (p1 : Int32) (p2 : Int32) (K1 : (Int32 → Option (Int32))) : Nat → Int32 → Int32 → Option (Int32)
  | 0, _, _ => none
  | n6 + 1, x3_3, x4_4 => if (8 : Int32) ≤ x4_4 then K1 x3_3
  else (f_X0_thereOf s0 p1 p2 x4_4).bind fun r8 =>
  f_X0_thereOfAll_L5_5 s0 p1 p2 K1 n6 (x3_3 + r8) (x4_4 + (1 : Int32))
def f_X0_thereOfAll (s0 : BdT) (p1 : Int32) (p2 : Int32) : Option (Int32) :=
  glt (fun (x3_2 : Int32) => some (x3_2)) fun K1 =>
  f_X0_thereOfAll_L5_5 s0 p1 p2 K1 10000 (0 : Int32) (0 : Int32)
abbrev rm_X0_thereOfAll : Room := { frames := 2, cells := 0, slots := 0, locals := 46 }
set_option maxHeartbeats 4000000 in
set_option maxRecDepth 100000 in
theorem c_X0_thereOfAll (l : Launch) (g : GK) (a0 : Nat → Nat) (s0 : BdT) (p1 : Int32) (p2 : Int32) (res : (Int32)) (hf : f_X0_thereOfAll s0 p1 p2 = some res) : gR l yX0_thereOfAll cX0_thereOfAll 5 (some .int) rm_X0_thereOfAll g [.ref (a0 0), .int p1, .int p2] (Bd_c g a0 s0) (some (.int res)) := by
  refine gR_introI RX0 (by decide) rfl (Nat.le_of_ble_eq_true rfl) (fun p e s m args below meth c Q H locs ls hE hP hZ hS hq hl => ?_)
  have hl : lv_has ls 5 [(0, .ref (a0 0)), (1, .int p1), (2, .int p2)] := hl
  have hx := hE.1
  have hb := hE.2.1
  rw [f_X0_thereOfAll] at hf
  refine lv_iconst hx hb dX0_thereOfAll_0 kci_0 ?_
  refine lv_istore_n hx hb dX0_thereOfAll_1 rfl hl (by decide) (lv' := [(3, .int (0 : Int32)), (0, .ref (a0 0)), (1, .int p1), (2, .int p2)]) rfl (fun ls hl => ?_)
  refine lv_iconst hx hb dX0_thereOfAll_2 kci_0 ?_
  refine lv_istore hx hb dX0_thereOfAll_3 hl (by decide) (lv' := [(4, .int (0 : Int32)), (3, .int (0 : Int32)), (0, .ref (a0 0)), (1, .int p1), (2, .int p2)]) rfl (fun ls hl => ?_)
  obtain ⟨K1, eK1, hf⟩ := gltd hf
  have kK1 : ∀ (x3_2 : Int32) (ls : Array Slot), K1 x3_2 = some res → lv_has ls 5 [(3, .int x3_2)] → W p l e rm_X0_thereOfAll s m args below meth c H locs 0 0 Q (F0 m 29 ls []) := by
    intro x3_2 ls hf hl
    rw [eK1] at hf
    refine lv_iload_n hx hb dX0_thereOfAll_29 rfl (lv_at hl 0 rfl) ?_
    cases hf
    exact hq rfl dX0_thereOfAll_30
  have lpn6 : ∀ (n6 : Nat) (x3_3 : Int32) (x4_4 : Int32) (ls : Array Slot), f_X0_thereOfAll_L5_5 s0 p1 p2 K1 n6 x3_3 x4_4 = some res → lv_has ls 5 [(0, .ref (a0 0)), (1, .int p1), (2, .int p2), (3, .int x3_3), (4, .int x4_4)] → W p l e rm_X0_thereOfAll s m args below meth c H locs 0 0 Q (F0 m 5 ls []) := by
    intro n6
    induction n6 with
    | zero => intro x3_3 x4_4 ls hf hl; rw [f_X0_thereOfAll_L5_5] at hf; cases hf
    | succ n6 ihn6 =>
      intro x3_3 x4_4 ls hf hl
      rw [f_X0_thereOfAll_L5_5] at hf
      refine lv_iload hx hb dX0_thereOfAll_5 (lv_at hl 4 rfl) ?_
      refine lv_bipush hx hb dX0_thereOfAll_7 kcb_8 ?_
      refine lv_icmp_ge hx hb dX0_thereOfAll_9 (tgt := 29) rfl (fun h7 => ?_) (fun h7 => ?_)
      · have hf := gif_t h7 hf
        exact kK1 x3_3 ls hf (lv_sub hl [3] rfl)
      · have hf := gif_f h7 hf
        refine lv_iload_n hx hb dX0_thereOfAll_12 rfl (lv_at hl 3 rfl) ?_
        refine lv_aload_n hx hb dX0_thereOfAll_13 rfl (lv_at hl 0 rfl) ?_
        refine lv_iload_n hx hb dX0_thereOfAll_14 rfl (lv_at hl 1 rfl) ?_
        refine lv_iload_n hx hb dX0_thereOfAll_15 rfl (lv_at hl 2 rfl) ?_
        refine lv_iload hx hb dX0_thereOfAll_16 (lv_at hl 4 rfl) ?_
        obtain ⟨r8, hc9, hf⟩ := gbd hf
        refine gr_callV (As := [.int p1, .int p2, .int x4_4]) (rest := [.int x3_3]) (st1 := [.int r8, .int x3_3]) hE hl.1 ml_X0_36 (c_X0_thereOf l g a0 s0 p1 p2 x4_4 r8 hc9) hZ hS hP [(0, 9)] rfl okX0 rfl rfl rfl rfl ⟨rfl, rfl⟩ ⟨Nat.le_of_ble_eq_true rfl, Nat.le_of_ble_eq_true rfl⟩ ⟨Nat.le_refl _, Nat.le_refl _⟩ (Nat.le_of_ble_eq_true rfl) dX0_thereOfAll_18 ?_
        refine lv_iadd hx hb dX0_thereOfAll_21 ?_
        refine lv_istore_n hx hb dX0_thereOfAll_22 rfl hl (by decide) (lv' := [(3, .int (x3_3 + r8)), (0, .ref (a0 0)), (1, .int p1), (2, .int p2), (4, .int x4_4)]) rfl (fun ls hl => ?_)
        refine lv_iinc hx hb dX0_thereOfAll_23 hl (k := 4) (x := x4_4) rfl (kinc_1 _) (by decide) (lv' := [(4, .int (x4_4 + (1 : Int32))), (3, .int (x3_3 + r8)), (0, .ref (a0 0)), (1, .int p1), (2, .int p2)]) rfl (fun ls hl => ?_)
        refine lv_goto hx hb dX0_thereOfAll_26 (tgt := 5) rfl ?_
        exact ihn6 (x3_3 + r8) (x4_4 + (1 : Int32)) ls hf (lv_sub hl [2, 3, 4, 1, 0] rfl)
  exact lpn6 10000 (0 : Int32) (0 : Int32) ls hf (lv_sub hl [2, 3, 4, 1, 0] rfl)
theorem dX0_has_0 : decode cX0_has 0 = .ok (.iconst 0, 1) := by decide +kernel
theorem dX0_has_1 : decode cX0_has 1 = .ok (.istore_n 3, 1) := by decide +kernel
theorem dX0_has_2 : decode cX0_has 2 = .ok (.iload_n 3, 1) := by decide +kernel
theorem dX0_has_3 : decode cX0_has 3 = .ok (.bipush 8, 2) := by decide +kernel
theorem dX0_has_5 : decode cX0_has 5 = .ok (.if_icmp .ge 25, 3) := by decide +kernel
theorem dX0_has_8 : decode cX0_has 8 = .ok (.aload_n 0, 1) := by decide +kernel
theorem dX0_has_9 : decode cX0_has 9 = .ok (.getfield 9, 3) := by decide +kernel
theorem dX0_has_12 : decode cX0_has 12 = .ok (.iload_n 1, 1) := by decide +kernel
theorem dX0_has_13 : decode cX0_has 13 = .ok (.iload_n 2, 1) := by decide +kernel
theorem dX0_has_14 : decode cX0_has 14 = .ok (.iload_n 3, 1) := by decide +kernel
theorem dX0_has_15 : decode cX0_has 15 = .ok (.invokestatic 32, 3) := by decide +kernel
theorem dX0_has_18 : decode cX0_has 18 = .ok (.iaload, 1) := by decide +kernel
theorem dX0_has_19 : decode cX0_has 19 = .ok (.ifCond .le 5, 3) := by decide +kernel
theorem dX0_has_22 : decode cX0_has 22 = .ok (.iconst 1, 1) := by decide +kernel
theorem dX0_has_23 : decode cX0_has 23 = .ok (.ireturn, 1) := by decide +kernel
theorem dX0_has_24 : decode cX0_has 24 = .ok (.iinc 3 1, 3) := by decide +kernel
theorem dX0_has_27 : decode cX0_has 27 = .ok (.goto (-25), 3) := by decide +kernel
theorem dX0_has_30 : decode cX0_has 30 = .ok (.iconst 0, 1) := by decide +kernel
theorem dX0_has_31 : decode cX0_has 31 = .ok (.ireturn, 1) := by decide +kernel
def f_X0_has_L2_4 (s0 : BdT) (p1 : Int32) (p2 : Int32) (K1 : (Unit → Option (Int32))) (K2 : (Unit → Option (Int32))) : Nat → Int32 → Option (Int32)
  | 0, _ => none
  | n5 + 1, x3_3 => if (8 : Int32) ≤ x3_3 then K2 ()
  else (f_X0_netPlace p1 p2 x3_3).bind fun r7 =>
  if inb r7 128 then if ((Bd_nets s0) (ix r7)) ≤ 0 then f_X0_has_L2_4 s0 p1 p2 K1 K2 n5 (x3_3 + (1 : Int32))
  else K1 () else none
def f_X0_has (s0 : BdT) (p1 : Int32) (p2 : Int32) : Option (Int32) :=
  glt (fun (_ : Unit) => some ((1 : Int32))) fun K1 =>
  glt (fun (_ : Unit) => some ((0 : Int32))) fun K2 =>
  f_X0_has_L2_4 s0 p1 p2 K1 K2 10000 (0 : Int32)
abbrev rm_X0_has : Room := { frames := 1, cells := 0, slots := 0, locals := 22 }
set_option maxHeartbeats 4000000 in
set_option maxRecDepth 100000 in
theorem c_X0_has (l : Launch) (g : GK) (a0 : Nat → Nat) (s0 : BdT) (p1 : Int32) (p2 : Int32) (res : (Int32)) (hf : f_X0_has s0 p1 p2 = some res) : gR l yX0_has cX0_has 4 (some .boolean) rm_X0_has g [.ref (a0 0), .int p1, .int p2] (Bd_c g a0 s0) (some (.int res)) := by
  refine gR_introZ RX0 (by decide) rfl (Nat.le_of_ble_eq_true rfl) (fun p e s m args below meth c Q H locs ls hE hP hZ hS hq hl => ?_)
  have hl : lv_has ls 4 [(0, .ref (a0 0)), (1, .int p1), (2, .int p2)] := hl
  have hx := hE.1
  have hb := hE.2.1
  rw [f_X0_has] at hf
  refine lv_iconst hx hb dX0_has_0 kci_0 ?_
  refine lv_istore_n hx hb dX0_has_1 rfl hl (by decide) (lv' := [(3, .int (0 : Int32)), (0, .ref (a0 0)), (1, .int p1), (2, .int p2)]) rfl (fun ls hl => ?_)
  obtain ⟨K1, eK1, hf⟩ := gltd hf
  have kK1 : ∀ (_ : Unit) (ls : Array Slot), K1 () = some res → lv_has ls 4 [] → W p l e rm_X0_has s m args below meth c H locs 0 0 Q (F0 m 22 ls []) := by
    intro _ ls hf hl
    rw [eK1] at hf
    refine lv_iconst hx hb dX0_has_22 kci_1 ?_
    cases hf
    exact hq (by decide) rfl dX0_has_23
  obtain ⟨K2, eK2, hf⟩ := gltd hf
  have kK2 : ∀ (_ : Unit) (ls : Array Slot), K2 () = some res → lv_has ls 4 [] → W p l e rm_X0_has s m args below meth c H locs 0 0 Q (F0 m 30 ls []) := by
    intro _ ls hf hl
    rw [eK2] at hf
    refine lv_iconst hx hb dX0_has_30 kci_0 ?_
    cases hf
    exact hq (by decide) rfl dX0_has_31
  have lpn5 : ∀ (n5 : Nat) (x3_3 : Int32) (ls : Array Slot), f_X0_has_L2_4 s0 p1 p2 K1 K2 n5 x3_3 = some res → lv_has ls 4 [(0, .ref (a0 0)), (1, .int p1), (2, .int p2), (3, .int x3_3)] → W p l e rm_X0_has s m args below meth c H locs 0 0 Q (F0 m 2 ls []) := by
    intro n5
    induction n5 with
    | zero => intro x3_3 ls hf hl; rw [f_X0_has_L2_4] at hf; cases hf
    | succ n5 ihn5 =>
      intro x3_3 ls hf hl
      rw [f_X0_has_L2_4] at hf
      refine lv_iload_n hx hb dX0_has_2 rfl (lv_at hl 3 rfl) ?_
      refine lv_bipush hx hb dX0_has_3 kcb_8 ?_
      refine lv_icmp_ge hx hb dX0_has_5 (tgt := 30) rfl (fun h6 => ?_) (fun h6 => ?_)
      · have hf := gif_t h6 hf
        exact kK2 () ls hf (lv_sub hl [] rfl)
      · have hf := gif_f h6 hf
        refine lv_aload_n hx hb dX0_has_8 rfl (lv_at hl 0 rfl) ?_
        refine g_get hE okX0 fl_X0_9 hP 0 rfl (v := .ref (a0 1)) rfl dX0_has_9 ?_
        refine lv_iload_n hx hb dX0_has_12 rfl (lv_at hl 1 rfl) ?_
        refine lv_iload_n hx hb dX0_has_13 rfl (lv_at hl 2 rfl) ?_
        refine lv_iload_n hx hb dX0_has_14 rfl (lv_at hl 3 rfl) ?_
        obtain ⟨r7, hc8, hf⟩ := gbd hf
        refine gr_callS (As := [.int p1, .int p2, .int x3_3]) (rest := [.ref (a0 1)]) (st1 := [.int r7, .ref (a0 1)]) hE hl.1 ml_X0_32 (c_X0_netPlace l g p1 p2 x3_3 r7 hc8) hZ hS hP [] rfl rfl rfl rfl ⟨rfl, rfl⟩ ⟨Nat.le_of_ble_eq_true rfl, Nat.le_of_ble_eq_true rfl⟩ ⟨Nat.le_refl _, Nat.le_refl _⟩ (Nat.le_of_ble_eq_true rfl) dX0_has_15 ?_
        obtain ⟨hg9, hf⟩ := ggd hf
        refine g_iald hE hP 1 (f := (Bd_nets s0)) rfl hg9 dX0_has_18 ?_
        refine lv_if_le hx hb dX0_has_19 (tgt := 24) rfl (fun h10 => ?_) (fun h10 => ?_)
        · have hf := gif_t h10 hf
          refine lv_iinc hx hb dX0_has_24 hl (k := 3) (x := x3_3) rfl (kinc_1 _) (by decide) (lv' := [(3, .int (x3_3 + (1 : Int32))), (0, .ref (a0 0)), (1, .int p1), (2, .int p2)]) rfl (fun ls hl => ?_)
          refine lv_goto hx hb dX0_has_27 (tgt := 2) rfl ?_
          exact ihn5 (x3_3 + (1 : Int32)) ls hf (lv_sub hl [1, 2, 3, 0] rfl)
        · have hf := gif_f h10 hf
          exact kK1 () ls hf (lv_sub hl [] rfl)
  exact lpn5 10000 (0 : Int32) ls hf (lv_sub hl [1, 2, 3, 0] rfl)
theorem dX0_countDebts_0 : decode cX0_countDebts 0 = .ok (.iconst 0, 1) := by decide +kernel
theorem dX0_countDebts_1 : decode cX0_countDebts 1 = .ok (.istore_n 2, 1) := by decide +kernel
theorem dX0_countDebts_2 : decode cX0_countDebts 2 = .ok (.iconst 0, 1) := by decide +kernel
theorem dX0_countDebts_3 : decode cX0_countDebts 3 = .ok (.istore_n 3, 1) := by decide +kernel
theorem dX0_countDebts_4 : decode cX0_countDebts 4 = .ok (.iload_n 3, 1) := by decide +kernel
theorem dX0_countDebts_5 : decode cX0_countDebts 5 = .ok (.bipush 64, 2) := by decide +kernel
theorem dX0_countDebts_7 : decode cX0_countDebts 7 = .ok (.if_icmp .ge 29, 3) := by decide +kernel
theorem dX0_countDebts_10 : decode cX0_countDebts 10 = .ok (.aload_n 0, 1) := by decide +kernel
theorem dX0_countDebts_11 : decode cX0_countDebts 11 = .ok (.getfield 9, 3) := by decide +kernel
theorem dX0_countDebts_14 : decode cX0_countDebts 14 = .ok (.iload_n 1, 1) := by decide +kernel
theorem dX0_countDebts_15 : decode cX0_countDebts 15 = .ok (.bipush 8, 2) := by decide +kernel
theorem dX0_countDebts_17 : decode cX0_countDebts 17 = .ok (.imul, 1) := by decide +kernel
theorem dX0_countDebts_18 : decode cX0_countDebts 18 = .ok (.bipush 8, 2) := by decide +kernel
theorem dX0_countDebts_20 : decode cX0_countDebts 20 = .ok (.imul, 1) := by decide +kernel
theorem dX0_countDebts_21 : decode cX0_countDebts 21 = .ok (.iload_n 3, 1) := by decide +kernel
theorem dX0_countDebts_22 : decode cX0_countDebts 22 = .ok (.iadd, 1) := by decide +kernel
theorem dX0_countDebts_23 : decode cX0_countDebts 23 = .ok (.iaload, 1) := by decide +kernel
theorem dX0_countDebts_24 : decode cX0_countDebts 24 = .ok (.ifCond .ge 6, 3) := by decide +kernel
theorem dX0_countDebts_27 : decode cX0_countDebts 27 = .ok (.iinc 2 1, 3) := by decide +kernel
theorem dX0_countDebts_30 : decode cX0_countDebts 30 = .ok (.iinc 3 1, 3) := by decide +kernel
theorem dX0_countDebts_33 : decode cX0_countDebts 33 = .ok (.goto (-29), 3) := by decide +kernel
theorem dX0_countDebts_36 : decode cX0_countDebts 36 = .ok (.iload_n 2, 1) := by decide +kernel
theorem dX0_countDebts_37 : decode cX0_countDebts 37 = .ok (.ireturn, 1) := by decide +kernel
def f_X0_countDebts_L4_5 (s0 : BdT) (p1 : Int32) (K1 : (Int32 → Option (Int32))) : Nat → Int32 → Int32 → Option (Int32)
  | 0, _, _ => none
  | n6 + 1, x2_3, x3_4 => if (64 : Int32) ≤ x3_4 then K1 x2_3
  else if inb (((p1 * (8 : Int32)) * (8 : Int32)) + x3_4) 128 then if 0 ≤ ((Bd_nets s0) (ix (((p1 * (8 : Int32)) * (8 : Int32)) + x3_4))) then f_X0_countDebts_L4_5 s0 p1 K1 n6 x2_3 (x3_4 + (1 : Int32))
  else f_X0_countDebts_L4_5 s0 p1 K1 n6 (x2_3 + (1 : Int32)) (x3_4 + (1 : Int32)) else none
def f_X0_countDebts (s0 : BdT) (p1 : Int32) : Option (Int32) :=
  glt (fun (x2_2 : Int32) => some (x2_2)) fun K1 =>
  f_X0_countDebts_L4_5 s0 p1 K1 10000 (0 : Int32) (0 : Int32)
abbrev rm_X0_countDebts : Room := { frames := 0, cells := 0, slots := 0, locals := 0 }
set_option maxHeartbeats 4000000 in
set_option maxRecDepth 100000 in
theorem c_X0_countDebts (l : Launch) (g : GK) (a0 : Nat → Nat) (s0 : BdT) (p1 : Int32) (res : (Int32)) (hf : f_X0_countDebts s0 p1 = some res) : gR l yX0_countDebts cX0_countDebts 4 (some .int) rm_X0_countDebts g [.ref (a0 0), .int p1] (Bd_c g a0 s0) (some (.int res)) := by
  refine gR_introI RX0 (by decide) rfl (Nat.le_of_ble_eq_true rfl) (fun p e s m args below meth c Q H locs ls hE hP hZ hS hq hl => ?_)
  have hl : lv_has ls 4 [(0, .ref (a0 0)), (1, .int p1)] := hl
  have hx := hE.1
  have hb := hE.2.1
  rw [f_X0_countDebts] at hf
  refine lv_iconst hx hb dX0_countDebts_0 kci_0 ?_
  refine lv_istore_n hx hb dX0_countDebts_1 rfl hl (by decide) (lv' := [(2, .int (0 : Int32)), (0, .ref (a0 0)), (1, .int p1)]) rfl (fun ls hl => ?_)
  refine lv_iconst hx hb dX0_countDebts_2 kci_0 ?_
  refine lv_istore_n hx hb dX0_countDebts_3 rfl hl (by decide) (lv' := [(3, .int (0 : Int32)), (2, .int (0 : Int32)), (0, .ref (a0 0)), (1, .int p1)]) rfl (fun ls hl => ?_)
  obtain ⟨K1, eK1, hf⟩ := gltd hf
  have kK1 : ∀ (x2_2 : Int32) (ls : Array Slot), K1 x2_2 = some res → lv_has ls 4 [(2, .int x2_2)] → W p l e rm_X0_countDebts s m args below meth c H locs 0 0 Q (F0 m 36 ls []) := by
    intro x2_2 ls hf hl
    rw [eK1] at hf
    refine lv_iload_n hx hb dX0_countDebts_36 rfl (lv_at hl 0 rfl) ?_
    cases hf
    exact hq rfl dX0_countDebts_37
  have lpn6 : ∀ (n6 : Nat) (x2_3 : Int32) (x3_4 : Int32) (ls : Array Slot), f_X0_countDebts_L4_5 s0 p1 K1 n6 x2_3 x3_4 = some res → lv_has ls 4 [(0, .ref (a0 0)), (1, .int p1), (2, .int x2_3), (3, .int x3_4)] → W p l e rm_X0_countDebts s m args below meth c H locs 0 0 Q (F0 m 4 ls []) := by
    intro n6
    induction n6 with
    | zero => intro x2_3 x3_4 ls hf hl; rw [f_X0_countDebts_L4_5] at hf; cases hf
    | succ n6 ihn6 =>
      intro x2_3 x3_4 ls hf hl
      rw [f_X0_countDebts_L4_5] at hf
      refine lv_iload_n hx hb dX0_countDebts_4 rfl (lv_at hl 3 rfl) ?_
      refine lv_bipush hx hb dX0_countDebts_5 kcb_64 ?_
      refine lv_icmp_ge hx hb dX0_countDebts_7 (tgt := 36) rfl (fun h7 => ?_) (fun h7 => ?_)
      · have hf := gif_t h7 hf
        exact kK1 x2_3 ls hf (lv_sub hl [2] rfl)
      · have hf := gif_f h7 hf
        refine lv_aload_n hx hb dX0_countDebts_10 rfl (lv_at hl 0 rfl) ?_
        refine g_get hE okX0 fl_X0_9 hP 0 rfl (v := .ref (a0 1)) rfl dX0_countDebts_11 ?_
        refine lv_iload_n hx hb dX0_countDebts_14 rfl (lv_at hl 1 rfl) ?_
        refine lv_bipush hx hb dX0_countDebts_15 kcb_8 ?_
        refine lv_imul hx hb dX0_countDebts_17 ?_
        refine lv_bipush hx hb dX0_countDebts_18 kcb_8 ?_
        refine lv_imul hx hb dX0_countDebts_20 ?_
        refine lv_iload_n hx hb dX0_countDebts_21 rfl (lv_at hl 3 rfl) ?_
        refine lv_iadd hx hb dX0_countDebts_22 ?_
        obtain ⟨hg8, hf⟩ := ggd hf
        refine g_iald hE hP 1 (f := (Bd_nets s0)) rfl hg8 dX0_countDebts_23 ?_
        refine lv_if_ge hx hb dX0_countDebts_24 (tgt := 30) rfl (fun h9 => ?_) (fun h9 => ?_)
        · have hf := gif_t h9 hf
          refine lv_iinc hx hb dX0_countDebts_30 hl (k := 3) (x := x3_4) rfl (kinc_1 _) (by decide) (lv' := [(3, .int (x3_4 + (1 : Int32))), (0, .ref (a0 0)), (1, .int p1), (2, .int x2_3)]) rfl (fun ls hl => ?_)
          refine lv_goto hx hb dX0_countDebts_33 (tgt := 4) rfl ?_
          exact ihn6 x2_3 (x3_4 + (1 : Int32)) ls hf (lv_sub hl [1, 2, 3, 0] rfl)
        · have hf := gif_f h9 hf
          refine lv_iinc hx hb dX0_countDebts_27 hl (k := 2) (x := x2_3) rfl (kinc_1 _) (by decide) (lv' := [(2, .int (x2_3 + (1 : Int32))), (0, .ref (a0 0)), (1, .int p1), (3, .int x3_4)]) rfl (fun ls hl => ?_)
          refine lv_iinc hx hb dX0_countDebts_30 hl (k := 3) (x := x3_4) rfl (kinc_1 _) (by decide) (lv' := [(3, .int (x3_4 + (1 : Int32))), (2, .int (x2_3 + (1 : Int32))), (0, .ref (a0 0)), (1, .int p1)]) rfl (fun ls hl => ?_)
          refine lv_goto hx hb dX0_countDebts_33 (tgt := 4) rfl ?_
          exact ihn6 (x2_3 + (1 : Int32)) (x3_4 + (1 : Int32)) ls hf (lv_sub hl [2, 3, 1, 0] rfl)
  exact lpn6 10000 (0 : Int32) (0 : Int32) ls hf (lv_sub hl [2, 3, 1, 0] rfl)
theorem dX0_outerOf_0 : decode cX0_outerOf 0 = .ok (.aload_n 0, 1) := by decide +kernel
theorem dX0_outerOf_1 : decode cX0_outerOf 1 = .ok (.getfield 28, 3) := by decide +kernel
theorem dX0_outerOf_4 : decode cX0_outerOf 4 = .ok (.iload_n 1, 1) := by decide +kernel
theorem dX0_outerOf_5 : decode cX0_outerOf 5 = .ok (.invokestatic 39, 3) := by decide +kernel
theorem dX0_outerOf_8 : decode cX0_outerOf 8 = .ok (.ifCond .eq 24, 3) := by decide +kernel
theorem dX0_outerOf_11 : decode cX0_outerOf 11 = .ok (.aload_n 0, 1) := by decide +kernel
theorem dX0_outerOf_12 : decode cX0_outerOf 12 = .ok (.iconst 1, 1) := by decide +kernel
theorem dX0_outerOf_13 : decode cX0_outerOf 13 = .ok (.iload_n 1, 1) := by decide +kernel
theorem dX0_outerOf_14 : decode cX0_outerOf 14 = .ok (.isub, 1) := by decide +kernel
theorem dX0_outerOf_15 : decode cX0_outerOf 15 = .ok (.iload_n 2, 1) := by decide +kernel
theorem dX0_outerOf_16 : decode cX0_outerOf 16 = .ok (.invokevirtual 43, 3) := by decide +kernel
theorem dX0_outerOf_19 : decode cX0_outerOf 19 = .ok (.ifCond .ne 13, 3) := by decide +kernel
theorem dX0_outerOf_22 : decode cX0_outerOf 22 = .ok (.aload_n 0, 1) := by decide +kernel
theorem dX0_outerOf_23 : decode cX0_outerOf 23 = .ok (.iload_n 1, 1) := by decide +kernel
theorem dX0_outerOf_24 : decode cX0_outerOf 24 = .ok (.iload_n 2, 1) := by decide +kernel
theorem dX0_outerOf_25 : decode cX0_outerOf 25 = .ok (.iload_n 3, 1) := by decide +kernel
theorem dX0_outerOf_26 : decode cX0_outerOf 26 = .ok (.invokevirtual 36, 3) := by decide +kernel
theorem dX0_outerOf_29 : decode cX0_outerOf 29 = .ok (.goto 4, 3) := by decide +kernel
theorem dX0_outerOf_32 : decode cX0_outerOf 32 = .ok (.iconst 0, 1) := by decide +kernel
theorem dX0_outerOf_33 : decode cX0_outerOf 33 = .ok (.ireturn, 1) := by decide +kernel
def f_X0_outerOf (s0 : BdT) (p1 : Int32) (p2 : Int32) (p3 : Int32) : Option (Int32) :=
  (f_X0_hasOuter (Bd_how s0) p1).bind fun r1 =>
  if r1 = 0 then some ((0 : Int32))
  else (f_X0_has s0 ((1 : Int32) - p1) p2).bind fun r4 =>
  if r4 = 0 then (f_X0_thereOf s0 p1 p2 p3).bind fun r7 =>
  some (r7)
  else some ((0 : Int32))
abbrev rm_X0_outerOf : Room := { frames := 2, cells := 0, slots := 0, locals := 46 }
set_option maxHeartbeats 4000000 in
set_option maxRecDepth 100000 in
theorem c_X0_outerOf (l : Launch) (g : GK) (a0 : Nat → Nat) (s0 : BdT) (p1 : Int32) (p2 : Int32) (p3 : Int32) (res : (Int32)) (hf : f_X0_outerOf s0 p1 p2 p3 = some res) : gR l yX0_outerOf cX0_outerOf 4 (some .int) rm_X0_outerOf g [.ref (a0 0), .int p1, .int p2, .int p3] (Bd_c g a0 s0) (some (.int res)) := by
  refine gR_introI RX0 (by decide) rfl (Nat.le_of_ble_eq_true rfl) (fun p e s m args below meth c Q H locs ls hE hP hZ hS hq hl => ?_)
  have hl : lv_has ls 4 [(0, .ref (a0 0)), (1, .int p1), (2, .int p2), (3, .int p3)] := hl
  have hx := hE.1
  have hb := hE.2.1
  rw [f_X0_outerOf] at hf
  refine lv_aload_n hx hb dX0_outerOf_0 rfl (lv_at hl 0 rfl) ?_
  refine g_get hE okX0 fl_X0_28 hP 0 rfl (v := .int (Bd_how s0)) rfl dX0_outerOf_1 ?_
  refine lv_iload_n hx hb dX0_outerOf_4 rfl (lv_at hl 1 rfl) ?_
  obtain ⟨r1, hc2, hf⟩ := gbd hf
  refine gr_callS (As := [.int (Bd_how s0), .int p1]) (rest := []) (st1 := [.int r1]) hE hl.1 ml_X0_39 (c_X0_hasOuter l g (Bd_how s0) p1 r1 hc2) hZ hS hP [] rfl rfl rfl rfl ⟨rfl, rfl⟩ ⟨Nat.le_of_ble_eq_true rfl, Nat.le_of_ble_eq_true rfl⟩ ⟨Nat.le_refl _, Nat.le_refl _⟩ (Nat.le_of_ble_eq_true rfl) dX0_outerOf_5 ?_
  refine lv_if_eq hx hb dX0_outerOf_8 (tgt := 32) rfl (fun h3 => ?_) (fun h3 => ?_)
  · have hf := gif_t h3 hf
    refine lv_iconst hx hb dX0_outerOf_32 kci_0 ?_
    cases hf
    exact hq rfl dX0_outerOf_33
  · have hf := gif_f h3 hf
    refine lv_aload_n hx hb dX0_outerOf_11 rfl (lv_at hl 0 rfl) ?_
    refine lv_iconst hx hb dX0_outerOf_12 kci_1 ?_
    refine lv_iload_n hx hb dX0_outerOf_13 rfl (lv_at hl 1 rfl) ?_
    refine lv_isub hx hb dX0_outerOf_14 ?_
    refine lv_iload_n hx hb dX0_outerOf_15 rfl (lv_at hl 2 rfl) ?_
    obtain ⟨r4, hc5, hf⟩ := gbd hf
    refine gr_callV (As := [.int ((1 : Int32) - p1), .int p2]) (rest := []) (st1 := [.int r4]) hE hl.1 ml_X0_43 (c_X0_has l g a0 s0 ((1 : Int32) - p1) p2 r4 hc5) hZ hS hP [(0, 9)] rfl okX0 rfl rfl rfl rfl ⟨rfl, rfl⟩ ⟨Nat.le_of_ble_eq_true rfl, Nat.le_of_ble_eq_true rfl⟩ ⟨Nat.le_refl _, Nat.le_refl _⟩ (Nat.le_of_ble_eq_true rfl) dX0_outerOf_16 ?_
    refine lv_if_ne hx hb dX0_outerOf_19 (tgt := 32) rfl (fun h6 => ?_) (fun h6 => ?_)
    · have hf := gif_f h6 hf
      refine lv_iconst hx hb dX0_outerOf_32 kci_0 ?_
      cases hf
      exact hq rfl dX0_outerOf_33
    · have hf := gif_t h6 hf
      refine lv_aload_n hx hb dX0_outerOf_22 rfl (lv_at hl 0 rfl) ?_
      refine lv_iload_n hx hb dX0_outerOf_23 rfl (lv_at hl 1 rfl) ?_
      refine lv_iload_n hx hb dX0_outerOf_24 rfl (lv_at hl 2 rfl) ?_
      refine lv_iload_n hx hb dX0_outerOf_25 rfl (lv_at hl 3 rfl) ?_
      obtain ⟨r7, hc8, hf⟩ := gbd hf
      refine gr_callV (As := [.int p1, .int p2, .int p3]) (rest := []) (st1 := [.int r7]) hE hl.1 ml_X0_36 (c_X0_thereOf l g a0 s0 p1 p2 p3 r7 hc8) hZ hS hP [(0, 9)] rfl okX0 rfl rfl rfl rfl ⟨rfl, rfl⟩ ⟨Nat.le_of_ble_eq_true rfl, Nat.le_of_ble_eq_true rfl⟩ ⟨Nat.le_refl _, Nat.le_refl _⟩ (Nat.le_of_ble_eq_true rfl) dX0_outerOf_26 ?_
      refine lv_goto hx hb dX0_outerOf_29 (tgt := 33) rfl ?_
      cases hf
      exact hq rfl dX0_outerOf_33
theorem dX0_joined_0 : decode cX0_joined 0 = .ok (.iload_n 2, 1) := by decide +kernel
theorem dX0_joined_1 : decode cX0_joined 1 = .ok (.iconst (-1), 1) := by decide +kernel
theorem dX0_joined_2 : decode cX0_joined 2 = .ok (.if_icmp .ne 11, 3) := by decide +kernel
theorem dX0_joined_5 : decode cX0_joined 5 = .ok (.aload_n 0, 1) := by decide +kernel
theorem dX0_joined_6 : decode cX0_joined 6 = .ok (.iconst 1, 1) := by decide +kernel
theorem dX0_joined_7 : decode cX0_joined 7 = .ok (.iload_n 1, 1) := by decide +kernel
theorem dX0_joined_8 : decode cX0_joined 8 = .ok (.iload_n 3, 1) := by decide +kernel
theorem dX0_joined_9 : decode cX0_joined 9 = .ok (.invokevirtual 46, 3) := by decide +kernel
theorem dX0_joined_12 : decode cX0_joined 12 = .ok (.ireturn, 1) := by decide +kernel
theorem dX0_joined_13 : decode cX0_joined 13 = .ok (.iload_n 3, 1) := by decide +kernel
theorem dX0_joined_14 : decode cX0_joined 14 = .ok (.iconst (-1), 1) := by decide +kernel
theorem dX0_joined_15 : decode cX0_joined 15 = .ok (.if_icmp .ne 11, 3) := by decide +kernel
theorem dX0_joined_18 : decode cX0_joined 18 = .ok (.aload_n 0, 1) := by decide +kernel
theorem dX0_joined_19 : decode cX0_joined 19 = .ok (.iconst 0, 1) := by decide +kernel
theorem dX0_joined_20 : decode cX0_joined 20 = .ok (.iload_n 1, 1) := by decide +kernel
theorem dX0_joined_21 : decode cX0_joined 21 = .ok (.iload_n 2, 1) := by decide +kernel
theorem dX0_joined_22 : decode cX0_joined 22 = .ok (.invokevirtual 46, 3) := by decide +kernel
theorem dX0_joined_25 : decode cX0_joined 25 = .ok (.ireturn, 1) := by decide +kernel
theorem dX0_joined_26 : decode cX0_joined 26 = .ok (.aload_n 0, 1) := by decide +kernel
theorem dX0_joined_27 : decode cX0_joined 27 = .ok (.iconst 0, 1) := by decide +kernel
theorem dX0_joined_28 : decode cX0_joined 28 = .ok (.iload_n 1, 1) := by decide +kernel
theorem dX0_joined_29 : decode cX0_joined 29 = .ok (.iload_n 2, 1) := by decide +kernel
theorem dX0_joined_30 : decode cX0_joined 30 = .ok (.invokevirtual 36, 3) := by decide +kernel
theorem dX0_joined_33 : decode cX0_joined 33 = .ok (.aload_n 0, 1) := by decide +kernel
theorem dX0_joined_34 : decode cX0_joined 34 = .ok (.iconst 1, 1) := by decide +kernel
theorem dX0_joined_35 : decode cX0_joined 35 = .ok (.iload_n 1, 1) := by decide +kernel
theorem dX0_joined_36 : decode cX0_joined 36 = .ok (.iload_n 3, 1) := by decide +kernel
theorem dX0_joined_37 : decode cX0_joined 37 = .ok (.invokevirtual 36, 3) := by decide +kernel
theorem dX0_joined_40 : decode cX0_joined 40 = .ok (.imul, 1) := by decide +kernel
theorem dX0_joined_41 : decode cX0_joined 41 = .ok (.ireturn, 1) := by decide +kernel
def f_X0_joined (s0 : BdT) (p1 : Int32) (p2 : Int32) (p3 : Int32) : Option (Int32) :=
  if p2 = (-1 : Int32) then (f_X0_outerOf s0 (1 : Int32) p1 p3).bind fun r9 =>
  some (r9)
  else if p3 = (-1 : Int32) then (f_X0_outerOf s0 (0 : Int32) p1 p2).bind fun r7 =>
  some (r7)
  else (f_X0_thereOf s0 (0 : Int32) p1 p2).bind fun r3 =>
  (f_X0_thereOf s0 (1 : Int32) p1 p3).bind fun r5 =>
  some ((r3 * r5))
abbrev rm_X0_joined : Room := { frames := 3, cells := 0, slots := 0, locals := 69 }
set_option maxHeartbeats 4000000 in
set_option maxRecDepth 100000 in
theorem c_X0_joined (l : Launch) (g : GK) (a0 : Nat → Nat) (s0 : BdT) (p1 : Int32) (p2 : Int32) (p3 : Int32) (res : (Int32)) (hf : f_X0_joined s0 p1 p2 p3 = some res) : gR l yX0_joined cX0_joined 4 (some .int) rm_X0_joined g [.ref (a0 0), .int p1, .int p2, .int p3] (Bd_c g a0 s0) (some (.int res)) := by
  refine gR_introI RX0 (by decide) rfl (Nat.le_of_ble_eq_true rfl) (fun p e s m args below meth c Q H locs ls hE hP hZ hS hq hl => ?_)
  have hl : lv_has ls 4 [(0, .ref (a0 0)), (1, .int p1), (2, .int p2), (3, .int p3)] := hl
  have hx := hE.1
  have hb := hE.2.1
  rw [f_X0_joined] at hf
  refine lv_iload_n hx hb dX0_joined_0 rfl (lv_at hl 2 rfl) ?_
  refine lv_iconst hx hb dX0_joined_1 kci_m1 ?_
  refine lv_icmp_ne hx hb dX0_joined_2 (tgt := 13) rfl (fun h1 => ?_) (fun h1 => ?_)
  · have hf := gif_f h1 hf
    refine lv_iload_n hx hb dX0_joined_13 rfl (lv_at hl 3 rfl) ?_
    refine lv_iconst hx hb dX0_joined_14 kci_m1 ?_
    refine lv_icmp_ne hx hb dX0_joined_15 (tgt := 26) rfl (fun h2 => ?_) (fun h2 => ?_)
    · have hf := gif_f h2 hf
      refine lv_aload_n hx hb dX0_joined_26 rfl (lv_at hl 0 rfl) ?_
      refine lv_iconst hx hb dX0_joined_27 kci_0 ?_
      refine lv_iload_n hx hb dX0_joined_28 rfl (lv_at hl 1 rfl) ?_
      refine lv_iload_n hx hb dX0_joined_29 rfl (lv_at hl 2 rfl) ?_
      obtain ⟨r3, hc4, hf⟩ := gbd hf
      refine gr_callV (As := [.int (0 : Int32), .int p1, .int p2]) (rest := []) (st1 := [.int r3]) hE hl.1 ml_X0_36 (c_X0_thereOf l g a0 s0 (0 : Int32) p1 p2 r3 hc4) hZ hS hP [(0, 9)] rfl okX0 rfl rfl rfl rfl ⟨rfl, rfl⟩ ⟨Nat.le_of_ble_eq_true rfl, Nat.le_of_ble_eq_true rfl⟩ ⟨Nat.le_refl _, Nat.le_refl _⟩ (Nat.le_of_ble_eq_true rfl) dX0_joined_30 ?_
      refine lv_aload_n hx hb dX0_joined_33 rfl (lv_at hl 0 rfl) ?_
      refine lv_iconst hx hb dX0_joined_34 kci_1 ?_
      refine lv_iload_n hx hb dX0_joined_35 rfl (lv_at hl 1 rfl) ?_
      refine lv_iload_n hx hb dX0_joined_36 rfl (lv_at hl 3 rfl) ?_
      obtain ⟨r5, hc6, hf⟩ := gbd hf
      refine gr_callV (As := [.int (1 : Int32), .int p1, .int p3]) (rest := [.int r3]) (st1 := [.int r5, .int r3]) hE hl.1 ml_X0_36 (c_X0_thereOf l g a0 s0 (1 : Int32) p1 p3 r5 hc6) hZ hS hP [(0, 9)] rfl okX0 rfl rfl rfl rfl ⟨rfl, rfl⟩ ⟨Nat.le_of_ble_eq_true rfl, Nat.le_of_ble_eq_true rfl⟩ ⟨Nat.le_refl _, Nat.le_refl _⟩ (Nat.le_of_ble_eq_true rfl) dX0_joined_37 ?_
      refine lv_imul hx hb dX0_joined_40 ?_
      cases hf
      exact hq rfl dX0_joined_41
    · have hf := gif_t h2 hf
      refine lv_aload_n hx hb dX0_joined_18 rfl (lv_at hl 0 rfl) ?_
      refine lv_iconst hx hb dX0_joined_19 kci_0 ?_
      refine lv_iload_n hx hb dX0_joined_20 rfl (lv_at hl 1 rfl) ?_
      refine lv_iload_n hx hb dX0_joined_21 rfl (lv_at hl 2 rfl) ?_
      obtain ⟨r7, hc8, hf⟩ := gbd hf
      refine gr_callV (As := [.int (0 : Int32), .int p1, .int p2]) (rest := []) (st1 := [.int r7]) hE hl.1 ml_X0_46 (c_X0_outerOf l g a0 s0 (0 : Int32) p1 p2 r7 hc8) hZ hS hP [(0, 9)] rfl okX0 rfl rfl rfl rfl ⟨rfl, rfl⟩ ⟨Nat.le_of_ble_eq_true rfl, Nat.le_of_ble_eq_true rfl⟩ ⟨Nat.le_refl _, Nat.le_refl _⟩ (Nat.le_of_ble_eq_true rfl) dX0_joined_22 ?_
      cases hf
      exact hq rfl dX0_joined_25
  · have hf := gif_t h1 hf
    refine lv_aload_n hx hb dX0_joined_5 rfl (lv_at hl 0 rfl) ?_
    refine lv_iconst hx hb dX0_joined_6 kci_1 ?_
    refine lv_iload_n hx hb dX0_joined_7 rfl (lv_at hl 1 rfl) ?_
    refine lv_iload_n hx hb dX0_joined_8 rfl (lv_at hl 3 rfl) ?_
    obtain ⟨r9, hc10, hf⟩ := gbd hf
    refine gr_callV (As := [.int (1 : Int32), .int p1, .int p3]) (rest := []) (st1 := [.int r9]) hE hl.1 ml_X0_46 (c_X0_outerOf l g a0 s0 (1 : Int32) p1 p3 r9 hc10) hZ hS hP [(0, 9)] rfl okX0 rfl rfl rfl rfl ⟨rfl, rfl⟩ ⟨Nat.le_of_ble_eq_true rfl, Nat.le_of_ble_eq_true rfl⟩ ⟨Nat.le_refl _, Nat.le_refl _⟩ (Nat.le_of_ble_eq_true rfl) dX0_joined_9 ?_
    cases hf
    exact hq rfl dX0_joined_12
theorem dX0_sumOfAll_0 : decode cX0_sumOfAll 0 = .ok (.iconst 0, 1) := by decide +kernel
theorem dX0_sumOfAll_1 : decode cX0_sumOfAll 1 = .ok (.istore_n 1, 1) := by decide +kernel
theorem dX0_sumOfAll_2 : decode cX0_sumOfAll 2 = .ok (.iconst 0, 1) := by decide +kernel
theorem dX0_sumOfAll_3 : decode cX0_sumOfAll 3 = .ok (.istore_n 2, 1) := by decide +kernel
theorem dX0_sumOfAll_4 : decode cX0_sumOfAll 4 = .ok (.iload_n 2, 1) := by decide +kernel
theorem dX0_sumOfAll_5 : decode cX0_sumOfAll 5 = .ok (.sipush 648, 3) := by decide +kernel
theorem dX0_sumOfAll_8 : decode cX0_sumOfAll 8 = .ok (.if_icmp .ge 18, 3) := by decide +kernel
theorem dX0_sumOfAll_11 : decode cX0_sumOfAll 11 = .ok (.iload_n 1, 1) := by decide +kernel
theorem dX0_sumOfAll_12 : decode cX0_sumOfAll 12 = .ok (.aload_n 0, 1) := by decide +kernel
theorem dX0_sumOfAll_13 : decode cX0_sumOfAll 13 = .ok (.getfield 15, 3) := by decide +kernel
theorem dX0_sumOfAll_16 : decode cX0_sumOfAll 16 = .ok (.iload_n 2, 1) := by decide +kernel
theorem dX0_sumOfAll_17 : decode cX0_sumOfAll 17 = .ok (.iaload, 1) := by decide +kernel
theorem dX0_sumOfAll_18 : decode cX0_sumOfAll 18 = .ok (.iadd, 1) := by decide +kernel
theorem dX0_sumOfAll_19 : decode cX0_sumOfAll 19 = .ok (.istore_n 1, 1) := by decide +kernel
theorem dX0_sumOfAll_20 : decode cX0_sumOfAll 20 = .ok (.iinc 2 1, 3) := by decide +kernel
theorem dX0_sumOfAll_23 : decode cX0_sumOfAll 23 = .ok (.goto (-19), 3) := by decide +kernel
theorem dX0_sumOfAll_26 : decode cX0_sumOfAll 26 = .ok (.iload_n 1, 1) := by decide +kernel
theorem dX0_sumOfAll_27 : decode cX0_sumOfAll 27 = .ok (.ireturn, 1) := by decide +kernel
def f_X0_sumOfAll_L4_5 (s0 : BdT) (K1 : (Int32 → Option (Int32))) : Nat → Int32 → Int32 → Option (Int32)
  | 0, _, _ => none
  | n6 + 1, x1_3, x2_4 => if (648 : Int32) ≤ x2_4 then K1 x1_3
  else if inb x2_4 648 then f_X0_sumOfAll_L4_5 s0 K1 n6 (x1_3 + ((Bd_sums s0) (ix x2_4))) (x2_4 + (1 : Int32)) else none
def f_X0_sumOfAll (s0 : BdT) : Option (Int32) :=
  glt (fun (x1_2 : Int32) => some (x1_2)) fun K1 =>
  f_X0_sumOfAll_L4_5 s0 K1 10000 (0 : Int32) (0 : Int32)
abbrev rm_X0_sumOfAll : Room := { frames := 0, cells := 0, slots := 0, locals := 0 }
set_option maxHeartbeats 4000000 in
set_option maxRecDepth 100000 in
theorem c_X0_sumOfAll (l : Launch) (g : GK) (a0 : Nat → Nat) (s0 : BdT) (res : (Int32)) (hf : f_X0_sumOfAll s0 = some res) : gR l yX0_sumOfAll cX0_sumOfAll 3 (some .int) rm_X0_sumOfAll g [.ref (a0 0)] (Bd_c g a0 s0) (some (.int res)) := by
  refine gR_introI RX0 (by decide) rfl (Nat.le_of_ble_eq_true rfl) (fun p e s m args below meth c Q H locs ls hE hP hZ hS hq hl => ?_)
  have hl : lv_has ls 3 [(0, .ref (a0 0))] := hl
  have hx := hE.1
  have hb := hE.2.1
  rw [f_X0_sumOfAll] at hf
  refine lv_iconst hx hb dX0_sumOfAll_0 kci_0 ?_
  refine lv_istore_n hx hb dX0_sumOfAll_1 rfl hl (by decide) (lv' := [(1, .int (0 : Int32)), (0, .ref (a0 0))]) rfl (fun ls hl => ?_)
  refine lv_iconst hx hb dX0_sumOfAll_2 kci_0 ?_
  refine lv_istore_n hx hb dX0_sumOfAll_3 rfl hl (by decide) (lv' := [(2, .int (0 : Int32)), (1, .int (0 : Int32)), (0, .ref (a0 0))]) rfl (fun ls hl => ?_)
  obtain ⟨K1, eK1, hf⟩ := gltd hf
  have kK1 : ∀ (x1_2 : Int32) (ls : Array Slot), K1 x1_2 = some res → lv_has ls 3 [(1, .int x1_2)] → W p l e rm_X0_sumOfAll s m args below meth c H locs 0 0 Q (F0 m 26 ls []) := by
    intro x1_2 ls hf hl
    rw [eK1] at hf
    refine lv_iload_n hx hb dX0_sumOfAll_26 rfl (lv_at hl 0 rfl) ?_
    cases hf
    exact hq rfl dX0_sumOfAll_27
  have lpn6 : ∀ (n6 : Nat) (x1_3 : Int32) (x2_4 : Int32) (ls : Array Slot), f_X0_sumOfAll_L4_5 s0 K1 n6 x1_3 x2_4 = some res → lv_has ls 3 [(0, .ref (a0 0)), (1, .int x1_3), (2, .int x2_4)] → W p l e rm_X0_sumOfAll s m args below meth c H locs 0 0 Q (F0 m 4 ls []) := by
    intro n6
    induction n6 with
    | zero => intro x1_3 x2_4 ls hf hl; rw [f_X0_sumOfAll_L4_5] at hf; cases hf
    | succ n6 ihn6 =>
      intro x1_3 x2_4 ls hf hl
      rw [f_X0_sumOfAll_L4_5] at hf
      refine lv_iload_n hx hb dX0_sumOfAll_4 rfl (lv_at hl 2 rfl) ?_
      refine lv_sipush hx hb dX0_sumOfAll_5 kcs_648 ?_
      refine lv_icmp_ge hx hb dX0_sumOfAll_8 (tgt := 26) rfl (fun h7 => ?_) (fun h7 => ?_)
      · have hf := gif_t h7 hf
        exact kK1 x1_3 ls hf (lv_sub hl [1] rfl)
      · have hf := gif_f h7 hf
        refine lv_iload_n hx hb dX0_sumOfAll_11 rfl (lv_at hl 1 rfl) ?_
        refine lv_aload_n hx hb dX0_sumOfAll_12 rfl (lv_at hl 0 rfl) ?_
        refine g_get hE okX0 fl_X0_15 hP 0 rfl (v := .ref (a0 2)) rfl dX0_sumOfAll_13 ?_
        refine lv_iload_n hx hb dX0_sumOfAll_16 rfl (lv_at hl 2 rfl) ?_
        obtain ⟨hg8, hf⟩ := ggd hf
        refine g_iald hE hP 2 (f := (Bd_sums s0)) rfl hg8 dX0_sumOfAll_17 ?_
        refine lv_iadd hx hb dX0_sumOfAll_18 ?_
        refine lv_istore_n hx hb dX0_sumOfAll_19 rfl hl (by decide) (lv' := [(1, .int (x1_3 + ((Bd_sums s0) (ix x2_4)))), (0, .ref (a0 0)), (2, .int x2_4)]) rfl (fun ls hl => ?_)
        refine lv_iinc hx hb dX0_sumOfAll_20 hl (k := 2) (x := x2_4) rfl (kinc_1 _) (by decide) (lv' := [(2, .int (x2_4 + (1 : Int32))), (1, .int (x1_3 + ((Bd_sums s0) (ix x2_4)))), (0, .ref (a0 0))]) rfl (fun ls hl => ?_)
        refine lv_goto hx hb dX0_sumOfAll_23 (tgt := 4) rfl ?_
        exact ihn6 (x1_3 + ((Bd_sums s0) (ix x2_4))) (x2_4 + (1 : Int32)) ls hf (lv_sub hl [2, 1, 0] rfl)
  exact lpn6 10000 (0 : Int32) (0 : Int32) ls hf (lv_sub hl [2, 1, 0] rfl)
theorem dX0_send_0 : decode cX0_send 0 = .ok (.iload 5, 2) := by decide +kernel
theorem dX0_send_2 : decode cX0_send 2 = .ok (.ifCond .ne 4, 3) := by decide +kernel
theorem dX0_send_5 : decode cX0_send 5 = .ok (.return_, 1) := by decide +kernel
theorem dX0_send_6 : decode cX0_send 6 = .ok (.iload_n 1, 1) := by decide +kernel
theorem dX0_send_7 : decode cX0_send 7 = .ok (.ifCond .ne 13, 3) := by decide +kernel
theorem dX0_send_10 : decode cX0_send 10 = .ok (.iload_n 2, 1) := by decide +kernel
theorem dX0_send_11 : decode cX0_send 11 = .ok (.iload_n 3, 1) := by decide +kernel
theorem dX0_send_12 : decode cX0_send 12 = .ok (.iload 4, 2) := by decide +kernel
theorem dX0_send_14 : decode cX0_send 14 = .ok (.invokestatic 61, 3) := by decide +kernel
theorem dX0_send_17 : decode cX0_send 17 = .ok (.goto 10, 3) := by decide +kernel
theorem dX0_send_20 : decode cX0_send 20 = .ok (.iload_n 2, 1) := by decide +kernel
theorem dX0_send_21 : decode cX0_send 21 = .ok (.iload 4, 2) := by decide +kernel
theorem dX0_send_23 : decode cX0_send 23 = .ok (.iload_n 3, 1) := by decide +kernel
theorem dX0_send_24 : decode cX0_send 24 = .ok (.invokestatic 61, 3) := by decide +kernel
theorem dX0_send_27 : decode cX0_send 27 = .ok (.istore 6, 2) := by decide +kernel
theorem dX0_send_29 : decode cX0_send 29 = .ok (.aload_n 0, 1) := by decide +kernel
theorem dX0_send_30 : decode cX0_send 30 = .ok (.getfield 15, 3) := by decide +kernel
theorem dX0_send_33 : decode cX0_send 33 = .ok (.iload 6, 2) := by decide +kernel
theorem dX0_send_35 : decode cX0_send 35 = .ok (.dup2, 1) := by decide +kernel
theorem dX0_send_36 : decode cX0_send 36 = .ok (.iaload, 1) := by decide +kernel
theorem dX0_send_37 : decode cX0_send 37 = .ok (.iload 5, 2) := by decide +kernel
theorem dX0_send_39 : decode cX0_send 39 = .ok (.iadd, 1) := by decide +kernel
theorem dX0_send_40 : decode cX0_send 40 = .ok (.iastore, 1) := by decide +kernel
theorem dX0_send_41 : decode cX0_send 41 = .ok (.aload_n 0, 1) := by decide +kernel
theorem dX0_send_42 : decode cX0_send 42 = .ok (.getfield 24, 3) := by decide +kernel
theorem dX0_send_45 : decode cX0_send 45 = .ok (.iload_n 2, 1) := by decide +kernel
theorem dX0_send_46 : decode cX0_send 46 = .ok (.iload 6, 2) := by decide +kernel
theorem dX0_send_48 : decode cX0_send 48 = .ok (.iload 5, 2) := by decide +kernel
theorem dX0_send_50 : decode cX0_send 50 = .ok (.invokevirtual 64, 3) := by decide +kernel
theorem dX0_send_53 : decode cX0_send 53 = .ok (.return_, 1) := by decide +kernel
def f_X0_send (s0 : BdT) (p1 : Int32) (p2 : Int32) (p3 : Int32) (p4 : Int32) (p5 : Int32) : Option (BdT) :=
  if p5 = 0 then some (s0)
  else glt (fun (y3 : Int32) => if inb y3 648 then if inb y3 648 then (f_X2_note (Bd_ledger s0) p2 y3 p5).bind fun r6 =>
  some ((Bd_w_ledger (Bd_w_sums s0 (upd (Bd_sums s0) (ix y3) (((Bd_sums s0) (ix y3)) + p5))) r6)) else none else none) fun J2 =>
  if p1 = 0 then (f_X8_placeOf p2 p3 p4).bind fun r11 =>
  J2 r11
  else (f_X8_placeOf p2 p4 p3).bind fun r9 =>
  J2 r9
abbrev rm_X0_send : Room := { frames := 1, cells := 0, slots := 0, locals := 24 }
set_option maxHeartbeats 4000000 in
set_option maxRecDepth 100000 in
theorem c_X0_send (l : Launch) (g : GK) (a0 : Nat → Nat) (s0 : BdT) (p1 : Int32) (p2 : Int32) (p3 : Int32) (p4 : Int32) (p5 : Int32) (res : (BdT)) (hf : f_X0_send s0 p1 p2 p3 p4 p5 = some res) : gM l yX0_send cX0_send 7 none rm_X0_send g [.ref (a0 0), .int p1, .int p2, .int p3, .int p4, .int p5] (Bd_c g a0 s0) (fun _ : Unit => none) (fun _ => (Bd_c g a0 res)) 0 0 := by
  refine gM_introV RX0 (by decide) rfl (Nat.le_of_ble_eq_true rfl) (fun p e s m args below meth c Q H locs ls A hE hnm hZ hA hP hD hS hq hl => ?_)
  have hl : lv_has ls 7 [(0, .ref (a0 0)), (1, .int p1), (2, .int p2), (3, .int p3), (4, .int p4), (5, .int p5)] := hl
  have hx := hE.1
  have hb := hE.2.1
  rw [f_X0_send] at hf
  refine lv_iload hx hb dX0_send_0 (lv_at hl 5 rfl) ?_
  refine lv_if_ne hx hb dX0_send_2 (tgt := 6) rfl (fun h1 => ?_) (fun h1 => ?_)
  · have hf := gif_f h1 hf
    refine lv_iload_n hx hb dX0_send_6 rfl (lv_at hl 1 rfl) ?_
    obtain ⟨J2, eJ2, hf⟩ := gltd hf
    have kJ2 : ∀ (y3 : Int32) (ls : Array Slot) (H : Heap) (locs : List Loc), J2 y3 = some res → lv_has ls 7 [(0, .ref (a0 0)), (2, .int p2), (5, .int p5)] → gP g (Bd_c g a0 s0) H → va_D A (Bd_c g a0 s0) → va_S A s.heap H locs → W p l e rm_X0_send s m args below meth c H locs 0 0 Q (F0 m 27 ls [.int y3]) := by
      intro y3 ls H locs hf hl hP hD hS
      rw [eJ2] at hf
      refine lv_istore hx hb dX0_send_27 hl (by decide) (lv' := [(6, .int y3), (0, .ref (a0 0)), (2, .int p2), (5, .int p5)]) rfl (fun ls hl => ?_)
      refine lv_aload_n hx hb dX0_send_29 rfl (lv_at hl 1 rfl) ?_
      refine g_get hE okX0 fl_X0_15 hP 0 rfl (v := .ref (a0 2)) rfl dX0_send_30 ?_
      refine lv_iload hx hb dX0_send_33 (lv_at hl 0 rfl) ?_
      refine lv_dup2_11 hx hb dX0_send_35 rfl rfl ?_
      obtain ⟨hg4, hf⟩ := ggd hf
      refine g_iald hE hP 2 (f := (Bd_sums s0)) rfl hg4 dX0_send_36 ?_
      refine lv_iload hx hb dX0_send_37 (lv_at hl 3 rfl) ?_
      refine lv_iadd hx hb dX0_send_39 ?_
      obtain ⟨hg5, hf⟩ := ggd hf
      refine g_iast hE hP hD hS 2 (f := (Bd_sums s0)) rfl hg5 (Bd_c g a0 (Bd_w_sums s0 (upd (Bd_sums s0) (ix y3) (((Bd_sums s0) (ix y3)) + p5)))) rfl dX0_send_40 (fun H locs hP hD hS => ?_)
      refine lv_aload_n hx hb dX0_send_41 rfl (lv_at hl 1 rfl) ?_
      refine g_get hE okX0 fl_X0_24 hP 0 rfl (v := .ref (a0 4)) rfl dX0_send_42 ?_
      refine lv_iload_n hx hb dX0_send_45 rfl (lv_at hl 2 rfl) ?_
      refine lv_iload hx hb dX0_send_46 (lv_at hl 0 rfl) ?_
      refine lv_iload hx hb dX0_send_48 (lv_at hl 3 rfl) ?_
      obtain ⟨r6, hc7, hf⟩ := gbd hf
      refine gm_callV1 (As := [.int p2, .int y3, .int p5]) (rest := []) (st1 := fun _ => []) (ws' := fun _ => (Bd_c g a0 (Bd_w_ledger (Bd_w_sums s0 (upd (Bd_sums s0) (ix y3) (((Bd_sums s0) (ix y3)) + p5))) r6))) hE hl.1 ml_X0_64 (c_X2_note l g (fun k => a0 (k + 4)) (Bd_ledger s0) p2 y3 p5 r6 hc7) hZ hP hD hS hA 4 9 rfl (fun _ => rfl) okX2 rfl rfl rfl (fun _ => rfl) ⟨rfl, rfl⟩ ⟨Nat.le_of_ble_eq_true rfl, Nat.le_of_ble_eq_true rfl⟩ ⟨Nat.le_refl _, Nat.le_refl _⟩ (Nat.le_of_ble_eq_true rfl) dX0_send_50 (fun _ H locs hP hD hS => ?_)
      cases hf
      exact hq () rfl hP hD hS dX0_send_53
    refine lv_if_ne hx hb dX0_send_7 (tgt := 20) rfl (fun h8 => ?_) (fun h8 => ?_)
    · have hf := gif_f h8 hf
      refine lv_iload_n hx hb dX0_send_20 rfl (lv_at hl 2 rfl) ?_
      refine lv_iload hx hb dX0_send_21 (lv_at hl 4 rfl) ?_
      refine lv_iload_n hx hb dX0_send_23 rfl (lv_at hl 3 rfl) ?_
      obtain ⟨r9, hc10, hf⟩ := gbd hf
      refine gr_callN (As := [.int p2, .int p4, .int p3]) (rest := []) (st1 := [.int r9]) hE hl.1 ml_X0_61 (c_X8_placeOf l g p2 p4 p3 r9 hc10) hZ hS hP [] rfl rfl rfl rfl ⟨rfl, rfl⟩ ⟨Nat.le_of_ble_eq_true rfl, Nat.le_of_ble_eq_true rfl⟩ ⟨Nat.le_refl _, Nat.le_refl _⟩ (Nat.le_of_ble_eq_true rfl) dX0_send_24 ?_
      exact kJ2 r9 ls H locs hf (lv_sub hl [0, 2, 5] rfl) hP hD hS
    · have hf := gif_t h8 hf
      refine lv_iload_n hx hb dX0_send_10 rfl (lv_at hl 2 rfl) ?_
      refine lv_iload_n hx hb dX0_send_11 rfl (lv_at hl 3 rfl) ?_
      refine lv_iload hx hb dX0_send_12 (lv_at hl 4 rfl) ?_
      obtain ⟨r11, hc12, hf⟩ := gbd hf
      refine gr_callN (As := [.int p2, .int p3, .int p4]) (rest := []) (st1 := [.int r11]) hE hl.1 ml_X0_61 (c_X8_placeOf l g p2 p3 p4 r11 hc12) hZ hS hP [] rfl rfl rfl rfl ⟨rfl, rfl⟩ ⟨Nat.le_of_ble_eq_true rfl, Nat.le_of_ble_eq_true rfl⟩ ⟨Nat.le_refl _, Nat.le_refl _⟩ (Nat.le_of_ble_eq_true rfl) dX0_send_14 ?_
      refine lv_goto hx hb dX0_send_17 (tgt := 27) rfl ?_
      exact kJ2 r11 ls H locs hf (lv_sub hl [0, 2, 5] rfl) hP hD hS
  · have hf := gif_t h1 hf
    cases hf
    exact hq () rfl hP hD hS dX0_send_5
theorem dX0_sendOuters_0 : decode cX0_sendOuters 0 = .ok (.iconst 0, 1) := by decide +kernel
theorem dX0_sendOuters_1 : decode cX0_sendOuters 1 = .ok (.istore 4, 2) := by decide +kernel
theorem dX0_sendOuters_3 : decode cX0_sendOuters 3 = .ok (.iload 4, 2) := by decide +kernel
theorem dX0_sendOuters_5 : decode cX0_sendOuters 5 = .ok (.bipush 8, 2) := by decide +kernel
theorem dX0_sendOuters_7 : decode cX0_sendOuters 7 = .ok (.if_icmp .ge 28, 3) := by decide +kernel
theorem dX0_sendOuters_10 : decode cX0_sendOuters 10 = .ok (.aload_n 0, 1) := by decide +kernel
theorem dX0_sendOuters_11 : decode cX0_sendOuters 11 = .ok (.iload_n 1, 1) := by decide +kernel
theorem dX0_sendOuters_12 : decode cX0_sendOuters 12 = .ok (.iload_n 2, 1) := by decide +kernel
theorem dX0_sendOuters_13 : decode cX0_sendOuters 13 = .ok (.iload 4, 2) := by decide +kernel
theorem dX0_sendOuters_15 : decode cX0_sendOuters 15 = .ok (.iconst (-1), 1) := by decide +kernel
theorem dX0_sendOuters_16 : decode cX0_sendOuters 16 = .ok (.iload_n 3, 1) := by decide +kernel
theorem dX0_sendOuters_17 : decode cX0_sendOuters 17 = .ok (.aload_n 0, 1) := by decide +kernel
theorem dX0_sendOuters_18 : decode cX0_sendOuters 18 = .ok (.iload_n 1, 1) := by decide +kernel
theorem dX0_sendOuters_19 : decode cX0_sendOuters 19 = .ok (.iload_n 2, 1) := by decide +kernel
theorem dX0_sendOuters_20 : decode cX0_sendOuters 20 = .ok (.iload 4, 2) := by decide +kernel
theorem dX0_sendOuters_22 : decode cX0_sendOuters 22 = .ok (.invokevirtual 36, 3) := by decide +kernel
theorem dX0_sendOuters_25 : decode cX0_sendOuters 25 = .ok (.imul, 1) := by decide +kernel
theorem dX0_sendOuters_26 : decode cX0_sendOuters 26 = .ok (.invokevirtual 57, 3) := by decide +kernel
theorem dX0_sendOuters_29 : decode cX0_sendOuters 29 = .ok (.iinc 4 1, 3) := by decide +kernel
theorem dX0_sendOuters_32 : decode cX0_sendOuters 32 = .ok (.goto (-29), 3) := by decide +kernel
theorem dX0_sendOuters_35 : decode cX0_sendOuters 35 = .ok (.return_, 1) := by decide +kernel
def f_X0_sendOuters_L3_5 (p1 : Int32) (p2 : Int32) (p3 : Int32) (K1 : (BdT → Option (BdT))) : Nat → Int32 → BdT → Option (BdT)
  | 0, _, _ => none
  | n6 + 1, x4_3, s0_4 => if (8 : Int32) ≤ x4_3 then K1 s0_4
  else (f_X0_thereOf s0_4 p1 p2 x4_3).bind fun r8 =>
  (f_X0_send s0_4 p1 p2 x4_3 (-1 : Int32) (p3 * r8)).bind fun r10 =>
  f_X0_sendOuters_L3_5 p1 p2 p3 K1 n6 (x4_3 + (1 : Int32)) r10
def f_X0_sendOuters (s0 : BdT) (p1 : Int32) (p2 : Int32) (p3 : Int32) : Option (BdT) :=
  glt (fun (s0_2 : BdT) => some (s0_2)) fun K1 =>
  f_X0_sendOuters_L3_5 p1 p2 p3 K1 10000 (0 : Int32) s0
abbrev rm_X0_sendOuters : Room := { frames := 2, cells := 0, slots := 0, locals := 50 }
set_option maxHeartbeats 4000000 in
set_option maxRecDepth 100000 in
theorem c_X0_sendOuters (l : Launch) (g : GK) (a0 : Nat → Nat) (s0 : BdT) (p1 : Int32) (p2 : Int32) (p3 : Int32) (res : (BdT)) (hf : f_X0_sendOuters s0 p1 p2 p3 = some res) : gM l yX0_sendOuters cX0_sendOuters 5 none rm_X0_sendOuters g [.ref (a0 0), .int p1, .int p2, .int p3] (Bd_c g a0 s0) (fun _ : Unit => none) (fun _ => (Bd_c g a0 res)) 0 0 := by
  refine gM_introV RX0 (by decide) rfl (Nat.le_of_ble_eq_true rfl) (fun p e s m args below meth c Q H locs ls A hE hnm hZ hA hP hD hS hq hl => ?_)
  have hl : lv_has ls 5 [(0, .ref (a0 0)), (1, .int p1), (2, .int p2), (3, .int p3)] := hl
  have hx := hE.1
  have hb := hE.2.1
  rw [f_X0_sendOuters] at hf
  refine lv_iconst hx hb dX0_sendOuters_0 kci_0 ?_
  refine lv_istore hx hb dX0_sendOuters_1 hl (by decide) (lv' := [(4, .int (0 : Int32)), (0, .ref (a0 0)), (1, .int p1), (2, .int p2), (3, .int p3)]) rfl (fun ls hl => ?_)
  obtain ⟨K1, eK1, hf⟩ := gltd hf
  have kK1 : ∀ (s0_2 : BdT) (ls : Array Slot) (H : Heap) (locs : List Loc), K1 s0_2 = some res → lv_has ls 5 [] → gP g (Bd_c g a0 s0_2) H → va_D A (Bd_c g a0 s0_2) → va_S A s.heap H locs → W p l e rm_X0_sendOuters s m args below meth c H locs 0 0 Q (F0 m 35 ls []) := by
    intro s0_2 ls H locs hf hl hP hD hS
    rw [eK1] at hf
    cases hf
    exact hq () rfl hP hD hS dX0_sendOuters_35
  have lpn6 : ∀ (n6 : Nat) (x4_3 : Int32) (s0_4 : BdT) (ls : Array Slot) (H : Heap) (locs : List Loc), f_X0_sendOuters_L3_5 p1 p2 p3 K1 n6 x4_3 s0_4 = some res → lv_has ls 5 [(0, .ref (a0 0)), (1, .int p1), (2, .int p2), (3, .int p3), (4, .int x4_3)] → gP g (Bd_c g a0 s0_4) H → va_D A (Bd_c g a0 s0_4) → va_S A s.heap H locs → W p l e rm_X0_sendOuters s m args below meth c H locs 0 0 Q (F0 m 3 ls []) := by
    intro n6
    induction n6 with
    | zero => intro x4_3 s0_4 ls H locs hf hl hP hD hS; rw [f_X0_sendOuters_L3_5] at hf; cases hf
    | succ n6 ihn6 =>
      intro x4_3 s0_4 ls H locs hf hl hP hD hS
      rw [f_X0_sendOuters_L3_5] at hf
      refine lv_iload hx hb dX0_sendOuters_3 (lv_at hl 4 rfl) ?_
      refine lv_bipush hx hb dX0_sendOuters_5 kcb_8 ?_
      refine lv_icmp_ge hx hb dX0_sendOuters_7 (tgt := 35) rfl (fun h7 => ?_) (fun h7 => ?_)
      · have hf := gif_t h7 hf
        exact kK1 s0_4 ls H locs hf (lv_sub hl [] rfl) hP hD hS
      · have hf := gif_f h7 hf
        refine lv_aload_n hx hb dX0_sendOuters_10 rfl (lv_at hl 0 rfl) ?_
        refine lv_iload_n hx hb dX0_sendOuters_11 rfl (lv_at hl 1 rfl) ?_
        refine lv_iload_n hx hb dX0_sendOuters_12 rfl (lv_at hl 2 rfl) ?_
        refine lv_iload hx hb dX0_sendOuters_13 (lv_at hl 4 rfl) ?_
        refine lv_iconst hx hb dX0_sendOuters_15 kci_m1 ?_
        refine lv_iload_n hx hb dX0_sendOuters_16 rfl (lv_at hl 3 rfl) ?_
        refine lv_aload_n hx hb dX0_sendOuters_17 rfl (lv_at hl 0 rfl) ?_
        refine lv_iload_n hx hb dX0_sendOuters_18 rfl (lv_at hl 1 rfl) ?_
        refine lv_iload_n hx hb dX0_sendOuters_19 rfl (lv_at hl 2 rfl) ?_
        refine lv_iload hx hb dX0_sendOuters_20 (lv_at hl 4 rfl) ?_
        obtain ⟨r8, hc9, hf⟩ := gbd hf
        refine gr_callV (As := [.int p1, .int p2, .int x4_3]) (rest := [.int p3, .int (-1 : Int32), .int x4_3, .int p2, .int p1, .ref (a0 0)]) (st1 := [.int r8, .int p3, .int (-1 : Int32), .int x4_3, .int p2, .int p1, .ref (a0 0)]) hE hl.1 ml_X0_36 (c_X0_thereOf l g a0 s0_4 p1 p2 x4_3 r8 hc9) hZ hS hP [(0, 9)] rfl okX0 rfl rfl rfl rfl ⟨rfl, rfl⟩ ⟨Nat.le_of_ble_eq_true rfl, Nat.le_of_ble_eq_true rfl⟩ ⟨Nat.le_refl _, Nat.le_refl _⟩ (Nat.le_of_ble_eq_true rfl) dX0_sendOuters_22 ?_
        refine lv_imul hx hb dX0_sendOuters_25 ?_
        obtain ⟨r10, hc11, hf⟩ := gbd hf
        refine gm_callV1 (As := [.int p1, .int p2, .int x4_3, .int (-1 : Int32), .int (p3 * r8)]) (rest := []) (st1 := fun _ => []) (ws' := fun _ => (Bd_c g a0 r10)) hE hl.1 ml_X0_57 (c_X0_send l g a0 s0_4 p1 p2 x4_3 (-1 : Int32) (p3 * r8) r10 hc11) hZ hP hD hS hA 0 9 rfl (fun _ => rfl) okX0 rfl rfl rfl (fun _ => rfl) ⟨rfl, rfl⟩ ⟨Nat.le_of_ble_eq_true rfl, Nat.le_of_ble_eq_true rfl⟩ ⟨Nat.le_refl _, Nat.le_refl _⟩ (Nat.le_of_ble_eq_true rfl) dX0_sendOuters_26 (fun _ H locs hP hD hS => ?_)
        refine lv_iinc hx hb dX0_sendOuters_29 hl (k := 4) (x := x4_3) rfl (kinc_1 _) (by decide) (lv' := [(4, .int (x4_3 + (1 : Int32))), (0, .ref (a0 0)), (1, .int p1), (2, .int p2), (3, .int p3)]) rfl (fun ls hl => ?_)
        refine lv_goto hx hb dX0_sendOuters_32 (tgt := 3) rfl ?_
        exact ihn6 (x4_3 + (1 : Int32)) r10 ls H locs hf (lv_sub hl [1, 2, 3, 4, 0] rfl) hP hD hS
  exact lpn6 10000 (0 : Int32) s0 ls H locs hf (lv_sub hl [1, 2, 3, 4, 0] rfl) hP hD hS
theorem dX0_sendRowsWith_0 : decode cX0_sendRowsWith 0 = .ok (.iconst 1, 1) := by decide +kernel
theorem dX0_sendRowsWith_1 : decode cX0_sendRowsWith 1 = .ok (.iload_n 1, 1) := by decide +kernel
theorem dX0_sendRowsWith_2 : decode cX0_sendRowsWith 2 = .ok (.isub, 1) := by decide +kernel
theorem dX0_sendRowsWith_3 : decode cX0_sendRowsWith 3 = .ok (.istore 5, 2) := by decide +kernel
theorem dX0_sendRowsWith_5 : decode cX0_sendRowsWith 5 = .ok (.aload_n 0, 1) := by decide +kernel
theorem dX0_sendRowsWith_6 : decode cX0_sendRowsWith 6 = .ok (.iload 5, 2) := by decide +kernel
theorem dX0_sendRowsWith_8 : decode cX0_sendRowsWith 8 = .ok (.iload_n 2, 1) := by decide +kernel
theorem dX0_sendRowsWith_9 : decode cX0_sendRowsWith 9 = .ok (.invokevirtual 43, 3) := by decide +kernel
theorem dX0_sendRowsWith_12 : decode cX0_sendRowsWith 12 = .ok (.ifCond .eq 43, 3) := by decide +kernel
theorem dX0_sendRowsWith_15 : decode cX0_sendRowsWith 15 = .ok (.iconst 0, 1) := by decide +kernel
theorem dX0_sendRowsWith_16 : decode cX0_sendRowsWith 16 = .ok (.istore 6, 2) := by decide +kernel
theorem dX0_sendRowsWith_18 : decode cX0_sendRowsWith 18 = .ok (.iload 6, 2) := by decide +kernel
theorem dX0_sendRowsWith_20 : decode cX0_sendRowsWith 20 = .ok (.bipush 8, 2) := by decide +kernel
theorem dX0_sendRowsWith_22 : decode cX0_sendRowsWith 22 = .ok (.if_icmp .ge 30, 3) := by decide +kernel
theorem dX0_sendRowsWith_25 : decode cX0_sendRowsWith 25 = .ok (.aload_n 0, 1) := by decide +kernel
theorem dX0_sendRowsWith_26 : decode cX0_sendRowsWith 26 = .ok (.iload_n 1, 1) := by decide +kernel
theorem dX0_sendRowsWith_27 : decode cX0_sendRowsWith 27 = .ok (.iload_n 2, 1) := by decide +kernel
theorem dX0_sendRowsWith_28 : decode cX0_sendRowsWith 28 = .ok (.iload_n 3, 1) := by decide +kernel
theorem dX0_sendRowsWith_29 : decode cX0_sendRowsWith 29 = .ok (.iload 6, 2) := by decide +kernel
theorem dX0_sendRowsWith_31 : decode cX0_sendRowsWith 31 = .ok (.iload 4, 2) := by decide +kernel
theorem dX0_sendRowsWith_33 : decode cX0_sendRowsWith 33 = .ok (.aload_n 0, 1) := by decide +kernel
theorem dX0_sendRowsWith_34 : decode cX0_sendRowsWith 34 = .ok (.iload 5, 2) := by decide +kernel
theorem dX0_sendRowsWith_36 : decode cX0_sendRowsWith 36 = .ok (.iload_n 2, 1) := by decide +kernel
theorem dX0_sendRowsWith_37 : decode cX0_sendRowsWith 37 = .ok (.iload 6, 2) := by decide +kernel
theorem dX0_sendRowsWith_39 : decode cX0_sendRowsWith 39 = .ok (.invokevirtual 36, 3) := by decide +kernel
theorem dX0_sendRowsWith_42 : decode cX0_sendRowsWith 42 = .ok (.imul, 1) := by decide +kernel
theorem dX0_sendRowsWith_43 : decode cX0_sendRowsWith 43 = .ok (.invokevirtual 57, 3) := by decide +kernel
theorem dX0_sendRowsWith_46 : decode cX0_sendRowsWith 46 = .ok (.iinc 6 1, 3) := by decide +kernel
theorem dX0_sendRowsWith_49 : decode cX0_sendRowsWith 49 = .ok (.goto (-31), 3) := by decide +kernel
theorem dX0_sendRowsWith_52 : decode cX0_sendRowsWith 52 = .ok (.goto 24, 3) := by decide +kernel
theorem dX0_sendRowsWith_55 : decode cX0_sendRowsWith 55 = .ok (.aload_n 0, 1) := by decide +kernel
theorem dX0_sendRowsWith_56 : decode cX0_sendRowsWith 56 = .ok (.getfield 28, 3) := by decide +kernel
theorem dX0_sendRowsWith_59 : decode cX0_sendRowsWith 59 = .ok (.iload_n 1, 1) := by decide +kernel
theorem dX0_sendRowsWith_60 : decode cX0_sendRowsWith 60 = .ok (.invokestatic 39, 3) := by decide +kernel
theorem dX0_sendRowsWith_63 : decode cX0_sendRowsWith 63 = .ok (.ifCond .eq 13, 3) := by decide +kernel
theorem dX0_sendRowsWith_66 : decode cX0_sendRowsWith 66 = .ok (.aload_n 0, 1) := by decide +kernel
theorem dX0_sendRowsWith_67 : decode cX0_sendRowsWith 67 = .ok (.iload_n 1, 1) := by decide +kernel
theorem dX0_sendRowsWith_68 : decode cX0_sendRowsWith 68 = .ok (.iload_n 2, 1) := by decide +kernel
theorem dX0_sendRowsWith_69 : decode cX0_sendRowsWith 69 = .ok (.iload_n 3, 1) := by decide +kernel
theorem dX0_sendRowsWith_70 : decode cX0_sendRowsWith 70 = .ok (.iconst (-1), 1) := by decide +kernel
theorem dX0_sendRowsWith_71 : decode cX0_sendRowsWith 71 = .ok (.iload 4, 2) := by decide +kernel
theorem dX0_sendRowsWith_73 : decode cX0_sendRowsWith 73 = .ok (.invokevirtual 57, 3) := by decide +kernel
theorem dX0_sendRowsWith_76 : decode cX0_sendRowsWith 76 = .ok (.return_, 1) := by decide +kernel
def f_X0_sendRowsWith_L18_13 (p1 : Int32) (p2 : Int32) (p3 : Int32) (p4 : Int32) (K9 : (BdT → Option (BdT))) : Nat → Int32 → BdT → Option (BdT)
  | 0, _, _ => none
  | n14 + 1, x6_11, s0_12 => if (8 : Int32) ≤ x6_11 then K9 s0_12
  else (f_X0_thereOf s0_12 ((1 : Int32) - p1) p2 x6_11).bind fun r16 =>
  (f_X0_send s0_12 p1 p2 p3 x6_11 (p4 * r16)).bind fun r18 =>
  f_X0_sendRowsWith_L18_13 p1 p2 p3 p4 K9 n14 (x6_11 + (1 : Int32)) r18
def f_X0_sendRowsWith (s0 : BdT) (p1 : Int32) (p2 : Int32) (p3 : Int32) (p4 : Int32) : Option (BdT) :=
  (f_X0_has s0 ((1 : Int32) - p1) p2).bind fun r1 =>
  if r1 = 0 then (f_X0_hasOuter (Bd_how s0) p1).bind fun r4 =>
  if r4 = 0 then some (s0)
  else (f_X0_send s0 p1 p2 p3 (-1 : Int32) p4).bind fun r7 =>
  some (r7)
  else glt (fun (s0_10 : BdT) => some (s0_10)) fun K9 =>
  f_X0_sendRowsWith_L18_13 p1 p2 p3 p4 K9 10000 (0 : Int32) s0
abbrev rm_X0_sendRowsWith : Room := { frames := 2, cells := 0, slots := 0, locals := 50 }
set_option maxHeartbeats 4000000 in
set_option maxRecDepth 100000 in
theorem c_X0_sendRowsWith (l : Launch) (g : GK) (a0 : Nat → Nat) (s0 : BdT) (p1 : Int32) (p2 : Int32) (p3 : Int32) (p4 : Int32) (res : (BdT)) (hf : f_X0_sendRowsWith s0 p1 p2 p3 p4 = some res) : gM l yX0_sendRowsWith cX0_sendRowsWith 7 none rm_X0_sendRowsWith g [.ref (a0 0), .int p1, .int p2, .int p3, .int p4] (Bd_c g a0 s0) (fun _ : Unit => none) (fun _ => (Bd_c g a0 res)) 0 0 := by
  refine gM_introV RX0 (by decide) rfl (Nat.le_of_ble_eq_true rfl) (fun p e s m args below meth c Q H locs ls A hE hnm hZ hA hP hD hS hq hl => ?_)
  have hl : lv_has ls 7 [(0, .ref (a0 0)), (1, .int p1), (2, .int p2), (3, .int p3), (4, .int p4)] := hl
  have hx := hE.1
  have hb := hE.2.1
  rw [f_X0_sendRowsWith] at hf
  refine lv_iconst hx hb dX0_sendRowsWith_0 kci_1 ?_
  refine lv_iload_n hx hb dX0_sendRowsWith_1 rfl (lv_at hl 1 rfl) ?_
  refine lv_isub hx hb dX0_sendRowsWith_2 ?_
  refine lv_istore hx hb dX0_sendRowsWith_3 hl (by decide) (lv' := [(5, .int ((1 : Int32) - p1)), (0, .ref (a0 0)), (1, .int p1), (2, .int p2), (3, .int p3), (4, .int p4)]) rfl (fun ls hl => ?_)
  refine lv_aload_n hx hb dX0_sendRowsWith_5 rfl (lv_at hl 1 rfl) ?_
  refine lv_iload hx hb dX0_sendRowsWith_6 (lv_at hl 0 rfl) ?_
  refine lv_iload_n hx hb dX0_sendRowsWith_8 rfl (lv_at hl 3 rfl) ?_
  obtain ⟨r1, hc2, hf⟩ := gbd hf
  refine gr_callV (As := [.int ((1 : Int32) - p1), .int p2]) (rest := []) (st1 := [.int r1]) hE hl.1 ml_X0_43 (c_X0_has l g a0 s0 ((1 : Int32) - p1) p2 r1 hc2) hZ hS hP [(0, 9)] rfl okX0 rfl rfl rfl rfl ⟨rfl, rfl⟩ ⟨Nat.le_of_ble_eq_true rfl, Nat.le_of_ble_eq_true rfl⟩ ⟨Nat.le_refl _, Nat.le_refl _⟩ (Nat.le_of_ble_eq_true rfl) dX0_sendRowsWith_9 ?_
  refine lv_if_eq hx hb dX0_sendRowsWith_12 (tgt := 55) rfl (fun h3 => ?_) (fun h3 => ?_)
  · have hf := gif_t h3 hf
    refine lv_aload_n hx hb dX0_sendRowsWith_55 rfl (lv_at hl 1 rfl) ?_
    refine g_get hE okX0 fl_X0_28 hP 0 rfl (v := .int (Bd_how s0)) rfl dX0_sendRowsWith_56 ?_
    refine lv_iload_n hx hb dX0_sendRowsWith_59 rfl (lv_at hl 2 rfl) ?_
    obtain ⟨r4, hc5, hf⟩ := gbd hf
    refine gr_callS (As := [.int (Bd_how s0), .int p1]) (rest := []) (st1 := [.int r4]) hE hl.1 ml_X0_39 (c_X0_hasOuter l g (Bd_how s0) p1 r4 hc5) hZ hS hP [] rfl rfl rfl rfl ⟨rfl, rfl⟩ ⟨Nat.le_of_ble_eq_true rfl, Nat.le_of_ble_eq_true rfl⟩ ⟨Nat.le_refl _, Nat.le_refl _⟩ (Nat.le_of_ble_eq_true rfl) dX0_sendRowsWith_60 ?_
    refine lv_if_eq hx hb dX0_sendRowsWith_63 (tgt := 76) rfl (fun h6 => ?_) (fun h6 => ?_)
    · have hf := gif_t h6 hf
      cases hf
      exact hq () rfl hP hD hS dX0_sendRowsWith_76
    · have hf := gif_f h6 hf
      refine lv_aload_n hx hb dX0_sendRowsWith_66 rfl (lv_at hl 1 rfl) ?_
      refine lv_iload_n hx hb dX0_sendRowsWith_67 rfl (lv_at hl 2 rfl) ?_
      refine lv_iload_n hx hb dX0_sendRowsWith_68 rfl (lv_at hl 3 rfl) ?_
      refine lv_iload_n hx hb dX0_sendRowsWith_69 rfl (lv_at hl 4 rfl) ?_
      refine lv_iconst hx hb dX0_sendRowsWith_70 kci_m1 ?_
      refine lv_iload hx hb dX0_sendRowsWith_71 (lv_at hl 5 rfl) ?_
      obtain ⟨r7, hc8, hf⟩ := gbd hf
      refine gm_callV1 (As := [.int p1, .int p2, .int p3, .int (-1 : Int32), .int p4]) (rest := []) (st1 := fun _ => []) (ws' := fun _ => (Bd_c g a0 r7)) hE hl.1 ml_X0_57 (c_X0_send l g a0 s0 p1 p2 p3 (-1 : Int32) p4 r7 hc8) hZ hP hD hS hA 0 9 rfl (fun _ => rfl) okX0 rfl rfl rfl (fun _ => rfl) ⟨rfl, rfl⟩ ⟨Nat.le_of_ble_eq_true rfl, Nat.le_of_ble_eq_true rfl⟩ ⟨Nat.le_refl _, Nat.le_refl _⟩ (Nat.le_of_ble_eq_true rfl) dX0_sendRowsWith_73 (fun _ H locs hP hD hS => ?_)
      cases hf
      exact hq () rfl hP hD hS dX0_sendRowsWith_76
  · have hf := gif_f h3 hf
    refine lv_iconst hx hb dX0_sendRowsWith_15 kci_0 ?_
    refine lv_istore hx hb dX0_sendRowsWith_16 hl (by decide) (lv' := [(6, .int (0 : Int32)), (5, .int ((1 : Int32) - p1)), (0, .ref (a0 0)), (1, .int p1), (2, .int p2), (3, .int p3), (4, .int p4)]) rfl (fun ls hl => ?_)
    obtain ⟨K9, eK9, hf⟩ := gltd hf
    have kK9 : ∀ (s0_10 : BdT) (ls : Array Slot) (H : Heap) (locs : List Loc), K9 s0_10 = some res → lv_has ls 7 [] → gP g (Bd_c g a0 s0_10) H → va_D A (Bd_c g a0 s0_10) → va_S A s.heap H locs → W p l e rm_X0_sendRowsWith s m args below meth c H locs 0 0 Q (F0 m 52 ls []) := by
      intro s0_10 ls H locs hf hl hP hD hS
      rw [eK9] at hf
      refine lv_goto hx hb dX0_sendRowsWith_52 (tgt := 76) rfl ?_
      cases hf
      exact hq () rfl hP hD hS dX0_sendRowsWith_76
    have lpn14 : ∀ (n14 : Nat) (x6_11 : Int32) (s0_12 : BdT) (ls : Array Slot) (H : Heap) (locs : List Loc), f_X0_sendRowsWith_L18_13 p1 p2 p3 p4 K9 n14 x6_11 s0_12 = some res → lv_has ls 7 [(0, .ref (a0 0)), (1, .int p1), (2, .int p2), (3, .int p3), (4, .int p4), (5, .int ((1 : Int32) - p1)), (6, .int x6_11)] → gP g (Bd_c g a0 s0_12) H → va_D A (Bd_c g a0 s0_12) → va_S A s.heap H locs → W p l e rm_X0_sendRowsWith s m args below meth c H locs 0 0 Q (F0 m 18 ls []) := by
      intro n14
      induction n14 with
      | zero => intro x6_11 s0_12 ls H locs hf hl hP hD hS; rw [f_X0_sendRowsWith_L18_13] at hf; cases hf
      | succ n14 ihn14 =>
        intro x6_11 s0_12 ls H locs hf hl hP hD hS
        rw [f_X0_sendRowsWith_L18_13] at hf
        refine lv_iload hx hb dX0_sendRowsWith_18 (lv_at hl 6 rfl) ?_
        refine lv_bipush hx hb dX0_sendRowsWith_20 kcb_8 ?_
        refine lv_icmp_ge hx hb dX0_sendRowsWith_22 (tgt := 52) rfl (fun h15 => ?_) (fun h15 => ?_)
        · have hf := gif_t h15 hf
          exact kK9 s0_12 ls H locs hf (lv_sub hl [] rfl) hP hD hS
        · have hf := gif_f h15 hf
          refine lv_aload_n hx hb dX0_sendRowsWith_25 rfl (lv_at hl 0 rfl) ?_
          refine lv_iload_n hx hb dX0_sendRowsWith_26 rfl (lv_at hl 1 rfl) ?_
          refine lv_iload_n hx hb dX0_sendRowsWith_27 rfl (lv_at hl 2 rfl) ?_
          refine lv_iload_n hx hb dX0_sendRowsWith_28 rfl (lv_at hl 3 rfl) ?_
          refine lv_iload hx hb dX0_sendRowsWith_29 (lv_at hl 6 rfl) ?_
          refine lv_iload hx hb dX0_sendRowsWith_31 (lv_at hl 4 rfl) ?_
          refine lv_aload_n hx hb dX0_sendRowsWith_33 rfl (lv_at hl 0 rfl) ?_
          refine lv_iload hx hb dX0_sendRowsWith_34 (lv_at hl 5 rfl) ?_
          refine lv_iload_n hx hb dX0_sendRowsWith_36 rfl (lv_at hl 2 rfl) ?_
          refine lv_iload hx hb dX0_sendRowsWith_37 (lv_at hl 6 rfl) ?_
          obtain ⟨r16, hc17, hf⟩ := gbd hf
          refine gr_callV (As := [.int ((1 : Int32) - p1), .int p2, .int x6_11]) (rest := [.int p4, .int x6_11, .int p3, .int p2, .int p1, .ref (a0 0)]) (st1 := [.int r16, .int p4, .int x6_11, .int p3, .int p2, .int p1, .ref (a0 0)]) hE hl.1 ml_X0_36 (c_X0_thereOf l g a0 s0_12 ((1 : Int32) - p1) p2 x6_11 r16 hc17) hZ hS hP [(0, 9)] rfl okX0 rfl rfl rfl rfl ⟨rfl, rfl⟩ ⟨Nat.le_of_ble_eq_true rfl, Nat.le_of_ble_eq_true rfl⟩ ⟨Nat.le_refl _, Nat.le_refl _⟩ (Nat.le_of_ble_eq_true rfl) dX0_sendRowsWith_39 ?_
          refine lv_imul hx hb dX0_sendRowsWith_42 ?_
          obtain ⟨r18, hc19, hf⟩ := gbd hf
          refine gm_callV1 (As := [.int p1, .int p2, .int p3, .int x6_11, .int (p4 * r16)]) (rest := []) (st1 := fun _ => []) (ws' := fun _ => (Bd_c g a0 r18)) hE hl.1 ml_X0_57 (c_X0_send l g a0 s0_12 p1 p2 p3 x6_11 (p4 * r16) r18 hc19) hZ hP hD hS hA 0 9 rfl (fun _ => rfl) okX0 rfl rfl rfl (fun _ => rfl) ⟨rfl, rfl⟩ ⟨Nat.le_of_ble_eq_true rfl, Nat.le_of_ble_eq_true rfl⟩ ⟨Nat.le_refl _, Nat.le_refl _⟩ (Nat.le_of_ble_eq_true rfl) dX0_sendRowsWith_43 (fun _ H locs hP hD hS => ?_)
          refine lv_iinc hx hb dX0_sendRowsWith_46 hl (k := 6) (x := x6_11) rfl (kinc_1 _) (by decide) (lv' := [(6, .int (x6_11 + (1 : Int32))), (0, .ref (a0 0)), (1, .int p1), (2, .int p2), (3, .int p3), (4, .int p4), (5, .int ((1 : Int32) - p1))]) rfl (fun ls hl => ?_)
          refine lv_goto hx hb dX0_sendRowsWith_49 (tgt := 18) rfl ?_
          exact ihn14 (x6_11 + (1 : Int32)) r18 ls H locs hf (lv_sub hl [1, 2, 3, 4, 5, 6, 0] rfl) hP hD hS
    exact lpn14 10000 (0 : Int32) s0 ls H locs hf (lv_sub hl [2, 3, 4, 5, 6, 1, 0] rfl) hP hD hS
theorem dX0_change_0 : decode cX0_change 0 = .ok (.aload_n 0, 1) := by decide +kernel
theorem dX0_change_1 : decode cX0_change 1 = .ok (.iload_n 1, 1) := by decide +kernel
theorem dX0_change_2 : decode cX0_change 2 = .ok (.iload_n 2, 1) := by decide +kernel
theorem dX0_change_3 : decode cX0_change 3 = .ok (.invokevirtual 43, 3) := by decide +kernel
theorem dX0_change_6 : decode cX0_change 6 = .ok (.istore 5, 2) := by decide +kernel
theorem dX0_change_8 : decode cX0_change 8 = .ok (.aload_n 0, 1) := by decide +kernel
theorem dX0_change_9 : decode cX0_change 9 = .ok (.iload_n 1, 1) := by decide +kernel
theorem dX0_change_10 : decode cX0_change 10 = .ok (.iload_n 2, 1) := by decide +kernel
theorem dX0_change_11 : decode cX0_change 11 = .ok (.iload_n 3, 1) := by decide +kernel
theorem dX0_change_12 : decode cX0_change 12 = .ok (.invokevirtual 36, 3) := by decide +kernel
theorem dX0_change_15 : decode cX0_change 15 = .ok (.istore 6, 2) := by decide +kernel
theorem dX0_change_17 : decode cX0_change 17 = .ok (.aload_n 0, 1) := by decide +kernel
theorem dX0_change_18 : decode cX0_change 18 = .ok (.getfield 9, 3) := by decide +kernel
theorem dX0_change_21 : decode cX0_change 21 = .ok (.iload_n 1, 1) := by decide +kernel
theorem dX0_change_22 : decode cX0_change 22 = .ok (.iload_n 2, 1) := by decide +kernel
theorem dX0_change_23 : decode cX0_change 23 = .ok (.iload_n 3, 1) := by decide +kernel
theorem dX0_change_24 : decode cX0_change 24 = .ok (.invokestatic 32, 3) := by decide +kernel
theorem dX0_change_27 : decode cX0_change 27 = .ok (.dup2, 1) := by decide +kernel
theorem dX0_change_28 : decode cX0_change 28 = .ok (.iaload, 1) := by decide +kernel
theorem dX0_change_29 : decode cX0_change 29 = .ok (.iload 4, 2) := by decide +kernel
theorem dX0_change_31 : decode cX0_change 31 = .ok (.iadd, 1) := by decide +kernel
theorem dX0_change_32 : decode cX0_change 32 = .ok (.iastore, 1) := by decide +kernel
theorem dX0_change_33 : decode cX0_change 33 = .ok (.aload_n 0, 1) := by decide +kernel
theorem dX0_change_34 : decode cX0_change 34 = .ok (.iload_n 1, 1) := by decide +kernel
theorem dX0_change_35 : decode cX0_change 35 = .ok (.iload_n 2, 1) := by decide +kernel
theorem dX0_change_36 : decode cX0_change 36 = .ok (.iload_n 3, 1) := by decide +kernel
theorem dX0_change_37 : decode cX0_change 37 = .ok (.invokevirtual 36, 3) := by decide +kernel
theorem dX0_change_40 : decode cX0_change 40 = .ok (.iload 6, 2) := by decide +kernel
theorem dX0_change_42 : decode cX0_change 42 = .ok (.isub, 1) := by decide +kernel
theorem dX0_change_43 : decode cX0_change 43 = .ok (.istore 7, 2) := by decide +kernel
theorem dX0_change_45 : decode cX0_change 45 = .ok (.iload 7, 2) := by decide +kernel
theorem dX0_change_47 : decode cX0_change 47 = .ok (.ifCond .ne 4, 3) := by decide +kernel
theorem dX0_change_50 : decode cX0_change 50 = .ok (.return_, 1) := by decide +kernel
theorem dX0_change_51 : decode cX0_change 51 = .ok (.aload_n 0, 1) := by decide +kernel
theorem dX0_change_52 : decode cX0_change 52 = .ok (.iload_n 1, 1) := by decide +kernel
theorem dX0_change_53 : decode cX0_change 53 = .ok (.iload_n 2, 1) := by decide +kernel
theorem dX0_change_54 : decode cX0_change 54 = .ok (.invokevirtual 43, 3) := by decide +kernel
theorem dX0_change_57 : decode cX0_change 57 = .ok (.istore 8, 2) := by decide +kernel
theorem dX0_change_59 : decode cX0_change 59 = .ok (.iconst 1, 1) := by decide +kernel
theorem dX0_change_60 : decode cX0_change 60 = .ok (.iload_n 1, 1) := by decide +kernel
theorem dX0_change_61 : decode cX0_change 61 = .ok (.isub, 1) := by decide +kernel
theorem dX0_change_62 : decode cX0_change 62 = .ok (.istore 9, 2) := by decide +kernel
theorem dX0_change_64 : decode cX0_change 64 = .ok (.iload 5, 2) := by decide +kernel
theorem dX0_change_66 : decode cX0_change 66 = .ok (.ifCond .ne 28, 3) := by decide +kernel
theorem dX0_change_69 : decode cX0_change 69 = .ok (.iload 8, 2) := by decide +kernel
theorem dX0_change_71 : decode cX0_change 71 = .ok (.ifCond .eq 23, 3) := by decide +kernel
theorem dX0_change_74 : decode cX0_change 74 = .ok (.aload_n 0, 1) := by decide +kernel
theorem dX0_change_75 : decode cX0_change 75 = .ok (.getfield 28, 3) := by decide +kernel
theorem dX0_change_78 : decode cX0_change 78 = .ok (.iload 9, 2) := by decide +kernel
theorem dX0_change_80 : decode cX0_change 80 = .ok (.invokestatic 39, 3) := by decide +kernel
theorem dX0_change_83 : decode cX0_change 83 = .ok (.ifCond .eq 11, 3) := by decide +kernel
theorem dX0_change_86 : decode cX0_change 86 = .ok (.aload_n 0, 1) := by decide +kernel
theorem dX0_change_87 : decode cX0_change 87 = .ok (.iload 9, 2) := by decide +kernel
theorem dX0_change_89 : decode cX0_change 89 = .ok (.iload_n 2, 1) := by decide +kernel
theorem dX0_change_90 : decode cX0_change 90 = .ok (.iconst (-1), 1) := by decide +kernel
theorem dX0_change_91 : decode cX0_change 91 = .ok (.invokevirtual 49, 3) := by decide +kernel
theorem dX0_change_94 : decode cX0_change 94 = .ok (.aload_n 0, 1) := by decide +kernel
theorem dX0_change_95 : decode cX0_change 95 = .ok (.iload_n 1, 1) := by decide +kernel
theorem dX0_change_96 : decode cX0_change 96 = .ok (.iload_n 2, 1) := by decide +kernel
theorem dX0_change_97 : decode cX0_change 97 = .ok (.iload_n 3, 1) := by decide +kernel
theorem dX0_change_98 : decode cX0_change 98 = .ok (.iload 7, 2) := by decide +kernel
theorem dX0_change_100 : decode cX0_change 100 = .ok (.invokevirtual 53, 3) := by decide +kernel
theorem dX0_change_103 : decode cX0_change 103 = .ok (.iload 5, 2) := by decide +kernel
theorem dX0_change_105 : decode cX0_change 105 = .ok (.ifCond .eq 28, 3) := by decide +kernel
theorem dX0_change_108 : decode cX0_change 108 = .ok (.iload 8, 2) := by decide +kernel
theorem dX0_change_110 : decode cX0_change 110 = .ok (.ifCond .ne 23, 3) := by decide +kernel
theorem dX0_change_113 : decode cX0_change 113 = .ok (.aload_n 0, 1) := by decide +kernel
theorem dX0_change_114 : decode cX0_change 114 = .ok (.getfield 28, 3) := by decide +kernel
theorem dX0_change_117 : decode cX0_change 117 = .ok (.iload 9, 2) := by decide +kernel
theorem dX0_change_119 : decode cX0_change 119 = .ok (.invokestatic 39, 3) := by decide +kernel
theorem dX0_change_122 : decode cX0_change 122 = .ok (.ifCond .eq 11, 3) := by decide +kernel
theorem dX0_change_125 : decode cX0_change 125 = .ok (.aload_n 0, 1) := by decide +kernel
theorem dX0_change_126 : decode cX0_change 126 = .ok (.iload 9, 2) := by decide +kernel
theorem dX0_change_128 : decode cX0_change 128 = .ok (.iload_n 2, 1) := by decide +kernel
theorem dX0_change_129 : decode cX0_change 129 = .ok (.iconst 1, 1) := by decide +kernel
theorem dX0_change_130 : decode cX0_change 130 = .ok (.invokevirtual 49, 3) := by decide +kernel
theorem dX0_change_133 : decode cX0_change 133 = .ok (.iload 5, 2) := by decide +kernel
theorem dX0_change_135 : decode cX0_change 135 = .ok (.iload 8, 2) := by decide +kernel
theorem dX0_change_137 : decode cX0_change 137 = .ok (.if_icmp .eq 18, 3) := by decide +kernel
theorem dX0_change_140 : decode cX0_change 140 = .ok (.aload_n 0, 1) := by decide +kernel
theorem dX0_change_141 : decode cX0_change 141 = .ok (.getfield 18, 3) := by decide +kernel
theorem dX0_change_144 : decode cX0_change 144 = .ok (.iload_n 1, 1) := by decide +kernel
theorem dX0_change_145 : decode cX0_change 145 = .ok (.bipush 8, 2) := by decide +kernel
theorem dX0_change_147 : decode cX0_change 147 = .ok (.imul, 1) := by decide +kernel
theorem dX0_change_148 : decode cX0_change 148 = .ok (.iload_n 2, 1) := by decide +kernel
theorem dX0_change_149 : decode cX0_change 149 = .ok (.iadd, 1) := by decide +kernel
theorem dX0_change_150 : decode cX0_change 150 = .ok (.dup2, 1) := by decide +kernel
theorem dX0_change_151 : decode cX0_change 151 = .ok (.iaload, 1) := by decide +kernel
theorem dX0_change_152 : decode cX0_change 152 = .ok (.iconst 1, 1) := by decide +kernel
theorem dX0_change_153 : decode cX0_change 153 = .ok (.iadd, 1) := by decide +kernel
theorem dX0_change_154 : decode cX0_change 154 = .ok (.iastore, 1) := by decide +kernel
theorem dX0_change_155 : decode cX0_change 155 = .ok (.return_, 1) := by decide +kernel
def f_X0_change (s0 : BdT) (p1 : Int32) (p2 : Int32) (p3 : Int32) (p4 : Int32) : Option (BdT) :=
  (f_X0_has s0 p1 p2).bind fun r1 =>
  (f_X0_thereOf s0 p1 p2 p3).bind fun r3 =>
  (f_X0_netPlace p1 p2 p3).bind fun r5 =>
  if inb r5 128 then if inb r5 128 then (f_X0_thereOf (Bd_w_nets s0 (upd (Bd_nets s0) (ix r5) (((Bd_nets s0) (ix r5)) + p4))) p1 p2 p3).bind fun r9 =>
  if (r9 - r3) = 0 then some ((Bd_w_nets s0 (upd (Bd_nets s0) (ix r5) (((Bd_nets s0) (ix r5)) + p4))))
  else (f_X0_has (Bd_w_nets s0 (upd (Bd_nets s0) (ix r5) (((Bd_nets s0) (ix r5)) + p4))) p1 p2).bind fun r12 =>
  glt (fun (s0_15 : BdT) => (f_X0_sendRowsWith s0_15 p1 p2 p3 (r9 - r3)).bind fun r16 =>
  glt (fun (s0_19 : BdT) => if r1 = r12 then some (s0_19)
  else if inb ((p1 * (8 : Int32)) + p2) 16 then if inb ((p1 * (8 : Int32)) + p2) 16 then some ((Bd_w_turns s0_19 (upd (Bd_turns s0_19) (ix ((p1 * (8 : Int32)) + p2)) (((Bd_turns s0_19) (ix ((p1 * (8 : Int32)) + p2))) + (1 : Int32))))) else none else none) fun J18 =>
  if r1 = 0 then J18 r16
  else if r12 = 0 then (f_X0_hasOuter (Bd_how r16) ((1 : Int32) - p1)).bind fun r25 =>
  if r25 = 0 then J18 r16
  else (f_X0_sendOuters r16 ((1 : Int32) - p1) p2 (1 : Int32)).bind fun r28 =>
  J18 r28
  else J18 r16) fun J14 =>
  if r1 = 0 then if r12 = 0 then J14 (Bd_w_nets s0 (upd (Bd_nets s0) (ix r5) (((Bd_nets s0) (ix r5)) + p4)))
  else (f_X0_hasOuter (Bd_how s0) ((1 : Int32) - p1)).bind fun r32 =>
  if r32 = 0 then J14 (Bd_w_nets s0 (upd (Bd_nets s0) (ix r5) (((Bd_nets s0) (ix r5)) + p4)))
  else (f_X0_sendOuters (Bd_w_nets s0 (upd (Bd_nets s0) (ix r5) (((Bd_nets s0) (ix r5)) + p4))) ((1 : Int32) - p1) p2 (-1 : Int32)).bind fun r35 =>
  J14 r35
  else J14 (Bd_w_nets s0 (upd (Bd_nets s0) (ix r5) (((Bd_nets s0) (ix r5)) + p4))) else none else none
abbrev rm_X0_change : Room := { frames := 3, cells := 0, slots := 0, locals := 76 }
set_option maxHeartbeats 4000000 in
set_option maxRecDepth 100000 in
theorem c_X0_change (l : Launch) (g : GK) (a0 : Nat → Nat) (s0 : BdT) (p1 : Int32) (p2 : Int32) (p3 : Int32) (p4 : Int32) (res : (BdT)) (hf : f_X0_change s0 p1 p2 p3 p4 = some res) : gM l yX0_change cX0_change 10 none rm_X0_change g [.ref (a0 0), .int p1, .int p2, .int p3, .int p4] (Bd_c g a0 s0) (fun _ : Unit => none) (fun _ => (Bd_c g a0 res)) 0 0 := by
  refine gM_introV RX0 (by decide) rfl (Nat.le_of_ble_eq_true rfl) (fun p e s m args below meth c Q H locs ls A hE hnm hZ hA hP hD hS hq hl => ?_)
  have hl : lv_has ls 10 [(0, .ref (a0 0)), (1, .int p1), (2, .int p2), (3, .int p3), (4, .int p4)] := hl
  have hx := hE.1
  have hb := hE.2.1
  rw [f_X0_change] at hf
  refine lv_aload_n hx hb dX0_change_0 rfl (lv_at hl 0 rfl) ?_
  refine lv_iload_n hx hb dX0_change_1 rfl (lv_at hl 1 rfl) ?_
  refine lv_iload_n hx hb dX0_change_2 rfl (lv_at hl 2 rfl) ?_
  obtain ⟨r1, hc2, hf⟩ := gbd hf
  refine gr_callV (As := [.int p1, .int p2]) (rest := []) (st1 := [.int r1]) hE hl.1 ml_X0_43 (c_X0_has l g a0 s0 p1 p2 r1 hc2) hZ hS hP [(0, 9)] rfl okX0 rfl rfl rfl rfl ⟨rfl, rfl⟩ ⟨Nat.le_of_ble_eq_true rfl, Nat.le_of_ble_eq_true rfl⟩ ⟨Nat.le_refl _, Nat.le_refl _⟩ (Nat.le_of_ble_eq_true rfl) dX0_change_3 ?_
  refine lv_istore hx hb dX0_change_6 hl (by decide) (lv' := [(5, .int r1), (0, .ref (a0 0)), (1, .int p1), (2, .int p2), (3, .int p3), (4, .int p4)]) rfl (fun ls hl => ?_)
  refine lv_aload_n hx hb dX0_change_8 rfl (lv_at hl 1 rfl) ?_
  refine lv_iload_n hx hb dX0_change_9 rfl (lv_at hl 2 rfl) ?_
  refine lv_iload_n hx hb dX0_change_10 rfl (lv_at hl 3 rfl) ?_
  refine lv_iload_n hx hb dX0_change_11 rfl (lv_at hl 4 rfl) ?_
  obtain ⟨r3, hc4, hf⟩ := gbd hf
  refine gr_callV (As := [.int p1, .int p2, .int p3]) (rest := []) (st1 := [.int r3]) hE hl.1 ml_X0_36 (c_X0_thereOf l g a0 s0 p1 p2 p3 r3 hc4) hZ hS hP [(0, 9)] rfl okX0 rfl rfl rfl rfl ⟨rfl, rfl⟩ ⟨Nat.le_of_ble_eq_true rfl, Nat.le_of_ble_eq_true rfl⟩ ⟨Nat.le_refl _, Nat.le_refl _⟩ (Nat.le_of_ble_eq_true rfl) dX0_change_12 ?_
  refine lv_istore hx hb dX0_change_15 hl (by decide) (lv' := [(6, .int r3), (5, .int r1), (0, .ref (a0 0)), (1, .int p1), (2, .int p2), (3, .int p3), (4, .int p4)]) rfl (fun ls hl => ?_)
  refine lv_aload_n hx hb dX0_change_17 rfl (lv_at hl 2 rfl) ?_
  refine g_get hE okX0 fl_X0_9 hP 0 rfl (v := .ref (a0 1)) rfl dX0_change_18 ?_
  refine lv_iload_n hx hb dX0_change_21 rfl (lv_at hl 3 rfl) ?_
  refine lv_iload_n hx hb dX0_change_22 rfl (lv_at hl 4 rfl) ?_
  refine lv_iload_n hx hb dX0_change_23 rfl (lv_at hl 5 rfl) ?_
  obtain ⟨r5, hc6, hf⟩ := gbd hf
  refine gr_callS (As := [.int p1, .int p2, .int p3]) (rest := [.ref (a0 1)]) (st1 := [.int r5, .ref (a0 1)]) hE hl.1 ml_X0_32 (c_X0_netPlace l g p1 p2 p3 r5 hc6) hZ hS hP [] rfl rfl rfl rfl ⟨rfl, rfl⟩ ⟨Nat.le_of_ble_eq_true rfl, Nat.le_of_ble_eq_true rfl⟩ ⟨Nat.le_refl _, Nat.le_refl _⟩ (Nat.le_of_ble_eq_true rfl) dX0_change_24 ?_
  refine lv_dup2_11 hx hb dX0_change_27 rfl rfl ?_
  obtain ⟨hg7, hf⟩ := ggd hf
  refine g_iald hE hP 1 (f := (Bd_nets s0)) rfl hg7 dX0_change_28 ?_
  refine lv_iload hx hb dX0_change_29 (lv_at hl 6 rfl) ?_
  refine lv_iadd hx hb dX0_change_31 ?_
  obtain ⟨hg8, hf⟩ := ggd hf
  refine g_iast hE hP hD hS 1 (f := (Bd_nets s0)) rfl hg8 (Bd_c g a0 (Bd_w_nets s0 (upd (Bd_nets s0) (ix r5) (((Bd_nets s0) (ix r5)) + p4)))) rfl dX0_change_32 (fun H locs hP hD hS => ?_)
  refine lv_aload_n hx hb dX0_change_33 rfl (lv_at hl 2 rfl) ?_
  refine lv_iload_n hx hb dX0_change_34 rfl (lv_at hl 3 rfl) ?_
  refine lv_iload_n hx hb dX0_change_35 rfl (lv_at hl 4 rfl) ?_
  refine lv_iload_n hx hb dX0_change_36 rfl (lv_at hl 5 rfl) ?_
  obtain ⟨r9, hc10, hf⟩ := gbd hf
  refine gr_callV (As := [.int p1, .int p2, .int p3]) (rest := []) (st1 := [.int r9]) hE hl.1 ml_X0_36 (c_X0_thereOf l g a0 (Bd_w_nets s0 (upd (Bd_nets s0) (ix r5) (((Bd_nets s0) (ix r5)) + p4))) p1 p2 p3 r9 hc10) hZ hS hP [(0, 9)] rfl okX0 rfl rfl rfl rfl ⟨rfl, rfl⟩ ⟨Nat.le_of_ble_eq_true rfl, Nat.le_of_ble_eq_true rfl⟩ ⟨Nat.le_refl _, Nat.le_refl _⟩ (Nat.le_of_ble_eq_true rfl) dX0_change_37 ?_
  refine lv_iload hx hb dX0_change_40 (lv_at hl 0 rfl) ?_
  refine lv_isub hx hb dX0_change_42 ?_
  refine lv_istore hx hb dX0_change_43 hl (by decide) (lv' := [(7, .int (r9 - r3)), (6, .int r3), (5, .int r1), (0, .ref (a0 0)), (1, .int p1), (2, .int p2), (3, .int p3), (4, .int p4)]) rfl (fun ls hl => ?_)
  refine lv_iload hx hb dX0_change_45 (lv_at hl 0 rfl) ?_
  refine lv_if_ne hx hb dX0_change_47 (tgt := 51) rfl (fun h11 => ?_) (fun h11 => ?_)
  · have hf := gif_f h11 hf
    refine lv_aload_n hx hb dX0_change_51 rfl (lv_at hl 3 rfl) ?_
    refine lv_iload_n hx hb dX0_change_52 rfl (lv_at hl 4 rfl) ?_
    refine lv_iload_n hx hb dX0_change_53 rfl (lv_at hl 5 rfl) ?_
    obtain ⟨r12, hc13, hf⟩ := gbd hf
    refine gr_callV (As := [.int p1, .int p2]) (rest := []) (st1 := [.int r12]) hE hl.1 ml_X0_43 (c_X0_has l g a0 (Bd_w_nets s0 (upd (Bd_nets s0) (ix r5) (((Bd_nets s0) (ix r5)) + p4))) p1 p2 r12 hc13) hZ hS hP [(0, 9)] rfl okX0 rfl rfl rfl rfl ⟨rfl, rfl⟩ ⟨Nat.le_of_ble_eq_true rfl, Nat.le_of_ble_eq_true rfl⟩ ⟨Nat.le_refl _, Nat.le_refl _⟩ (Nat.le_of_ble_eq_true rfl) dX0_change_54 ?_
    refine lv_istore hx hb dX0_change_57 hl (by decide) (lv' := [(8, .int r12), (7, .int (r9 - r3)), (6, .int r3), (5, .int r1), (0, .ref (a0 0)), (1, .int p1), (2, .int p2), (3, .int p3), (4, .int p4)]) rfl (fun ls hl => ?_)
    refine lv_iconst hx hb dX0_change_59 kci_1 ?_
    refine lv_iload_n hx hb dX0_change_60 rfl (lv_at hl 5 rfl) ?_
    refine lv_isub hx hb dX0_change_61 ?_
    refine lv_istore hx hb dX0_change_62 hl (by decide) (lv' := [(9, .int ((1 : Int32) - p1)), (8, .int r12), (7, .int (r9 - r3)), (6, .int r3), (5, .int r1), (0, .ref (a0 0)), (1, .int p1), (2, .int p2), (3, .int p3), (4, .int p4)]) rfl (fun ls hl => ?_)
    refine lv_iload hx hb dX0_change_64 (lv_at hl 4 rfl) ?_
    obtain ⟨J14, eJ14, hf⟩ := gltd hf
    have kJ14 : ∀ (s0_15 : BdT) (ls : Array Slot) (H : Heap) (locs : List Loc), J14 s0_15 = some res → lv_has ls 10 [(0, .ref (a0 0)), (1, .int p1), (2, .int p2), (3, .int p3), (5, .int r1), (7, .int (r9 - r3)), (8, .int r12), (9, .int ((1 : Int32) - p1))] → gP g (Bd_c g a0 s0_15) H → va_D A (Bd_c g a0 s0_15) → va_S A s.heap H locs → W p l e rm_X0_change s m args below meth c H locs 0 0 Q (F0 m 94 ls []) := by
      intro s0_15 ls H locs hf hl hP hD hS
      rw [eJ14] at hf
      refine lv_aload_n hx hb dX0_change_94 rfl (lv_at hl 0 rfl) ?_
      refine lv_iload_n hx hb dX0_change_95 rfl (lv_at hl 1 rfl) ?_
      refine lv_iload_n hx hb dX0_change_96 rfl (lv_at hl 2 rfl) ?_
      refine lv_iload_n hx hb dX0_change_97 rfl (lv_at hl 3 rfl) ?_
      refine lv_iload hx hb dX0_change_98 (lv_at hl 5 rfl) ?_
      obtain ⟨r16, hc17, hf⟩ := gbd hf
      refine gm_callV1 (As := [.int p1, .int p2, .int p3, .int (r9 - r3)]) (rest := []) (st1 := fun _ => []) (ws' := fun _ => (Bd_c g a0 r16)) hE hl.1 ml_X0_53 (c_X0_sendRowsWith l g a0 s0_15 p1 p2 p3 (r9 - r3) r16 hc17) hZ hP hD hS hA 0 9 rfl (fun _ => rfl) okX0 rfl rfl rfl (fun _ => rfl) ⟨rfl, rfl⟩ ⟨Nat.le_of_ble_eq_true rfl, Nat.le_of_ble_eq_true rfl⟩ ⟨Nat.le_refl _, Nat.le_refl _⟩ (Nat.le_of_ble_eq_true rfl) dX0_change_100 (fun _ H locs hP hD hS => ?_)
      refine lv_iload hx hb dX0_change_103 (lv_at hl 4 rfl) ?_
      obtain ⟨J18, eJ18, hf⟩ := gltd hf
      have kJ18 : ∀ (s0_19 : BdT) (ls : Array Slot) (H : Heap) (locs : List Loc), J18 s0_19 = some res → lv_has ls 10 [(0, .ref (a0 0)), (1, .int p1), (2, .int p2), (5, .int r1), (8, .int r12)] → gP g (Bd_c g a0 s0_19) H → va_D A (Bd_c g a0 s0_19) → va_S A s.heap H locs → W p l e rm_X0_change s m args below meth c H locs 0 0 Q (F0 m 133 ls []) := by
        intro s0_19 ls H locs hf hl hP hD hS
        rw [eJ18] at hf
        refine lv_iload hx hb dX0_change_133 (lv_at hl 3 rfl) ?_
        refine lv_iload hx hb dX0_change_135 (lv_at hl 4 rfl) ?_
        refine lv_icmp_eq hx hb dX0_change_137 (tgt := 155) rfl (fun h20 => ?_) (fun h20 => ?_)
        · have hf := gif_t h20 hf
          cases hf
          exact hq () rfl hP hD hS dX0_change_155
        · have hf := gif_f h20 hf
          refine lv_aload_n hx hb dX0_change_140 rfl (lv_at hl 0 rfl) ?_
          refine g_get hE okX0 fl_X0_18 hP 0 rfl (v := .ref (a0 3)) rfl dX0_change_141 ?_
          refine lv_iload_n hx hb dX0_change_144 rfl (lv_at hl 1 rfl) ?_
          refine lv_bipush hx hb dX0_change_145 kcb_8 ?_
          refine lv_imul hx hb dX0_change_147 ?_
          refine lv_iload_n hx hb dX0_change_148 rfl (lv_at hl 2 rfl) ?_
          refine lv_iadd hx hb dX0_change_149 ?_
          refine lv_dup2_11 hx hb dX0_change_150 rfl rfl ?_
          obtain ⟨hg21, hf⟩ := ggd hf
          refine g_iald hE hP 3 (f := (Bd_turns s0_19)) rfl hg21 dX0_change_151 ?_
          refine lv_iconst hx hb dX0_change_152 kci_1 ?_
          refine lv_iadd hx hb dX0_change_153 ?_
          obtain ⟨hg22, hf⟩ := ggd hf
          refine g_iast hE hP hD hS 3 (f := (Bd_turns s0_19)) rfl hg22 (Bd_c g a0 (Bd_w_turns s0_19 (upd (Bd_turns s0_19) (ix ((p1 * (8 : Int32)) + p2)) (((Bd_turns s0_19) (ix ((p1 * (8 : Int32)) + p2))) + (1 : Int32))))) rfl dX0_change_154 (fun H locs hP hD hS => ?_)
          cases hf
          exact hq () rfl hP hD hS dX0_change_155
      refine lv_if_eq hx hb dX0_change_105 (tgt := 133) rfl (fun h23 => ?_) (fun h23 => ?_)
      · have hf := gif_t h23 hf
        exact kJ18 r16 ls H locs hf (lv_sub hl [0, 1, 2, 4, 6] rfl) hP hD hS
      · have hf := gif_f h23 hf
        refine lv_iload hx hb dX0_change_108 (lv_at hl 6 rfl) ?_
        refine lv_if_ne hx hb dX0_change_110 (tgt := 133) rfl (fun h24 => ?_) (fun h24 => ?_)
        · have hf := gif_f h24 hf
          exact kJ18 r16 ls H locs hf (lv_sub hl [0, 1, 2, 4, 6] rfl) hP hD hS
        · have hf := gif_t h24 hf
          refine lv_aload_n hx hb dX0_change_113 rfl (lv_at hl 0 rfl) ?_
          refine g_get hE okX0 fl_X0_28 hP 0 rfl (v := .int (Bd_how r16)) rfl dX0_change_114 ?_
          refine lv_iload hx hb dX0_change_117 (lv_at hl 7 rfl) ?_
          obtain ⟨r25, hc26, hf⟩ := gbd hf
          refine gr_callS (As := [.int (Bd_how r16), .int ((1 : Int32) - p1)]) (rest := []) (st1 := [.int r25]) hE hl.1 ml_X0_39 (c_X0_hasOuter l g (Bd_how r16) ((1 : Int32) - p1) r25 hc26) hZ hS hP [] rfl rfl rfl rfl ⟨rfl, rfl⟩ ⟨Nat.le_of_ble_eq_true rfl, Nat.le_of_ble_eq_true rfl⟩ ⟨Nat.le_refl _, Nat.le_refl _⟩ (Nat.le_of_ble_eq_true rfl) dX0_change_119 ?_
          refine lv_if_eq hx hb dX0_change_122 (tgt := 133) rfl (fun h27 => ?_) (fun h27 => ?_)
          · have hf := gif_t h27 hf
            exact kJ18 r16 ls H locs hf (lv_sub hl [0, 1, 2, 4, 6] rfl) hP hD hS
          · have hf := gif_f h27 hf
            refine lv_aload_n hx hb dX0_change_125 rfl (lv_at hl 0 rfl) ?_
            refine lv_iload hx hb dX0_change_126 (lv_at hl 7 rfl) ?_
            refine lv_iload_n hx hb dX0_change_128 rfl (lv_at hl 2 rfl) ?_
            refine lv_iconst hx hb dX0_change_129 kci_1 ?_
            obtain ⟨r28, hc29, hf⟩ := gbd hf
            refine gm_callV1 (As := [.int ((1 : Int32) - p1), .int p2, .int (1 : Int32)]) (rest := []) (st1 := fun _ => []) (ws' := fun _ => (Bd_c g a0 r28)) hE hl.1 ml_X0_49 (c_X0_sendOuters l g a0 r16 ((1 : Int32) - p1) p2 (1 : Int32) r28 hc29) hZ hP hD hS hA 0 9 rfl (fun _ => rfl) okX0 rfl rfl rfl (fun _ => rfl) ⟨rfl, rfl⟩ ⟨Nat.le_of_ble_eq_true rfl, Nat.le_of_ble_eq_true rfl⟩ ⟨Nat.le_refl _, Nat.le_refl _⟩ (Nat.le_of_ble_eq_true rfl) dX0_change_130 (fun _ H locs hP hD hS => ?_)
            exact kJ18 r28 ls H locs hf (lv_sub hl [0, 1, 2, 4, 6] rfl) hP hD hS
    refine lv_if_ne hx hb dX0_change_66 (tgt := 94) rfl (fun h30 => ?_) (fun h30 => ?_)
    · have hf := gif_f h30 hf
      exact kJ14 (Bd_w_nets s0 (upd (Bd_nets s0) (ix r5) (((Bd_nets s0) (ix r5)) + p4))) ls H locs hf (lv_sub hl [5, 6, 7, 8, 4, 2, 1, 0] rfl) hP hD hS
    · have hf := gif_t h30 hf
      refine lv_iload hx hb dX0_change_69 (lv_at hl 1 rfl) ?_
      refine lv_if_eq hx hb dX0_change_71 (tgt := 94) rfl (fun h31 => ?_) (fun h31 => ?_)
      · have hf := gif_t h31 hf
        exact kJ14 (Bd_w_nets s0 (upd (Bd_nets s0) (ix r5) (((Bd_nets s0) (ix r5)) + p4))) ls H locs hf (lv_sub hl [5, 6, 7, 8, 4, 2, 1, 0] rfl) hP hD hS
      · have hf := gif_f h31 hf
        refine lv_aload_n hx hb dX0_change_74 rfl (lv_at hl 5 rfl) ?_
        refine g_get hE okX0 fl_X0_28 hP 0 rfl (v := .int (Bd_how s0)) rfl dX0_change_75 ?_
        refine lv_iload hx hb dX0_change_78 (lv_at hl 0 rfl) ?_
        obtain ⟨r32, hc33, hf⟩ := gbd hf
        refine gr_callS (As := [.int (Bd_how s0), .int ((1 : Int32) - p1)]) (rest := []) (st1 := [.int r32]) hE hl.1 ml_X0_39 (c_X0_hasOuter l g (Bd_how s0) ((1 : Int32) - p1) r32 hc33) hZ hS hP [] rfl rfl rfl rfl ⟨rfl, rfl⟩ ⟨Nat.le_of_ble_eq_true rfl, Nat.le_of_ble_eq_true rfl⟩ ⟨Nat.le_refl _, Nat.le_refl _⟩ (Nat.le_of_ble_eq_true rfl) dX0_change_80 ?_
        refine lv_if_eq hx hb dX0_change_83 (tgt := 94) rfl (fun h34 => ?_) (fun h34 => ?_)
        · have hf := gif_t h34 hf
          exact kJ14 (Bd_w_nets s0 (upd (Bd_nets s0) (ix r5) (((Bd_nets s0) (ix r5)) + p4))) ls H locs hf (lv_sub hl [5, 6, 7, 8, 4, 2, 1, 0] rfl) hP hD hS
        · have hf := gif_f h34 hf
          refine lv_aload_n hx hb dX0_change_86 rfl (lv_at hl 5 rfl) ?_
          refine lv_iload hx hb dX0_change_87 (lv_at hl 0 rfl) ?_
          refine lv_iload_n hx hb dX0_change_89 rfl (lv_at hl 7 rfl) ?_
          refine lv_iconst hx hb dX0_change_90 kci_m1 ?_
          obtain ⟨r35, hc36, hf⟩ := gbd hf
          refine gm_callV1 (As := [.int ((1 : Int32) - p1), .int p2, .int (-1 : Int32)]) (rest := []) (st1 := fun _ => []) (ws' := fun _ => (Bd_c g a0 r35)) hE hl.1 ml_X0_49 (c_X0_sendOuters l g a0 (Bd_w_nets s0 (upd (Bd_nets s0) (ix r5) (((Bd_nets s0) (ix r5)) + p4))) ((1 : Int32) - p1) p2 (-1 : Int32) r35 hc36) hZ hP hD hS hA 0 9 rfl (fun _ => rfl) okX0 rfl rfl rfl (fun _ => rfl) ⟨rfl, rfl⟩ ⟨Nat.le_of_ble_eq_true rfl, Nat.le_of_ble_eq_true rfl⟩ ⟨Nat.le_refl _, Nat.le_refl _⟩ (Nat.le_of_ble_eq_true rfl) dX0_change_91 (fun _ H locs hP hD hS => ?_)
          exact kJ14 r35 ls H locs hf (lv_sub hl [5, 6, 7, 8, 4, 2, 1, 0] rfl) hP hD hS
  · have hf := gif_t h11 hf
    cases hf
    exact hq () rfl hP hD hS dX0_change_50
theorem dX0_exchangeOuters_0 : decode cX0_exchangeOuters 0 = .ok (.iconst 0, 1) := by decide +kernel
theorem dX0_exchangeOuters_1 : decode cX0_exchangeOuters 1 = .ok (.istore_n 3, 1) := by decide +kernel
theorem dX0_exchangeOuters_2 : decode cX0_exchangeOuters 2 = .ok (.iload_n 3, 1) := by decide +kernel
theorem dX0_exchangeOuters_3 : decode cX0_exchangeOuters 3 = .ok (.iconst 2, 1) := by decide +kernel
theorem dX0_exchangeOuters_4 : decode cX0_exchangeOuters 4 = .ok (.if_icmp .ge 46, 3) := by decide +kernel
theorem dX0_exchangeOuters_7 : decode cX0_exchangeOuters 7 = .ok (.aload_n 0, 1) := by decide +kernel
theorem dX0_exchangeOuters_8 : decode cX0_exchangeOuters 8 = .ok (.getfield 28, 3) := by decide +kernel
theorem dX0_exchangeOuters_11 : decode cX0_exchangeOuters 11 = .ok (.iload_n 3, 1) := by decide +kernel
theorem dX0_exchangeOuters_12 : decode cX0_exchangeOuters 12 = .ok (.invokestatic 39, 3) := by decide +kernel
theorem dX0_exchangeOuters_15 : decode cX0_exchangeOuters 15 = .ok (.ifCond .eq 29, 3) := by decide +kernel
theorem dX0_exchangeOuters_18 : decode cX0_exchangeOuters 18 = .ok (.iload_n 2, 1) := by decide +kernel
theorem dX0_exchangeOuters_19 : decode cX0_exchangeOuters 19 = .ok (.iload_n 3, 1) := by decide +kernel
theorem dX0_exchangeOuters_20 : decode cX0_exchangeOuters 20 = .ok (.invokestatic 39, 3) := by decide +kernel
theorem dX0_exchangeOuters_23 : decode cX0_exchangeOuters 23 = .ok (.ifCond .ne 21, 3) := by decide +kernel
theorem dX0_exchangeOuters_26 : decode cX0_exchangeOuters 26 = .ok (.aload_n 0, 1) := by decide +kernel
theorem dX0_exchangeOuters_27 : decode cX0_exchangeOuters 27 = .ok (.iconst 1, 1) := by decide +kernel
theorem dX0_exchangeOuters_28 : decode cX0_exchangeOuters 28 = .ok (.iload_n 3, 1) := by decide +kernel
theorem dX0_exchangeOuters_29 : decode cX0_exchangeOuters 29 = .ok (.isub, 1) := by decide +kernel
theorem dX0_exchangeOuters_30 : decode cX0_exchangeOuters 30 = .ok (.iload_n 1, 1) := by decide +kernel
theorem dX0_exchangeOuters_31 : decode cX0_exchangeOuters 31 = .ok (.invokevirtual 43, 3) := by decide +kernel
theorem dX0_exchangeOuters_34 : decode cX0_exchangeOuters 34 = .ok (.ifCond .ne 10, 3) := by decide +kernel
theorem dX0_exchangeOuters_37 : decode cX0_exchangeOuters 37 = .ok (.aload_n 0, 1) := by decide +kernel
theorem dX0_exchangeOuters_38 : decode cX0_exchangeOuters 38 = .ok (.iload_n 3, 1) := by decide +kernel
theorem dX0_exchangeOuters_39 : decode cX0_exchangeOuters 39 = .ok (.iload_n 1, 1) := by decide +kernel
theorem dX0_exchangeOuters_40 : decode cX0_exchangeOuters 40 = .ok (.iconst (-1), 1) := by decide +kernel
theorem dX0_exchangeOuters_41 : decode cX0_exchangeOuters 41 = .ok (.invokevirtual 49, 3) := by decide +kernel
theorem dX0_exchangeOuters_44 : decode cX0_exchangeOuters 44 = .ok (.iinc 3 1, 3) := by decide +kernel
theorem dX0_exchangeOuters_47 : decode cX0_exchangeOuters 47 = .ok (.goto (-45), 3) := by decide +kernel
theorem dX0_exchangeOuters_50 : decode cX0_exchangeOuters 50 = .ok (.iconst 0, 1) := by decide +kernel
theorem dX0_exchangeOuters_51 : decode cX0_exchangeOuters 51 = .ok (.istore_n 3, 1) := by decide +kernel
theorem dX0_exchangeOuters_52 : decode cX0_exchangeOuters 52 = .ok (.iload_n 3, 1) := by decide +kernel
theorem dX0_exchangeOuters_53 : decode cX0_exchangeOuters 53 = .ok (.iconst 2, 1) := by decide +kernel
theorem dX0_exchangeOuters_54 : decode cX0_exchangeOuters 54 = .ok (.if_icmp .ge 46, 3) := by decide +kernel
theorem dX0_exchangeOuters_57 : decode cX0_exchangeOuters 57 = .ok (.aload_n 0, 1) := by decide +kernel
theorem dX0_exchangeOuters_58 : decode cX0_exchangeOuters 58 = .ok (.getfield 28, 3) := by decide +kernel
theorem dX0_exchangeOuters_61 : decode cX0_exchangeOuters 61 = .ok (.iload_n 3, 1) := by decide +kernel
theorem dX0_exchangeOuters_62 : decode cX0_exchangeOuters 62 = .ok (.invokestatic 39, 3) := by decide +kernel
theorem dX0_exchangeOuters_65 : decode cX0_exchangeOuters 65 = .ok (.ifCond .ne 29, 3) := by decide +kernel
theorem dX0_exchangeOuters_68 : decode cX0_exchangeOuters 68 = .ok (.iload_n 2, 1) := by decide +kernel
theorem dX0_exchangeOuters_69 : decode cX0_exchangeOuters 69 = .ok (.iload_n 3, 1) := by decide +kernel
theorem dX0_exchangeOuters_70 : decode cX0_exchangeOuters 70 = .ok (.invokestatic 39, 3) := by decide +kernel
theorem dX0_exchangeOuters_73 : decode cX0_exchangeOuters 73 = .ok (.ifCond .eq 21, 3) := by decide +kernel
theorem dX0_exchangeOuters_76 : decode cX0_exchangeOuters 76 = .ok (.aload_n 0, 1) := by decide +kernel
theorem dX0_exchangeOuters_77 : decode cX0_exchangeOuters 77 = .ok (.iconst 1, 1) := by decide +kernel
theorem dX0_exchangeOuters_78 : decode cX0_exchangeOuters 78 = .ok (.iload_n 3, 1) := by decide +kernel
theorem dX0_exchangeOuters_79 : decode cX0_exchangeOuters 79 = .ok (.isub, 1) := by decide +kernel
theorem dX0_exchangeOuters_80 : decode cX0_exchangeOuters 80 = .ok (.iload_n 1, 1) := by decide +kernel
theorem dX0_exchangeOuters_81 : decode cX0_exchangeOuters 81 = .ok (.invokevirtual 43, 3) := by decide +kernel
theorem dX0_exchangeOuters_84 : decode cX0_exchangeOuters 84 = .ok (.ifCond .ne 10, 3) := by decide +kernel
theorem dX0_exchangeOuters_87 : decode cX0_exchangeOuters 87 = .ok (.aload_n 0, 1) := by decide +kernel
theorem dX0_exchangeOuters_88 : decode cX0_exchangeOuters 88 = .ok (.iload_n 3, 1) := by decide +kernel
theorem dX0_exchangeOuters_89 : decode cX0_exchangeOuters 89 = .ok (.iload_n 1, 1) := by decide +kernel
theorem dX0_exchangeOuters_90 : decode cX0_exchangeOuters 90 = .ok (.iconst 1, 1) := by decide +kernel
theorem dX0_exchangeOuters_91 : decode cX0_exchangeOuters 91 = .ok (.invokevirtual 49, 3) := by decide +kernel
theorem dX0_exchangeOuters_94 : decode cX0_exchangeOuters 94 = .ok (.iinc 3 1, 3) := by decide +kernel
theorem dX0_exchangeOuters_97 : decode cX0_exchangeOuters 97 = .ok (.goto (-45), 3) := by decide +kernel
theorem dX0_exchangeOuters_100 : decode cX0_exchangeOuters 100 = .ok (.return_, 1) := by decide +kernel
def f_X0_exchangeOuters_L52_7 (p1 : Int32) (p2 : Int32) (K3 : (BdT → Option (BdT))) : Nat → Int32 → BdT → Option (BdT)
  | 0, _, _ => none
  | n8 + 1, x3_5, s0_6 => if (2 : Int32) ≤ x3_5 then K3 s0_6
  else (f_X0_hasOuter (Bd_how s0_6) x3_5).bind fun r10 =>
  if r10 = 0 then (f_X0_hasOuter p2 x3_5).bind fun r13 =>
  if r13 = 0 then f_X0_exchangeOuters_L52_7 p1 p2 K3 n8 (x3_5 + (1 : Int32)) s0_6
  else (f_X0_has s0_6 ((1 : Int32) - x3_5) p1).bind fun r16 =>
  if r16 = 0 then (f_X0_sendOuters s0_6 x3_5 p1 (1 : Int32)).bind fun r19 =>
  f_X0_exchangeOuters_L52_7 p1 p2 K3 n8 (x3_5 + (1 : Int32)) r19
  else f_X0_exchangeOuters_L52_7 p1 p2 K3 n8 (x3_5 + (1 : Int32)) s0_6
  else f_X0_exchangeOuters_L52_7 p1 p2 K3 n8 (x3_5 + (1 : Int32)) s0_6
def f_X0_exchangeOuters_L2_23 (p1 : Int32) (p2 : Int32) (K1 : (BdT → Option (BdT))) : Nat → Int32 → BdT → Option (BdT)
  | 0, _, _ => none
  | n24 + 1, x3_21, s0_22 => if (2 : Int32) ≤ x3_21 then K1 s0_22
  else (f_X0_hasOuter (Bd_how s0_22) x3_21).bind fun r26 =>
  if r26 = 0 then f_X0_exchangeOuters_L2_23 p1 p2 K1 n24 (x3_21 + (1 : Int32)) s0_22
  else (f_X0_hasOuter p2 x3_21).bind fun r29 =>
  if r29 = 0 then (f_X0_has s0_22 ((1 : Int32) - x3_21) p1).bind fun r32 =>
  if r32 = 0 then (f_X0_sendOuters s0_22 x3_21 p1 (-1 : Int32)).bind fun r35 =>
  f_X0_exchangeOuters_L2_23 p1 p2 K1 n24 (x3_21 + (1 : Int32)) r35
  else f_X0_exchangeOuters_L2_23 p1 p2 K1 n24 (x3_21 + (1 : Int32)) s0_22
  else f_X0_exchangeOuters_L2_23 p1 p2 K1 n24 (x3_21 + (1 : Int32)) s0_22
def f_X0_exchangeOuters (s0 : BdT) (p1 : Int32) (p2 : Int32) : Option (BdT) :=
  glt (fun (s0_2 : BdT) => glt (fun (s0_4 : BdT) => some (s0_4)) fun K3 =>
  f_X0_exchangeOuters_L52_7 p1 p2 K3 10000 (0 : Int32) s0_2) fun K1 =>
  f_X0_exchangeOuters_L2_23 p1 p2 K1 10000 (0 : Int32) s0
abbrev rm_X0_exchangeOuters : Room := { frames := 3, cells := 0, slots := 0, locals := 74 }
set_option maxHeartbeats 4000000 in
set_option maxRecDepth 100000 in
theorem c_X0_exchangeOuters (l : Launch) (g : GK) (a0 : Nat → Nat) (s0 : BdT) (p1 : Int32) (p2 : Int32) (res : (BdT)) (hf : f_X0_exchangeOuters s0 p1 p2 = some res) : gM l yX0_exchangeOuters cX0_exchangeOuters 4 none rm_X0_exchangeOuters g [.ref (a0 0), .int p1, .int p2] (Bd_c g a0 s0) (fun _ : Unit => none) (fun _ => (Bd_c g a0 res)) 0 0 := by
  refine gM_introV RX0 (by decide) rfl (Nat.le_of_ble_eq_true rfl) (fun p e s m args below meth c Q H locs ls A hE hnm hZ hA hP hD hS hq hl => ?_)
  have hl : lv_has ls 4 [(0, .ref (a0 0)), (1, .int p1), (2, .int p2)] := hl
  have hx := hE.1
  have hb := hE.2.1
  rw [f_X0_exchangeOuters] at hf
  refine lv_iconst hx hb dX0_exchangeOuters_0 kci_0 ?_
  refine lv_istore_n hx hb dX0_exchangeOuters_1 rfl hl (by decide) (lv' := [(3, .int (0 : Int32)), (0, .ref (a0 0)), (1, .int p1), (2, .int p2)]) rfl (fun ls hl => ?_)
  obtain ⟨K1, eK1, hf⟩ := gltd hf
  have kK1 : ∀ (s0_2 : BdT) (ls : Array Slot) (H : Heap) (locs : List Loc), K1 s0_2 = some res → lv_has ls 4 [(0, .ref (a0 0)), (1, .int p1), (2, .int p2)] → gP g (Bd_c g a0 s0_2) H → va_D A (Bd_c g a0 s0_2) → va_S A s.heap H locs → W p l e rm_X0_exchangeOuters s m args below meth c H locs 0 0 Q (F0 m 50 ls []) := by
    intro s0_2 ls H locs hf hl hP hD hS
    rw [eK1] at hf
    refine lv_iconst hx hb dX0_exchangeOuters_50 kci_0 ?_
    refine lv_istore_n hx hb dX0_exchangeOuters_51 rfl hl (by decide) (lv' := [(3, .int (0 : Int32)), (0, .ref (a0 0)), (1, .int p1), (2, .int p2)]) rfl (fun ls hl => ?_)
    obtain ⟨K3, eK3, hf⟩ := gltd hf
    have kK3 : ∀ (s0_4 : BdT) (ls : Array Slot) (H : Heap) (locs : List Loc), K3 s0_4 = some res → lv_has ls 4 [] → gP g (Bd_c g a0 s0_4) H → va_D A (Bd_c g a0 s0_4) → va_S A s.heap H locs → W p l e rm_X0_exchangeOuters s m args below meth c H locs 0 0 Q (F0 m 100 ls []) := by
      intro s0_4 ls H locs hf hl hP hD hS
      rw [eK3] at hf
      cases hf
      exact hq () rfl hP hD hS dX0_exchangeOuters_100
    have lpn8 : ∀ (n8 : Nat) (x3_5 : Int32) (s0_6 : BdT) (ls : Array Slot) (H : Heap) (locs : List Loc), f_X0_exchangeOuters_L52_7 p1 p2 K3 n8 x3_5 s0_6 = some res → lv_has ls 4 [(0, .ref (a0 0)), (1, .int p1), (2, .int p2), (3, .int x3_5)] → gP g (Bd_c g a0 s0_6) H → va_D A (Bd_c g a0 s0_6) → va_S A s.heap H locs → W p l e rm_X0_exchangeOuters s m args below meth c H locs 0 0 Q (F0 m 52 ls []) := by
      intro n8
      induction n8 with
      | zero => intro x3_5 s0_6 ls H locs hf hl hP hD hS; rw [f_X0_exchangeOuters_L52_7] at hf; cases hf
      | succ n8 ihn8 =>
        intro x3_5 s0_6 ls H locs hf hl hP hD hS
        rw [f_X0_exchangeOuters_L52_7] at hf
        refine lv_iload_n hx hb dX0_exchangeOuters_52 rfl (lv_at hl 3 rfl) ?_
        refine lv_iconst hx hb dX0_exchangeOuters_53 kci_2 ?_
        refine lv_icmp_ge hx hb dX0_exchangeOuters_54 (tgt := 100) rfl (fun h9 => ?_) (fun h9 => ?_)
        · have hf := gif_t h9 hf
          exact kK3 s0_6 ls H locs hf (lv_sub hl [] rfl) hP hD hS
        · have hf := gif_f h9 hf
          refine lv_aload_n hx hb dX0_exchangeOuters_57 rfl (lv_at hl 0 rfl) ?_
          refine g_get hE okX0 fl_X0_28 hP 0 rfl (v := .int (Bd_how s0_6)) rfl dX0_exchangeOuters_58 ?_
          refine lv_iload_n hx hb dX0_exchangeOuters_61 rfl (lv_at hl 3 rfl) ?_
          obtain ⟨r10, hc11, hf⟩ := gbd hf
          refine gr_callS (As := [.int (Bd_how s0_6), .int x3_5]) (rest := []) (st1 := [.int r10]) hE hl.1 ml_X0_39 (c_X0_hasOuter l g (Bd_how s0_6) x3_5 r10 hc11) hZ hS hP [] rfl rfl rfl rfl ⟨rfl, rfl⟩ ⟨Nat.le_of_ble_eq_true rfl, Nat.le_of_ble_eq_true rfl⟩ ⟨Nat.le_refl _, Nat.le_refl _⟩ (Nat.le_of_ble_eq_true rfl) dX0_exchangeOuters_62 ?_
          refine lv_if_ne hx hb dX0_exchangeOuters_65 (tgt := 94) rfl (fun h12 => ?_) (fun h12 => ?_)
          · have hf := gif_f h12 hf
            refine lv_iinc hx hb dX0_exchangeOuters_94 hl (k := 3) (x := x3_5) rfl (kinc_1 _) (by decide) (lv' := [(3, .int (x3_5 + (1 : Int32))), (0, .ref (a0 0)), (1, .int p1), (2, .int p2)]) rfl (fun ls hl => ?_)
            refine lv_goto hx hb dX0_exchangeOuters_97 (tgt := 52) rfl ?_
            exact ihn8 (x3_5 + (1 : Int32)) s0_6 ls H locs hf (lv_sub hl [1, 2, 3, 0] rfl) hP hD hS
          · have hf := gif_t h12 hf
            refine lv_iload_n hx hb dX0_exchangeOuters_68 rfl (lv_at hl 2 rfl) ?_
            refine lv_iload_n hx hb dX0_exchangeOuters_69 rfl (lv_at hl 3 rfl) ?_
            obtain ⟨r13, hc14, hf⟩ := gbd hf
            refine gr_callS (As := [.int p2, .int x3_5]) (rest := []) (st1 := [.int r13]) hE hl.1 ml_X0_39 (c_X0_hasOuter l g p2 x3_5 r13 hc14) hZ hS hP [] rfl rfl rfl rfl ⟨rfl, rfl⟩ ⟨Nat.le_of_ble_eq_true rfl, Nat.le_of_ble_eq_true rfl⟩ ⟨Nat.le_refl _, Nat.le_refl _⟩ (Nat.le_of_ble_eq_true rfl) dX0_exchangeOuters_70 ?_
            refine lv_if_eq hx hb dX0_exchangeOuters_73 (tgt := 94) rfl (fun h15 => ?_) (fun h15 => ?_)
            · have hf := gif_t h15 hf
              refine lv_iinc hx hb dX0_exchangeOuters_94 hl (k := 3) (x := x3_5) rfl (kinc_1 _) (by decide) (lv' := [(3, .int (x3_5 + (1 : Int32))), (0, .ref (a0 0)), (1, .int p1), (2, .int p2)]) rfl (fun ls hl => ?_)
              refine lv_goto hx hb dX0_exchangeOuters_97 (tgt := 52) rfl ?_
              exact ihn8 (x3_5 + (1 : Int32)) s0_6 ls H locs hf (lv_sub hl [1, 2, 3, 0] rfl) hP hD hS
            · have hf := gif_f h15 hf
              refine lv_aload_n hx hb dX0_exchangeOuters_76 rfl (lv_at hl 0 rfl) ?_
              refine lv_iconst hx hb dX0_exchangeOuters_77 kci_1 ?_
              refine lv_iload_n hx hb dX0_exchangeOuters_78 rfl (lv_at hl 3 rfl) ?_
              refine lv_isub hx hb dX0_exchangeOuters_79 ?_
              refine lv_iload_n hx hb dX0_exchangeOuters_80 rfl (lv_at hl 1 rfl) ?_
              obtain ⟨r16, hc17, hf⟩ := gbd hf
              refine gr_callV (As := [.int ((1 : Int32) - x3_5), .int p1]) (rest := []) (st1 := [.int r16]) hE hl.1 ml_X0_43 (c_X0_has l g a0 s0_6 ((1 : Int32) - x3_5) p1 r16 hc17) hZ hS hP [(0, 9)] rfl okX0 rfl rfl rfl rfl ⟨rfl, rfl⟩ ⟨Nat.le_of_ble_eq_true rfl, Nat.le_of_ble_eq_true rfl⟩ ⟨Nat.le_refl _, Nat.le_refl _⟩ (Nat.le_of_ble_eq_true rfl) dX0_exchangeOuters_81 ?_
              refine lv_if_ne hx hb dX0_exchangeOuters_84 (tgt := 94) rfl (fun h18 => ?_) (fun h18 => ?_)
              · have hf := gif_f h18 hf
                refine lv_iinc hx hb dX0_exchangeOuters_94 hl (k := 3) (x := x3_5) rfl (kinc_1 _) (by decide) (lv' := [(3, .int (x3_5 + (1 : Int32))), (0, .ref (a0 0)), (1, .int p1), (2, .int p2)]) rfl (fun ls hl => ?_)
                refine lv_goto hx hb dX0_exchangeOuters_97 (tgt := 52) rfl ?_
                exact ihn8 (x3_5 + (1 : Int32)) s0_6 ls H locs hf (lv_sub hl [1, 2, 3, 0] rfl) hP hD hS
              · have hf := gif_t h18 hf
                refine lv_aload_n hx hb dX0_exchangeOuters_87 rfl (lv_at hl 0 rfl) ?_
                refine lv_iload_n hx hb dX0_exchangeOuters_88 rfl (lv_at hl 3 rfl) ?_
                refine lv_iload_n hx hb dX0_exchangeOuters_89 rfl (lv_at hl 1 rfl) ?_
                refine lv_iconst hx hb dX0_exchangeOuters_90 kci_1 ?_
                obtain ⟨r19, hc20, hf⟩ := gbd hf
                refine gm_callV1 (As := [.int x3_5, .int p1, .int (1 : Int32)]) (rest := []) (st1 := fun _ => []) (ws' := fun _ => (Bd_c g a0 r19)) hE hl.1 ml_X0_49 (c_X0_sendOuters l g a0 s0_6 x3_5 p1 (1 : Int32) r19 hc20) hZ hP hD hS hA 0 9 rfl (fun _ => rfl) okX0 rfl rfl rfl (fun _ => rfl) ⟨rfl, rfl⟩ ⟨Nat.le_of_ble_eq_true rfl, Nat.le_of_ble_eq_true rfl⟩ ⟨Nat.le_refl _, Nat.le_refl _⟩ (Nat.le_of_ble_eq_true rfl) dX0_exchangeOuters_91 (fun _ H locs hP hD hS => ?_)
                refine lv_iinc hx hb dX0_exchangeOuters_94 hl (k := 3) (x := x3_5) rfl (kinc_1 _) (by decide) (lv' := [(3, .int (x3_5 + (1 : Int32))), (0, .ref (a0 0)), (1, .int p1), (2, .int p2)]) rfl (fun ls hl => ?_)
                refine lv_goto hx hb dX0_exchangeOuters_97 (tgt := 52) rfl ?_
                exact ihn8 (x3_5 + (1 : Int32)) r19 ls H locs hf (lv_sub hl [1, 2, 3, 0] rfl) hP hD hS
    exact lpn8 10000 (0 : Int32) s0_2 ls H locs hf (lv_sub hl [1, 2, 3, 0] rfl) hP hD hS
  have lpn24 : ∀ (n24 : Nat) (x3_21 : Int32) (s0_22 : BdT) (ls : Array Slot) (H : Heap) (locs : List Loc), f_X0_exchangeOuters_L2_23 p1 p2 K1 n24 x3_21 s0_22 = some res → lv_has ls 4 [(0, .ref (a0 0)), (1, .int p1), (2, .int p2), (3, .int x3_21)] → gP g (Bd_c g a0 s0_22) H → va_D A (Bd_c g a0 s0_22) → va_S A s.heap H locs → W p l e rm_X0_exchangeOuters s m args below meth c H locs 0 0 Q (F0 m 2 ls []) := by
    intro n24
    induction n24 with
    | zero => intro x3_21 s0_22 ls H locs hf hl hP hD hS; rw [f_X0_exchangeOuters_L2_23] at hf; cases hf
    | succ n24 ihn24 =>
      intro x3_21 s0_22 ls H locs hf hl hP hD hS
      rw [f_X0_exchangeOuters_L2_23] at hf
      refine lv_iload_n hx hb dX0_exchangeOuters_2 rfl (lv_at hl 3 rfl) ?_
      refine lv_iconst hx hb dX0_exchangeOuters_3 kci_2 ?_
      refine lv_icmp_ge hx hb dX0_exchangeOuters_4 (tgt := 50) rfl (fun h25 => ?_) (fun h25 => ?_)
      · have hf := gif_t h25 hf
        exact kK1 s0_22 ls H locs hf (lv_sub hl [0, 1, 2] rfl) hP hD hS
      · have hf := gif_f h25 hf
        refine lv_aload_n hx hb dX0_exchangeOuters_7 rfl (lv_at hl 0 rfl) ?_
        refine g_get hE okX0 fl_X0_28 hP 0 rfl (v := .int (Bd_how s0_22)) rfl dX0_exchangeOuters_8 ?_
        refine lv_iload_n hx hb dX0_exchangeOuters_11 rfl (lv_at hl 3 rfl) ?_
        obtain ⟨r26, hc27, hf⟩ := gbd hf
        refine gr_callS (As := [.int (Bd_how s0_22), .int x3_21]) (rest := []) (st1 := [.int r26]) hE hl.1 ml_X0_39 (c_X0_hasOuter l g (Bd_how s0_22) x3_21 r26 hc27) hZ hS hP [] rfl rfl rfl rfl ⟨rfl, rfl⟩ ⟨Nat.le_of_ble_eq_true rfl, Nat.le_of_ble_eq_true rfl⟩ ⟨Nat.le_refl _, Nat.le_refl _⟩ (Nat.le_of_ble_eq_true rfl) dX0_exchangeOuters_12 ?_
        refine lv_if_eq hx hb dX0_exchangeOuters_15 (tgt := 44) rfl (fun h28 => ?_) (fun h28 => ?_)
        · have hf := gif_t h28 hf
          refine lv_iinc hx hb dX0_exchangeOuters_44 hl (k := 3) (x := x3_21) rfl (kinc_1 _) (by decide) (lv' := [(3, .int (x3_21 + (1 : Int32))), (0, .ref (a0 0)), (1, .int p1), (2, .int p2)]) rfl (fun ls hl => ?_)
          refine lv_goto hx hb dX0_exchangeOuters_47 (tgt := 2) rfl ?_
          exact ihn24 (x3_21 + (1 : Int32)) s0_22 ls H locs hf (lv_sub hl [1, 2, 3, 0] rfl) hP hD hS
        · have hf := gif_f h28 hf
          refine lv_iload_n hx hb dX0_exchangeOuters_18 rfl (lv_at hl 2 rfl) ?_
          refine lv_iload_n hx hb dX0_exchangeOuters_19 rfl (lv_at hl 3 rfl) ?_
          obtain ⟨r29, hc30, hf⟩ := gbd hf
          refine gr_callS (As := [.int p2, .int x3_21]) (rest := []) (st1 := [.int r29]) hE hl.1 ml_X0_39 (c_X0_hasOuter l g p2 x3_21 r29 hc30) hZ hS hP [] rfl rfl rfl rfl ⟨rfl, rfl⟩ ⟨Nat.le_of_ble_eq_true rfl, Nat.le_of_ble_eq_true rfl⟩ ⟨Nat.le_refl _, Nat.le_refl _⟩ (Nat.le_of_ble_eq_true rfl) dX0_exchangeOuters_20 ?_
          refine lv_if_ne hx hb dX0_exchangeOuters_23 (tgt := 44) rfl (fun h31 => ?_) (fun h31 => ?_)
          · have hf := gif_f h31 hf
            refine lv_iinc hx hb dX0_exchangeOuters_44 hl (k := 3) (x := x3_21) rfl (kinc_1 _) (by decide) (lv' := [(3, .int (x3_21 + (1 : Int32))), (0, .ref (a0 0)), (1, .int p1), (2, .int p2)]) rfl (fun ls hl => ?_)
            refine lv_goto hx hb dX0_exchangeOuters_47 (tgt := 2) rfl ?_
            exact ihn24 (x3_21 + (1 : Int32)) s0_22 ls H locs hf (lv_sub hl [1, 2, 3, 0] rfl) hP hD hS
          · have hf := gif_t h31 hf
            refine lv_aload_n hx hb dX0_exchangeOuters_26 rfl (lv_at hl 0 rfl) ?_
            refine lv_iconst hx hb dX0_exchangeOuters_27 kci_1 ?_
            refine lv_iload_n hx hb dX0_exchangeOuters_28 rfl (lv_at hl 3 rfl) ?_
            refine lv_isub hx hb dX0_exchangeOuters_29 ?_
            refine lv_iload_n hx hb dX0_exchangeOuters_30 rfl (lv_at hl 1 rfl) ?_
            obtain ⟨r32, hc33, hf⟩ := gbd hf
            refine gr_callV (As := [.int ((1 : Int32) - x3_21), .int p1]) (rest := []) (st1 := [.int r32]) hE hl.1 ml_X0_43 (c_X0_has l g a0 s0_22 ((1 : Int32) - x3_21) p1 r32 hc33) hZ hS hP [(0, 9)] rfl okX0 rfl rfl rfl rfl ⟨rfl, rfl⟩ ⟨Nat.le_of_ble_eq_true rfl, Nat.le_of_ble_eq_true rfl⟩ ⟨Nat.le_refl _, Nat.le_refl _⟩ (Nat.le_of_ble_eq_true rfl) dX0_exchangeOuters_31 ?_
            refine lv_if_ne hx hb dX0_exchangeOuters_34 (tgt := 44) rfl (fun h34 => ?_) (fun h34 => ?_)
            · have hf := gif_f h34 hf
              refine lv_iinc hx hb dX0_exchangeOuters_44 hl (k := 3) (x := x3_21) rfl (kinc_1 _) (by decide) (lv' := [(3, .int (x3_21 + (1 : Int32))), (0, .ref (a0 0)), (1, .int p1), (2, .int p2)]) rfl (fun ls hl => ?_)
              refine lv_goto hx hb dX0_exchangeOuters_47 (tgt := 2) rfl ?_
              exact ihn24 (x3_21 + (1 : Int32)) s0_22 ls H locs hf (lv_sub hl [1, 2, 3, 0] rfl) hP hD hS
            · have hf := gif_t h34 hf
              refine lv_aload_n hx hb dX0_exchangeOuters_37 rfl (lv_at hl 0 rfl) ?_
              refine lv_iload_n hx hb dX0_exchangeOuters_38 rfl (lv_at hl 3 rfl) ?_
              refine lv_iload_n hx hb dX0_exchangeOuters_39 rfl (lv_at hl 1 rfl) ?_
              refine lv_iconst hx hb dX0_exchangeOuters_40 kci_m1 ?_
              obtain ⟨r35, hc36, hf⟩ := gbd hf
              refine gm_callV1 (As := [.int x3_21, .int p1, .int (-1 : Int32)]) (rest := []) (st1 := fun _ => []) (ws' := fun _ => (Bd_c g a0 r35)) hE hl.1 ml_X0_49 (c_X0_sendOuters l g a0 s0_22 x3_21 p1 (-1 : Int32) r35 hc36) hZ hP hD hS hA 0 9 rfl (fun _ => rfl) okX0 rfl rfl rfl (fun _ => rfl) ⟨rfl, rfl⟩ ⟨Nat.le_of_ble_eq_true rfl, Nat.le_of_ble_eq_true rfl⟩ ⟨Nat.le_refl _, Nat.le_refl _⟩ (Nat.le_of_ble_eq_true rfl) dX0_exchangeOuters_41 (fun _ H locs hP hD hS => ?_)
              refine lv_iinc hx hb dX0_exchangeOuters_44 hl (k := 3) (x := x3_21) rfl (kinc_1 _) (by decide) (lv' := [(3, .int (x3_21 + (1 : Int32))), (0, .ref (a0 0)), (1, .int p1), (2, .int p2)]) rfl (fun ls hl => ?_)
              refine lv_goto hx hb dX0_exchangeOuters_47 (tgt := 2) rfl ?_
              exact ihn24 (x3_21 + (1 : Int32)) r35 ls H locs hf (lv_sub hl [1, 2, 3, 0] rfl) hP hD hS
  exact lpn24 10000 (0 : Int32) s0 ls H locs hf (lv_sub hl [1, 2, 3, 0] rfl) hP hD hS
theorem dX0_emptyKey_0 : decode cX0_emptyKey 0 = .ok (.iconst 0, 1) := by decide +kernel
theorem dX0_emptyKey_1 : decode cX0_emptyKey 1 = .ok (.istore_n 2, 1) := by decide +kernel
theorem dX0_emptyKey_2 : decode cX0_emptyKey 2 = .ok (.iload_n 2, 1) := by decide +kernel
theorem dX0_emptyKey_3 : decode cX0_emptyKey 3 = .ok (.iconst 2, 1) := by decide +kernel
theorem dX0_emptyKey_4 : decode cX0_emptyKey 4 = .ok (.if_icmp .ge 59, 3) := by decide +kernel
theorem dX0_emptyKey_7 : decode cX0_emptyKey 7 = .ok (.aload_n 0, 1) := by decide +kernel
theorem dX0_emptyKey_8 : decode cX0_emptyKey 8 = .ok (.iload_n 2, 1) := by decide +kernel
theorem dX0_emptyKey_9 : decode cX0_emptyKey 9 = .ok (.iload_n 1, 1) := by decide +kernel
theorem dX0_emptyKey_10 : decode cX0_emptyKey 10 = .ok (.invokevirtual 43, 3) := by decide +kernel
theorem dX0_emptyKey_13 : decode cX0_emptyKey 13 = .ok (.ifCond .eq 18, 3) := by decide +kernel
theorem dX0_emptyKey_16 : decode cX0_emptyKey 16 = .ok (.aload_n 0, 1) := by decide +kernel
theorem dX0_emptyKey_17 : decode cX0_emptyKey 17 = .ok (.getfield 18, 3) := by decide +kernel
theorem dX0_emptyKey_20 : decode cX0_emptyKey 20 = .ok (.iload_n 2, 1) := by decide +kernel
theorem dX0_emptyKey_21 : decode cX0_emptyKey 21 = .ok (.bipush 8, 2) := by decide +kernel
theorem dX0_emptyKey_23 : decode cX0_emptyKey 23 = .ok (.imul, 1) := by decide +kernel
theorem dX0_emptyKey_24 : decode cX0_emptyKey 24 = .ok (.iload_n 1, 1) := by decide +kernel
theorem dX0_emptyKey_25 : decode cX0_emptyKey 25 = .ok (.iadd, 1) := by decide +kernel
theorem dX0_emptyKey_26 : decode cX0_emptyKey 26 = .ok (.dup2, 1) := by decide +kernel
theorem dX0_emptyKey_27 : decode cX0_emptyKey 27 = .ok (.iaload, 1) := by decide +kernel
theorem dX0_emptyKey_28 : decode cX0_emptyKey 28 = .ok (.iconst 1, 1) := by decide +kernel
theorem dX0_emptyKey_29 : decode cX0_emptyKey 29 = .ok (.iadd, 1) := by decide +kernel
theorem dX0_emptyKey_30 : decode cX0_emptyKey 30 = .ok (.iastore, 1) := by decide +kernel
theorem dX0_emptyKey_31 : decode cX0_emptyKey 31 = .ok (.iconst 0, 1) := by decide +kernel
theorem dX0_emptyKey_32 : decode cX0_emptyKey 32 = .ok (.istore_n 3, 1) := by decide +kernel
theorem dX0_emptyKey_33 : decode cX0_emptyKey 33 = .ok (.iload_n 3, 1) := by decide +kernel
theorem dX0_emptyKey_34 : decode cX0_emptyKey 34 = .ok (.bipush 8, 2) := by decide +kernel
theorem dX0_emptyKey_36 : decode cX0_emptyKey 36 = .ok (.if_icmp .ge 21, 3) := by decide +kernel
theorem dX0_emptyKey_39 : decode cX0_emptyKey 39 = .ok (.aload_n 0, 1) := by decide +kernel
theorem dX0_emptyKey_40 : decode cX0_emptyKey 40 = .ok (.getfield 9, 3) := by decide +kernel
theorem dX0_emptyKey_43 : decode cX0_emptyKey 43 = .ok (.iload_n 2, 1) := by decide +kernel
theorem dX0_emptyKey_44 : decode cX0_emptyKey 44 = .ok (.iload_n 1, 1) := by decide +kernel
theorem dX0_emptyKey_45 : decode cX0_emptyKey 45 = .ok (.iload_n 3, 1) := by decide +kernel
theorem dX0_emptyKey_46 : decode cX0_emptyKey 46 = .ok (.invokestatic 32, 3) := by decide +kernel
theorem dX0_emptyKey_49 : decode cX0_emptyKey 49 = .ok (.iconst 0, 1) := by decide +kernel
theorem dX0_emptyKey_50 : decode cX0_emptyKey 50 = .ok (.iastore, 1) := by decide +kernel
theorem dX0_emptyKey_51 : decode cX0_emptyKey 51 = .ok (.iinc 3 1, 3) := by decide +kernel
theorem dX0_emptyKey_54 : decode cX0_emptyKey 54 = .ok (.goto (-21), 3) := by decide +kernel
theorem dX0_emptyKey_57 : decode cX0_emptyKey 57 = .ok (.iinc 2 1, 3) := by decide +kernel
theorem dX0_emptyKey_60 : decode cX0_emptyKey 60 = .ok (.goto (-58), 3) := by decide +kernel
theorem dX0_emptyKey_63 : decode cX0_emptyKey 63 = .ok (.return_, 1) := by decide +kernel
def f_X0_emptyKey_L33_16 (p1 : Int32) (x2_3 : Int32) (K12 : (BdT → Option (BdT))) : Nat → Int32 → BdT → Option (BdT)
  | 0, _, _ => none
  | n17 + 1, x3_14, s0_15 => if (8 : Int32) ≤ x3_14 then K12 s0_15
  else (f_X0_netPlace x2_3 p1 x3_14).bind fun r19 =>
  if inb r19 128 then f_X0_emptyKey_L33_16 p1 x2_3 K12 n17 (x3_14 + (1 : Int32)) (Bd_w_nets s0_15 (upd (Bd_nets s0_15) (ix r19) (0 : Int32))) else none
def f_X0_emptyKey_L2_5 (p1 : Int32) (K1 : (BdT → Option (BdT))) : Nat → Int32 → BdT → Option (BdT)
  | 0, _, _ => none
  | n6 + 1, x2_3, s0_4 => if (2 : Int32) ≤ x2_3 then K1 s0_4
  else (f_X0_has s0_4 x2_3 p1).bind fun r8 =>
  glt (fun (s0_11 : BdT) => glt (fun (s0_13 : BdT) => f_X0_emptyKey_L2_5 p1 K1 n6 (x2_3 + (1 : Int32)) s0_13) fun K12 =>
  f_X0_emptyKey_L33_16 p1 x2_3 K12 10000 (0 : Int32) s0_11) fun J10 =>
  if r8 = 0 then J10 s0_4
  else if inb ((x2_3 * (8 : Int32)) + p1) 16 then if inb ((x2_3 * (8 : Int32)) + p1) 16 then J10 (Bd_w_turns s0_4 (upd (Bd_turns s0_4) (ix ((x2_3 * (8 : Int32)) + p1)) (((Bd_turns s0_4) (ix ((x2_3 * (8 : Int32)) + p1))) + (1 : Int32)))) else none else none
def f_X0_emptyKey (s0 : BdT) (p1 : Int32) : Option (BdT) :=
  glt (fun (s0_2 : BdT) => some (s0_2)) fun K1 =>
  f_X0_emptyKey_L2_5 p1 K1 10000 (0 : Int32) s0
abbrev rm_X0_emptyKey : Room := { frames := 2, cells := 0, slots := 0, locals := 45 }
set_option maxHeartbeats 4000000 in
set_option maxRecDepth 100000 in
theorem c_X0_emptyKey (l : Launch) (g : GK) (a0 : Nat → Nat) (s0 : BdT) (p1 : Int32) (res : (BdT)) (hf : f_X0_emptyKey s0 p1 = some res) : gM l yX0_emptyKey cX0_emptyKey 4 none rm_X0_emptyKey g [.ref (a0 0), .int p1] (Bd_c g a0 s0) (fun _ : Unit => none) (fun _ => (Bd_c g a0 res)) 0 0 := by
  refine gM_introV RX0 (by decide) rfl (Nat.le_of_ble_eq_true rfl) (fun p e s m args below meth c Q H locs ls A hE hnm hZ hA hP hD hS hq hl => ?_)
  have hl : lv_has ls 4 [(0, .ref (a0 0)), (1, .int p1)] := hl
  have hx := hE.1
  have hb := hE.2.1
  rw [f_X0_emptyKey] at hf
  refine lv_iconst hx hb dX0_emptyKey_0 kci_0 ?_
  refine lv_istore_n hx hb dX0_emptyKey_1 rfl hl (by decide) (lv' := [(2, .int (0 : Int32)), (0, .ref (a0 0)), (1, .int p1)]) rfl (fun ls hl => ?_)
  obtain ⟨K1, eK1, hf⟩ := gltd hf
  have kK1 : ∀ (s0_2 : BdT) (ls : Array Slot) (H : Heap) (locs : List Loc), K1 s0_2 = some res → lv_has ls 4 [] → gP g (Bd_c g a0 s0_2) H → va_D A (Bd_c g a0 s0_2) → va_S A s.heap H locs → W p l e rm_X0_emptyKey s m args below meth c H locs 0 0 Q (F0 m 63 ls []) := by
    intro s0_2 ls H locs hf hl hP hD hS
    rw [eK1] at hf
    cases hf
    exact hq () rfl hP hD hS dX0_emptyKey_63
  have lpn6 : ∀ (n6 : Nat) (x2_3 : Int32) (s0_4 : BdT) (ls : Array Slot) (H : Heap) (locs : List Loc), f_X0_emptyKey_L2_5 p1 K1 n6 x2_3 s0_4 = some res → lv_has ls 4 [(0, .ref (a0 0)), (1, .int p1), (2, .int x2_3)] → gP g (Bd_c g a0 s0_4) H → va_D A (Bd_c g a0 s0_4) → va_S A s.heap H locs → W p l e rm_X0_emptyKey s m args below meth c H locs 0 0 Q (F0 m 2 ls []) := by
    intro n6
    induction n6 with
    | zero => intro x2_3 s0_4 ls H locs hf hl hP hD hS; rw [f_X0_emptyKey_L2_5] at hf; cases hf
    | succ n6 ihn6 =>
      intro x2_3 s0_4 ls H locs hf hl hP hD hS
      rw [f_X0_emptyKey_L2_5] at hf
      refine lv_iload_n hx hb dX0_emptyKey_2 rfl (lv_at hl 2 rfl) ?_
      refine lv_iconst hx hb dX0_emptyKey_3 kci_2 ?_
      refine lv_icmp_ge hx hb dX0_emptyKey_4 (tgt := 63) rfl (fun h7 => ?_) (fun h7 => ?_)
      · have hf := gif_t h7 hf
        exact kK1 s0_4 ls H locs hf (lv_sub hl [] rfl) hP hD hS
      · have hf := gif_f h7 hf
        refine lv_aload_n hx hb dX0_emptyKey_7 rfl (lv_at hl 0 rfl) ?_
        refine lv_iload_n hx hb dX0_emptyKey_8 rfl (lv_at hl 2 rfl) ?_
        refine lv_iload_n hx hb dX0_emptyKey_9 rfl (lv_at hl 1 rfl) ?_
        obtain ⟨r8, hc9, hf⟩ := gbd hf
        refine gr_callV (As := [.int x2_3, .int p1]) (rest := []) (st1 := [.int r8]) hE hl.1 ml_X0_43 (c_X0_has l g a0 s0_4 x2_3 p1 r8 hc9) hZ hS hP [(0, 9)] rfl okX0 rfl rfl rfl rfl ⟨rfl, rfl⟩ ⟨Nat.le_of_ble_eq_true rfl, Nat.le_of_ble_eq_true rfl⟩ ⟨Nat.le_refl _, Nat.le_refl _⟩ (Nat.le_of_ble_eq_true rfl) dX0_emptyKey_10 ?_
        obtain ⟨J10, eJ10, hf⟩ := gltd hf
        have kJ10 : ∀ (s0_11 : BdT) (ls : Array Slot) (H : Heap) (locs : List Loc), J10 s0_11 = some res → lv_has ls 4 [(0, .ref (a0 0)), (1, .int p1), (2, .int x2_3)] → gP g (Bd_c g a0 s0_11) H → va_D A (Bd_c g a0 s0_11) → va_S A s.heap H locs → W p l e rm_X0_emptyKey s m args below meth c H locs 0 0 Q (F0 m 31 ls []) := by
          intro s0_11 ls H locs hf hl hP hD hS
          rw [eJ10] at hf
          refine lv_iconst hx hb dX0_emptyKey_31 kci_0 ?_
          refine lv_istore_n hx hb dX0_emptyKey_32 rfl hl (by decide) (lv' := [(3, .int (0 : Int32)), (0, .ref (a0 0)), (1, .int p1), (2, .int x2_3)]) rfl (fun ls hl => ?_)
          obtain ⟨K12, eK12, hf⟩ := gltd hf
          have kK12 : ∀ (s0_13 : BdT) (ls : Array Slot) (H : Heap) (locs : List Loc), K12 s0_13 = some res → lv_has ls 4 [(0, .ref (a0 0)), (1, .int p1), (2, .int x2_3)] → gP g (Bd_c g a0 s0_13) H → va_D A (Bd_c g a0 s0_13) → va_S A s.heap H locs → W p l e rm_X0_emptyKey s m args below meth c H locs 0 0 Q (F0 m 57 ls []) := by
            intro s0_13 ls H locs hf hl hP hD hS
            rw [eK12] at hf
            refine lv_iinc hx hb dX0_emptyKey_57 hl (k := 2) (x := x2_3) rfl (kinc_1 _) (by decide) (lv' := [(2, .int (x2_3 + (1 : Int32))), (0, .ref (a0 0)), (1, .int p1)]) rfl (fun ls hl => ?_)
            refine lv_goto hx hb dX0_emptyKey_60 (tgt := 2) rfl ?_
            exact ihn6 (x2_3 + (1 : Int32)) s0_13 ls H locs hf (lv_sub hl [1, 2, 0] rfl) hP hD hS
          have lpn17 : ∀ (n17 : Nat) (x3_14 : Int32) (s0_15 : BdT) (ls : Array Slot) (H : Heap) (locs : List Loc), f_X0_emptyKey_L33_16 p1 x2_3 K12 n17 x3_14 s0_15 = some res → lv_has ls 4 [(0, .ref (a0 0)), (1, .int p1), (2, .int x2_3), (3, .int x3_14)] → gP g (Bd_c g a0 s0_15) H → va_D A (Bd_c g a0 s0_15) → va_S A s.heap H locs → W p l e rm_X0_emptyKey s m args below meth c H locs 0 0 Q (F0 m 33 ls []) := by
            intro n17
            induction n17 with
            | zero => intro x3_14 s0_15 ls H locs hf hl hP hD hS; rw [f_X0_emptyKey_L33_16] at hf; cases hf
            | succ n17 ihn17 =>
              intro x3_14 s0_15 ls H locs hf hl hP hD hS
              rw [f_X0_emptyKey_L33_16] at hf
              refine lv_iload_n hx hb dX0_emptyKey_33 rfl (lv_at hl 3 rfl) ?_
              refine lv_bipush hx hb dX0_emptyKey_34 kcb_8 ?_
              refine lv_icmp_ge hx hb dX0_emptyKey_36 (tgt := 57) rfl (fun h18 => ?_) (fun h18 => ?_)
              · have hf := gif_t h18 hf
                exact kK12 s0_15 ls H locs hf (lv_sub hl [0, 1, 2] rfl) hP hD hS
              · have hf := gif_f h18 hf
                refine lv_aload_n hx hb dX0_emptyKey_39 rfl (lv_at hl 0 rfl) ?_
                refine g_get hE okX0 fl_X0_9 hP 0 rfl (v := .ref (a0 1)) rfl dX0_emptyKey_40 ?_
                refine lv_iload_n hx hb dX0_emptyKey_43 rfl (lv_at hl 2 rfl) ?_
                refine lv_iload_n hx hb dX0_emptyKey_44 rfl (lv_at hl 1 rfl) ?_
                refine lv_iload_n hx hb dX0_emptyKey_45 rfl (lv_at hl 3 rfl) ?_
                obtain ⟨r19, hc20, hf⟩ := gbd hf
                refine gr_callS (As := [.int x2_3, .int p1, .int x3_14]) (rest := [.ref (a0 1)]) (st1 := [.int r19, .ref (a0 1)]) hE hl.1 ml_X0_32 (c_X0_netPlace l g x2_3 p1 x3_14 r19 hc20) hZ hS hP [] rfl rfl rfl rfl ⟨rfl, rfl⟩ ⟨Nat.le_of_ble_eq_true rfl, Nat.le_of_ble_eq_true rfl⟩ ⟨Nat.le_refl _, Nat.le_refl _⟩ (Nat.le_of_ble_eq_true rfl) dX0_emptyKey_46 ?_
                refine lv_iconst hx hb dX0_emptyKey_49 kci_0 ?_
                obtain ⟨hg21, hf⟩ := ggd hf
                refine g_iast hE hP hD hS 1 (f := (Bd_nets s0_15)) rfl hg21 (Bd_c g a0 (Bd_w_nets s0_15 (upd (Bd_nets s0_15) (ix r19) (0 : Int32)))) rfl dX0_emptyKey_50 (fun H locs hP hD hS => ?_)
                refine lv_iinc hx hb dX0_emptyKey_51 hl (k := 3) (x := x3_14) rfl (kinc_1 _) (by decide) (lv' := [(3, .int (x3_14 + (1 : Int32))), (0, .ref (a0 0)), (1, .int p1), (2, .int x2_3)]) rfl (fun ls hl => ?_)
                refine lv_goto hx hb dX0_emptyKey_54 (tgt := 33) rfl ?_
                exact ihn17 (x3_14 + (1 : Int32)) (Bd_w_nets s0_15 (upd (Bd_nets s0_15) (ix r19) (0 : Int32))) ls H locs hf (lv_sub hl [1, 2, 3, 0] rfl) hP hD hS
          exact lpn17 10000 (0 : Int32) s0_11 ls H locs hf (lv_sub hl [1, 2, 3, 0] rfl) hP hD hS
        refine lv_if_eq hx hb dX0_emptyKey_13 (tgt := 31) rfl (fun h22 => ?_) (fun h22 => ?_)
        · have hf := gif_t h22 hf
          exact kJ10 s0_4 ls H locs hf (lv_sub hl [0, 1, 2] rfl) hP hD hS
        · have hf := gif_f h22 hf
          refine lv_aload_n hx hb dX0_emptyKey_16 rfl (lv_at hl 0 rfl) ?_
          refine g_get hE okX0 fl_X0_18 hP 0 rfl (v := .ref (a0 3)) rfl dX0_emptyKey_17 ?_
          refine lv_iload_n hx hb dX0_emptyKey_20 rfl (lv_at hl 2 rfl) ?_
          refine lv_bipush hx hb dX0_emptyKey_21 kcb_8 ?_
          refine lv_imul hx hb dX0_emptyKey_23 ?_
          refine lv_iload_n hx hb dX0_emptyKey_24 rfl (lv_at hl 1 rfl) ?_
          refine lv_iadd hx hb dX0_emptyKey_25 ?_
          refine lv_dup2_11 hx hb dX0_emptyKey_26 rfl rfl ?_
          obtain ⟨hg23, hf⟩ := ggd hf
          refine g_iald hE hP 3 (f := (Bd_turns s0_4)) rfl hg23 dX0_emptyKey_27 ?_
          refine lv_iconst hx hb dX0_emptyKey_28 kci_1 ?_
          refine lv_iadd hx hb dX0_emptyKey_29 ?_
          obtain ⟨hg24, hf⟩ := ggd hf
          refine g_iast hE hP hD hS 3 (f := (Bd_turns s0_4)) rfl hg24 (Bd_c g a0 (Bd_w_turns s0_4 (upd (Bd_turns s0_4) (ix ((x2_3 * (8 : Int32)) + p1)) (((Bd_turns s0_4) (ix ((x2_3 * (8 : Int32)) + p1))) + (1 : Int32))))) rfl dX0_emptyKey_30 (fun H locs hP hD hS => ?_)
          exact kJ10 (Bd_w_turns s0_4 (upd (Bd_turns s0_4) (ix ((x2_3 * (8 : Int32)) + p1)) (((Bd_turns s0_4) (ix ((x2_3 * (8 : Int32)) + p1))) + (1 : Int32)))) ls H locs hf (lv_sub hl [0, 1, 2] rfl) hP hD hS
  exact lpn6 10000 (0 : Int32) s0 ls H locs hf (lv_sub hl [1, 2, 0] rfl) hP hD hS
theorem dX0_clear_0 : decode cX0_clear 0 = .ok (.aload_n 0, 1) := by decide +kernel
theorem dX0_clear_1 : decode cX0_clear 1 = .ok (.getfield 9, 3) := by decide +kernel
theorem dX0_clear_4 : decode cX0_clear 4 = .ok (.iconst 0, 1) := by decide +kernel
theorem dX0_clear_5 : decode cX0_clear 5 = .ok (.invokestatic 70, 3) := by decide +kernel
theorem dX0_clear_8 : decode cX0_clear 8 = .ok (.aload_n 0, 1) := by decide +kernel
theorem dX0_clear_9 : decode cX0_clear 9 = .ok (.getfield 15, 3) := by decide +kernel
theorem dX0_clear_12 : decode cX0_clear 12 = .ok (.iconst 0, 1) := by decide +kernel
theorem dX0_clear_13 : decode cX0_clear 13 = .ok (.invokestatic 70, 3) := by decide +kernel
theorem dX0_clear_16 : decode cX0_clear 16 = .ok (.aload_n 0, 1) := by decide +kernel
theorem dX0_clear_17 : decode cX0_clear 17 = .ok (.getfield 18, 3) := by decide +kernel
theorem dX0_clear_20 : decode cX0_clear 20 = .ok (.iconst 0, 1) := by decide +kernel
theorem dX0_clear_21 : decode cX0_clear 21 = .ok (.invokestatic 70, 3) := by decide +kernel
theorem dX0_clear_24 : decode cX0_clear 24 = .ok (.aload_n 0, 1) := by decide +kernel
theorem dX0_clear_25 : decode cX0_clear 25 = .ok (.getfield 24, 3) := by decide +kernel
theorem dX0_clear_28 : decode cX0_clear 28 = .ok (.invokevirtual 76, 3) := by decide +kernel
theorem dX0_clear_31 : decode cX0_clear 31 = .ok (.aload_n 0, 1) := by decide +kernel
theorem dX0_clear_32 : decode cX0_clear 32 = .ok (.iload_n 1, 1) := by decide +kernel
theorem dX0_clear_33 : decode cX0_clear 33 = .ok (.putfield 28, 3) := by decide +kernel
theorem dX0_clear_36 : decode cX0_clear 36 = .ok (.return_, 1) := by decide +kernel
def f_X0_clear (s0 : BdT) (p1 : Int32) : Option (BdT) :=
  (f_J7_fill_53178 128 (Bd_nets s0) (0 : Int32)).bind fun r1 =>
  (f_J7_fill_53178 648 (Bd_sums s0) (0 : Int32)).bind fun r3 =>
  (f_J7_fill_53178 16 (Bd_turns s0) (0 : Int32)).bind fun r5 =>
  (f_X2_clear (Bd_ledger s0)).bind fun r7 =>
  some ((Bd_w_how (Bd_w_ledger (Bd_w_turns (Bd_w_sums (Bd_w_nets s0 r1) r3) r5) r7) p1))
abbrev rm_X0_clear : Room := { frames := 2, cells := 0, slots := 0, locals := 43 }
set_option maxHeartbeats 4000000 in
set_option maxRecDepth 100000 in
theorem c_X0_clear (l : Launch) (g : GK) (a0 : Nat → Nat) (s0 : BdT) (p1 : Int32) (res : (BdT)) (hf : f_X0_clear s0 p1 = some res) : gM l yX0_clear cX0_clear 2 none rm_X0_clear g [.ref (a0 0), .int p1] (Bd_c g a0 s0) (fun _ : Unit => none) (fun _ => (Bd_c g a0 res)) 0 0 := by
  refine gM_introV RX0 (by decide) rfl (Nat.le_of_ble_eq_true rfl) (fun p e s m args below meth c Q H locs ls A hE hnm hZ hA hP hD hS hq hl => ?_)
  have hl : lv_has ls 2 [(0, .ref (a0 0)), (1, .int p1)] := hl
  have hx := hE.1
  have hb := hE.2.1
  rw [f_X0_clear] at hf
  refine lv_aload_n hx hb dX0_clear_0 rfl (lv_at hl 0 rfl) ?_
  refine g_get hE okX0 fl_X0_9 hP 0 rfl (v := .ref (a0 1)) rfl dX0_clear_1 ?_
  refine lv_iconst hx hb dX0_clear_4 kci_0 ?_
  obtain ⟨r1, hc2, hf⟩ := gbd hf
  refine gm_callS1 (As := [.ref (a0 1), .int (0 : Int32)]) (rest := []) (st1 := fun _ => []) (ws' := fun _ => (Bd_c g a0 (Bd_w_nets s0 r1))) hE hl.1 ml_X0_70 (c_J7_fill_53178 l g (a0 1) 128 (Bd_nets s0) (0 : Int32) r1 hc2) hZ hP hD hS hA 1 2 rfl (fun _ => rfl)  rfl rfl (fun _ => rfl) ⟨rfl, rfl⟩ ⟨Nat.le_of_ble_eq_true rfl, Nat.le_of_ble_eq_true rfl⟩ ⟨Nat.le_refl _, Nat.le_refl _⟩ (Nat.le_of_ble_eq_true rfl) dX0_clear_5 (fun _ H locs hP hD hS => ?_)
  refine lv_aload_n hx hb dX0_clear_8 rfl (lv_at hl 0 rfl) ?_
  refine g_get hE okX0 fl_X0_15 hP 0 rfl (v := .ref (a0 2)) rfl dX0_clear_9 ?_
  refine lv_iconst hx hb dX0_clear_12 kci_0 ?_
  obtain ⟨r3, hc4, hf⟩ := gbd hf
  refine gm_callS1 (As := [.ref (a0 2), .int (0 : Int32)]) (rest := []) (st1 := fun _ => []) (ws' := fun _ => (Bd_c g a0 (Bd_w_sums (Bd_w_nets s0 r1) r3))) hE hl.1 ml_X0_70 (c_J7_fill_53178 l g (a0 2) 648 (Bd_sums s0) (0 : Int32) r3 hc4) hZ hP hD hS hA 2 3 rfl (fun _ => rfl)  rfl rfl (fun _ => rfl) ⟨rfl, rfl⟩ ⟨Nat.le_of_ble_eq_true rfl, Nat.le_of_ble_eq_true rfl⟩ ⟨Nat.le_refl _, Nat.le_refl _⟩ (Nat.le_of_ble_eq_true rfl) dX0_clear_13 (fun _ H locs hP hD hS => ?_)
  refine lv_aload_n hx hb dX0_clear_16 rfl (lv_at hl 0 rfl) ?_
  refine g_get hE okX0 fl_X0_18 hP 0 rfl (v := .ref (a0 3)) rfl dX0_clear_17 ?_
  refine lv_iconst hx hb dX0_clear_20 kci_0 ?_
  obtain ⟨r5, hc6, hf⟩ := gbd hf
  refine gm_callS1 (As := [.ref (a0 3), .int (0 : Int32)]) (rest := []) (st1 := fun _ => []) (ws' := fun _ => (Bd_c g a0 (Bd_w_turns (Bd_w_sums (Bd_w_nets s0 r1) r3) r5))) hE hl.1 ml_X0_70 (c_J7_fill_53178 l g (a0 3) 16 (Bd_turns s0) (0 : Int32) r5 hc6) hZ hP hD hS hA 3 4 rfl (fun _ => rfl)  rfl rfl (fun _ => rfl) ⟨rfl, rfl⟩ ⟨Nat.le_of_ble_eq_true rfl, Nat.le_of_ble_eq_true rfl⟩ ⟨Nat.le_refl _, Nat.le_refl _⟩ (Nat.le_of_ble_eq_true rfl) dX0_clear_21 (fun _ H locs hP hD hS => ?_)
  refine lv_aload_n hx hb dX0_clear_24 rfl (lv_at hl 0 rfl) ?_
  refine g_get hE okX0 fl_X0_24 hP 0 rfl (v := .ref (a0 4)) rfl dX0_clear_25 ?_
  obtain ⟨r7, hc8, hf⟩ := gbd hf
  refine gm_callV1 (As := []) (rest := []) (st1 := fun _ => []) (ws' := fun _ => (Bd_c g a0 (Bd_w_ledger (Bd_w_turns (Bd_w_sums (Bd_w_nets s0 r1) r3) r5) r7))) hE hl.1 ml_X0_76 (c_X2_clear l g (fun k => a0 (k + 4)) (Bd_ledger s0) r7 hc8) hZ hP hD hS hA 4 9 rfl (fun _ => rfl) okX2 rfl rfl rfl (fun _ => rfl) ⟨rfl, rfl⟩ ⟨Nat.le_of_ble_eq_true rfl, Nat.le_of_ble_eq_true rfl⟩ ⟨Nat.le_refl _, Nat.le_refl _⟩ (Nat.le_of_ble_eq_true rfl) dX0_clear_28 (fun _ H locs hP hD hS => ?_)
  refine lv_aload_n hx hb dX0_clear_31 rfl (lv_at hl 0 rfl) ?_
  refine lv_iload_n hx hb dX0_clear_32 rfl (lv_at hl 1 rfl) ?_
  refine g_put hE okX0 fl_X0_28 hP hD hS 0 rfl rfl rfl rfl (Nat.le_of_ble_eq_true rfl) (Bd_c g a0 (Bd_w_how (Bd_w_ledger (Bd_w_turns (Bd_w_sums (Bd_w_nets s0 r1) r3) r5) r7) p1)) rfl dX0_clear_33 (fun H locs hP hD hS => ?_)
  cases hf
  exact hq () rfl hP hD hS dX0_clear_36
theorem dX0_takeKeyFrom_0 : decode cX0_takeKeyFrom 0 = .ok (.iconst 0, 1) := by decide +kernel
theorem dX0_takeKeyFrom_1 : decode cX0_takeKeyFrom 1 = .ok (.istore_n 3, 1) := by decide +kernel
theorem dX0_takeKeyFrom_2 : decode cX0_takeKeyFrom 2 = .ok (.iload_n 3, 1) := by decide +kernel
theorem dX0_takeKeyFrom_3 : decode cX0_takeKeyFrom 3 = .ok (.iconst 2, 1) := by decide +kernel
theorem dX0_takeKeyFrom_4 : decode cX0_takeKeyFrom 4 = .ok (.if_icmp .ge 45, 3) := by decide +kernel
theorem dX0_takeKeyFrom_7 : decode cX0_takeKeyFrom 7 = .ok (.iconst 0, 1) := by decide +kernel
theorem dX0_takeKeyFrom_8 : decode cX0_takeKeyFrom 8 = .ok (.istore 4, 2) := by decide +kernel
theorem dX0_takeKeyFrom_10 : decode cX0_takeKeyFrom 10 = .ok (.iload 4, 2) := by decide +kernel
theorem dX0_takeKeyFrom_12 : decode cX0_takeKeyFrom 12 = .ok (.bipush 8, 2) := by decide +kernel
theorem dX0_takeKeyFrom_14 : decode cX0_takeKeyFrom 14 = .ok (.if_icmp .ge 29, 3) := by decide +kernel
theorem dX0_takeKeyFrom_17 : decode cX0_takeKeyFrom 17 = .ok (.aload_n 0, 1) := by decide +kernel
theorem dX0_takeKeyFrom_18 : decode cX0_takeKeyFrom 18 = .ok (.getfield 9, 3) := by decide +kernel
theorem dX0_takeKeyFrom_21 : decode cX0_takeKeyFrom 21 = .ok (.iload_n 3, 1) := by decide +kernel
theorem dX0_takeKeyFrom_22 : decode cX0_takeKeyFrom 22 = .ok (.iload_n 2, 1) := by decide +kernel
theorem dX0_takeKeyFrom_23 : decode cX0_takeKeyFrom 23 = .ok (.iload 4, 2) := by decide +kernel
theorem dX0_takeKeyFrom_25 : decode cX0_takeKeyFrom 25 = .ok (.invokestatic 32, 3) := by decide +kernel
theorem dX0_takeKeyFrom_28 : decode cX0_takeKeyFrom 28 = .ok (.aload_n 1, 1) := by decide +kernel
theorem dX0_takeKeyFrom_29 : decode cX0_takeKeyFrom 29 = .ok (.iload_n 3, 1) := by decide +kernel
theorem dX0_takeKeyFrom_30 : decode cX0_takeKeyFrom 30 = .ok (.iload_n 2, 1) := by decide +kernel
theorem dX0_takeKeyFrom_31 : decode cX0_takeKeyFrom 31 = .ok (.iload 4, 2) := by decide +kernel
theorem dX0_takeKeyFrom_33 : decode cX0_takeKeyFrom 33 = .ok (.invokevirtual 67, 3) := by decide +kernel
theorem dX0_takeKeyFrom_36 : decode cX0_takeKeyFrom 36 = .ok (.iastore, 1) := by decide +kernel
theorem dX0_takeKeyFrom_37 : decode cX0_takeKeyFrom 37 = .ok (.iinc 4 1, 3) := by decide +kernel
theorem dX0_takeKeyFrom_40 : decode cX0_takeKeyFrom 40 = .ok (.goto (-30), 3) := by decide +kernel
theorem dX0_takeKeyFrom_43 : decode cX0_takeKeyFrom 43 = .ok (.iinc 3 1, 3) := by decide +kernel
theorem dX0_takeKeyFrom_46 : decode cX0_takeKeyFrom 46 = .ok (.goto (-44), 3) := by decide +kernel
theorem dX0_takeKeyFrom_49 : decode cX0_takeKeyFrom 49 = .ok (.return_, 1) := by decide +kernel
def f_X0_takeKeyFrom_L10_12 (s1 : BdT) (p1 : Int32) (x3_3 : Int32) (K8 : (BdT → Option (BdT))) : Nat → Int32 → BdT → Option (BdT)
  | 0, _, _ => none
  | n13 + 1, x4_10, s0_11 => if (8 : Int32) ≤ x4_10 then K8 s0_11
  else (f_X0_netPlace x3_3 p1 x4_10).bind fun r15 =>
  (f_X0_netOf s1 x3_3 p1 x4_10).bind fun r17 =>
  if inb r15 128 then f_X0_takeKeyFrom_L10_12 s1 p1 x3_3 K8 n13 (x4_10 + (1 : Int32)) (Bd_w_nets s0_11 (upd (Bd_nets s0_11) (ix r15) r17)) else none
def f_X0_takeKeyFrom_L2_5 (s1 : BdT) (p1 : Int32) (K1 : (BdT → Option (BdT))) : Nat → Int32 → BdT → Option (BdT)
  | 0, _, _ => none
  | n6 + 1, x3_3, s0_4 => if (2 : Int32) ≤ x3_3 then K1 s0_4
  else glt (fun (s0_9 : BdT) => f_X0_takeKeyFrom_L2_5 s1 p1 K1 n6 (x3_3 + (1 : Int32)) s0_9) fun K8 =>
  f_X0_takeKeyFrom_L10_12 s1 p1 x3_3 K8 10000 (0 : Int32) s0_4
def f_X0_takeKeyFrom (s0 : BdT) (s1 : BdT) (p1 : Int32) : Option (BdT) :=
  glt (fun (s0_2 : BdT) => some (s0_2)) fun K1 =>
  f_X0_takeKeyFrom_L2_5 s1 p1 K1 10000 (0 : Int32) s0
abbrev rm_X0_takeKeyFrom : Room := { frames := 2, cells := 0, slots := 0, locals := 45 }
set_option maxHeartbeats 4000000 in
set_option maxRecDepth 100000 in
theorem c_X0_takeKeyFrom (l : Launch) (g : GK) (a0 : Nat → Nat) (s0 : BdT) (a1 : Nat → Nat) (s1 : BdT) (p1 : Int32) (res : (BdT)) (hf : f_X0_takeKeyFrom s0 s1 p1 = some res) : gM l yX0_takeKeyFrom cX0_takeKeyFrom 5 none rm_X0_takeKeyFrom g [.ref (a0 0), .ref (a1 0), .int p1] (Bd_c g a0 s0 ++ Bd_c g a1 s1) (fun _ : Unit => none) (fun _ => (Bd_c g a0 res ++ Bd_c g a1 s1)) 0 0 := by
  refine gM_introV RX0 (by decide) rfl (Nat.le_of_ble_eq_true rfl) (fun p e s m args below meth c Q H locs ls A hE hnm hZ hA hP hD hS hq hl => ?_)
  have hl : lv_has ls 5 [(0, .ref (a0 0)), (1, .ref (a1 0)), (2, .int p1)] := hl
  have hx := hE.1
  have hb := hE.2.1
  rw [f_X0_takeKeyFrom] at hf
  refine lv_iconst hx hb dX0_takeKeyFrom_0 kci_0 ?_
  refine lv_istore_n hx hb dX0_takeKeyFrom_1 rfl hl (by decide) (lv' := [(3, .int (0 : Int32)), (0, .ref (a0 0)), (1, .ref (a1 0)), (2, .int p1)]) rfl (fun ls hl => ?_)
  obtain ⟨K1, eK1, hf⟩ := gltd hf
  have kK1 : ∀ (s0_2 : BdT) (ls : Array Slot) (H : Heap) (locs : List Loc), K1 s0_2 = some res → lv_has ls 5 [] → gP g (Bd_c g a0 s0_2 ++ Bd_c g a1 s1) H → va_D A (Bd_c g a0 s0_2 ++ Bd_c g a1 s1) → va_S A s.heap H locs → W p l e rm_X0_takeKeyFrom s m args below meth c H locs 0 0 Q (F0 m 49 ls []) := by
    intro s0_2 ls H locs hf hl hP hD hS
    rw [eK1] at hf
    cases hf
    exact hq () rfl hP hD hS dX0_takeKeyFrom_49
  have lpn6 : ∀ (n6 : Nat) (x3_3 : Int32) (s0_4 : BdT) (ls : Array Slot) (H : Heap) (locs : List Loc), f_X0_takeKeyFrom_L2_5 s1 p1 K1 n6 x3_3 s0_4 = some res → lv_has ls 5 [(0, .ref (a0 0)), (1, .ref (a1 0)), (2, .int p1), (3, .int x3_3)] → gP g (Bd_c g a0 s0_4 ++ Bd_c g a1 s1) H → va_D A (Bd_c g a0 s0_4 ++ Bd_c g a1 s1) → va_S A s.heap H locs → W p l e rm_X0_takeKeyFrom s m args below meth c H locs 0 0 Q (F0 m 2 ls []) := by
    intro n6
    induction n6 with
    | zero => intro x3_3 s0_4 ls H locs hf hl hP hD hS; rw [f_X0_takeKeyFrom_L2_5] at hf; cases hf
    | succ n6 ihn6 =>
      intro x3_3 s0_4 ls H locs hf hl hP hD hS
      rw [f_X0_takeKeyFrom_L2_5] at hf
      refine lv_iload_n hx hb dX0_takeKeyFrom_2 rfl (lv_at hl 3 rfl) ?_
      refine lv_iconst hx hb dX0_takeKeyFrom_3 kci_2 ?_
      refine lv_icmp_ge hx hb dX0_takeKeyFrom_4 (tgt := 49) rfl (fun h7 => ?_) (fun h7 => ?_)
      · have hf := gif_t h7 hf
        exact kK1 s0_4 ls H locs hf (lv_sub hl [] rfl) hP hD hS
      · have hf := gif_f h7 hf
        refine lv_iconst hx hb dX0_takeKeyFrom_7 kci_0 ?_
        refine lv_istore hx hb dX0_takeKeyFrom_8 hl (by decide) (lv' := [(4, .int (0 : Int32)), (0, .ref (a0 0)), (1, .ref (a1 0)), (2, .int p1), (3, .int x3_3)]) rfl (fun ls hl => ?_)
        obtain ⟨K8, eK8, hf⟩ := gltd hf
        have kK8 : ∀ (s0_9 : BdT) (ls : Array Slot) (H : Heap) (locs : List Loc), K8 s0_9 = some res → lv_has ls 5 [(0, .ref (a0 0)), (1, .ref (a1 0)), (2, .int p1), (3, .int x3_3)] → gP g (Bd_c g a0 s0_9 ++ Bd_c g a1 s1) H → va_D A (Bd_c g a0 s0_9 ++ Bd_c g a1 s1) → va_S A s.heap H locs → W p l e rm_X0_takeKeyFrom s m args below meth c H locs 0 0 Q (F0 m 43 ls []) := by
          intro s0_9 ls H locs hf hl hP hD hS
          rw [eK8] at hf
          refine lv_iinc hx hb dX0_takeKeyFrom_43 hl (k := 3) (x := x3_3) rfl (kinc_1 _) (by decide) (lv' := [(3, .int (x3_3 + (1 : Int32))), (0, .ref (a0 0)), (1, .ref (a1 0)), (2, .int p1)]) rfl (fun ls hl => ?_)
          refine lv_goto hx hb dX0_takeKeyFrom_46 (tgt := 2) rfl ?_
          exact ihn6 (x3_3 + (1 : Int32)) s0_9 ls H locs hf (lv_sub hl [1, 2, 3, 0] rfl) hP hD hS
        have lpn13 : ∀ (n13 : Nat) (x4_10 : Int32) (s0_11 : BdT) (ls : Array Slot) (H : Heap) (locs : List Loc), f_X0_takeKeyFrom_L10_12 s1 p1 x3_3 K8 n13 x4_10 s0_11 = some res → lv_has ls 5 [(0, .ref (a0 0)), (1, .ref (a1 0)), (2, .int p1), (3, .int x3_3), (4, .int x4_10)] → gP g (Bd_c g a0 s0_11 ++ Bd_c g a1 s1) H → va_D A (Bd_c g a0 s0_11 ++ Bd_c g a1 s1) → va_S A s.heap H locs → W p l e rm_X0_takeKeyFrom s m args below meth c H locs 0 0 Q (F0 m 10 ls []) := by
          intro n13
          induction n13 with
          | zero => intro x4_10 s0_11 ls H locs hf hl hP hD hS; rw [f_X0_takeKeyFrom_L10_12] at hf; cases hf
          | succ n13 ihn13 =>
            intro x4_10 s0_11 ls H locs hf hl hP hD hS
            rw [f_X0_takeKeyFrom_L10_12] at hf
            refine lv_iload hx hb dX0_takeKeyFrom_10 (lv_at hl 4 rfl) ?_
            refine lv_bipush hx hb dX0_takeKeyFrom_12 kcb_8 ?_
            refine lv_icmp_ge hx hb dX0_takeKeyFrom_14 (tgt := 43) rfl (fun h14 => ?_) (fun h14 => ?_)
            · have hf := gif_t h14 hf
              exact kK8 s0_11 ls H locs hf (lv_sub hl [0, 1, 2, 3] rfl) hP hD hS
            · have hf := gif_f h14 hf
              refine lv_aload_n hx hb dX0_takeKeyFrom_17 rfl (lv_at hl 0 rfl) ?_
              refine g_get hE okX0 fl_X0_9 hP 0 rfl (v := .ref (a0 1)) rfl dX0_takeKeyFrom_18 ?_
              refine lv_iload_n hx hb dX0_takeKeyFrom_21 rfl (lv_at hl 3 rfl) ?_
              refine lv_iload_n hx hb dX0_takeKeyFrom_22 rfl (lv_at hl 2 rfl) ?_
              refine lv_iload hx hb dX0_takeKeyFrom_23 (lv_at hl 4 rfl) ?_
              obtain ⟨r15, hc16, hf⟩ := gbd hf
              refine gr_callS (As := [.int x3_3, .int p1, .int x4_10]) (rest := [.ref (a0 1)]) (st1 := [.int r15, .ref (a0 1)]) hE hl.1 ml_X0_32 (c_X0_netPlace l g x3_3 p1 x4_10 r15 hc16) hZ hS hP [] rfl rfl rfl rfl ⟨rfl, rfl⟩ ⟨Nat.le_of_ble_eq_true rfl, Nat.le_of_ble_eq_true rfl⟩ ⟨Nat.le_refl _, Nat.le_refl _⟩ (Nat.le_of_ble_eq_true rfl) dX0_takeKeyFrom_25 ?_
              refine lv_aload_n hx hb dX0_takeKeyFrom_28 rfl (lv_at hl 1 rfl) ?_
              refine lv_iload_n hx hb dX0_takeKeyFrom_29 rfl (lv_at hl 3 rfl) ?_
              refine lv_iload_n hx hb dX0_takeKeyFrom_30 rfl (lv_at hl 2 rfl) ?_
              refine lv_iload hx hb dX0_takeKeyFrom_31 (lv_at hl 4 rfl) ?_
              obtain ⟨r17, hc18, hf⟩ := gbd hf
              refine gr_callV (As := [.int x3_3, .int p1, .int x4_10]) (rest := [.int r15, .ref (a0 1)]) (st1 := [.int r17, .int r15, .ref (a0 1)]) hE hl.1 ml_X0_67 (c_X0_netOf l g a1 s1 x3_3 p1 x4_10 r17 hc18) hZ hS hP [(9, 9)] rfl okX0 rfl rfl rfl rfl ⟨rfl, rfl⟩ ⟨Nat.le_of_ble_eq_true rfl, Nat.le_of_ble_eq_true rfl⟩ ⟨Nat.le_refl _, Nat.le_refl _⟩ (Nat.le_of_ble_eq_true rfl) dX0_takeKeyFrom_33 ?_
              obtain ⟨hg19, hf⟩ := ggd hf
              refine g_iast hE hP hD hS 1 (f := (Bd_nets s0_11)) rfl hg19 (Bd_c g a0 (Bd_w_nets s0_11 (upd (Bd_nets s0_11) (ix r15) r17)) ++ Bd_c g a1 s1) rfl dX0_takeKeyFrom_36 (fun H locs hP hD hS => ?_)
              refine lv_iinc hx hb dX0_takeKeyFrom_37 hl (k := 4) (x := x4_10) rfl (kinc_1 _) (by decide) (lv' := [(4, .int (x4_10 + (1 : Int32))), (0, .ref (a0 0)), (1, .ref (a1 0)), (2, .int p1), (3, .int x3_3)]) rfl (fun ls hl => ?_)
              refine lv_goto hx hb dX0_takeKeyFrom_40 (tgt := 10) rfl ?_
              exact ihn13 (x4_10 + (1 : Int32)) (Bd_w_nets s0_11 (upd (Bd_nets s0_11) (ix r15) r17)) ls H locs hf (lv_sub hl [1, 2, 3, 4, 0] rfl) hP hD hS
        exact lpn13 10000 (0 : Int32) s0_4 ls H locs hf (lv_sub hl [1, 2, 3, 4, 0] rfl) hP hD hS
  exact lpn6 10000 (0 : Int32) s0 ls H locs hf (lv_sub hl [1, 2, 3, 0] rfl) hP hD hS
theorem dX0_copyFrom_0 : decode cX0_copyFrom 0 = .ok (.aload_n 1, 1) := by decide +kernel
theorem dX0_copyFrom_1 : decode cX0_copyFrom 1 = .ok (.getfield 9, 3) := by decide +kernel
theorem dX0_copyFrom_4 : decode cX0_copyFrom 4 = .ok (.iconst 0, 1) := by decide +kernel
theorem dX0_copyFrom_5 : decode cX0_copyFrom 5 = .ok (.aload_n 0, 1) := by decide +kernel
theorem dX0_copyFrom_6 : decode cX0_copyFrom 6 = .ok (.getfield 9, 3) := by decide +kernel
theorem dX0_copyFrom_9 : decode cX0_copyFrom 9 = .ok (.iconst 0, 1) := by decide +kernel
theorem dX0_copyFrom_10 : decode cX0_copyFrom 10 = .ok (.aload_n 0, 1) := by decide +kernel
theorem dX0_copyFrom_11 : decode cX0_copyFrom 11 = .ok (.getfield 9, 3) := by decide +kernel
theorem dX0_copyFrom_14 : decode cX0_copyFrom 14 = .ok (.arraylength, 1) := by decide +kernel
theorem dX0_copyFrom_15 : decode cX0_copyFrom 15 = .ok (.invokestatic 79, 3) := by decide +kernel
theorem dX0_copyFrom_18 : decode cX0_copyFrom 18 = .ok (.aload_n 1, 1) := by decide +kernel
theorem dX0_copyFrom_19 : decode cX0_copyFrom 19 = .ok (.getfield 15, 3) := by decide +kernel
theorem dX0_copyFrom_22 : decode cX0_copyFrom 22 = .ok (.iconst 0, 1) := by decide +kernel
theorem dX0_copyFrom_23 : decode cX0_copyFrom 23 = .ok (.aload_n 0, 1) := by decide +kernel
theorem dX0_copyFrom_24 : decode cX0_copyFrom 24 = .ok (.getfield 15, 3) := by decide +kernel
theorem dX0_copyFrom_27 : decode cX0_copyFrom 27 = .ok (.iconst 0, 1) := by decide +kernel
theorem dX0_copyFrom_28 : decode cX0_copyFrom 28 = .ok (.sipush 648, 3) := by decide +kernel
theorem dX0_copyFrom_31 : decode cX0_copyFrom 31 = .ok (.invokestatic 79, 3) := by decide +kernel
theorem dX0_copyFrom_34 : decode cX0_copyFrom 34 = .ok (.aload_n 1, 1) := by decide +kernel
theorem dX0_copyFrom_35 : decode cX0_copyFrom 35 = .ok (.getfield 18, 3) := by decide +kernel
theorem dX0_copyFrom_38 : decode cX0_copyFrom 38 = .ok (.iconst 0, 1) := by decide +kernel
theorem dX0_copyFrom_39 : decode cX0_copyFrom 39 = .ok (.aload_n 0, 1) := by decide +kernel
theorem dX0_copyFrom_40 : decode cX0_copyFrom 40 = .ok (.getfield 18, 3) := by decide +kernel
theorem dX0_copyFrom_43 : decode cX0_copyFrom 43 = .ok (.iconst 0, 1) := by decide +kernel
theorem dX0_copyFrom_44 : decode cX0_copyFrom 44 = .ok (.aload_n 0, 1) := by decide +kernel
theorem dX0_copyFrom_45 : decode cX0_copyFrom 45 = .ok (.getfield 18, 3) := by decide +kernel
theorem dX0_copyFrom_48 : decode cX0_copyFrom 48 = .ok (.arraylength, 1) := by decide +kernel
theorem dX0_copyFrom_49 : decode cX0_copyFrom 49 = .ok (.invokestatic 79, 3) := by decide +kernel
theorem dX0_copyFrom_52 : decode cX0_copyFrom 52 = .ok (.aload_n 0, 1) := by decide +kernel
theorem dX0_copyFrom_53 : decode cX0_copyFrom 53 = .ok (.getfield 24, 3) := by decide +kernel
theorem dX0_copyFrom_56 : decode cX0_copyFrom 56 = .ok (.aload_n 1, 1) := by decide +kernel
theorem dX0_copyFrom_57 : decode cX0_copyFrom 57 = .ok (.getfield 24, 3) := by decide +kernel
theorem dX0_copyFrom_60 : decode cX0_copyFrom 60 = .ok (.invokevirtual 85, 3) := by decide +kernel
theorem dX0_copyFrom_63 : decode cX0_copyFrom 63 = .ok (.aload_n 0, 1) := by decide +kernel
theorem dX0_copyFrom_64 : decode cX0_copyFrom 64 = .ok (.aload_n 1, 1) := by decide +kernel
theorem dX0_copyFrom_65 : decode cX0_copyFrom 65 = .ok (.getfield 28, 3) := by decide +kernel
theorem dX0_copyFrom_68 : decode cX0_copyFrom 68 = .ok (.putfield 28, 3) := by decide +kernel
theorem dX0_copyFrom_71 : decode cX0_copyFrom 71 = .ok (.return_, 1) := by decide +kernel
def f_X0_copyFrom (s0 : BdT) (s1 : BdT) : Option (BdT) :=
  if cpok (0 : Int32) (0 : Int32) (128 : Int32) 128 128 then if cpok (0 : Int32) (0 : Int32) (648 : Int32) 648 648 then if cpok (0 : Int32) (0 : Int32) (16 : Int32) 16 16 then (f_X2_copyFrom (Bd_ledger s0) (Bd_ledger s1)).bind fun r4 =>
  some ((Bd_w_how (Bd_w_ledger (Bd_w_turns (Bd_w_sums (Bd_w_nets s0 (va_cpy (Bd_nets s1) (Bd_nets s0) (ix (0 : Int32)) (ix (0 : Int32)) (ix (128 : Int32)))) (va_cpy (Bd_sums s1) (Bd_sums s0) (ix (0 : Int32)) (ix (0 : Int32)) (ix (648 : Int32)))) (va_cpy (Bd_turns s1) (Bd_turns s0) (ix (0 : Int32)) (ix (0 : Int32)) (ix (16 : Int32)))) r4) (Bd_how s1))) else none else none else none
abbrev rm_X0_copyFrom : Room := { frames := 2, cells := 0, slots := 0, locals := 61 }
set_option maxHeartbeats 4000000 in
set_option maxRecDepth 100000 in
theorem c_X0_copyFrom (l : Launch) (g : GK) (a0 : Nat → Nat) (s0 : BdT) (a1 : Nat → Nat) (s1 : BdT) (res : (BdT)) (hf : f_X0_copyFrom s0 s1 = some res) : gM l yX0_copyFrom cX0_copyFrom 2 none rm_X0_copyFrom g [.ref (a0 0), .ref (a1 0)] (Bd_c g a0 s0 ++ Bd_c g a1 s1) (fun _ : Unit => none) (fun _ => (Bd_c g a0 res ++ Bd_c g a1 s1)) 0 0 := by
  refine gM_introV RX0 (by decide) rfl (Nat.le_of_ble_eq_true rfl) (fun p e s m args below meth c Q H locs ls A hE hnm hZ hA hP hD hS hq hl => ?_)
  have hl : lv_has ls 2 [(0, .ref (a0 0)), (1, .ref (a1 0))] := hl
  have hx := hE.1
  have hb := hE.2.1
  rw [f_X0_copyFrom] at hf
  refine lv_aload_n hx hb dX0_copyFrom_0 rfl (lv_at hl 1 rfl) ?_
  refine g_get hE okX0 fl_X0_9 hP 9 rfl (v := .ref (a1 1)) rfl dX0_copyFrom_1 ?_
  refine lv_iconst hx hb dX0_copyFrom_4 kci_0 ?_
  refine lv_aload_n hx hb dX0_copyFrom_5 rfl (lv_at hl 0 rfl) ?_
  refine g_get hE okX0 fl_X0_9 hP 0 rfl (v := .ref (a0 1)) rfl dX0_copyFrom_6 ?_
  refine lv_iconst hx hb dX0_copyFrom_9 kci_0 ?_
  refine lv_aload_n hx hb dX0_copyFrom_10 rfl (lv_at hl 0 rfl) ?_
  refine g_get hE okX0 fl_X0_9 hP 0 rfl (v := .ref (a0 1)) rfl dX0_copyFrom_11 ?_
  refine g_alen hE hP 1 0 rfl rfl (v := (128 : Int32)) rfl dX0_copyFrom_14 ?_
  obtain ⟨hg1, hf⟩ := ggd hf
  refine g_copyi hE hl.1 km_X0_79 hP hD hS 10 1 (f := (Bd_nets s1)) (f2 := (Bd_nets s0)) rfl rfl hg1 (Nat.le_of_ble_eq_true rfl) (rest := []) (Nat.le_of_ble_eq_true rfl) (Bd_c g a0 (Bd_w_nets s0 (va_cpy (Bd_nets s1) (Bd_nets s0) (ix (0 : Int32)) (ix (0 : Int32)) (ix (128 : Int32)))) ++ Bd_c g a1 s1) rfl dX0_copyFrom_15 (fun H locs hP hD hS => ?_)
  refine lv_aload_n hx hb dX0_copyFrom_18 rfl (lv_at hl 1 rfl) ?_
  refine g_get hE okX0 fl_X0_15 hP 9 rfl (v := .ref (a1 2)) rfl dX0_copyFrom_19 ?_
  refine lv_iconst hx hb dX0_copyFrom_22 kci_0 ?_
  refine lv_aload_n hx hb dX0_copyFrom_23 rfl (lv_at hl 0 rfl) ?_
  refine g_get hE okX0 fl_X0_15 hP 0 rfl (v := .ref (a0 2)) rfl dX0_copyFrom_24 ?_
  refine lv_iconst hx hb dX0_copyFrom_27 kci_0 ?_
  refine lv_sipush hx hb dX0_copyFrom_28 kcs_648 ?_
  obtain ⟨hg2, hf⟩ := ggd hf
  refine g_copyi hE hl.1 km_X0_79 hP hD hS 11 2 (f := (Bd_sums s1)) (f2 := (Bd_sums s0)) rfl rfl hg2 (Nat.le_of_ble_eq_true rfl) (rest := []) (Nat.le_of_ble_eq_true rfl) (Bd_c g a0 (Bd_w_sums (Bd_w_nets s0 (va_cpy (Bd_nets s1) (Bd_nets s0) (ix (0 : Int32)) (ix (0 : Int32)) (ix (128 : Int32)))) (va_cpy (Bd_sums s1) (Bd_sums s0) (ix (0 : Int32)) (ix (0 : Int32)) (ix (648 : Int32)))) ++ Bd_c g a1 s1) rfl dX0_copyFrom_31 (fun H locs hP hD hS => ?_)
  refine lv_aload_n hx hb dX0_copyFrom_34 rfl (lv_at hl 1 rfl) ?_
  refine g_get hE okX0 fl_X0_18 hP 9 rfl (v := .ref (a1 3)) rfl dX0_copyFrom_35 ?_
  refine lv_iconst hx hb dX0_copyFrom_38 kci_0 ?_
  refine lv_aload_n hx hb dX0_copyFrom_39 rfl (lv_at hl 0 rfl) ?_
  refine g_get hE okX0 fl_X0_18 hP 0 rfl (v := .ref (a0 3)) rfl dX0_copyFrom_40 ?_
  refine lv_iconst hx hb dX0_copyFrom_43 kci_0 ?_
  refine lv_aload_n hx hb dX0_copyFrom_44 rfl (lv_at hl 0 rfl) ?_
  refine g_get hE okX0 fl_X0_18 hP 0 rfl (v := .ref (a0 3)) rfl dX0_copyFrom_45 ?_
  refine g_alen hE hP 3 0 rfl rfl (v := (16 : Int32)) rfl dX0_copyFrom_48 ?_
  obtain ⟨hg3, hf⟩ := ggd hf
  refine g_copyi hE hl.1 km_X0_79 hP hD hS 12 3 (f := (Bd_turns s1)) (f2 := (Bd_turns s0)) rfl rfl hg3 (Nat.le_of_ble_eq_true rfl) (rest := []) (Nat.le_of_ble_eq_true rfl) (Bd_c g a0 (Bd_w_turns (Bd_w_sums (Bd_w_nets s0 (va_cpy (Bd_nets s1) (Bd_nets s0) (ix (0 : Int32)) (ix (0 : Int32)) (ix (128 : Int32)))) (va_cpy (Bd_sums s1) (Bd_sums s0) (ix (0 : Int32)) (ix (0 : Int32)) (ix (648 : Int32)))) (va_cpy (Bd_turns s1) (Bd_turns s0) (ix (0 : Int32)) (ix (0 : Int32)) (ix (16 : Int32)))) ++ Bd_c g a1 s1) rfl dX0_copyFrom_49 (fun H locs hP hD hS => ?_)
  refine lv_aload_n hx hb dX0_copyFrom_52 rfl (lv_at hl 0 rfl) ?_
  refine g_get hE okX0 fl_X0_24 hP 0 rfl (v := .ref (a0 4)) rfl dX0_copyFrom_53 ?_
  refine lv_aload_n hx hb dX0_copyFrom_56 rfl (lv_at hl 1 rfl) ?_
  refine g_get hE okX0 fl_X0_24 hP 9 rfl (v := .ref (a1 4)) rfl dX0_copyFrom_57 ?_
  obtain ⟨r4, hc5, hf⟩ := gbd hf
  refine gm_callV2 (As := [.ref (a1 4)]) (rest := []) (st1 := fun _ => []) (ws' := fun _ => (Bd_c g a0 (Bd_w_ledger (Bd_w_turns (Bd_w_sums (Bd_w_nets s0 (va_cpy (Bd_nets s1) (Bd_nets s0) (ix (0 : Int32)) (ix (0 : Int32)) (ix (128 : Int32)))) (va_cpy (Bd_sums s1) (Bd_sums s0) (ix (0 : Int32)) (ix (0 : Int32)) (ix (648 : Int32)))) (va_cpy (Bd_turns s1) (Bd_turns s0) (ix (0 : Int32)) (ix (0 : Int32)) (ix (16 : Int32)))) r4) ++ Bd_c g a1 s1)) hE hl.1 ml_X0_85 (c_X2_copyFrom l g (fun k => a0 (k + 4)) (Bd_ledger s0) (fun k => a1 (k + 4)) (Bd_ledger s1) r4 hc5) hZ hP hD hS hA 4 9 4 18 rfl (fun _ => rfl) okX2 rfl rfl rfl (fun _ => rfl) ⟨rfl, rfl⟩ ⟨Nat.le_of_ble_eq_true rfl, Nat.le_of_ble_eq_true rfl⟩ ⟨Nat.le_refl _, Nat.le_refl _⟩ (Nat.le_of_ble_eq_true rfl) dX0_copyFrom_60 (fun _ H locs hP hD hS => ?_)
  refine lv_aload_n hx hb dX0_copyFrom_63 rfl (lv_at hl 0 rfl) ?_
  refine lv_aload_n hx hb dX0_copyFrom_64 rfl (lv_at hl 1 rfl) ?_
  refine g_get hE okX0 fl_X0_28 hP 9 rfl (v := .int (Bd_how s1)) rfl dX0_copyFrom_65 ?_
  refine g_put hE okX0 fl_X0_28 hP hD hS 0 rfl rfl rfl rfl (Nat.le_of_ble_eq_true rfl) (Bd_c g a0 (Bd_w_how (Bd_w_ledger (Bd_w_turns (Bd_w_sums (Bd_w_nets s0 (va_cpy (Bd_nets s1) (Bd_nets s0) (ix (0 : Int32)) (ix (0 : Int32)) (ix (128 : Int32)))) (va_cpy (Bd_sums s1) (Bd_sums s0) (ix (0 : Int32)) (ix (0 : Int32)) (ix (648 : Int32)))) (va_cpy (Bd_turns s1) (Bd_turns s0) (ix (0 : Int32)) (ix (0 : Int32)) (ix (16 : Int32)))) r4) (Bd_how s1)) ++ Bd_c g a1 s1) rfl dX0_copyFrom_68 (fun H locs hP hD hS => ?_)
  cases hf
  exact hq () rfl hP hD hS dX0_copyFrom_71
