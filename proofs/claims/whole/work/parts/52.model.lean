theorem kcb_11 : (Int8.ofInt (11)).toInt32 = (11 : Int32) := by decide
theorem kcb_12 : (Int8.ofInt (12)).toInt32 = (12 : Int32) := by decide
theorem kcb_13 : (Int8.ofInt (13)).toInt32 = (13 : Int32) := by decide
theorem kcb_14 : (Int8.ofInt (14)).toInt32 = (14 : Int32) := by decide
theorem kcb_15 : (Int8.ofInt (15)).toInt32 = (15 : Int32) := by decide
theorem kcb_6 : (Int8.ofInt (6)).toInt32 = (6 : Int32) := by decide
theorem kcb_7 : (Int8.ofInt (7)).toInt32 = (7 : Int32) := by decide
theorem kcs_1123 : (Int16.ofInt (1123)).toInt32 = (1123 : Int32) := by decide
theorem kcs_1363 : (Int16.ofInt (1363)).toInt32 = (1363 : Int32) := by decide
theorem kcs_151 : (Int16.ofInt (151)).toInt32 = (151 : Int32) := by decide
theorem kcs_159 : (Int16.ofInt (159)).toInt32 = (159 : Int32) := by decide
theorem kcs_167 : (Int16.ofInt (167)).toInt32 = (167 : Int32) := by decide
theorem kcs_175 : (Int16.ofInt (175)).toInt32 = (175 : Int32) := by decide
theorem kcs_823 : (Int16.ofInt (823)).toInt32 = (823 : Int32) := by decide
theorem kne_4 : ¬ (4 : Int32) = 0 := by decide
theorem dX9_closedAt_0 : decode cX9_closedAt 0 = .ok (.sipush 175, 3) := by decide +kernel
theorem dX9_closedAt_3 : decode cX9_closedAt 3 = .ok (.iload_n 0, 1) := by decide +kernel
theorem dX9_closedAt_4 : decode cX9_closedAt 4 = .ok (.bipush 9, 2) := by decide +kernel
theorem dX9_closedAt_6 : decode cX9_closedAt 6 = .ok (.imul, 1) := by decide +kernel
theorem dX9_closedAt_7 : decode cX9_closedAt 7 = .ok (.iload_n 1, 1) := by decide +kernel
theorem dX9_closedAt_8 : decode cX9_closedAt 8 = .ok (.iadd, 1) := by decide +kernel
theorem dX9_closedAt_9 : decode cX9_closedAt 9 = .ok (.bipush 9, 2) := by decide +kernel
theorem dX9_closedAt_11 : decode cX9_closedAt 11 = .ok (.imul, 1) := by decide +kernel
theorem dX9_closedAt_12 : decode cX9_closedAt 12 = .ok (.iadd, 1) := by decide +kernel
theorem dX9_closedAt_13 : decode cX9_closedAt 13 = .ok (.iload_n 2, 1) := by decide +kernel
theorem dX9_closedAt_14 : decode cX9_closedAt 14 = .ok (.iadd, 1) := by decide +kernel
theorem dX9_closedAt_15 : decode cX9_closedAt 15 = .ok (.ireturn, 1) := by decide +kernel
def f_X9_closedAt (p1 : Int32) (p2 : Int32) (p3 : Int32) : Option (Int32) :=
  some ((((175 : Int32) + (((p1 * (9 : Int32)) + p2) * (9 : Int32))) + p3))
abbrev rm_X9_closedAt : Room := { frames := 0, cells := 0, slots := 0, locals := 0 }
set_option maxHeartbeats 4000000 in
set_option maxRecDepth 100000 in
theorem c_X9_closedAt (l : Launch) (g : GK) (p1 : Int32) (p2 : Int32) (p3 : Int32) (res : (Int32)) (hf : f_X9_closedAt p1 p2 p3 = some res) : gR l yX9_closedAt cX9_closedAt 3 (some .int) rm_X9_closedAt g [.int p1, .int p2, .int p3] [] (some (.int res)) := by
  refine gR_introI RX9 (by decide) rfl (Nat.le_of_ble_eq_true rfl) (fun p e s m args below meth c Q H locs ls hE hP hZ hS hq hl => ?_)
  have hl : lv_has ls 3 [(0, .int p1), (1, .int p2), (2, .int p3)] := hl
  have hx := hE.1
  have hb := hE.2.1
  rw [f_X9_closedAt] at hf
  refine lv_sipush hx hb dX9_closedAt_0 kcs_175 ?_
  refine lv_iload_n hx hb dX9_closedAt_3 rfl (lv_at hl 0 rfl) ?_
  refine lv_bipush hx hb dX9_closedAt_4 kcb_9 ?_
  refine lv_imul hx hb dX9_closedAt_6 ?_
  refine lv_iload_n hx hb dX9_closedAt_7 rfl (lv_at hl 1 rfl) ?_
  refine lv_iadd hx hb dX9_closedAt_8 ?_
  refine lv_bipush hx hb dX9_closedAt_9 kcb_9 ?_
  refine lv_imul hx hb dX9_closedAt_11 ?_
  refine lv_iadd hx hb dX9_closedAt_12 ?_
  refine lv_iload_n hx hb dX9_closedAt_13 rfl (lv_at hl 2 rfl) ?_
  refine lv_iadd hx hb dX9_closedAt_14 ?_
  cases hf
  exact hq rfl dX9_closedAt_15
theorem dX9_netAt_0 : decode cX9_netAt 0 = .ok (.bipush 15, 2) := by decide +kernel
theorem dX9_netAt_2 : decode cX9_netAt 2 = .ok (.bipush 64, 2) := by decide +kernel
theorem dX9_netAt_4 : decode cX9_netAt 4 = .ok (.iload_n 0, 1) := by decide +kernel
theorem dX9_netAt_5 : decode cX9_netAt 5 = .ok (.imul, 1) := by decide +kernel
theorem dX9_netAt_6 : decode cX9_netAt 6 = .ok (.iadd, 1) := by decide +kernel
theorem dX9_netAt_7 : decode cX9_netAt 7 = .ok (.bipush 8, 2) := by decide +kernel
theorem dX9_netAt_9 : decode cX9_netAt 9 = .ok (.iload_n 1, 1) := by decide +kernel
theorem dX9_netAt_10 : decode cX9_netAt 10 = .ok (.imul, 1) := by decide +kernel
theorem dX9_netAt_11 : decode cX9_netAt 11 = .ok (.iadd, 1) := by decide +kernel
theorem dX9_netAt_12 : decode cX9_netAt 12 = .ok (.iload_n 2, 1) := by decide +kernel
theorem dX9_netAt_13 : decode cX9_netAt 13 = .ok (.iadd, 1) := by decide +kernel
theorem dX9_netAt_14 : decode cX9_netAt 14 = .ok (.ireturn, 1) := by decide +kernel
def f_X9_netAt (p1 : Int32) (p2 : Int32) (p3 : Int32) : Option (Int32) :=
  some (((((15 : Int32) + ((64 : Int32) * p1)) + ((8 : Int32) * p2)) + p3))
abbrev rm_X9_netAt : Room := { frames := 0, cells := 0, slots := 0, locals := 0 }
set_option maxHeartbeats 4000000 in
set_option maxRecDepth 100000 in
theorem c_X9_netAt (l : Launch) (g : GK) (p1 : Int32) (p2 : Int32) (p3 : Int32) (res : (Int32)) (hf : f_X9_netAt p1 p2 p3 = some res) : gR l yX9_netAt cX9_netAt 3 (some .int) rm_X9_netAt g [.int p1, .int p2, .int p3] [] (some (.int res)) := by
  refine gR_introI RX9 (by decide) rfl (Nat.le_of_ble_eq_true rfl) (fun p e s m args below meth c Q H locs ls hE hP hZ hS hq hl => ?_)
  have hl : lv_has ls 3 [(0, .int p1), (1, .int p2), (2, .int p3)] := hl
  have hx := hE.1
  have hb := hE.2.1
  rw [f_X9_netAt] at hf
  refine lv_bipush hx hb dX9_netAt_0 kcb_15 ?_
  refine lv_bipush hx hb dX9_netAt_2 kcb_64 ?_
  refine lv_iload_n hx hb dX9_netAt_4 rfl (lv_at hl 0 rfl) ?_
  refine lv_imul hx hb dX9_netAt_5 ?_
  refine lv_iadd hx hb dX9_netAt_6 ?_
  refine lv_bipush hx hb dX9_netAt_7 kcb_8 ?_
  refine lv_iload_n hx hb dX9_netAt_9 rfl (lv_at hl 1 rfl) ?_
  refine lv_imul hx hb dX9_netAt_10 ?_
  refine lv_iadd hx hb dX9_netAt_11 ?_
  refine lv_iload_n hx hb dX9_netAt_12 rfl (lv_at hl 2 rfl) ?_
  refine lv_iadd hx hb dX9_netAt_13 ?_
  cases hf
  exact hq rfl dX9_netAt_14
theorem dX9_thereOf_0 : decode cX9_thereOf 0 = .ok (.aload_n 0, 1) := by decide +kernel
theorem dX9_thereOf_1 : decode cX9_thereOf 1 = .ok (.iload_n 1, 1) := by decide +kernel
theorem dX9_thereOf_2 : decode cX9_thereOf 2 = .ok (.iload_n 2, 1) := by decide +kernel
theorem dX9_thereOf_3 : decode cX9_thereOf 3 = .ok (.iload_n 3, 1) := by decide +kernel
theorem dX9_thereOf_4 : decode cX9_thereOf 4 = .ok (.iload 4, 2) := by decide +kernel
theorem dX9_thereOf_6 : decode cX9_thereOf 6 = .ok (.invokestatic 233, 3) := by decide +kernel
theorem dX9_thereOf_9 : decode cX9_thereOf 9 = .ok (.invokevirtual 200, 3) := by decide +kernel
theorem dX9_thereOf_12 : decode cX9_thereOf 12 = .ok (.istore 5, 2) := by decide +kernel
theorem dX9_thereOf_14 : decode cX9_thereOf 14 = .ok (.iload 5, 2) := by decide +kernel
theorem dX9_thereOf_16 : decode cX9_thereOf 16 = .ok (.ifCond .ge 7, 3) := by decide +kernel
theorem dX9_thereOf_19 : decode cX9_thereOf 19 = .ok (.iconst 0, 1) := by decide +kernel
theorem dX9_thereOf_20 : decode cX9_thereOf 20 = .ok (.goto 5, 3) := by decide +kernel
theorem dX9_thereOf_23 : decode cX9_thereOf 23 = .ok (.iload 5, 2) := by decide +kernel
theorem dX9_thereOf_25 : decode cX9_thereOf 25 = .ok (.ireturn, 1) := by decide +kernel
def f_X9_thereOf (s0 : MoT) (p1 : Int32) (p2 : Int32) (p3 : Int32) (p4 : Int32) : Option (Int32) :=
  (f_X9_netAt p2 p3 p4).bind fun r1 =>
  (f_X9_get s0 p1 r1).bind fun r3 =>
  if 0 ≤ r3 then some (r3)
  else some ((0 : Int32))
abbrev rm_X9_thereOf : Room := { frames := 1, cells := 0, slots := 0, locals := 22 }
set_option maxHeartbeats 4000000 in
set_option maxRecDepth 100000 in
theorem c_X9_thereOf (l : Launch) (g : GK) (a0 : Nat → Nat) (s0 : MoT) (p1 : Int32) (p2 : Int32) (p3 : Int32) (p4 : Int32) (res : (Int32)) (hf : f_X9_thereOf s0 p1 p2 p3 p4 = some res) : gR l yX9_thereOf cX9_thereOf 6 (some .int) rm_X9_thereOf g [.ref (a0 0), .int p1, .int p2, .int p3, .int p4] (Mo_c g a0 s0) (some (.int res)) := by
  refine gR_introI RX9 (by decide) rfl (Nat.le_of_ble_eq_true rfl) (fun p e s m args below meth c Q H locs ls hE hP hZ hS hq hl => ?_)
  have hl : lv_has ls 6 [(0, .ref (a0 0)), (1, .int p1), (2, .int p2), (3, .int p3), (4, .int p4)] := hl
  have hx := hE.1
  have hb := hE.2.1
  rw [f_X9_thereOf] at hf
  refine lv_aload_n hx hb dX9_thereOf_0 rfl (lv_at hl 0 rfl) ?_
  refine lv_iload_n hx hb dX9_thereOf_1 rfl (lv_at hl 1 rfl) ?_
  refine lv_iload_n hx hb dX9_thereOf_2 rfl (lv_at hl 2 rfl) ?_
  refine lv_iload_n hx hb dX9_thereOf_3 rfl (lv_at hl 3 rfl) ?_
  refine lv_iload hx hb dX9_thereOf_4 (lv_at hl 4 rfl) ?_
  obtain ⟨r1, hc2, hf⟩ := gbd hf
  refine gr_callS (As := [.int p2, .int p3, .int p4]) (rest := [.int p1, .ref (a0 0)]) (st1 := [.int r1, .int p1, .ref (a0 0)]) hE hl.1 ml_X9_233 (c_X9_netAt l g p2 p3 p4 r1 hc2) hZ hS hP [] rfl rfl rfl rfl ⟨rfl, rfl⟩ ⟨Nat.le_of_ble_eq_true rfl, Nat.le_of_ble_eq_true rfl⟩ ⟨Nat.le_refl _, Nat.le_refl _⟩ (Nat.le_of_ble_eq_true rfl) dX9_thereOf_6 ?_
  obtain ⟨r3, hc4, hf⟩ := gbd hf
  refine gr_callV (As := [.int p1, .int r1]) (rest := []) (st1 := [.int r3]) hE hl.1 ml_X9_200 (c_X9_get l g a0 s0 p1 r1 r3 hc4) hZ hS hP [(0, 14)] rfl okX9 rfl rfl rfl rfl ⟨rfl, rfl⟩ ⟨Nat.le_of_ble_eq_true rfl, Nat.le_of_ble_eq_true rfl⟩ ⟨Nat.le_refl _, Nat.le_refl _⟩ (Nat.le_of_ble_eq_true rfl) dX9_thereOf_9 ?_
  refine lv_istore hx hb dX9_thereOf_12 hl (by decide) (lv' := [(5, .int r3), (0, .ref (a0 0)), (1, .int p1), (2, .int p2), (3, .int p3), (4, .int p4)]) rfl (fun ls hl => ?_)
  refine lv_iload hx hb dX9_thereOf_14 (lv_at hl 0 rfl) ?_
  refine lv_if_ge hx hb dX9_thereOf_16 (tgt := 23) rfl (fun h5 => ?_) (fun h5 => ?_)
  · have hf := gif_t h5 hf
    refine lv_iload hx hb dX9_thereOf_23 (lv_at hl 0 rfl) ?_
    cases hf
    exact hq rfl dX9_thereOf_25
  · have hf := gif_f h5 hf
    refine lv_iconst hx hb dX9_thereOf_19 kci_0 ?_
    refine lv_goto hx hb dX9_thereOf_20 (tgt := 25) rfl ?_
    cases hf
    exact hq rfl dX9_thereOf_25
theorem dX9_isOuter_0 : decode cX9_isOuter 0 = .ok (.iload_n 0, 1) := by decide +kernel
theorem dX9_isOuter_1 : decode cX9_isOuter 1 = .ok (.iconst 3, 1) := by decide +kernel
theorem dX9_isOuter_2 : decode cX9_isOuter 2 = .ok (.if_icmp .eq 16, 3) := by decide +kernel
theorem dX9_isOuter_5 : decode cX9_isOuter 5 = .ok (.iload_n 0, 1) := by decide +kernel
theorem dX9_isOuter_6 : decode cX9_isOuter 6 = .ok (.iload_n 1, 1) := by decide +kernel
theorem dX9_isOuter_7 : decode cX9_isOuter 7 = .ok (.ifCond .ne 7, 3) := by decide +kernel
theorem dX9_isOuter_10 : decode cX9_isOuter 10 = .ok (.iconst 1, 1) := by decide +kernel
theorem dX9_isOuter_11 : decode cX9_isOuter 11 = .ok (.goto 4, 3) := by decide +kernel
theorem dX9_isOuter_14 : decode cX9_isOuter 14 = .ok (.iconst 2, 1) := by decide +kernel
theorem dX9_isOuter_15 : decode cX9_isOuter 15 = .ok (.if_icmp .ne 7, 3) := by decide +kernel
theorem dX9_isOuter_18 : decode cX9_isOuter 18 = .ok (.iconst 1, 1) := by decide +kernel
theorem dX9_isOuter_19 : decode cX9_isOuter 19 = .ok (.goto 4, 3) := by decide +kernel
theorem dX9_isOuter_22 : decode cX9_isOuter 22 = .ok (.iconst 0, 1) := by decide +kernel
theorem dX9_isOuter_23 : decode cX9_isOuter 23 = .ok (.ireturn, 1) := by decide +kernel
def f_X9_isOuter (p1 : Int32) (p2 : Int32) : Option (Int32) :=
  if p1 = (3 : Int32) then some ((1 : Int32))
  else if p2 = 0 then if p1 = (1 : Int32) then some ((1 : Int32))
  else some ((0 : Int32))
  else if p1 = (2 : Int32) then some ((1 : Int32))
  else some ((0 : Int32))
abbrev rm_X9_isOuter : Room := { frames := 0, cells := 0, slots := 0, locals := 0 }
set_option maxHeartbeats 4000000 in
set_option maxRecDepth 100000 in
theorem c_X9_isOuter (l : Launch) (g : GK) (p1 : Int32) (p2 : Int32) (res : (Int32)) (hf : f_X9_isOuter p1 p2 = some res) : gR l yX9_isOuter cX9_isOuter 2 (some .boolean) rm_X9_isOuter g [.int p1, .int p2] [] (some (.int res)) := by
  refine gR_introZ RX9 (by decide) rfl (Nat.le_of_ble_eq_true rfl) (fun p e s m args below meth c Q H locs ls hE hP hZ hS hq hl => ?_)
  have hl : lv_has ls 2 [(0, .int p1), (1, .int p2)] := hl
  have hx := hE.1
  have hb := hE.2.1
  rw [f_X9_isOuter] at hf
  refine lv_iload_n hx hb dX9_isOuter_0 rfl (lv_at hl 0 rfl) ?_
  refine lv_iconst hx hb dX9_isOuter_1 kci_3 ?_
  refine lv_icmp_eq hx hb dX9_isOuter_2 (tgt := 18) rfl (fun h1 => ?_) (fun h1 => ?_)
  · have hf := gif_t h1 hf
    refine lv_iconst hx hb dX9_isOuter_18 kci_1 ?_
    refine lv_goto hx hb dX9_isOuter_19 (tgt := 23) rfl ?_
    cases hf
    exact hq (by decide) rfl dX9_isOuter_23
  · have hf := gif_f h1 hf
    refine lv_iload_n hx hb dX9_isOuter_5 rfl (lv_at hl 0 rfl) ?_
    refine lv_iload_n hx hb dX9_isOuter_6 rfl (lv_at hl 1 rfl) ?_
    refine lv_if_ne hx hb dX9_isOuter_7 (tgt := 14) rfl (fun h2 => ?_) (fun h2 => ?_)
    · have hf := gif_f h2 hf
      refine lv_iconst hx hb dX9_isOuter_14 kci_2 ?_
      refine lv_icmp_ne hx hb dX9_isOuter_15 (tgt := 22) rfl (fun h3 => ?_) (fun h3 => ?_)
      · have hf := gif_f h3 hf
        refine lv_iconst hx hb dX9_isOuter_22 kci_0 ?_
        cases hf
        exact hq (by decide) rfl dX9_isOuter_23
      · have hf := gif_t h3 hf
        refine lv_iconst hx hb dX9_isOuter_18 kci_1 ?_
        refine lv_goto hx hb dX9_isOuter_19 (tgt := 23) rfl ?_
        cases hf
        exact hq (by decide) rfl dX9_isOuter_23
    · have hf := gif_t h2 hf
      refine lv_iconst hx hb dX9_isOuter_10 kci_1 ?_
      refine lv_goto hx hb dX9_isOuter_11 (tgt := 15) rfl ?_
      refine lv_icmp_ne hx hb dX9_isOuter_15 (tgt := 22) rfl (fun h4 => ?_) (fun h4 => ?_)
      · have hf := gif_f h4 hf
        refine lv_iconst hx hb dX9_isOuter_22 kci_0 ?_
        cases hf
        exact hq (by decide) rfl dX9_isOuter_23
      · have hf := gif_t h4 hf
        refine lv_iconst hx hb dX9_isOuter_18 kci_1 ?_
        refine lv_goto hx hb dX9_isOuter_19 (tgt := 23) rfl ?_
        cases hf
        exact hq (by decide) rfl dX9_isOuter_23
theorem dX9_thereAll_0 : decode cX9_thereAll 0 = .ok (.iconst 0, 1) := by decide +kernel
theorem dX9_thereAll_1 : decode cX9_thereAll 1 = .ok (.istore 4, 2) := by decide +kernel
theorem dX9_thereAll_3 : decode cX9_thereAll 3 = .ok (.iconst 0, 1) := by decide +kernel
theorem dX9_thereAll_4 : decode cX9_thereAll 4 = .ok (.istore 5, 2) := by decide +kernel
theorem dX9_thereAll_6 : decode cX9_thereAll 6 = .ok (.iload 5, 2) := by decide +kernel
theorem dX9_thereAll_8 : decode cX9_thereAll 8 = .ok (.bipush 8, 2) := by decide +kernel
theorem dX9_thereAll_10 : decode cX9_thereAll 10 = .ok (.if_icmp .ge 23, 3) := by decide +kernel
theorem dX9_thereAll_13 : decode cX9_thereAll 13 = .ok (.iload 4, 2) := by decide +kernel
theorem dX9_thereAll_15 : decode cX9_thereAll 15 = .ok (.aload_n 0, 1) := by decide +kernel
theorem dX9_thereAll_16 : decode cX9_thereAll 16 = .ok (.iload_n 1, 1) := by decide +kernel
theorem dX9_thereAll_17 : decode cX9_thereAll 17 = .ok (.iload_n 2, 1) := by decide +kernel
theorem dX9_thereAll_18 : decode cX9_thereAll 18 = .ok (.iload_n 3, 1) := by decide +kernel
theorem dX9_thereAll_19 : decode cX9_thereAll 19 = .ok (.iload 5, 2) := by decide +kernel
theorem dX9_thereAll_21 : decode cX9_thereAll 21 = .ok (.invokevirtual 237, 3) := by decide +kernel
theorem dX9_thereAll_24 : decode cX9_thereAll 24 = .ok (.iadd, 1) := by decide +kernel
theorem dX9_thereAll_25 : decode cX9_thereAll 25 = .ok (.istore 4, 2) := by decide +kernel
theorem dX9_thereAll_27 : decode cX9_thereAll 27 = .ok (.iinc 5 1, 3) := by decide +kernel
theorem dX9_thereAll_30 : decode cX9_thereAll 30 = .ok (.goto (-24), 3) := by decide +kernel
theorem dX9_thereAll_33 : decode cX9_thereAll 33 = .ok (.iload 4, 2) := by decide +kernel
theorem dX9_thereAll_35 : decode cX9_thereAll 35 = .ok (.ireturn, 1) := by decide +kernel
def f_X9_thereAll_L6_5 (s0 : MoT) (p1 : Int32) (p2 : Int32) (p3 : Int32) (K1 : (Int32 → Option (Int32))) : Nat → Int32 → Int32 → Option (Int32)
  | 0, _, _ => none
  | n6 + 1, x4_3, x5_4 => if (8 : Int32) ≤ x5_4 then K1 x4_3
  else (f_X9_thereOf s0 p1 p2 p3 x5_4).bind fun r8 =>
  f_X9_thereAll_L6_5 s0 p1 p2 p3 K1 n6 (x4_3 + r8) (x5_4 + (1 : Int32))
def f_X9_thereAll (s0 : MoT) (p1 : Int32) (p2 : Int32) (p3 : Int32) : Option (Int32) :=
  glt (fun (x4_2 : Int32) => some (x4_2)) fun K1 =>
  f_X9_thereAll_L6_5 s0 p1 p2 p3 K1 10000 (0 : Int32) (0 : Int32)
abbrev rm_X9_thereAll : Room := { frames := 2, cells := 0, slots := 0, locals := 47 }
set_option maxHeartbeats 4000000 in
set_option maxRecDepth 100000 in
theorem c_X9_thereAll (l : Launch) (g : GK) (a0 : Nat → Nat) (s0 : MoT) (p1 : Int32) (p2 : Int32) (p3 : Int32) (res : (Int32)) (hf : f_X9_thereAll s0 p1 p2 p3 = some res) : gR l yX9_thereAll cX9_thereAll 6 (some .int) rm_X9_thereAll g [.ref (a0 0), .int p1, .int p2, .int p3] (Mo_c g a0 s0) (some (.int res)) := by
  refine gR_introI RX9 (by decide) rfl (Nat.le_of_ble_eq_true rfl) (fun p e s m args below meth c Q H locs ls hE hP hZ hS hq hl => ?_)
  have hl : lv_has ls 6 [(0, .ref (a0 0)), (1, .int p1), (2, .int p2), (3, .int p3)] := hl
  have hx := hE.1
  have hb := hE.2.1
  rw [f_X9_thereAll] at hf
  refine lv_iconst hx hb dX9_thereAll_0 kci_0 ?_
  refine lv_istore hx hb dX9_thereAll_1 hl (by decide) (lv' := [(4, .int (0 : Int32)), (0, .ref (a0 0)), (1, .int p1), (2, .int p2), (3, .int p3)]) rfl (fun ls hl => ?_)
  refine lv_iconst hx hb dX9_thereAll_3 kci_0 ?_
  refine lv_istore hx hb dX9_thereAll_4 hl (by decide) (lv' := [(5, .int (0 : Int32)), (4, .int (0 : Int32)), (0, .ref (a0 0)), (1, .int p1), (2, .int p2), (3, .int p3)]) rfl (fun ls hl => ?_)
  obtain ⟨K1, eK1, hf⟩ := gltd hf
  have kK1 : ∀ (x4_2 : Int32) (ls : Array Slot), K1 x4_2 = some res → lv_has ls 6 [(4, .int x4_2)] → W p l e rm_X9_thereAll s m args below meth c H locs 0 0 Q (F0 m 33 ls []) := by
    intro x4_2 ls hf hl
    rw [eK1] at hf
    refine lv_iload hx hb dX9_thereAll_33 (lv_at hl 0 rfl) ?_
    cases hf
    exact hq rfl dX9_thereAll_35
  have lpn6 : ∀ (n6 : Nat) (x4_3 : Int32) (x5_4 : Int32) (ls : Array Slot), f_X9_thereAll_L6_5 s0 p1 p2 p3 K1 n6 x4_3 x5_4 = some res → lv_has ls 6 [(0, .ref (a0 0)), (1, .int p1), (2, .int p2), (3, .int p3), (4, .int x4_3), (5, .int x5_4)] → W p l e rm_X9_thereAll s m args below meth c H locs 0 0 Q (F0 m 6 ls []) := by
    intro n6
    induction n6 with
    | zero => intro x4_3 x5_4 ls hf hl; rw [f_X9_thereAll_L6_5] at hf; cases hf
    | succ n6 ihn6 =>
      intro x4_3 x5_4 ls hf hl
      rw [f_X9_thereAll_L6_5] at hf
      refine lv_iload hx hb dX9_thereAll_6 (lv_at hl 5 rfl) ?_
      refine lv_bipush hx hb dX9_thereAll_8 kcb_8 ?_
      refine lv_icmp_ge hx hb dX9_thereAll_10 (tgt := 33) rfl (fun h7 => ?_) (fun h7 => ?_)
      · have hf := gif_t h7 hf
        exact kK1 x4_3 ls hf (lv_sub hl [4] rfl)
      · have hf := gif_f h7 hf
        refine lv_iload hx hb dX9_thereAll_13 (lv_at hl 4 rfl) ?_
        refine lv_aload_n hx hb dX9_thereAll_15 rfl (lv_at hl 0 rfl) ?_
        refine lv_iload_n hx hb dX9_thereAll_16 rfl (lv_at hl 1 rfl) ?_
        refine lv_iload_n hx hb dX9_thereAll_17 rfl (lv_at hl 2 rfl) ?_
        refine lv_iload_n hx hb dX9_thereAll_18 rfl (lv_at hl 3 rfl) ?_
        refine lv_iload hx hb dX9_thereAll_19 (lv_at hl 5 rfl) ?_
        obtain ⟨r8, hc9, hf⟩ := gbd hf
        refine gr_callV (As := [.int p1, .int p2, .int p3, .int x5_4]) (rest := [.int x4_3]) (st1 := [.int r8, .int x4_3]) hE hl.1 ml_X9_237 (c_X9_thereOf l g a0 s0 p1 p2 p3 x5_4 r8 hc9) hZ hS hP [(0, 14)] rfl okX9 rfl rfl rfl rfl ⟨rfl, rfl⟩ ⟨Nat.le_of_ble_eq_true rfl, Nat.le_of_ble_eq_true rfl⟩ ⟨Nat.le_refl _, Nat.le_refl _⟩ (Nat.le_of_ble_eq_true rfl) dX9_thereAll_21 ?_
        refine lv_iadd hx hb dX9_thereAll_24 ?_
        refine lv_istore hx hb dX9_thereAll_25 hl (by decide) (lv' := [(4, .int (x4_3 + r8)), (0, .ref (a0 0)), (1, .int p1), (2, .int p2), (3, .int p3), (5, .int x5_4)]) rfl (fun ls hl => ?_)
        refine lv_iinc hx hb dX9_thereAll_27 hl (k := 5) (x := x5_4) rfl (kinc_1 _) (by decide) (lv' := [(5, .int (x5_4 + (1 : Int32))), (4, .int (x4_3 + r8)), (0, .ref (a0 0)), (1, .int p1), (2, .int p2), (3, .int p3)]) rfl (fun ls hl => ?_)
        refine lv_goto hx hb dX9_thereAll_30 (tgt := 6) rfl ?_
        exact ihn6 (x4_3 + r8) (x5_4 + (1 : Int32)) ls hf (lv_sub hl [2, 3, 4, 5, 1, 0] rfl)
  exact lpn6 10000 (0 : Int32) (0 : Int32) ls hf (lv_sub hl [2, 3, 4, 5, 1, 0] rfl)
theorem dX9_has_0 : decode cX9_has 0 = .ok (.aload_n 0, 1) := by decide +kernel
theorem dX9_has_1 : decode cX9_has 1 = .ok (.iload_n 1, 1) := by decide +kernel
theorem dX9_has_2 : decode cX9_has 2 = .ok (.iload_n 2, 1) := by decide +kernel
theorem dX9_has_3 : decode cX9_has 3 = .ok (.iload_n 3, 1) := by decide +kernel
theorem dX9_has_4 : decode cX9_has 4 = .ok (.invokevirtual 241, 3) := by decide +kernel
theorem dX9_has_7 : decode cX9_has 7 = .ok (.ifCond .le 7, 3) := by decide +kernel
theorem dX9_has_10 : decode cX9_has 10 = .ok (.iconst 1, 1) := by decide +kernel
theorem dX9_has_11 : decode cX9_has 11 = .ok (.goto 4, 3) := by decide +kernel
theorem dX9_has_14 : decode cX9_has 14 = .ok (.iconst 0, 1) := by decide +kernel
theorem dX9_has_15 : decode cX9_has 15 = .ok (.ireturn, 1) := by decide +kernel
def f_X9_has (s0 : MoT) (p1 : Int32) (p2 : Int32) (p3 : Int32) : Option (Int32) :=
  (f_X9_thereAll s0 p1 p2 p3).bind fun r1 =>
  if r1 ≤ 0 then some ((0 : Int32))
  else some ((1 : Int32))
abbrev rm_X9_has : Room := { frames := 3, cells := 0, slots := 0, locals := 72 }
set_option maxHeartbeats 4000000 in
set_option maxRecDepth 100000 in
theorem c_X9_has (l : Launch) (g : GK) (a0 : Nat → Nat) (s0 : MoT) (p1 : Int32) (p2 : Int32) (p3 : Int32) (res : (Int32)) (hf : f_X9_has s0 p1 p2 p3 = some res) : gR l yX9_has cX9_has 4 (some .boolean) rm_X9_has g [.ref (a0 0), .int p1, .int p2, .int p3] (Mo_c g a0 s0) (some (.int res)) := by
  refine gR_introZ RX9 (by decide) rfl (Nat.le_of_ble_eq_true rfl) (fun p e s m args below meth c Q H locs ls hE hP hZ hS hq hl => ?_)
  have hl : lv_has ls 4 [(0, .ref (a0 0)), (1, .int p1), (2, .int p2), (3, .int p3)] := hl
  have hx := hE.1
  have hb := hE.2.1
  rw [f_X9_has] at hf
  refine lv_aload_n hx hb dX9_has_0 rfl (lv_at hl 0 rfl) ?_
  refine lv_iload_n hx hb dX9_has_1 rfl (lv_at hl 1 rfl) ?_
  refine lv_iload_n hx hb dX9_has_2 rfl (lv_at hl 2 rfl) ?_
  refine lv_iload_n hx hb dX9_has_3 rfl (lv_at hl 3 rfl) ?_
  obtain ⟨r1, hc2, hf⟩ := gbd hf
  refine gr_callV (As := [.int p1, .int p2, .int p3]) (rest := []) (st1 := [.int r1]) hE hl.1 ml_X9_241 (c_X9_thereAll l g a0 s0 p1 p2 p3 r1 hc2) hZ hS hP [(0, 14)] rfl okX9 rfl rfl rfl rfl ⟨rfl, rfl⟩ ⟨Nat.le_of_ble_eq_true rfl, Nat.le_of_ble_eq_true rfl⟩ ⟨Nat.le_refl _, Nat.le_refl _⟩ (Nat.le_of_ble_eq_true rfl) dX9_has_4 ?_
  refine lv_if_le hx hb dX9_has_7 (tgt := 14) rfl (fun h3 => ?_) (fun h3 => ?_)
  · have hf := gif_t h3 hf
    refine lv_iconst hx hb dX9_has_14 kci_0 ?_
    cases hf
    exact hq (by decide) rfl dX9_has_15
  · have hf := gif_f h3 hf
    refine lv_iconst hx hb dX9_has_10 kci_1 ?_
    refine lv_goto hx hb dX9_has_11 (tgt := 15) rfl ?_
    cases hf
    exact hq (by decide) rfl dX9_has_15
theorem dX9_joined_0 : decode cX9_joined 0 = .ok (.iload_n 3, 1) := by decide +kernel
theorem dX9_joined_1 : decode cX9_joined 1 = .ok (.bipush 8, 2) := by decide +kernel
theorem dX9_joined_3 : decode cX9_joined 3 = .ok (.if_icmp .ge 29, 3) := by decide +kernel
theorem dX9_joined_6 : decode cX9_joined 6 = .ok (.iload 4, 2) := by decide +kernel
theorem dX9_joined_8 : decode cX9_joined 8 = .ok (.bipush 8, 2) := by decide +kernel
theorem dX9_joined_10 : decode cX9_joined 10 = .ok (.if_icmp .ge 22, 3) := by decide +kernel
theorem dX9_joined_13 : decode cX9_joined 13 = .ok (.aload_n 0, 1) := by decide +kernel
theorem dX9_joined_14 : decode cX9_joined 14 = .ok (.iload_n 1, 1) := by decide +kernel
theorem dX9_joined_15 : decode cX9_joined 15 = .ok (.iconst 0, 1) := by decide +kernel
theorem dX9_joined_16 : decode cX9_joined 16 = .ok (.iload_n 2, 1) := by decide +kernel
theorem dX9_joined_17 : decode cX9_joined 17 = .ok (.iload_n 3, 1) := by decide +kernel
theorem dX9_joined_18 : decode cX9_joined 18 = .ok (.invokevirtual 237, 3) := by decide +kernel
theorem dX9_joined_21 : decode cX9_joined 21 = .ok (.aload_n 0, 1) := by decide +kernel
theorem dX9_joined_22 : decode cX9_joined 22 = .ok (.iload_n 1, 1) := by decide +kernel
theorem dX9_joined_23 : decode cX9_joined 23 = .ok (.iconst 1, 1) := by decide +kernel
theorem dX9_joined_24 : decode cX9_joined 24 = .ok (.iload_n 2, 1) := by decide +kernel
theorem dX9_joined_25 : decode cX9_joined 25 = .ok (.iload 4, 2) := by decide +kernel
theorem dX9_joined_27 : decode cX9_joined 27 = .ok (.invokevirtual 237, 3) := by decide +kernel
theorem dX9_joined_30 : decode cX9_joined 30 = .ok (.imul, 1) := by decide +kernel
theorem dX9_joined_31 : decode cX9_joined 31 = .ok (.ireturn, 1) := by decide +kernel
theorem dX9_joined_32 : decode cX9_joined 32 = .ok (.iload_n 3, 1) := by decide +kernel
theorem dX9_joined_33 : decode cX9_joined 33 = .ok (.bipush 8, 2) := by decide +kernel
theorem dX9_joined_35 : decode cX9_joined 35 = .ok (.if_icmp .ge 7, 3) := by decide +kernel
theorem dX9_joined_38 : decode cX9_joined 38 = .ok (.iconst 0, 1) := by decide +kernel
theorem dX9_joined_39 : decode cX9_joined 39 = .ok (.goto 4, 3) := by decide +kernel
theorem dX9_joined_42 : decode cX9_joined 42 = .ok (.iconst 1, 1) := by decide +kernel
theorem dX9_joined_43 : decode cX9_joined 43 = .ok (.istore 5, 2) := by decide +kernel
theorem dX9_joined_45 : decode cX9_joined 45 = .ok (.aload_n 0, 1) := by decide +kernel
theorem dX9_joined_46 : decode cX9_joined 46 = .ok (.iload_n 1, 1) := by decide +kernel
theorem dX9_joined_47 : decode cX9_joined 47 = .ok (.iconst 0, 1) := by decide +kernel
theorem dX9_joined_48 : decode cX9_joined 48 = .ok (.invokevirtual 200, 3) := by decide +kernel
theorem dX9_joined_51 : decode cX9_joined 51 = .ok (.iload 5, 2) := by decide +kernel
theorem dX9_joined_53 : decode cX9_joined 53 = .ok (.invokestatic 244, 3) := by decide +kernel
theorem dX9_joined_56 : decode cX9_joined 56 = .ok (.ifCond .eq 16, 3) := by decide +kernel
theorem dX9_joined_59 : decode cX9_joined 59 = .ok (.aload_n 0, 1) := by decide +kernel
theorem dX9_joined_60 : decode cX9_joined 60 = .ok (.iload_n 1, 1) := by decide +kernel
theorem dX9_joined_61 : decode cX9_joined 61 = .ok (.iconst 1, 1) := by decide +kernel
theorem dX9_joined_62 : decode cX9_joined 62 = .ok (.iload 5, 2) := by decide +kernel
theorem dX9_joined_64 : decode cX9_joined 64 = .ok (.isub, 1) := by decide +kernel
theorem dX9_joined_65 : decode cX9_joined 65 = .ok (.iload_n 2, 1) := by decide +kernel
theorem dX9_joined_66 : decode cX9_joined 66 = .ok (.invokevirtual 248, 3) := by decide +kernel
theorem dX9_joined_69 : decode cX9_joined 69 = .ok (.ifCond .eq 5, 3) := by decide +kernel
theorem dX9_joined_72 : decode cX9_joined 72 = .ok (.iconst 0, 1) := by decide +kernel
theorem dX9_joined_73 : decode cX9_joined 73 = .ok (.ireturn, 1) := by decide +kernel
theorem dX9_joined_74 : decode cX9_joined 74 = .ok (.aload_n 0, 1) := by decide +kernel
theorem dX9_joined_75 : decode cX9_joined 75 = .ok (.iload_n 1, 1) := by decide +kernel
theorem dX9_joined_76 : decode cX9_joined 76 = .ok (.iload 5, 2) := by decide +kernel
theorem dX9_joined_78 : decode cX9_joined 78 = .ok (.iload_n 2, 1) := by decide +kernel
theorem dX9_joined_79 : decode cX9_joined 79 = .ok (.iload 5, 2) := by decide +kernel
theorem dX9_joined_81 : decode cX9_joined 81 = .ok (.ifCond .ne 7, 3) := by decide +kernel
theorem dX9_joined_84 : decode cX9_joined 84 = .ok (.iload_n 3, 1) := by decide +kernel
theorem dX9_joined_85 : decode cX9_joined 85 = .ok (.goto 5, 3) := by decide +kernel
theorem dX9_joined_88 : decode cX9_joined 88 = .ok (.iload 4, 2) := by decide +kernel
theorem dX9_joined_90 : decode cX9_joined 90 = .ok (.invokevirtual 237, 3) := by decide +kernel
theorem dX9_joined_93 : decode cX9_joined 93 = .ok (.ireturn, 1) := by decide +kernel
def f_X9_joined (s0 : MoT) (p1 : Int32) (p2 : Int32) (p3 : Int32) (p4 : Int32) : Option (Int32) :=
  glt (fun (_ : Unit) => glt (fun (y3 : Int32) => (f_X9_get s0 p1 (0 : Int32)).bind fun r4 =>
  (f_X9_isOuter r4 y3).bind fun r6 =>
  if r6 = 0 then some ((0 : Int32))
  else (f_X9_has s0 p1 ((1 : Int32) - y3) p2).bind fun r9 =>
  if r9 = 0 then if y3 = 0 then (f_X9_thereOf s0 p1 y3 p2 p3).bind fun r15 =>
  some (r15)
  else (f_X9_thereOf s0 p1 y3 p2 p4).bind fun r13 =>
  some (r13)
  else some ((0 : Int32))) fun J2 =>
  if (8 : Int32) ≤ p3 then J2 (1 : Int32)
  else J2 (0 : Int32)) fun J1 =>
  if (8 : Int32) ≤ p3 then J1 ()
  else if (8 : Int32) ≤ p4 then J1 ()
  else (f_X9_thereOf s0 p1 (0 : Int32) p2 p3).bind fun r20 =>
  (f_X9_thereOf s0 p1 (1 : Int32) p2 p4).bind fun r22 =>
  some ((r20 * r22))
abbrev rm_X9_joined : Room := { frames := 4, cells := 0, slots := 0, locals := 95 }
set_option maxHeartbeats 4000000 in
set_option maxRecDepth 100000 in
theorem c_X9_joined (l : Launch) (g : GK) (a0 : Nat → Nat) (s0 : MoT) (p1 : Int32) (p2 : Int32) (p3 : Int32) (p4 : Int32) (res : (Int32)) (hf : f_X9_joined s0 p1 p2 p3 p4 = some res) : gR l yX9_joined cX9_joined 6 (some .int) rm_X9_joined g [.ref (a0 0), .int p1, .int p2, .int p3, .int p4] (Mo_c g a0 s0) (some (.int res)) := by
  refine gR_introI RX9 (by decide) rfl (Nat.le_of_ble_eq_true rfl) (fun p e s m args below meth c Q H locs ls hE hP hZ hS hq hl => ?_)
  have hl : lv_has ls 6 [(0, .ref (a0 0)), (1, .int p1), (2, .int p2), (3, .int p3), (4, .int p4)] := hl
  have hx := hE.1
  have hb := hE.2.1
  rw [f_X9_joined] at hf
  refine lv_iload_n hx hb dX9_joined_0 rfl (lv_at hl 3 rfl) ?_
  refine lv_bipush hx hb dX9_joined_1 kcb_8 ?_
  obtain ⟨J1, eJ1, hf⟩ := gltd hf
  have kJ1 : ∀ (_ : Unit) (ls : Array Slot), J1 () = some res → lv_has ls 6 [(0, .ref (a0 0)), (1, .int p1), (2, .int p2), (3, .int p3), (4, .int p4)] → W p l e rm_X9_joined s m args below meth c H locs 0 0 Q (F0 m 32 ls []) := by
    intro _ ls hf hl
    rw [eJ1] at hf
    refine lv_iload_n hx hb dX9_joined_32 rfl (lv_at hl 3 rfl) ?_
    refine lv_bipush hx hb dX9_joined_33 kcb_8 ?_
    obtain ⟨J2, eJ2, hf⟩ := gltd hf
    have kJ2 : ∀ (y3 : Int32) (ls : Array Slot), J2 y3 = some res → lv_has ls 6 [(0, .ref (a0 0)), (1, .int p1), (2, .int p2), (3, .int p3), (4, .int p4)] → W p l e rm_X9_joined s m args below meth c H locs 0 0 Q (F0 m 43 ls [.int y3]) := by
      intro y3 ls hf hl
      rw [eJ2] at hf
      refine lv_istore hx hb dX9_joined_43 hl (by decide) (lv' := [(5, .int y3), (0, .ref (a0 0)), (1, .int p1), (2, .int p2), (3, .int p3), (4, .int p4)]) rfl (fun ls hl => ?_)
      refine lv_aload_n hx hb dX9_joined_45 rfl (lv_at hl 1 rfl) ?_
      refine lv_iload_n hx hb dX9_joined_46 rfl (lv_at hl 2 rfl) ?_
      refine lv_iconst hx hb dX9_joined_47 kci_0 ?_
      obtain ⟨r4, hc5, hf⟩ := gbd hf
      refine gr_callV (As := [.int p1, .int (0 : Int32)]) (rest := []) (st1 := [.int r4]) hE hl.1 ml_X9_200 (c_X9_get l g a0 s0 p1 (0 : Int32) r4 hc5) hZ hS hP [(0, 14)] rfl okX9 rfl rfl rfl rfl ⟨rfl, rfl⟩ ⟨Nat.le_of_ble_eq_true rfl, Nat.le_of_ble_eq_true rfl⟩ ⟨Nat.le_refl _, Nat.le_refl _⟩ (Nat.le_of_ble_eq_true rfl) dX9_joined_48 ?_
      refine lv_iload hx hb dX9_joined_51 (lv_at hl 0 rfl) ?_
      obtain ⟨r6, hc7, hf⟩ := gbd hf
      refine gr_callS (As := [.int r4, .int y3]) (rest := []) (st1 := [.int r6]) hE hl.1 ml_X9_244 (c_X9_isOuter l g r4 y3 r6 hc7) hZ hS hP [] rfl rfl rfl rfl ⟨rfl, rfl⟩ ⟨Nat.le_of_ble_eq_true rfl, Nat.le_of_ble_eq_true rfl⟩ ⟨Nat.le_refl _, Nat.le_refl _⟩ (Nat.le_of_ble_eq_true rfl) dX9_joined_53 ?_
      refine lv_if_eq hx hb dX9_joined_56 (tgt := 72) rfl (fun h8 => ?_) (fun h8 => ?_)
      · have hf := gif_t h8 hf
        refine lv_iconst hx hb dX9_joined_72 kci_0 ?_
        cases hf
        exact hq rfl dX9_joined_73
      · have hf := gif_f h8 hf
        refine lv_aload_n hx hb dX9_joined_59 rfl (lv_at hl 1 rfl) ?_
        refine lv_iload_n hx hb dX9_joined_60 rfl (lv_at hl 2 rfl) ?_
        refine lv_iconst hx hb dX9_joined_61 kci_1 ?_
        refine lv_iload hx hb dX9_joined_62 (lv_at hl 0 rfl) ?_
        refine lv_isub hx hb dX9_joined_64 ?_
        refine lv_iload_n hx hb dX9_joined_65 rfl (lv_at hl 3 rfl) ?_
        obtain ⟨r9, hc10, hf⟩ := gbd hf
        refine gr_callV (As := [.int p1, .int ((1 : Int32) - y3), .int p2]) (rest := []) (st1 := [.int r9]) hE hl.1 ml_X9_248 (c_X9_has l g a0 s0 p1 ((1 : Int32) - y3) p2 r9 hc10) hZ hS hP [(0, 14)] rfl okX9 rfl rfl rfl rfl ⟨rfl, rfl⟩ ⟨Nat.le_of_ble_eq_true rfl, Nat.le_of_ble_eq_true rfl⟩ ⟨Nat.le_refl _, Nat.le_refl _⟩ (Nat.le_of_ble_eq_true rfl) dX9_joined_66 ?_
        refine lv_if_eq hx hb dX9_joined_69 (tgt := 74) rfl (fun h11 => ?_) (fun h11 => ?_)
        · have hf := gif_t h11 hf
          refine lv_aload_n hx hb dX9_joined_74 rfl (lv_at hl 1 rfl) ?_
          refine lv_iload_n hx hb dX9_joined_75 rfl (lv_at hl 2 rfl) ?_
          refine lv_iload hx hb dX9_joined_76 (lv_at hl 0 rfl) ?_
          refine lv_iload_n hx hb dX9_joined_78 rfl (lv_at hl 3 rfl) ?_
          refine lv_iload hx hb dX9_joined_79 (lv_at hl 0 rfl) ?_
          refine lv_if_ne hx hb dX9_joined_81 (tgt := 88) rfl (fun h12 => ?_) (fun h12 => ?_)
          · have hf := gif_f h12 hf
            refine lv_iload hx hb dX9_joined_88 (lv_at hl 5 rfl) ?_
            obtain ⟨r13, hc14, hf⟩ := gbd hf
            refine gr_callV (As := [.int p1, .int y3, .int p2, .int p4]) (rest := []) (st1 := [.int r13]) hE hl.1 ml_X9_237 (c_X9_thereOf l g a0 s0 p1 y3 p2 p4 r13 hc14) hZ hS hP [(0, 14)] rfl okX9 rfl rfl rfl rfl ⟨rfl, rfl⟩ ⟨Nat.le_of_ble_eq_true rfl, Nat.le_of_ble_eq_true rfl⟩ ⟨Nat.le_refl _, Nat.le_refl _⟩ (Nat.le_of_ble_eq_true rfl) dX9_joined_90 ?_
            cases hf
            exact hq rfl dX9_joined_93
          · have hf := gif_t h12 hf
            refine lv_iload_n hx hb dX9_joined_84 rfl (lv_at hl 4 rfl) ?_
            refine lv_goto hx hb dX9_joined_85 (tgt := 90) rfl ?_
            obtain ⟨r15, hc16, hf⟩ := gbd hf
            refine gr_callV (As := [.int p1, .int y3, .int p2, .int p3]) (rest := []) (st1 := [.int r15]) hE hl.1 ml_X9_237 (c_X9_thereOf l g a0 s0 p1 y3 p2 p3 r15 hc16) hZ hS hP [(0, 14)] rfl okX9 rfl rfl rfl rfl ⟨rfl, rfl⟩ ⟨Nat.le_of_ble_eq_true rfl, Nat.le_of_ble_eq_true rfl⟩ ⟨Nat.le_refl _, Nat.le_refl _⟩ (Nat.le_of_ble_eq_true rfl) dX9_joined_90 ?_
            cases hf
            exact hq rfl dX9_joined_93
        · have hf := gif_f h11 hf
          refine lv_iconst hx hb dX9_joined_72 kci_0 ?_
          cases hf
          exact hq rfl dX9_joined_73
    refine lv_icmp_ge hx hb dX9_joined_35 (tgt := 42) rfl (fun h17 => ?_) (fun h17 => ?_)
    · have hf := gif_t h17 hf
      refine lv_iconst hx hb dX9_joined_42 kci_1 ?_
      exact kJ2 (1 : Int32) ls hf (lv_sub hl [0, 1, 2, 3, 4] rfl)
    · have hf := gif_f h17 hf
      refine lv_iconst hx hb dX9_joined_38 kci_0 ?_
      refine lv_goto hx hb dX9_joined_39 (tgt := 43) rfl ?_
      exact kJ2 (0 : Int32) ls hf (lv_sub hl [0, 1, 2, 3, 4] rfl)
  refine lv_icmp_ge hx hb dX9_joined_3 (tgt := 32) rfl (fun h18 => ?_) (fun h18 => ?_)
  · have hf := gif_t h18 hf
    exact kJ1 () ls hf (lv_sub hl [0, 1, 2, 3, 4] rfl)
  · have hf := gif_f h18 hf
    refine lv_iload hx hb dX9_joined_6 (lv_at hl 4 rfl) ?_
    refine lv_bipush hx hb dX9_joined_8 kcb_8 ?_
    refine lv_icmp_ge hx hb dX9_joined_10 (tgt := 32) rfl (fun h19 => ?_) (fun h19 => ?_)
    · have hf := gif_t h19 hf
      exact kJ1 () ls hf (lv_sub hl [0, 1, 2, 3, 4] rfl)
    · have hf := gif_f h19 hf
      refine lv_aload_n hx hb dX9_joined_13 rfl (lv_at hl 0 rfl) ?_
      refine lv_iload_n hx hb dX9_joined_14 rfl (lv_at hl 1 rfl) ?_
      refine lv_iconst hx hb dX9_joined_15 kci_0 ?_
      refine lv_iload_n hx hb dX9_joined_16 rfl (lv_at hl 2 rfl) ?_
      refine lv_iload_n hx hb dX9_joined_17 rfl (lv_at hl 3 rfl) ?_
      obtain ⟨r20, hc21, hf⟩ := gbd hf
      refine gr_callV (As := [.int p1, .int (0 : Int32), .int p2, .int p3]) (rest := []) (st1 := [.int r20]) hE hl.1 ml_X9_237 (c_X9_thereOf l g a0 s0 p1 (0 : Int32) p2 p3 r20 hc21) hZ hS hP [(0, 14)] rfl okX9 rfl rfl rfl rfl ⟨rfl, rfl⟩ ⟨Nat.le_of_ble_eq_true rfl, Nat.le_of_ble_eq_true rfl⟩ ⟨Nat.le_refl _, Nat.le_refl _⟩ (Nat.le_of_ble_eq_true rfl) dX9_joined_18 ?_
      refine lv_aload_n hx hb dX9_joined_21 rfl (lv_at hl 0 rfl) ?_
      refine lv_iload_n hx hb dX9_joined_22 rfl (lv_at hl 1 rfl) ?_
      refine lv_iconst hx hb dX9_joined_23 kci_1 ?_
      refine lv_iload_n hx hb dX9_joined_24 rfl (lv_at hl 2 rfl) ?_
      refine lv_iload hx hb dX9_joined_25 (lv_at hl 4 rfl) ?_
      obtain ⟨r22, hc23, hf⟩ := gbd hf
      refine gr_callV (As := [.int p1, .int (1 : Int32), .int p2, .int p4]) (rest := [.int r20]) (st1 := [.int r22, .int r20]) hE hl.1 ml_X9_237 (c_X9_thereOf l g a0 s0 p1 (1 : Int32) p2 p4 r22 hc23) hZ hS hP [(0, 14)] rfl okX9 rfl rfl rfl rfl ⟨rfl, rfl⟩ ⟨Nat.le_of_ble_eq_true rfl, Nat.le_of_ble_eq_true rfl⟩ ⟨Nat.le_refl _, Nat.le_refl _⟩ (Nat.le_of_ble_eq_true rfl) dX9_joined_27 ?_
      refine lv_imul hx hb dX9_joined_30 ?_
      cases hf
      exact hq rfl dX9_joined_31
theorem dX9_closes_0 : decode cX9_closes 0 = .ok (.aload_n 0, 1) := by decide +kernel
theorem dX9_closes_1 : decode cX9_closes 1 = .ok (.iload_n 1, 1) := by decide +kernel
theorem dX9_closes_2 : decode cX9_closes 2 = .ok (.iload_n 2, 1) := by decide +kernel
theorem dX9_closes_3 : decode cX9_closes 3 = .ok (.iload_n 3, 1) := by decide +kernel
theorem dX9_closes_4 : decode cX9_closes 4 = .ok (.iload 4, 2) := by decide +kernel
theorem dX9_closes_6 : decode cX9_closes 6 = .ok (.invokestatic 254, 3) := by decide +kernel
theorem dX9_closes_9 : decode cX9_closes 9 = .ok (.aload_n 0, 1) := by decide +kernel
theorem dX9_closes_10 : decode cX9_closes 10 = .ok (.iload_n 1, 1) := by decide +kernel
theorem dX9_closes_11 : decode cX9_closes 11 = .ok (.iload_n 2, 1) := by decide +kernel
theorem dX9_closes_12 : decode cX9_closes 12 = .ok (.iload_n 3, 1) := by decide +kernel
theorem dX9_closes_13 : decode cX9_closes 13 = .ok (.iload 4, 2) := by decide +kernel
theorem dX9_closes_15 : decode cX9_closes 15 = .ok (.invokevirtual 251, 3) := by decide +kernel
theorem dX9_closes_18 : decode cX9_closes 18 = .ok (.invokevirtual 257, 3) := by decide +kernel
theorem dX9_closes_21 : decode cX9_closes 21 = .ok (.return_, 1) := by decide +kernel
def f_X9_closes (s0 : MoT) (p1 : Int32) (p2 : Int32) (p3 : Int32) (p4 : Int32) : Option (MoT) :=
  (f_X9_closedAt p2 p3 p4).bind fun r1 =>
  (f_X9_joined s0 p1 p2 p3 p4).bind fun r3 =>
  (f_X9_more s0 p1 r1 r3).bind fun r5 =>
  some (r5)
abbrev rm_X9_closes : Room := { frames := 5, cells := 0, slots := 0, locals := 120 }
set_option maxHeartbeats 4000000 in
set_option maxRecDepth 100000 in
theorem c_X9_closes (l : Launch) (g : GK) (a0 : Nat → Nat) (s0 : MoT) (p1 : Int32) (p2 : Int32) (p3 : Int32) (p4 : Int32) (res : (MoT)) (hf : f_X9_closes s0 p1 p2 p3 p4 = some res) : gM l yX9_closes cX9_closes 5 none rm_X9_closes g [.ref (a0 0), .int p1, .int p2, .int p3, .int p4] (Mo_c g a0 s0) (fun _ : Unit => none) (fun _ => (Mo_c g a0 res)) 0 0 := by
  refine gM_introV RX9 (by decide) rfl (Nat.le_of_ble_eq_true rfl) (fun p e s m args below meth c Q H locs ls A hE hnm hZ hA hP hD hS hq hl => ?_)
  have hl : lv_has ls 5 [(0, .ref (a0 0)), (1, .int p1), (2, .int p2), (3, .int p3), (4, .int p4)] := hl
  have hx := hE.1
  have hb := hE.2.1
  rw [f_X9_closes] at hf
  refine lv_aload_n hx hb dX9_closes_0 rfl (lv_at hl 0 rfl) ?_
  refine lv_iload_n hx hb dX9_closes_1 rfl (lv_at hl 1 rfl) ?_
  refine lv_iload_n hx hb dX9_closes_2 rfl (lv_at hl 2 rfl) ?_
  refine lv_iload_n hx hb dX9_closes_3 rfl (lv_at hl 3 rfl) ?_
  refine lv_iload hx hb dX9_closes_4 (lv_at hl 4 rfl) ?_
  obtain ⟨r1, hc2, hf⟩ := gbd hf
  refine gr_callS (As := [.int p2, .int p3, .int p4]) (rest := [.int p1, .ref (a0 0)]) (st1 := [.int r1, .int p1, .ref (a0 0)]) hE hl.1 ml_X9_254 (c_X9_closedAt l g p2 p3 p4 r1 hc2) hZ hS hP [] rfl rfl rfl rfl ⟨rfl, rfl⟩ ⟨Nat.le_of_ble_eq_true rfl, Nat.le_of_ble_eq_true rfl⟩ ⟨Nat.le_refl _, Nat.le_refl _⟩ (Nat.le_of_ble_eq_true rfl) dX9_closes_6 ?_
  refine lv_aload_n hx hb dX9_closes_9 rfl (lv_at hl 0 rfl) ?_
  refine lv_iload_n hx hb dX9_closes_10 rfl (lv_at hl 1 rfl) ?_
  refine lv_iload_n hx hb dX9_closes_11 rfl (lv_at hl 2 rfl) ?_
  refine lv_iload_n hx hb dX9_closes_12 rfl (lv_at hl 3 rfl) ?_
  refine lv_iload hx hb dX9_closes_13 (lv_at hl 4 rfl) ?_
  obtain ⟨r3, hc4, hf⟩ := gbd hf
  refine gr_callV (As := [.int p1, .int p2, .int p3, .int p4]) (rest := [.int r1, .int p1, .ref (a0 0)]) (st1 := [.int r3, .int r1, .int p1, .ref (a0 0)]) hE hl.1 ml_X9_251 (c_X9_joined l g a0 s0 p1 p2 p3 p4 r3 hc4) hZ hS hP [(0, 14)] rfl okX9 rfl rfl rfl rfl ⟨rfl, rfl⟩ ⟨Nat.le_of_ble_eq_true rfl, Nat.le_of_ble_eq_true rfl⟩ ⟨Nat.le_refl _, Nat.le_refl _⟩ (Nat.le_of_ble_eq_true rfl) dX9_closes_15 ?_
  obtain ⟨r5, hc6, hf⟩ := gbd hf
  refine gm_callV1 (As := [.int p1, .int r1, .int r3]) (rest := []) (st1 := fun _ => []) (ws' := fun _ => (Mo_c g a0 r5)) hE hl.1 ml_X9_257 (c_X9_more l g a0 s0 p1 r1 r3 r5 hc6) hZ hP hD hS hA 0 14 rfl (fun _ => rfl) okX9 rfl rfl rfl (fun _ => rfl) ⟨rfl, rfl⟩ ⟨Nat.le_of_ble_eq_true rfl, Nat.le_of_ble_eq_true rfl⟩ ⟨Nat.le_refl _, Nat.le_refl _⟩ (Nat.le_of_ble_eq_true rfl) dX9_closes_18 (fun _ H locs hP hD hS => ?_)
  cases hf
  exact hq () rfl hP hD hS dX9_closes_21
theorem dX9_lapses_0 : decode cX9_lapses 0 = .ok (.iconst 0, 1) := by decide +kernel
theorem dX9_lapses_1 : decode cX9_lapses 1 = .ok (.istore_n 2, 1) := by decide +kernel
theorem dX9_lapses_2 : decode cX9_lapses 2 = .ok (.iconst 0, 1) := by decide +kernel
theorem dX9_lapses_3 : decode cX9_lapses 3 = .ok (.istore_n 3, 1) := by decide +kernel
theorem dX9_lapses_4 : decode cX9_lapses 4 = .ok (.iload_n 3, 1) := by decide +kernel
theorem dX9_lapses_5 : decode cX9_lapses 5 = .ok (.bipush 8, 2) := by decide +kernel
theorem dX9_lapses_7 : decode cX9_lapses 7 = .ok (.if_icmp .ge 221, 3) := by decide +kernel
theorem dX9_lapses_10 : decode cX9_lapses 10 = .ok (.aload_n 0, 1) := by decide +kernel
theorem dX9_lapses_11 : decode cX9_lapses 11 = .ok (.iload_n 1, 1) := by decide +kernel
theorem dX9_lapses_12 : decode cX9_lapses 12 = .ok (.iload_n 3, 1) := by decide +kernel
theorem dX9_lapses_13 : decode cX9_lapses 13 = .ok (.invokevirtual 270, 3) := by decide +kernel
theorem dX9_lapses_16 : decode cX9_lapses 16 = .ok (.ifCond .eq 206, 3) := by decide +kernel
theorem dX9_lapses_19 : decode cX9_lapses 19 = .ok (.aload_n 0, 1) := by decide +kernel
theorem dX9_lapses_20 : decode cX9_lapses 20 = .ok (.iload_n 1, 1) := by decide +kernel
theorem dX9_lapses_21 : decode cX9_lapses 21 = .ok (.sipush 151, 3) := by decide +kernel
theorem dX9_lapses_24 : decode cX9_lapses 24 = .ok (.iload_n 3, 1) := by decide +kernel
theorem dX9_lapses_25 : decode cX9_lapses 25 = .ok (.iadd, 1) := by decide +kernel
theorem dX9_lapses_26 : decode cX9_lapses 26 = .ok (.invokevirtual 200, 3) := by decide +kernel
theorem dX9_lapses_29 : decode cX9_lapses 29 = .ok (.aload_n 0, 1) := by decide +kernel
theorem dX9_lapses_30 : decode cX9_lapses 30 = .ok (.iload_n 1, 1) := by decide +kernel
theorem dX9_lapses_31 : decode cX9_lapses 31 = .ok (.iconst 1, 1) := by decide +kernel
theorem dX9_lapses_32 : decode cX9_lapses 32 = .ok (.invokevirtual 200, 3) := by decide +kernel
theorem dX9_lapses_35 : decode cX9_lapses 35 = .ok (.iadd, 1) := by decide +kernel
theorem dX9_lapses_36 : decode cX9_lapses 36 = .ok (.aload_n 0, 1) := by decide +kernel
theorem dX9_lapses_37 : decode cX9_lapses 37 = .ok (.iload_n 1, 1) := by decide +kernel
theorem dX9_lapses_38 : decode cX9_lapses 38 = .ok (.iconst 5, 1) := by decide +kernel
theorem dX9_lapses_39 : decode cX9_lapses 39 = .ok (.invokevirtual 200, 3) := by decide +kernel
theorem dX9_lapses_42 : decode cX9_lapses 42 = .ok (.if_icmp .lt 6, 3) := by decide +kernel
theorem dX9_lapses_45 : decode cX9_lapses 45 = .ok (.goto 177, 3) := by decide +kernel
theorem dX9_lapses_48 : decode cX9_lapses 48 = .ok (.iconst 0, 1) := by decide +kernel
theorem dX9_lapses_49 : decode cX9_lapses 49 = .ok (.istore 4, 2) := by decide +kernel
theorem dX9_lapses_51 : decode cX9_lapses 51 = .ok (.iload 4, 2) := by decide +kernel
theorem dX9_lapses_53 : decode cX9_lapses 53 = .ok (.bipush 9, 2) := by decide +kernel
theorem dX9_lapses_55 : decode cX9_lapses 55 = .ok (.if_icmp .ge 49, 3) := by decide +kernel
theorem dX9_lapses_58 : decode cX9_lapses 58 = .ok (.iconst 0, 1) := by decide +kernel
theorem dX9_lapses_59 : decode cX9_lapses 59 = .ok (.istore 5, 2) := by decide +kernel
theorem dX9_lapses_61 : decode cX9_lapses 61 = .ok (.iload 5, 2) := by decide +kernel
theorem dX9_lapses_63 : decode cX9_lapses 63 = .ok (.bipush 9, 2) := by decide +kernel
theorem dX9_lapses_65 : decode cX9_lapses 65 = .ok (.if_icmp .ge 33, 3) := by decide +kernel
theorem dX9_lapses_68 : decode cX9_lapses 68 = .ok (.iload 4, 2) := by decide +kernel
theorem dX9_lapses_70 : decode cX9_lapses 70 = .ok (.bipush 8, 2) := by decide +kernel
theorem dX9_lapses_72 : decode cX9_lapses 72 = .ok (.if_icmp .lt 10, 3) := by decide +kernel
theorem dX9_lapses_75 : decode cX9_lapses 75 = .ok (.iload 5, 2) := by decide +kernel
theorem dX9_lapses_77 : decode cX9_lapses 77 = .ok (.bipush 8, 2) := by decide +kernel
theorem dX9_lapses_79 : decode cX9_lapses 79 = .ok (.if_icmp .ge 13, 3) := by decide +kernel
theorem dX9_lapses_82 : decode cX9_lapses 82 = .ok (.aload_n 0, 1) := by decide +kernel
theorem dX9_lapses_83 : decode cX9_lapses 83 = .ok (.iload_n 1, 1) := by decide +kernel
theorem dX9_lapses_84 : decode cX9_lapses 84 = .ok (.iload_n 3, 1) := by decide +kernel
theorem dX9_lapses_85 : decode cX9_lapses 85 = .ok (.iload 4, 2) := by decide +kernel
theorem dX9_lapses_87 : decode cX9_lapses 87 = .ok (.iload 5, 2) := by decide +kernel
theorem dX9_lapses_89 : decode cX9_lapses 89 = .ok (.invokevirtual 273, 3) := by decide +kernel
theorem dX9_lapses_92 : decode cX9_lapses 92 = .ok (.iinc 5 1, 3) := by decide +kernel
theorem dX9_lapses_95 : decode cX9_lapses 95 = .ok (.goto (-34), 3) := by decide +kernel
theorem dX9_lapses_98 : decode cX9_lapses 98 = .ok (.iinc 4 1, 3) := by decide +kernel
theorem dX9_lapses_101 : decode cX9_lapses 101 = .ok (.goto (-50), 3) := by decide +kernel
theorem dX9_lapses_104 : decode cX9_lapses 104 = .ok (.iconst 0, 1) := by decide +kernel
theorem dX9_lapses_105 : decode cX9_lapses 105 = .ok (.istore 4, 2) := by decide +kernel
theorem dX9_lapses_107 : decode cX9_lapses 107 = .ok (.iload 4, 2) := by decide +kernel
theorem dX9_lapses_109 : decode cX9_lapses 109 = .ok (.iconst 2, 1) := by decide +kernel
theorem dX9_lapses_110 : decode cX9_lapses 110 = .ok (.if_icmp .ge 37, 3) := by decide +kernel
theorem dX9_lapses_113 : decode cX9_lapses 113 = .ok (.aload_n 0, 1) := by decide +kernel
theorem dX9_lapses_114 : decode cX9_lapses 114 = .ok (.iload_n 1, 1) := by decide +kernel
theorem dX9_lapses_115 : decode cX9_lapses 115 = .ok (.iload 4, 2) := by decide +kernel
theorem dX9_lapses_117 : decode cX9_lapses 117 = .ok (.iload_n 3, 1) := by decide +kernel
theorem dX9_lapses_118 : decode cX9_lapses 118 = .ok (.invokevirtual 248, 3) := by decide +kernel
theorem dX9_lapses_121 : decode cX9_lapses 121 = .ok (.ifCond .eq 20, 3) := by decide +kernel
theorem dX9_lapses_124 : decode cX9_lapses 124 = .ok (.aload_n 0, 1) := by decide +kernel
theorem dX9_lapses_125 : decode cX9_lapses 125 = .ok (.iload_n 1, 1) := by decide +kernel
theorem dX9_lapses_126 : decode cX9_lapses 126 = .ok (.sipush 1363, 3) := by decide +kernel
theorem dX9_lapses_129 : decode cX9_lapses 129 = .ok (.bipush 8, 2) := by decide +kernel
theorem dX9_lapses_131 : decode cX9_lapses 131 = .ok (.iload 4, 2) := by decide +kernel
theorem dX9_lapses_133 : decode cX9_lapses 133 = .ok (.imul, 1) := by decide +kernel
theorem dX9_lapses_134 : decode cX9_lapses 134 = .ok (.iadd, 1) := by decide +kernel
theorem dX9_lapses_135 : decode cX9_lapses 135 = .ok (.iload_n 3, 1) := by decide +kernel
theorem dX9_lapses_136 : decode cX9_lapses 136 = .ok (.iadd, 1) := by decide +kernel
theorem dX9_lapses_137 : decode cX9_lapses 137 = .ok (.iconst 1, 1) := by decide +kernel
theorem dX9_lapses_138 : decode cX9_lapses 138 = .ok (.invokevirtual 257, 3) := by decide +kernel
theorem dX9_lapses_141 : decode cX9_lapses 141 = .ok (.iinc 4 1, 3) := by decide +kernel
theorem dX9_lapses_144 : decode cX9_lapses 144 = .ok (.goto (-37), 3) := by decide +kernel
theorem dX9_lapses_147 : decode cX9_lapses 147 = .ok (.iconst 0, 1) := by decide +kernel
theorem dX9_lapses_148 : decode cX9_lapses 148 = .ok (.istore 4, 2) := by decide +kernel
theorem dX9_lapses_150 : decode cX9_lapses 150 = .ok (.iload 4, 2) := by decide +kernel
theorem dX9_lapses_152 : decode cX9_lapses 152 = .ok (.bipush 8, 2) := by decide +kernel
theorem dX9_lapses_154 : decode cX9_lapses 154 = .ok (.if_icmp .ge 35, 3) := by decide +kernel
theorem dX9_lapses_157 : decode cX9_lapses 157 = .ok (.aload_n 0, 1) := by decide +kernel
theorem dX9_lapses_158 : decode cX9_lapses 158 = .ok (.iload_n 1, 1) := by decide +kernel
theorem dX9_lapses_159 : decode cX9_lapses 159 = .ok (.iconst 0, 1) := by decide +kernel
theorem dX9_lapses_160 : decode cX9_lapses 160 = .ok (.iload_n 3, 1) := by decide +kernel
theorem dX9_lapses_161 : decode cX9_lapses 161 = .ok (.iload 4, 2) := by decide +kernel
theorem dX9_lapses_163 : decode cX9_lapses 163 = .ok (.invokestatic 233, 3) := by decide +kernel
theorem dX9_lapses_166 : decode cX9_lapses 166 = .ok (.iconst 0, 1) := by decide +kernel
theorem dX9_lapses_167 : decode cX9_lapses 167 = .ok (.invokevirtual 68, 3) := by decide +kernel
theorem dX9_lapses_170 : decode cX9_lapses 170 = .ok (.aload_n 0, 1) := by decide +kernel
theorem dX9_lapses_171 : decode cX9_lapses 171 = .ok (.iload_n 1, 1) := by decide +kernel
theorem dX9_lapses_172 : decode cX9_lapses 172 = .ok (.iconst 1, 1) := by decide +kernel
theorem dX9_lapses_173 : decode cX9_lapses 173 = .ok (.iload_n 3, 1) := by decide +kernel
theorem dX9_lapses_174 : decode cX9_lapses 174 = .ok (.iload 4, 2) := by decide +kernel
theorem dX9_lapses_176 : decode cX9_lapses 176 = .ok (.invokestatic 233, 3) := by decide +kernel
theorem dX9_lapses_179 : decode cX9_lapses 179 = .ok (.iconst 0, 1) := by decide +kernel
theorem dX9_lapses_180 : decode cX9_lapses 180 = .ok (.invokevirtual 68, 3) := by decide +kernel
theorem dX9_lapses_183 : decode cX9_lapses 183 = .ok (.iinc 4 1, 3) := by decide +kernel
theorem dX9_lapses_186 : decode cX9_lapses 186 = .ok (.goto (-36), 3) := by decide +kernel
theorem dX9_lapses_189 : decode cX9_lapses 189 = .ok (.aload_n 0, 1) := by decide +kernel
theorem dX9_lapses_190 : decode cX9_lapses 190 = .ok (.iload_n 1, 1) := by decide +kernel
theorem dX9_lapses_191 : decode cX9_lapses 191 = .ok (.sipush 143, 3) := by decide +kernel
theorem dX9_lapses_194 : decode cX9_lapses 194 = .ok (.iload_n 3, 1) := by decide +kernel
theorem dX9_lapses_195 : decode cX9_lapses 195 = .ok (.iadd, 1) := by decide +kernel
theorem dX9_lapses_196 : decode cX9_lapses 196 = .ok (.iconst 0, 1) := by decide +kernel
theorem dX9_lapses_197 : decode cX9_lapses 197 = .ok (.invokevirtual 68, 3) := by decide +kernel
theorem dX9_lapses_200 : decode cX9_lapses 200 = .ok (.aload_n 0, 1) := by decide +kernel
theorem dX9_lapses_201 : decode cX9_lapses 201 = .ok (.iload_n 1, 1) := by decide +kernel
theorem dX9_lapses_202 : decode cX9_lapses 202 = .ok (.sipush 159, 3) := by decide +kernel
theorem dX9_lapses_205 : decode cX9_lapses 205 = .ok (.iload_n 3, 1) := by decide +kernel
theorem dX9_lapses_206 : decode cX9_lapses 206 = .ok (.iadd, 1) := by decide +kernel
theorem dX9_lapses_207 : decode cX9_lapses 207 = .ok (.iconst 1, 1) := by decide +kernel
theorem dX9_lapses_208 : decode cX9_lapses 208 = .ok (.invokevirtual 257, 3) := by decide +kernel
theorem dX9_lapses_211 : decode cX9_lapses 211 = .ok (.aload_n 0, 1) := by decide +kernel
theorem dX9_lapses_212 : decode cX9_lapses 212 = .ok (.iload_n 1, 1) := by decide +kernel
theorem dX9_lapses_213 : decode cX9_lapses 213 = .ok (.bipush 8, 2) := by decide +kernel
theorem dX9_lapses_215 : decode cX9_lapses 215 = .ok (.iconst 1, 1) := by decide +kernel
theorem dX9_lapses_216 : decode cX9_lapses 216 = .ok (.invokevirtual 257, 3) := by decide +kernel
theorem dX9_lapses_219 : decode cX9_lapses 219 = .ok (.iinc 2 1, 3) := by decide +kernel
theorem dX9_lapses_222 : decode cX9_lapses 222 = .ok (.iinc 3 1, 3) := by decide +kernel
theorem dX9_lapses_225 : decode cX9_lapses 225 = .ok (.goto (-221), 3) := by decide +kernel
theorem dX9_lapses_228 : decode cX9_lapses 228 = .ok (.iload_n 2, 1) := by decide +kernel
theorem dX9_lapses_229 : decode cX9_lapses 229 = .ok (.ireturn, 1) := by decide +kernel
def f_X9_lapses_L150_34 (p1 : Int32) (x3_5 : Int32) (K24 : (MoT → Option (Int32 × MoT))) : Nat → Int32 → MoT → Option (Int32 × MoT)
  | 0, _, _ => none
  | n35 + 1, x4_32, s0_33 => if (8 : Int32) ≤ x4_32 then K24 s0_33
  else (f_X9_netAt (0 : Int32) x3_5 x4_32).bind fun r37 =>
  (f_X9_set s0_33 p1 r37 (0 : Int32)).bind fun r39 =>
  (f_X9_netAt (1 : Int32) x3_5 x4_32).bind fun r41 =>
  (f_X9_set r39 p1 r41 (0 : Int32)).bind fun r43 =>
  f_X9_lapses_L150_34 p1 x3_5 K24 n35 (x4_32 + (1 : Int32)) r43
def f_X9_lapses_L107_47 (p1 : Int32) (x3_5 : Int32) (K22 : (MoT → Option (Int32 × MoT))) : Nat → Int32 → MoT → Option (Int32 × MoT)
  | 0, _, _ => none
  | n48 + 1, x4_45, s0_46 => if (2 : Int32) ≤ x4_45 then K22 s0_46
  else (f_X9_has s0_46 p1 x4_45 x3_5).bind fun r50 =>
  if r50 = 0 then f_X9_lapses_L107_47 p1 x3_5 K22 n48 (x4_45 + (1 : Int32)) s0_46
  else (f_X9_more s0_46 p1 (((1363 : Int32) + ((8 : Int32) * x4_45)) + x3_5) (1 : Int32)).bind fun r53 =>
  f_X9_lapses_L107_47 p1 x3_5 K22 n48 (x4_45 + (1 : Int32)) r53
def f_X9_lapses_L61_64 (p1 : Int32) (x3_5 : Int32) (x4_55 : Int32) (K60 : (MoT → Option (Int32 × MoT))) : Nat → Int32 → MoT → Option (Int32 × MoT)
  | 0, _, _ => none
  | n65 + 1, x5_62, s0_63 => if (9 : Int32) ≤ x5_62 then K60 s0_63
  else glt (fun (_ : Unit) => (f_X9_closes s0_63 p1 x3_5 x4_55 x5_62).bind fun r68 =>
  f_X9_lapses_L61_64 p1 x3_5 x4_55 K60 n65 (x5_62 + (1 : Int32)) r68) fun J67 =>
  if x4_55 < (8 : Int32) then J67 ()
  else if (8 : Int32) ≤ x5_62 then f_X9_lapses_L61_64 p1 x3_5 x4_55 K60 n65 (x5_62 + (1 : Int32)) s0_63
  else J67 ()
def f_X9_lapses_L51_57 (p1 : Int32) (x3_5 : Int32) (K20 : (MoT → Option (Int32 × MoT))) : Nat → Int32 → MoT → Option (Int32 × MoT)
  | 0, _, _ => none
  | n58 + 1, x4_55, s0_56 => if (9 : Int32) ≤ x4_55 then K20 s0_56
  else glt (fun (s0_61 : MoT) => f_X9_lapses_L51_57 p1 x3_5 K20 n58 (x4_55 + (1 : Int32)) s0_61) fun K60 =>
  f_X9_lapses_L61_64 p1 x3_5 x4_55 K60 10000 (0 : Int32) s0_56
def f_X9_lapses_L4_7 (p1 : Int32) (K1 : (Int32 → MoT → Option (Int32 × MoT))) : Nat → Int32 → Int32 → MoT → Option (Int32 × MoT)
  | 0, _, _, _ => none
  | n8 + 1, x2_4, x3_5, s0_6 => if (8 : Int32) ≤ x3_5 then K1 x2_4 s0_6
  else (f_X9_lives s0_6 p1 x3_5).bind fun r10 =>
  if r10 = 0 then f_X9_lapses_L4_7 p1 K1 n8 x2_4 (x3_5 + (1 : Int32)) s0_6
  else (f_X9_get s0_6 p1 ((151 : Int32) + x3_5)).bind fun r13 =>
  (f_X9_get s0_6 p1 (1 : Int32)).bind fun r15 =>
  (f_X9_get s0_6 p1 (5 : Int32)).bind fun r17 =>
  if (r13 + r15) < r17 then glt (fun (s0_21 : MoT) => glt (fun (s0_23 : MoT) => glt (fun (s0_25 : MoT) => (f_X9_set s0_25 p1 ((143 : Int32) + x3_5) (0 : Int32)).bind fun r26 =>
  (f_X9_more r26 p1 ((159 : Int32) + x3_5) (1 : Int32)).bind fun r28 =>
  (f_X9_more r28 p1 (8 : Int32) (1 : Int32)).bind fun r30 =>
  f_X9_lapses_L4_7 p1 K1 n8 (x2_4 + (1 : Int32)) (x3_5 + (1 : Int32)) r30) fun K24 =>
  f_X9_lapses_L150_34 p1 x3_5 K24 10000 (0 : Int32) s0_23) fun K22 =>
  f_X9_lapses_L107_47 p1 x3_5 K22 10000 (0 : Int32) s0_21) fun K20 =>
  f_X9_lapses_L51_57 p1 x3_5 K20 10000 (0 : Int32) s0_6
  else f_X9_lapses_L4_7 p1 K1 n8 x2_4 (x3_5 + (1 : Int32)) s0_6
def f_X9_lapses (s0 : MoT) (p1 : Int32) : Option (Int32 × MoT) :=
  glt (fun (x2_2 : Int32) (s0_3 : MoT) => some (x2_2, s0_3)) fun K1 =>
  f_X9_lapses_L4_7 p1 K1 10000 (0 : Int32) (0 : Int32) s0
abbrev rm_X9_lapses : Room := { frames := 6, cells := 0, slots := 0, locals := 144 }
set_option maxHeartbeats 4000000 in
set_option maxRecDepth 100000 in
theorem c_X9_lapses (l : Launch) (g : GK) (a0 : Nat → Nat) (s0 : MoT) (p1 : Int32) (res : (Int32 × MoT)) (hf : f_X9_lapses s0 p1 = some res) : gM l yX9_lapses cX9_lapses 6 (some .int) rm_X9_lapses g [.ref (a0 0), .int p1] (Mo_c g a0 s0) (fun _ : Unit => (some (.int (res.1)))) (fun _ => (Mo_c g a0 (res.2))) 0 0 := by
  refine gM_introI RX9 (by decide) rfl (Nat.le_of_ble_eq_true rfl) (fun p e s m args below meth c Q H locs ls A hE hZ hA hP hD hS hq hl => ?_)
  have hl : lv_has ls 6 [(0, .ref (a0 0)), (1, .int p1)] := hl
  have hx := hE.1
  have hb := hE.2.1
  rw [f_X9_lapses] at hf
  refine lv_iconst hx hb dX9_lapses_0 kci_0 ?_
  refine lv_istore_n hx hb dX9_lapses_1 rfl hl (by decide) (lv' := [(2, .int (0 : Int32)), (0, .ref (a0 0)), (1, .int p1)]) rfl (fun ls hl => ?_)
  refine lv_iconst hx hb dX9_lapses_2 kci_0 ?_
  refine lv_istore_n hx hb dX9_lapses_3 rfl hl (by decide) (lv' := [(3, .int (0 : Int32)), (2, .int (0 : Int32)), (0, .ref (a0 0)), (1, .int p1)]) rfl (fun ls hl => ?_)
  obtain ⟨K1, eK1, hf⟩ := gltd hf
  have kK1 : ∀ (x2_2 : Int32) (s0_3 : MoT) (ls : Array Slot) (H : Heap) (locs : List Loc), K1 x2_2 s0_3 = some res → lv_has ls 6 [(2, .int x2_2)] → gP g (Mo_c g a0 s0_3) H → va_D A (Mo_c g a0 s0_3) → va_S A s.heap H locs → W p l e rm_X9_lapses s m args below meth c H locs 0 0 Q (F0 m 228 ls []) := by
    intro x2_2 s0_3 ls H locs hf hl hP hD hS
    rw [eK1] at hf
    refine lv_iload_n hx hb dX9_lapses_228 rfl (lv_at hl 0 rfl) ?_
    cases hf
    exact hq () rfl hP hD hS dX9_lapses_229
  have lpn8 : ∀ (n8 : Nat) (x2_4 : Int32) (x3_5 : Int32) (s0_6 : MoT) (ls : Array Slot) (H : Heap) (locs : List Loc), f_X9_lapses_L4_7 p1 K1 n8 x2_4 x3_5 s0_6 = some res → lv_has ls 6 [(0, .ref (a0 0)), (1, .int p1), (2, .int x2_4), (3, .int x3_5)] → gP g (Mo_c g a0 s0_6) H → va_D A (Mo_c g a0 s0_6) → va_S A s.heap H locs → W p l e rm_X9_lapses s m args below meth c H locs 0 0 Q (F0 m 4 ls []) := by
    intro n8
    induction n8 with
    | zero => intro x2_4 x3_5 s0_6 ls H locs hf hl hP hD hS; rw [f_X9_lapses_L4_7] at hf; cases hf
    | succ n8 ihn8 =>
      intro x2_4 x3_5 s0_6 ls H locs hf hl hP hD hS
      rw [f_X9_lapses_L4_7] at hf
      refine lv_iload_n hx hb dX9_lapses_4 rfl (lv_at hl 3 rfl) ?_
      refine lv_bipush hx hb dX9_lapses_5 kcb_8 ?_
      refine lv_icmp_ge hx hb dX9_lapses_7 (tgt := 228) rfl (fun h9 => ?_) (fun h9 => ?_)
      · have hf := gif_t h9 hf
        exact kK1 x2_4 s0_6 ls H locs hf (lv_sub hl [2] rfl) hP hD hS
      · have hf := gif_f h9 hf
        refine lv_aload_n hx hb dX9_lapses_10 rfl (lv_at hl 0 rfl) ?_
        refine lv_iload_n hx hb dX9_lapses_11 rfl (lv_at hl 1 rfl) ?_
        refine lv_iload_n hx hb dX9_lapses_12 rfl (lv_at hl 3 rfl) ?_
        obtain ⟨r10, hc11, hf⟩ := gbd hf
        refine gr_callV (As := [.int p1, .int x3_5]) (rest := []) (st1 := [.int r10]) hE hl.1 ml_X9_270 (c_X9_lives l g a0 s0_6 p1 x3_5 r10 hc11) hZ hS hP [(0, 14)] rfl okX9 rfl rfl rfl rfl ⟨rfl, rfl⟩ ⟨Nat.le_of_ble_eq_true rfl, Nat.le_of_ble_eq_true rfl⟩ ⟨Nat.le_refl _, Nat.le_refl _⟩ (Nat.le_of_ble_eq_true rfl) dX9_lapses_13 ?_
        refine lv_if_eq hx hb dX9_lapses_16 (tgt := 222) rfl (fun h12 => ?_) (fun h12 => ?_)
        · have hf := gif_t h12 hf
          refine lv_iinc hx hb dX9_lapses_222 hl (k := 3) (x := x3_5) rfl (kinc_1 _) (by decide) (lv' := [(3, .int (x3_5 + (1 : Int32))), (0, .ref (a0 0)), (1, .int p1), (2, .int x2_4)]) rfl (fun ls hl => ?_)
          refine lv_goto hx hb dX9_lapses_225 (tgt := 4) rfl ?_
          exact ihn8 x2_4 (x3_5 + (1 : Int32)) s0_6 ls H locs hf (lv_sub hl [1, 2, 3, 0] rfl) hP hD hS
        · have hf := gif_f h12 hf
          refine lv_aload_n hx hb dX9_lapses_19 rfl (lv_at hl 0 rfl) ?_
          refine lv_iload_n hx hb dX9_lapses_20 rfl (lv_at hl 1 rfl) ?_
          refine lv_sipush hx hb dX9_lapses_21 kcs_151 ?_
          refine lv_iload_n hx hb dX9_lapses_24 rfl (lv_at hl 3 rfl) ?_
          refine lv_iadd hx hb dX9_lapses_25 ?_
          obtain ⟨r13, hc14, hf⟩ := gbd hf
          refine gr_callV (As := [.int p1, .int ((151 : Int32) + x3_5)]) (rest := []) (st1 := [.int r13]) hE hl.1 ml_X9_200 (c_X9_get l g a0 s0_6 p1 ((151 : Int32) + x3_5) r13 hc14) hZ hS hP [(0, 14)] rfl okX9 rfl rfl rfl rfl ⟨rfl, rfl⟩ ⟨Nat.le_of_ble_eq_true rfl, Nat.le_of_ble_eq_true rfl⟩ ⟨Nat.le_refl _, Nat.le_refl _⟩ (Nat.le_of_ble_eq_true rfl) dX9_lapses_26 ?_
          refine lv_aload_n hx hb dX9_lapses_29 rfl (lv_at hl 0 rfl) ?_
          refine lv_iload_n hx hb dX9_lapses_30 rfl (lv_at hl 1 rfl) ?_
          refine lv_iconst hx hb dX9_lapses_31 kci_1 ?_
          obtain ⟨r15, hc16, hf⟩ := gbd hf
          refine gr_callV (As := [.int p1, .int (1 : Int32)]) (rest := [.int r13]) (st1 := [.int r15, .int r13]) hE hl.1 ml_X9_200 (c_X9_get l g a0 s0_6 p1 (1 : Int32) r15 hc16) hZ hS hP [(0, 14)] rfl okX9 rfl rfl rfl rfl ⟨rfl, rfl⟩ ⟨Nat.le_of_ble_eq_true rfl, Nat.le_of_ble_eq_true rfl⟩ ⟨Nat.le_refl _, Nat.le_refl _⟩ (Nat.le_of_ble_eq_true rfl) dX9_lapses_32 ?_
          refine lv_iadd hx hb dX9_lapses_35 ?_
          refine lv_aload_n hx hb dX9_lapses_36 rfl (lv_at hl 0 rfl) ?_
          refine lv_iload_n hx hb dX9_lapses_37 rfl (lv_at hl 1 rfl) ?_
          refine lv_iconst hx hb dX9_lapses_38 kci_5 ?_
          obtain ⟨r17, hc18, hf⟩ := gbd hf
          refine gr_callV (As := [.int p1, .int (5 : Int32)]) (rest := [.int (r13 + r15)]) (st1 := [.int r17, .int (r13 + r15)]) hE hl.1 ml_X9_200 (c_X9_get l g a0 s0_6 p1 (5 : Int32) r17 hc18) hZ hS hP [(0, 14)] rfl okX9 rfl rfl rfl rfl ⟨rfl, rfl⟩ ⟨Nat.le_of_ble_eq_true rfl, Nat.le_of_ble_eq_true rfl⟩ ⟨Nat.le_refl _, Nat.le_refl _⟩ (Nat.le_of_ble_eq_true rfl) dX9_lapses_39 ?_
          refine lv_icmp_lt hx hb dX9_lapses_42 (tgt := 48) rfl (fun h19 => ?_) (fun h19 => ?_)
          · have hf := gif_t h19 hf
            refine lv_iconst hx hb dX9_lapses_48 kci_0 ?_
            refine lv_istore hx hb dX9_lapses_49 hl (by decide) (lv' := [(4, .int (0 : Int32)), (0, .ref (a0 0)), (1, .int p1), (2, .int x2_4), (3, .int x3_5)]) rfl (fun ls hl => ?_)
            obtain ⟨K20, eK20, hf⟩ := gltd hf
            have kK20 : ∀ (s0_21 : MoT) (ls : Array Slot) (H : Heap) (locs : List Loc), K20 s0_21 = some res → lv_has ls 6 [(0, .ref (a0 0)), (1, .int p1), (2, .int x2_4), (3, .int x3_5)] → gP g (Mo_c g a0 s0_21) H → va_D A (Mo_c g a0 s0_21) → va_S A s.heap H locs → W p l e rm_X9_lapses s m args below meth c H locs 0 0 Q (F0 m 104 ls []) := by
              intro s0_21 ls H locs hf hl hP hD hS
              rw [eK20] at hf
              refine lv_iconst hx hb dX9_lapses_104 kci_0 ?_
              refine lv_istore hx hb dX9_lapses_105 hl (by decide) (lv' := [(4, .int (0 : Int32)), (0, .ref (a0 0)), (1, .int p1), (2, .int x2_4), (3, .int x3_5)]) rfl (fun ls hl => ?_)
              obtain ⟨K22, eK22, hf⟩ := gltd hf
              have kK22 : ∀ (s0_23 : MoT) (ls : Array Slot) (H : Heap) (locs : List Loc), K22 s0_23 = some res → lv_has ls 6 [(0, .ref (a0 0)), (1, .int p1), (2, .int x2_4), (3, .int x3_5)] → gP g (Mo_c g a0 s0_23) H → va_D A (Mo_c g a0 s0_23) → va_S A s.heap H locs → W p l e rm_X9_lapses s m args below meth c H locs 0 0 Q (F0 m 147 ls []) := by
                intro s0_23 ls H locs hf hl hP hD hS
                rw [eK22] at hf
                refine lv_iconst hx hb dX9_lapses_147 kci_0 ?_
                refine lv_istore hx hb dX9_lapses_148 hl (by decide) (lv' := [(4, .int (0 : Int32)), (0, .ref (a0 0)), (1, .int p1), (2, .int x2_4), (3, .int x3_5)]) rfl (fun ls hl => ?_)
                obtain ⟨K24, eK24, hf⟩ := gltd hf
                have kK24 : ∀ (s0_25 : MoT) (ls : Array Slot) (H : Heap) (locs : List Loc), K24 s0_25 = some res → lv_has ls 6 [(0, .ref (a0 0)), (1, .int p1), (2, .int x2_4), (3, .int x3_5)] → gP g (Mo_c g a0 s0_25) H → va_D A (Mo_c g a0 s0_25) → va_S A s.heap H locs → W p l e rm_X9_lapses s m args below meth c H locs 0 0 Q (F0 m 189 ls []) := by
                  intro s0_25 ls H locs hf hl hP hD hS
                  rw [eK24] at hf
                  refine lv_aload_n hx hb dX9_lapses_189 rfl (lv_at hl 0 rfl) ?_
                  refine lv_iload_n hx hb dX9_lapses_190 rfl (lv_at hl 1 rfl) ?_
                  refine lv_sipush hx hb dX9_lapses_191 kcs_143 ?_
                  refine lv_iload_n hx hb dX9_lapses_194 rfl (lv_at hl 3 rfl) ?_
                  refine lv_iadd hx hb dX9_lapses_195 ?_
                  refine lv_iconst hx hb dX9_lapses_196 kci_0 ?_
                  obtain ⟨r26, hc27, hf⟩ := gbd hf
                  refine gm_callV1 (As := [.int p1, .int ((143 : Int32) + x3_5), .int (0 : Int32)]) (rest := []) (st1 := fun _ => []) (ws' := fun _ => (Mo_c g a0 r26)) hE hl.1 ml_X9_68 (c_X9_set l g a0 s0_25 p1 ((143 : Int32) + x3_5) (0 : Int32) r26 hc27) hZ hP hD hS hA 0 14 rfl (fun _ => rfl) okX9 rfl rfl rfl (fun _ => rfl) ⟨rfl, rfl⟩ ⟨Nat.le_of_ble_eq_true rfl, Nat.le_of_ble_eq_true rfl⟩ ⟨Nat.le_refl _, Nat.le_refl _⟩ (Nat.le_of_ble_eq_true rfl) dX9_lapses_197 (fun _ H locs hP hD hS => ?_)
                  refine lv_aload_n hx hb dX9_lapses_200 rfl (lv_at hl 0 rfl) ?_
                  refine lv_iload_n hx hb dX9_lapses_201 rfl (lv_at hl 1 rfl) ?_
                  refine lv_sipush hx hb dX9_lapses_202 kcs_159 ?_
                  refine lv_iload_n hx hb dX9_lapses_205 rfl (lv_at hl 3 rfl) ?_
                  refine lv_iadd hx hb dX9_lapses_206 ?_
                  refine lv_iconst hx hb dX9_lapses_207 kci_1 ?_
                  obtain ⟨r28, hc29, hf⟩ := gbd hf
                  refine gm_callV1 (As := [.int p1, .int ((159 : Int32) + x3_5), .int (1 : Int32)]) (rest := []) (st1 := fun _ => []) (ws' := fun _ => (Mo_c g a0 r28)) hE hl.1 ml_X9_257 (c_X9_more l g a0 r26 p1 ((159 : Int32) + x3_5) (1 : Int32) r28 hc29) hZ hP hD hS hA 0 14 rfl (fun _ => rfl) okX9 rfl rfl rfl (fun _ => rfl) ⟨rfl, rfl⟩ ⟨Nat.le_of_ble_eq_true rfl, Nat.le_of_ble_eq_true rfl⟩ ⟨Nat.le_refl _, Nat.le_refl _⟩ (Nat.le_of_ble_eq_true rfl) dX9_lapses_208 (fun _ H locs hP hD hS => ?_)
                  refine lv_aload_n hx hb dX9_lapses_211 rfl (lv_at hl 0 rfl) ?_
                  refine lv_iload_n hx hb dX9_lapses_212 rfl (lv_at hl 1 rfl) ?_
                  refine lv_bipush hx hb dX9_lapses_213 kcb_8 ?_
                  refine lv_iconst hx hb dX9_lapses_215 kci_1 ?_
                  obtain ⟨r30, hc31, hf⟩ := gbd hf
                  refine gm_callV1 (As := [.int p1, .int (8 : Int32), .int (1 : Int32)]) (rest := []) (st1 := fun _ => []) (ws' := fun _ => (Mo_c g a0 r30)) hE hl.1 ml_X9_257 (c_X9_more l g a0 r28 p1 (8 : Int32) (1 : Int32) r30 hc31) hZ hP hD hS hA 0 14 rfl (fun _ => rfl) okX9 rfl rfl rfl (fun _ => rfl) ⟨rfl, rfl⟩ ⟨Nat.le_of_ble_eq_true rfl, Nat.le_of_ble_eq_true rfl⟩ ⟨Nat.le_refl _, Nat.le_refl _⟩ (Nat.le_of_ble_eq_true rfl) dX9_lapses_216 (fun _ H locs hP hD hS => ?_)
                  refine lv_iinc hx hb dX9_lapses_219 hl (k := 2) (x := x2_4) rfl (kinc_1 _) (by decide) (lv' := [(2, .int (x2_4 + (1 : Int32))), (0, .ref (a0 0)), (1, .int p1), (3, .int x3_5)]) rfl (fun ls hl => ?_)
                  refine lv_iinc hx hb dX9_lapses_222 hl (k := 3) (x := x3_5) rfl (kinc_1 _) (by decide) (lv' := [(3, .int (x3_5 + (1 : Int32))), (2, .int (x2_4 + (1 : Int32))), (0, .ref (a0 0)), (1, .int p1)]) rfl (fun ls hl => ?_)
                  refine lv_goto hx hb dX9_lapses_225 (tgt := 4) rfl ?_
                  exact ihn8 (x2_4 + (1 : Int32)) (x3_5 + (1 : Int32)) r30 ls H locs hf (lv_sub hl [2, 3, 1, 0] rfl) hP hD hS
                have lpn35 : ∀ (n35 : Nat) (x4_32 : Int32) (s0_33 : MoT) (ls : Array Slot) (H : Heap) (locs : List Loc), f_X9_lapses_L150_34 p1 x3_5 K24 n35 x4_32 s0_33 = some res → lv_has ls 6 [(0, .ref (a0 0)), (1, .int p1), (2, .int x2_4), (3, .int x3_5), (4, .int x4_32)] → gP g (Mo_c g a0 s0_33) H → va_D A (Mo_c g a0 s0_33) → va_S A s.heap H locs → W p l e rm_X9_lapses s m args below meth c H locs 0 0 Q (F0 m 150 ls []) := by
                  intro n35
                  induction n35 with
                  | zero => intro x4_32 s0_33 ls H locs hf hl hP hD hS; rw [f_X9_lapses_L150_34] at hf; cases hf
                  | succ n35 ihn35 =>
                    intro x4_32 s0_33 ls H locs hf hl hP hD hS
                    rw [f_X9_lapses_L150_34] at hf
                    refine lv_iload hx hb dX9_lapses_150 (lv_at hl 4 rfl) ?_
                    refine lv_bipush hx hb dX9_lapses_152 kcb_8 ?_
                    refine lv_icmp_ge hx hb dX9_lapses_154 (tgt := 189) rfl (fun h36 => ?_) (fun h36 => ?_)
                    · have hf := gif_t h36 hf
                      exact kK24 s0_33 ls H locs hf (lv_sub hl [0, 1, 2, 3] rfl) hP hD hS
                    · have hf := gif_f h36 hf
                      refine lv_aload_n hx hb dX9_lapses_157 rfl (lv_at hl 0 rfl) ?_
                      refine lv_iload_n hx hb dX9_lapses_158 rfl (lv_at hl 1 rfl) ?_
                      refine lv_iconst hx hb dX9_lapses_159 kci_0 ?_
                      refine lv_iload_n hx hb dX9_lapses_160 rfl (lv_at hl 3 rfl) ?_
                      refine lv_iload hx hb dX9_lapses_161 (lv_at hl 4 rfl) ?_
                      obtain ⟨r37, hc38, hf⟩ := gbd hf
                      refine gr_callS (As := [.int (0 : Int32), .int x3_5, .int x4_32]) (rest := [.int p1, .ref (a0 0)]) (st1 := [.int r37, .int p1, .ref (a0 0)]) hE hl.1 ml_X9_233 (c_X9_netAt l g (0 : Int32) x3_5 x4_32 r37 hc38) hZ hS hP [] rfl rfl rfl rfl ⟨rfl, rfl⟩ ⟨Nat.le_of_ble_eq_true rfl, Nat.le_of_ble_eq_true rfl⟩ ⟨Nat.le_refl _, Nat.le_refl _⟩ (Nat.le_of_ble_eq_true rfl) dX9_lapses_163 ?_
                      refine lv_iconst hx hb dX9_lapses_166 kci_0 ?_
                      obtain ⟨r39, hc40, hf⟩ := gbd hf
                      refine gm_callV1 (As := [.int p1, .int r37, .int (0 : Int32)]) (rest := []) (st1 := fun _ => []) (ws' := fun _ => (Mo_c g a0 r39)) hE hl.1 ml_X9_68 (c_X9_set l g a0 s0_33 p1 r37 (0 : Int32) r39 hc40) hZ hP hD hS hA 0 14 rfl (fun _ => rfl) okX9 rfl rfl rfl (fun _ => rfl) ⟨rfl, rfl⟩ ⟨Nat.le_of_ble_eq_true rfl, Nat.le_of_ble_eq_true rfl⟩ ⟨Nat.le_refl _, Nat.le_refl _⟩ (Nat.le_of_ble_eq_true rfl) dX9_lapses_167 (fun _ H locs hP hD hS => ?_)
                      refine lv_aload_n hx hb dX9_lapses_170 rfl (lv_at hl 0 rfl) ?_
                      refine lv_iload_n hx hb dX9_lapses_171 rfl (lv_at hl 1 rfl) ?_
                      refine lv_iconst hx hb dX9_lapses_172 kci_1 ?_
                      refine lv_iload_n hx hb dX9_lapses_173 rfl (lv_at hl 3 rfl) ?_
                      refine lv_iload hx hb dX9_lapses_174 (lv_at hl 4 rfl) ?_
                      obtain ⟨r41, hc42, hf⟩ := gbd hf
                      refine gr_callS (As := [.int (1 : Int32), .int x3_5, .int x4_32]) (rest := [.int p1, .ref (a0 0)]) (st1 := [.int r41, .int p1, .ref (a0 0)]) hE hl.1 ml_X9_233 (c_X9_netAt l g (1 : Int32) x3_5 x4_32 r41 hc42) hZ hS hP [] rfl rfl rfl rfl ⟨rfl, rfl⟩ ⟨Nat.le_of_ble_eq_true rfl, Nat.le_of_ble_eq_true rfl⟩ ⟨Nat.le_refl _, Nat.le_refl _⟩ (Nat.le_of_ble_eq_true rfl) dX9_lapses_176 ?_
                      refine lv_iconst hx hb dX9_lapses_179 kci_0 ?_
                      obtain ⟨r43, hc44, hf⟩ := gbd hf
                      refine gm_callV1 (As := [.int p1, .int r41, .int (0 : Int32)]) (rest := []) (st1 := fun _ => []) (ws' := fun _ => (Mo_c g a0 r43)) hE hl.1 ml_X9_68 (c_X9_set l g a0 r39 p1 r41 (0 : Int32) r43 hc44) hZ hP hD hS hA 0 14 rfl (fun _ => rfl) okX9 rfl rfl rfl (fun _ => rfl) ⟨rfl, rfl⟩ ⟨Nat.le_of_ble_eq_true rfl, Nat.le_of_ble_eq_true rfl⟩ ⟨Nat.le_refl _, Nat.le_refl _⟩ (Nat.le_of_ble_eq_true rfl) dX9_lapses_180 (fun _ H locs hP hD hS => ?_)
                      refine lv_iinc hx hb dX9_lapses_183 hl (k := 4) (x := x4_32) rfl (kinc_1 _) (by decide) (lv' := [(4, .int (x4_32 + (1 : Int32))), (0, .ref (a0 0)), (1, .int p1), (2, .int x2_4), (3, .int x3_5)]) rfl (fun ls hl => ?_)
                      refine lv_goto hx hb dX9_lapses_186 (tgt := 150) rfl ?_
                      exact ihn35 (x4_32 + (1 : Int32)) r43 ls H locs hf (lv_sub hl [1, 2, 3, 4, 0] rfl) hP hD hS
                exact lpn35 10000 (0 : Int32) s0_23 ls H locs hf (lv_sub hl [1, 2, 3, 4, 0] rfl) hP hD hS
              have lpn48 : ∀ (n48 : Nat) (x4_45 : Int32) (s0_46 : MoT) (ls : Array Slot) (H : Heap) (locs : List Loc), f_X9_lapses_L107_47 p1 x3_5 K22 n48 x4_45 s0_46 = some res → lv_has ls 6 [(0, .ref (a0 0)), (1, .int p1), (2, .int x2_4), (3, .int x3_5), (4, .int x4_45)] → gP g (Mo_c g a0 s0_46) H → va_D A (Mo_c g a0 s0_46) → va_S A s.heap H locs → W p l e rm_X9_lapses s m args below meth c H locs 0 0 Q (F0 m 107 ls []) := by
                intro n48
                induction n48 with
                | zero => intro x4_45 s0_46 ls H locs hf hl hP hD hS; rw [f_X9_lapses_L107_47] at hf; cases hf
                | succ n48 ihn48 =>
                  intro x4_45 s0_46 ls H locs hf hl hP hD hS
                  rw [f_X9_lapses_L107_47] at hf
                  refine lv_iload hx hb dX9_lapses_107 (lv_at hl 4 rfl) ?_
                  refine lv_iconst hx hb dX9_lapses_109 kci_2 ?_
                  refine lv_icmp_ge hx hb dX9_lapses_110 (tgt := 147) rfl (fun h49 => ?_) (fun h49 => ?_)
                  · have hf := gif_t h49 hf
                    exact kK22 s0_46 ls H locs hf (lv_sub hl [0, 1, 2, 3] rfl) hP hD hS
                  · have hf := gif_f h49 hf
                    refine lv_aload_n hx hb dX9_lapses_113 rfl (lv_at hl 0 rfl) ?_
                    refine lv_iload_n hx hb dX9_lapses_114 rfl (lv_at hl 1 rfl) ?_
                    refine lv_iload hx hb dX9_lapses_115 (lv_at hl 4 rfl) ?_
                    refine lv_iload_n hx hb dX9_lapses_117 rfl (lv_at hl 3 rfl) ?_
                    obtain ⟨r50, hc51, hf⟩ := gbd hf
                    refine gr_callV (As := [.int p1, .int x4_45, .int x3_5]) (rest := []) (st1 := [.int r50]) hE hl.1 ml_X9_248 (c_X9_has l g a0 s0_46 p1 x4_45 x3_5 r50 hc51) hZ hS hP [(0, 14)] rfl okX9 rfl rfl rfl rfl ⟨rfl, rfl⟩ ⟨Nat.le_of_ble_eq_true rfl, Nat.le_of_ble_eq_true rfl⟩ ⟨Nat.le_refl _, Nat.le_refl _⟩ (Nat.le_of_ble_eq_true rfl) dX9_lapses_118 ?_
                    refine lv_if_eq hx hb dX9_lapses_121 (tgt := 141) rfl (fun h52 => ?_) (fun h52 => ?_)
                    · have hf := gif_t h52 hf
                      refine lv_iinc hx hb dX9_lapses_141 hl (k := 4) (x := x4_45) rfl (kinc_1 _) (by decide) (lv' := [(4, .int (x4_45 + (1 : Int32))), (0, .ref (a0 0)), (1, .int p1), (2, .int x2_4), (3, .int x3_5)]) rfl (fun ls hl => ?_)
                      refine lv_goto hx hb dX9_lapses_144 (tgt := 107) rfl ?_
                      exact ihn48 (x4_45 + (1 : Int32)) s0_46 ls H locs hf (lv_sub hl [1, 2, 3, 4, 0] rfl) hP hD hS
                    · have hf := gif_f h52 hf
                      refine lv_aload_n hx hb dX9_lapses_124 rfl (lv_at hl 0 rfl) ?_
                      refine lv_iload_n hx hb dX9_lapses_125 rfl (lv_at hl 1 rfl) ?_
                      refine lv_sipush hx hb dX9_lapses_126 kcs_1363 ?_
                      refine lv_bipush hx hb dX9_lapses_129 kcb_8 ?_
                      refine lv_iload hx hb dX9_lapses_131 (lv_at hl 4 rfl) ?_
                      refine lv_imul hx hb dX9_lapses_133 ?_
                      refine lv_iadd hx hb dX9_lapses_134 ?_
                      refine lv_iload_n hx hb dX9_lapses_135 rfl (lv_at hl 3 rfl) ?_
                      refine lv_iadd hx hb dX9_lapses_136 ?_
                      refine lv_iconst hx hb dX9_lapses_137 kci_1 ?_
                      obtain ⟨r53, hc54, hf⟩ := gbd hf
                      refine gm_callV1 (As := [.int p1, .int (((1363 : Int32) + ((8 : Int32) * x4_45)) + x3_5), .int (1 : Int32)]) (rest := []) (st1 := fun _ => []) (ws' := fun _ => (Mo_c g a0 r53)) hE hl.1 ml_X9_257 (c_X9_more l g a0 s0_46 p1 (((1363 : Int32) + ((8 : Int32) * x4_45)) + x3_5) (1 : Int32) r53 hc54) hZ hP hD hS hA 0 14 rfl (fun _ => rfl) okX9 rfl rfl rfl (fun _ => rfl) ⟨rfl, rfl⟩ ⟨Nat.le_of_ble_eq_true rfl, Nat.le_of_ble_eq_true rfl⟩ ⟨Nat.le_refl _, Nat.le_refl _⟩ (Nat.le_of_ble_eq_true rfl) dX9_lapses_138 (fun _ H locs hP hD hS => ?_)
                      refine lv_iinc hx hb dX9_lapses_141 hl (k := 4) (x := x4_45) rfl (kinc_1 _) (by decide) (lv' := [(4, .int (x4_45 + (1 : Int32))), (0, .ref (a0 0)), (1, .int p1), (2, .int x2_4), (3, .int x3_5)]) rfl (fun ls hl => ?_)
                      refine lv_goto hx hb dX9_lapses_144 (tgt := 107) rfl ?_
                      exact ihn48 (x4_45 + (1 : Int32)) r53 ls H locs hf (lv_sub hl [1, 2, 3, 4, 0] rfl) hP hD hS
              exact lpn48 10000 (0 : Int32) s0_21 ls H locs hf (lv_sub hl [1, 2, 3, 4, 0] rfl) hP hD hS
            have lpn58 : ∀ (n58 : Nat) (x4_55 : Int32) (s0_56 : MoT) (ls : Array Slot) (H : Heap) (locs : List Loc), f_X9_lapses_L51_57 p1 x3_5 K20 n58 x4_55 s0_56 = some res → lv_has ls 6 [(0, .ref (a0 0)), (1, .int p1), (2, .int x2_4), (3, .int x3_5), (4, .int x4_55)] → gP g (Mo_c g a0 s0_56) H → va_D A (Mo_c g a0 s0_56) → va_S A s.heap H locs → W p l e rm_X9_lapses s m args below meth c H locs 0 0 Q (F0 m 51 ls []) := by
              intro n58
              induction n58 with
              | zero => intro x4_55 s0_56 ls H locs hf hl hP hD hS; rw [f_X9_lapses_L51_57] at hf; cases hf
              | succ n58 ihn58 =>
                intro x4_55 s0_56 ls H locs hf hl hP hD hS
                rw [f_X9_lapses_L51_57] at hf
                refine lv_iload hx hb dX9_lapses_51 (lv_at hl 4 rfl) ?_
                refine lv_bipush hx hb dX9_lapses_53 kcb_9 ?_
                refine lv_icmp_ge hx hb dX9_lapses_55 (tgt := 104) rfl (fun h59 => ?_) (fun h59 => ?_)
                · have hf := gif_t h59 hf
                  exact kK20 s0_56 ls H locs hf (lv_sub hl [0, 1, 2, 3] rfl) hP hD hS
                · have hf := gif_f h59 hf
                  refine lv_iconst hx hb dX9_lapses_58 kci_0 ?_
                  refine lv_istore hx hb dX9_lapses_59 hl (by decide) (lv' := [(5, .int (0 : Int32)), (0, .ref (a0 0)), (1, .int p1), (2, .int x2_4), (3, .int x3_5), (4, .int x4_55)]) rfl (fun ls hl => ?_)
                  obtain ⟨K60, eK60, hf⟩ := gltd hf
                  have kK60 : ∀ (s0_61 : MoT) (ls : Array Slot) (H : Heap) (locs : List Loc), K60 s0_61 = some res → lv_has ls 6 [(0, .ref (a0 0)), (1, .int p1), (2, .int x2_4), (3, .int x3_5), (4, .int x4_55)] → gP g (Mo_c g a0 s0_61) H → va_D A (Mo_c g a0 s0_61) → va_S A s.heap H locs → W p l e rm_X9_lapses s m args below meth c H locs 0 0 Q (F0 m 98 ls []) := by
                    intro s0_61 ls H locs hf hl hP hD hS
                    rw [eK60] at hf
                    refine lv_iinc hx hb dX9_lapses_98 hl (k := 4) (x := x4_55) rfl (kinc_1 _) (by decide) (lv' := [(4, .int (x4_55 + (1 : Int32))), (0, .ref (a0 0)), (1, .int p1), (2, .int x2_4), (3, .int x3_5)]) rfl (fun ls hl => ?_)
                    refine lv_goto hx hb dX9_lapses_101 (tgt := 51) rfl ?_
                    exact ihn58 (x4_55 + (1 : Int32)) s0_61 ls H locs hf (lv_sub hl [1, 2, 3, 4, 0] rfl) hP hD hS
                  have lpn65 : ∀ (n65 : Nat) (x5_62 : Int32) (s0_63 : MoT) (ls : Array Slot) (H : Heap) (locs : List Loc), f_X9_lapses_L61_64 p1 x3_5 x4_55 K60 n65 x5_62 s0_63 = some res → lv_has ls 6 [(0, .ref (a0 0)), (1, .int p1), (2, .int x2_4), (3, .int x3_5), (4, .int x4_55), (5, .int x5_62)] → gP g (Mo_c g a0 s0_63) H → va_D A (Mo_c g a0 s0_63) → va_S A s.heap H locs → W p l e rm_X9_lapses s m args below meth c H locs 0 0 Q (F0 m 61 ls []) := by
                    intro n65
                    induction n65 with
                    | zero => intro x5_62 s0_63 ls H locs hf hl hP hD hS; rw [f_X9_lapses_L61_64] at hf; cases hf
                    | succ n65 ihn65 =>
                      intro x5_62 s0_63 ls H locs hf hl hP hD hS
                      rw [f_X9_lapses_L61_64] at hf
                      refine lv_iload hx hb dX9_lapses_61 (lv_at hl 5 rfl) ?_
                      refine lv_bipush hx hb dX9_lapses_63 kcb_9 ?_
                      refine lv_icmp_ge hx hb dX9_lapses_65 (tgt := 98) rfl (fun h66 => ?_) (fun h66 => ?_)
                      · have hf := gif_t h66 hf
                        exact kK60 s0_63 ls H locs hf (lv_sub hl [0, 1, 2, 3, 4] rfl) hP hD hS
                      · have hf := gif_f h66 hf
                        refine lv_iload hx hb dX9_lapses_68 (lv_at hl 4 rfl) ?_
                        refine lv_bipush hx hb dX9_lapses_70 kcb_8 ?_
                        obtain ⟨J67, eJ67, hf⟩ := gltd hf
                        have kJ67 : ∀ (_ : Unit) (ls : Array Slot) (H : Heap) (locs : List Loc), J67 () = some res → lv_has ls 6 [(0, .ref (a0 0)), (1, .int p1), (2, .int x2_4), (3, .int x3_5), (4, .int x4_55), (5, .int x5_62)] → gP g (Mo_c g a0 s0_63) H → va_D A (Mo_c g a0 s0_63) → va_S A s.heap H locs → W p l e rm_X9_lapses s m args below meth c H locs 0 0 Q (F0 m 82 ls []) := by
                          intro _ ls H locs hf hl hP hD hS
                          rw [eJ67] at hf
                          refine lv_aload_n hx hb dX9_lapses_82 rfl (lv_at hl 0 rfl) ?_
                          refine lv_iload_n hx hb dX9_lapses_83 rfl (lv_at hl 1 rfl) ?_
                          refine lv_iload_n hx hb dX9_lapses_84 rfl (lv_at hl 3 rfl) ?_
                          refine lv_iload hx hb dX9_lapses_85 (lv_at hl 4 rfl) ?_
                          refine lv_iload hx hb dX9_lapses_87 (lv_at hl 5 rfl) ?_
                          obtain ⟨r68, hc69, hf⟩ := gbd hf
                          refine gm_callV1 (As := [.int p1, .int x3_5, .int x4_55, .int x5_62]) (rest := []) (st1 := fun _ => []) (ws' := fun _ => (Mo_c g a0 r68)) hE hl.1 ml_X9_273 (c_X9_closes l g a0 s0_63 p1 x3_5 x4_55 x5_62 r68 hc69) hZ hP hD hS hA 0 14 rfl (fun _ => rfl) okX9 rfl rfl rfl (fun _ => rfl) ⟨rfl, rfl⟩ ⟨Nat.le_of_ble_eq_true rfl, Nat.le_of_ble_eq_true rfl⟩ ⟨Nat.le_refl _, Nat.le_refl _⟩ (Nat.le_of_ble_eq_true rfl) dX9_lapses_89 (fun _ H locs hP hD hS => ?_)
                          refine lv_iinc hx hb dX9_lapses_92 hl (k := 5) (x := x5_62) rfl (kinc_1 _) (by decide) (lv' := [(5, .int (x5_62 + (1 : Int32))), (0, .ref (a0 0)), (1, .int p1), (2, .int x2_4), (3, .int x3_5), (4, .int x4_55)]) rfl (fun ls hl => ?_)
                          refine lv_goto hx hb dX9_lapses_95 (tgt := 61) rfl ?_
                          exact ihn65 (x5_62 + (1 : Int32)) r68 ls H locs hf (lv_sub hl [1, 2, 3, 4, 5, 0] rfl) hP hD hS
                        refine lv_icmp_lt hx hb dX9_lapses_72 (tgt := 82) rfl (fun h70 => ?_) (fun h70 => ?_)
                        · have hf := gif_t h70 hf
                          exact kJ67 () ls H locs hf (lv_sub hl [0, 1, 2, 3, 4, 5] rfl) hP hD hS
                        · have hf := gif_f h70 hf
                          refine lv_iload hx hb dX9_lapses_75 (lv_at hl 5 rfl) ?_
                          refine lv_bipush hx hb dX9_lapses_77 kcb_8 ?_
                          refine lv_icmp_ge hx hb dX9_lapses_79 (tgt := 92) rfl (fun h71 => ?_) (fun h71 => ?_)
                          · have hf := gif_t h71 hf
                            refine lv_iinc hx hb dX9_lapses_92 hl (k := 5) (x := x5_62) rfl (kinc_1 _) (by decide) (lv' := [(5, .int (x5_62 + (1 : Int32))), (0, .ref (a0 0)), (1, .int p1), (2, .int x2_4), (3, .int x3_5), (4, .int x4_55)]) rfl (fun ls hl => ?_)
                            refine lv_goto hx hb dX9_lapses_95 (tgt := 61) rfl ?_
                            exact ihn65 (x5_62 + (1 : Int32)) s0_63 ls H locs hf (lv_sub hl [1, 2, 3, 4, 5, 0] rfl) hP hD hS
                          · have hf := gif_f h71 hf
                            exact kJ67 () ls H locs hf (lv_sub hl [0, 1, 2, 3, 4, 5] rfl) hP hD hS
                  exact lpn65 10000 (0 : Int32) s0_56 ls H locs hf (lv_sub hl [1, 2, 3, 4, 5, 0] rfl) hP hD hS
            exact lpn58 10000 (0 : Int32) s0_6 ls H locs hf (lv_sub hl [1, 2, 3, 4, 0] rfl) hP hD hS
          · have hf := gif_f h19 hf
            refine lv_goto hx hb dX9_lapses_45 (tgt := 222) rfl ?_
            refine lv_iinc hx hb dX9_lapses_222 hl (k := 3) (x := x3_5) rfl (kinc_1 _) (by decide) (lv' := [(3, .int (x3_5 + (1 : Int32))), (0, .ref (a0 0)), (1, .int p1), (2, .int x2_4)]) rfl (fun ls hl => ?_)
            refine lv_goto hx hb dX9_lapses_225 (tgt := 4) rfl ?_
            exact ihn8 x2_4 (x3_5 + (1 : Int32)) s0_6 ls H locs hf (lv_sub hl [1, 2, 3, 0] rfl) hP hD hS
  exact lpn8 10000 (0 : Int32) (0 : Int32) s0 ls H locs hf (lv_sub hl [2, 3, 1, 0] rfl) hP hD hS
theorem dX9_ticks_0 : decode cX9_ticks 0 = .ok (.aload_n 0, 1) := by decide +kernel
theorem dX9_ticks_1 : decode cX9_ticks 1 = .ok (.iload_n 1, 1) := by decide +kernel
theorem dX9_ticks_2 : decode cX9_ticks 2 = .ok (.iconst 5, 1) := by decide +kernel
theorem dX9_ticks_3 : decode cX9_ticks 3 = .ok (.invokevirtual 200, 3) := by decide +kernel
theorem dX9_ticks_6 : decode cX9_ticks 6 = .ok (.iload_n 2, 1) := by decide +kernel
theorem dX9_ticks_7 : decode cX9_ticks 7 = .ok (.if_icmp .ge 10, 3) := by decide +kernel
theorem dX9_ticks_10 : decode cX9_ticks 10 = .ok (.aload_n 0, 1) := by decide +kernel
theorem dX9_ticks_11 : decode cX9_ticks 11 = .ok (.iload_n 1, 1) := by decide +kernel
theorem dX9_ticks_12 : decode cX9_ticks 12 = .ok (.iconst 5, 1) := by decide +kernel
theorem dX9_ticks_13 : decode cX9_ticks 13 = .ok (.iload_n 2, 1) := by decide +kernel
theorem dX9_ticks_14 : decode cX9_ticks 14 = .ok (.invokevirtual 68, 3) := by decide +kernel
theorem dX9_ticks_17 : decode cX9_ticks 17 = .ok (.aload_n 0, 1) := by decide +kernel
theorem dX9_ticks_18 : decode cX9_ticks 18 = .ok (.iload_n 1, 1) := by decide +kernel
theorem dX9_ticks_19 : decode cX9_ticks 19 = .ok (.invokevirtual 276, 3) := by decide +kernel
theorem dX9_ticks_22 : decode cX9_ticks 22 = .ok (.ireturn, 1) := by decide +kernel
def f_X9_ticks (s0 : MoT) (p1 : Int32) (p2 : Int32) : Option (Int32 × MoT) :=
  (f_X9_get s0 p1 (5 : Int32)).bind fun r1 =>
  if p2 ≤ r1 then (f_X9_lapses s0 p1).bind fun r4 =>
  some ((r4.1), (r4.2))
  else (f_X9_set s0 p1 (5 : Int32) p2).bind fun r6 =>
  (f_X9_lapses r6 p1).bind fun r8 =>
  some ((r8.1), (r8.2))
abbrev rm_X9_ticks : Room := { frames := 7, cells := 0, slots := 0, locals := 169 }
set_option maxHeartbeats 4000000 in
set_option maxRecDepth 100000 in
theorem c_X9_ticks (l : Launch) (g : GK) (a0 : Nat → Nat) (s0 : MoT) (p1 : Int32) (p2 : Int32) (res : (Int32 × MoT)) (hf : f_X9_ticks s0 p1 p2 = some res) : gM l yX9_ticks cX9_ticks 3 (some .int) rm_X9_ticks g [.ref (a0 0), .int p1, .int p2] (Mo_c g a0 s0) (fun _ : Unit => (some (.int (res.1)))) (fun _ => (Mo_c g a0 (res.2))) 0 0 := by
  refine gM_introI RX9 (by decide) rfl (Nat.le_of_ble_eq_true rfl) (fun p e s m args below meth c Q H locs ls A hE hZ hA hP hD hS hq hl => ?_)
  have hl : lv_has ls 3 [(0, .ref (a0 0)), (1, .int p1), (2, .int p2)] := hl
  have hx := hE.1
  have hb := hE.2.1
  rw [f_X9_ticks] at hf
  refine lv_aload_n hx hb dX9_ticks_0 rfl (lv_at hl 0 rfl) ?_
  refine lv_iload_n hx hb dX9_ticks_1 rfl (lv_at hl 1 rfl) ?_
  refine lv_iconst hx hb dX9_ticks_2 kci_5 ?_
  obtain ⟨r1, hc2, hf⟩ := gbd hf
  refine gr_callV (As := [.int p1, .int (5 : Int32)]) (rest := []) (st1 := [.int r1]) hE hl.1 ml_X9_200 (c_X9_get l g a0 s0 p1 (5 : Int32) r1 hc2) hZ hS hP [(0, 14)] rfl okX9 rfl rfl rfl rfl ⟨rfl, rfl⟩ ⟨Nat.le_of_ble_eq_true rfl, Nat.le_of_ble_eq_true rfl⟩ ⟨Nat.le_refl _, Nat.le_refl _⟩ (Nat.le_of_ble_eq_true rfl) dX9_ticks_3 ?_
  refine lv_iload_n hx hb dX9_ticks_6 rfl (lv_at hl 2 rfl) ?_
  refine lv_icmp_ge hx hb dX9_ticks_7 (tgt := 17) rfl (fun h3 => ?_) (fun h3 => ?_)
  · have hf := gif_t h3 hf
    refine lv_aload_n hx hb dX9_ticks_17 rfl (lv_at hl 0 rfl) ?_
    refine lv_iload_n hx hb dX9_ticks_18 rfl (lv_at hl 1 rfl) ?_
    obtain ⟨r4, hc5, hf⟩ := gbd hf
    refine gm_callV1 (As := [.int p1]) (rest := []) (st1 := fun _ => [.int (r4.1)]) (ws' := fun _ => (Mo_c g a0 (r4.2))) hE hl.1 ml_X9_276 (c_X9_lapses l g a0 s0 p1 r4 hc5) hZ hP hD hS hA 0 14 rfl (fun _ => rfl) okX9 rfl rfl rfl (fun _ => rfl) ⟨rfl, rfl⟩ ⟨Nat.le_of_ble_eq_true rfl, Nat.le_of_ble_eq_true rfl⟩ ⟨Nat.le_refl _, Nat.le_refl _⟩ (Nat.le_of_ble_eq_true rfl) dX9_ticks_19 (fun _ H locs hP hD hS => ?_)
    cases hf
    exact hq () rfl hP hD hS dX9_ticks_22
  · have hf := gif_f h3 hf
    refine lv_aload_n hx hb dX9_ticks_10 rfl (lv_at hl 0 rfl) ?_
    refine lv_iload_n hx hb dX9_ticks_11 rfl (lv_at hl 1 rfl) ?_
    refine lv_iconst hx hb dX9_ticks_12 kci_5 ?_
    refine lv_iload_n hx hb dX9_ticks_13 rfl (lv_at hl 2 rfl) ?_
    obtain ⟨r6, hc7, hf⟩ := gbd hf
    refine gm_callV1 (As := [.int p1, .int (5 : Int32), .int p2]) (rest := []) (st1 := fun _ => []) (ws' := fun _ => (Mo_c g a0 r6)) hE hl.1 ml_X9_68 (c_X9_set l g a0 s0 p1 (5 : Int32) p2 r6 hc7) hZ hP hD hS hA 0 14 rfl (fun _ => rfl) okX9 rfl rfl rfl (fun _ => rfl) ⟨rfl, rfl⟩ ⟨Nat.le_of_ble_eq_true rfl, Nat.le_of_ble_eq_true rfl⟩ ⟨Nat.le_refl _, Nat.le_refl _⟩ (Nat.le_of_ble_eq_true rfl) dX9_ticks_14 (fun _ H locs hP hD hS => ?_)
    refine lv_aload_n hx hb dX9_ticks_17 rfl (lv_at hl 0 rfl) ?_
    refine lv_iload_n hx hb dX9_ticks_18 rfl (lv_at hl 1 rfl) ?_
    obtain ⟨r8, hc9, hf⟩ := gbd hf
    refine gm_callV1 (As := [.int p1]) (rest := []) (st1 := fun _ => [.int (r8.1)]) (ws' := fun _ => (Mo_c g a0 (r8.2))) hE hl.1 ml_X9_276 (c_X9_lapses l g a0 r6 p1 r8 hc9) hZ hP hD hS hA 0 14 rfl (fun _ => rfl) okX9 rfl rfl rfl (fun _ => rfl) ⟨rfl, rfl⟩ ⟨Nat.le_of_ble_eq_true rfl, Nat.le_of_ble_eq_true rfl⟩ ⟨Nat.le_refl _, Nat.le_refl _⟩ (Nat.le_of_ble_eq_true rfl) dX9_ticks_19 (fun _ H locs hP hD hS => ?_)
    cases hf
    exact hq () rfl hP hD hS dX9_ticks_22
theorem dX9_sends_0 : decode cX9_sends 0 = .ok (.iload 5, 2) := by decide +kernel
theorem dX9_sends_2 : decode cX9_sends 2 = .ok (.ifCond .ne 4, 3) := by decide +kernel
theorem dX9_sends_5 : decode cX9_sends 5 = .ok (.return_, 1) := by decide +kernel
theorem dX9_sends_6 : decode cX9_sends 6 = .ok (.sipush 823, 3) := by decide +kernel
theorem dX9_sends_9 : decode cX9_sends 9 = .ok (.iconst 5, 1) := by decide +kernel
theorem dX9_sends_10 : decode cX9_sends 10 = .ok (.aload_n 0, 1) := by decide +kernel
theorem dX9_sends_11 : decode cX9_sends 11 = .ok (.iload_n 1, 1) := by decide +kernel
theorem dX9_sends_12 : decode cX9_sends 12 = .ok (.bipush 11, 2) := by decide +kernel
theorem dX9_sends_14 : decode cX9_sends 14 = .ok (.invokevirtual 200, 3) := by decide +kernel
theorem dX9_sends_17 : decode cX9_sends 17 = .ok (.bipush 60, 2) := by decide +kernel
theorem dX9_sends_19 : decode cX9_sends 19 = .ok (.irem, 1) := by decide +kernel
theorem dX9_sends_20 : decode cX9_sends 20 = .ok (.imul, 1) := by decide +kernel
theorem dX9_sends_21 : decode cX9_sends 21 = .ok (.iadd, 1) := by decide +kernel
theorem dX9_sends_22 : decode cX9_sends 22 = .ok (.istore 6, 2) := by decide +kernel
theorem dX9_sends_24 : decode cX9_sends 24 = .ok (.aload_n 0, 1) := by decide +kernel
theorem dX9_sends_25 : decode cX9_sends 25 = .ok (.iload_n 1, 1) := by decide +kernel
theorem dX9_sends_26 : decode cX9_sends 26 = .ok (.iload 6, 2) := by decide +kernel
theorem dX9_sends_28 : decode cX9_sends 28 = .ok (.iload_n 2, 1) := by decide +kernel
theorem dX9_sends_29 : decode cX9_sends 29 = .ok (.invokevirtual 68, 3) := by decide +kernel
theorem dX9_sends_32 : decode cX9_sends 32 = .ok (.aload_n 0, 1) := by decide +kernel
theorem dX9_sends_33 : decode cX9_sends 33 = .ok (.iload_n 1, 1) := by decide +kernel
theorem dX9_sends_34 : decode cX9_sends 34 = .ok (.iload 6, 2) := by decide +kernel
theorem dX9_sends_36 : decode cX9_sends 36 = .ok (.iconst 1, 1) := by decide +kernel
theorem dX9_sends_37 : decode cX9_sends 37 = .ok (.iadd, 1) := by decide +kernel
theorem dX9_sends_38 : decode cX9_sends 38 = .ok (.iload_n 3, 1) := by decide +kernel
theorem dX9_sends_39 : decode cX9_sends 39 = .ok (.invokevirtual 68, 3) := by decide +kernel
theorem dX9_sends_42 : decode cX9_sends 42 = .ok (.aload_n 0, 1) := by decide +kernel
theorem dX9_sends_43 : decode cX9_sends 43 = .ok (.iload_n 1, 1) := by decide +kernel
theorem dX9_sends_44 : decode cX9_sends 44 = .ok (.iload 6, 2) := by decide +kernel
theorem dX9_sends_46 : decode cX9_sends 46 = .ok (.iconst 2, 1) := by decide +kernel
theorem dX9_sends_47 : decode cX9_sends 47 = .ok (.iadd, 1) := by decide +kernel
theorem dX9_sends_48 : decode cX9_sends 48 = .ok (.iload 4, 2) := by decide +kernel
theorem dX9_sends_50 : decode cX9_sends 50 = .ok (.invokevirtual 68, 3) := by decide +kernel
theorem dX9_sends_53 : decode cX9_sends 53 = .ok (.aload_n 0, 1) := by decide +kernel
theorem dX9_sends_54 : decode cX9_sends 54 = .ok (.iload_n 1, 1) := by decide +kernel
theorem dX9_sends_55 : decode cX9_sends 55 = .ok (.iload 6, 2) := by decide +kernel
theorem dX9_sends_57 : decode cX9_sends 57 = .ok (.iconst 3, 1) := by decide +kernel
theorem dX9_sends_58 : decode cX9_sends 58 = .ok (.iadd, 1) := by decide +kernel
theorem dX9_sends_59 : decode cX9_sends 59 = .ok (.iload 5, 2) := by decide +kernel
theorem dX9_sends_61 : decode cX9_sends 61 = .ok (.invokevirtual 68, 3) := by decide +kernel
theorem dX9_sends_64 : decode cX9_sends 64 = .ok (.aload_n 0, 1) := by decide +kernel
theorem dX9_sends_65 : decode cX9_sends 65 = .ok (.iload_n 1, 1) := by decide +kernel
theorem dX9_sends_66 : decode cX9_sends 66 = .ok (.iload 6, 2) := by decide +kernel
theorem dX9_sends_68 : decode cX9_sends 68 = .ok (.iconst 4, 1) := by decide +kernel
theorem dX9_sends_69 : decode cX9_sends 69 = .ok (.iadd, 1) := by decide +kernel
theorem dX9_sends_70 : decode cX9_sends 70 = .ok (.aload_n 0, 1) := by decide +kernel
theorem dX9_sends_71 : decode cX9_sends 71 = .ok (.iload_n 1, 1) := by decide +kernel
theorem dX9_sends_72 : decode cX9_sends 72 = .ok (.bipush 6, 2) := by decide +kernel
theorem dX9_sends_74 : decode cX9_sends 74 = .ok (.invokevirtual 200, 3) := by decide +kernel
theorem dX9_sends_77 : decode cX9_sends 77 = .ok (.invokevirtual 68, 3) := by decide +kernel
theorem dX9_sends_80 : decode cX9_sends 80 = .ok (.aload_n 0, 1) := by decide +kernel
theorem dX9_sends_81 : decode cX9_sends 81 = .ok (.iload_n 1, 1) := by decide +kernel
theorem dX9_sends_82 : decode cX9_sends 82 = .ok (.bipush 11, 2) := by decide +kernel
theorem dX9_sends_84 : decode cX9_sends 84 = .ok (.iconst 1, 1) := by decide +kernel
theorem dX9_sends_85 : decode cX9_sends 85 = .ok (.invokevirtual 257, 3) := by decide +kernel
theorem dX9_sends_88 : decode cX9_sends 88 = .ok (.aload_n 0, 1) := by decide +kernel
theorem dX9_sends_89 : decode cX9_sends 89 = .ok (.iload_n 1, 1) := by decide +kernel
theorem dX9_sends_90 : decode cX9_sends 90 = .ok (.sipush 167, 3) := by decide +kernel
theorem dX9_sends_93 : decode cX9_sends 93 = .ok (.iload_n 2, 1) := by decide +kernel
theorem dX9_sends_94 : decode cX9_sends 94 = .ok (.iadd, 1) := by decide +kernel
theorem dX9_sends_95 : decode cX9_sends 95 = .ok (.iconst 1, 1) := by decide +kernel
theorem dX9_sends_96 : decode cX9_sends 96 = .ok (.invokevirtual 257, 3) := by decide +kernel
theorem dX9_sends_99 : decode cX9_sends 99 = .ok (.aload_n 0, 1) := by decide +kernel
theorem dX9_sends_100 : decode cX9_sends 100 = .ok (.iload_n 1, 1) := by decide +kernel
theorem dX9_sends_101 : decode cX9_sends 101 = .ok (.iload 5, 2) := by decide +kernel
theorem dX9_sends_103 : decode cX9_sends 103 = .ok (.ifCond .le 8, 3) := by decide +kernel
theorem dX9_sends_106 : decode cX9_sends 106 = .ok (.bipush 9, 2) := by decide +kernel
theorem dX9_sends_108 : decode cX9_sends 108 = .ok (.goto 5, 3) := by decide +kernel
theorem dX9_sends_111 : decode cX9_sends 111 = .ok (.bipush 10, 2) := by decide +kernel
theorem dX9_sends_113 : decode cX9_sends 113 = .ok (.iload 5, 2) := by decide +kernel
theorem dX9_sends_115 : decode cX9_sends 115 = .ok (.ifCond .le 8, 3) := by decide +kernel
theorem dX9_sends_118 : decode cX9_sends 118 = .ok (.iload 5, 2) := by decide +kernel
theorem dX9_sends_120 : decode cX9_sends 120 = .ok (.goto 6, 3) := by decide +kernel
theorem dX9_sends_123 : decode cX9_sends 123 = .ok (.iload 5, 2) := by decide +kernel
theorem dX9_sends_125 : decode cX9_sends 125 = .ok (.ineg, 1) := by decide +kernel
theorem dX9_sends_126 : decode cX9_sends 126 = .ok (.invokevirtual 257, 3) := by decide +kernel
theorem dX9_sends_129 : decode cX9_sends 129 = .ok (.return_, 1) := by decide +kernel
def f_X9_sends (s0 : MoT) (p1 : Int32) (p2 : Int32) (p3 : Int32) (p4 : Int32) (p5 : Int32) : Option (MoT) :=
  if p5 = 0 then some (s0)
  else (f_X9_get s0 p1 (11 : Int32)).bind fun r2 =>
  (f_X9_set s0 p1 ((823 : Int32) + ((5 : Int32) * (irem r2 (60 : Int32)))) p2).bind fun r4 =>
  (f_X9_set r4 p1 (((823 : Int32) + ((5 : Int32) * (irem r2 (60 : Int32)))) + (1 : Int32)) p3).bind fun r6 =>
  (f_X9_set r6 p1 (((823 : Int32) + ((5 : Int32) * (irem r2 (60 : Int32)))) + (2 : Int32)) p4).bind fun r8 =>
  (f_X9_set r8 p1 (((823 : Int32) + ((5 : Int32) * (irem r2 (60 : Int32)))) + (3 : Int32)) p5).bind fun r10 =>
  (f_X9_get r10 p1 (6 : Int32)).bind fun r12 =>
  (f_X9_set r10 p1 (((823 : Int32) + ((5 : Int32) * (irem r2 (60 : Int32)))) + (4 : Int32)) r12).bind fun r14 =>
  (f_X9_more r14 p1 (11 : Int32) (1 : Int32)).bind fun r16 =>
  (f_X9_more r16 p1 ((167 : Int32) + p2) (1 : Int32)).bind fun r18 =>
  glt (fun (y21 : Int32) => if p5 ≤ 0 then (f_X9_more r18 p1 y21 (-p5)).bind fun r23 =>
  some (r23)
  else (f_X9_more r18 p1 y21 p5).bind fun r25 =>
  some (r25)) fun J20 =>
  if p5 ≤ 0 then J20 (10 : Int32)
  else J20 (9 : Int32)
abbrev rm_X9_sends : Room := { frames := 1, cells := 0, slots := 0, locals := 23 }
set_option maxHeartbeats 4000000 in
set_option maxRecDepth 100000 in
theorem c_X9_sends (l : Launch) (g : GK) (a0 : Nat → Nat) (s0 : MoT) (p1 : Int32) (p2 : Int32) (p3 : Int32) (p4 : Int32) (p5 : Int32) (res : (MoT)) (hf : f_X9_sends s0 p1 p2 p3 p4 p5 = some res) : gM l yX9_sends cX9_sends 7 none rm_X9_sends g [.ref (a0 0), .int p1, .int p2, .int p3, .int p4, .int p5] (Mo_c g a0 s0) (fun _ : Unit => none) (fun _ => (Mo_c g a0 res)) 0 0 := by
  refine gM_introV RX9 (by decide) rfl (Nat.le_of_ble_eq_true rfl) (fun p e s m args below meth c Q H locs ls A hE hnm hZ hA hP hD hS hq hl => ?_)
  have hl : lv_has ls 7 [(0, .ref (a0 0)), (1, .int p1), (2, .int p2), (3, .int p3), (4, .int p4), (5, .int p5)] := hl
  have hx := hE.1
  have hb := hE.2.1
  rw [f_X9_sends] at hf
  refine lv_iload hx hb dX9_sends_0 (lv_at hl 5 rfl) ?_
  refine lv_if_ne hx hb dX9_sends_2 (tgt := 6) rfl (fun h1 => ?_) (fun h1 => ?_)
  · have hf := gif_f h1 hf
    refine lv_sipush hx hb dX9_sends_6 kcs_823 ?_
    refine lv_iconst hx hb dX9_sends_9 kci_5 ?_
    refine lv_aload_n hx hb dX9_sends_10 rfl (lv_at hl 0 rfl) ?_
    refine lv_iload_n hx hb dX9_sends_11 rfl (lv_at hl 1 rfl) ?_
    refine lv_bipush hx hb dX9_sends_12 kcb_11 ?_
    obtain ⟨r2, hc3, hf⟩ := gbd hf
    refine gr_callV (As := [.int p1, .int (11 : Int32)]) (rest := [.int (5 : Int32), .int (823 : Int32)]) (st1 := [.int r2, .int (5 : Int32), .int (823 : Int32)]) hE hl.1 ml_X9_200 (c_X9_get l g a0 s0 p1 (11 : Int32) r2 hc3) hZ hS hP [(0, 14)] rfl okX9 rfl rfl rfl rfl ⟨rfl, rfl⟩ ⟨Nat.le_of_ble_eq_true rfl, Nat.le_of_ble_eq_true rfl⟩ ⟨Nat.le_refl _, Nat.le_refl _⟩ (Nat.le_of_ble_eq_true rfl) dX9_sends_14 ?_
    refine lv_bipush hx hb dX9_sends_17 kcb_60 ?_
    refine lv_irem hx hb dX9_sends_19 kne_60 ?_
    refine lv_imul hx hb dX9_sends_20 ?_
    refine lv_iadd hx hb dX9_sends_21 ?_
    refine lv_istore hx hb dX9_sends_22 hl (by decide) (lv' := [(6, .int ((823 : Int32) + ((5 : Int32) * (irem r2 (60 : Int32))))), (0, .ref (a0 0)), (1, .int p1), (2, .int p2), (3, .int p3), (4, .int p4), (5, .int p5)]) rfl (fun ls hl => ?_)
    refine lv_aload_n hx hb dX9_sends_24 rfl (lv_at hl 1 rfl) ?_
    refine lv_iload_n hx hb dX9_sends_25 rfl (lv_at hl 2 rfl) ?_
    refine lv_iload hx hb dX9_sends_26 (lv_at hl 0 rfl) ?_
    refine lv_iload_n hx hb dX9_sends_28 rfl (lv_at hl 3 rfl) ?_
    obtain ⟨r4, hc5, hf⟩ := gbd hf
    refine gm_callV1 (As := [.int p1, .int ((823 : Int32) + ((5 : Int32) * (irem r2 (60 : Int32)))), .int p2]) (rest := []) (st1 := fun _ => []) (ws' := fun _ => (Mo_c g a0 r4)) hE hl.1 ml_X9_68 (c_X9_set l g a0 s0 p1 ((823 : Int32) + ((5 : Int32) * (irem r2 (60 : Int32)))) p2 r4 hc5) hZ hP hD hS hA 0 14 rfl (fun _ => rfl) okX9 rfl rfl rfl (fun _ => rfl) ⟨rfl, rfl⟩ ⟨Nat.le_of_ble_eq_true rfl, Nat.le_of_ble_eq_true rfl⟩ ⟨Nat.le_refl _, Nat.le_refl _⟩ (Nat.le_of_ble_eq_true rfl) dX9_sends_29 (fun _ H locs hP hD hS => ?_)
    refine lv_aload_n hx hb dX9_sends_32 rfl (lv_at hl 1 rfl) ?_
    refine lv_iload_n hx hb dX9_sends_33 rfl (lv_at hl 2 rfl) ?_
    refine lv_iload hx hb dX9_sends_34 (lv_at hl 0 rfl) ?_
    refine lv_iconst hx hb dX9_sends_36 kci_1 ?_
    refine lv_iadd hx hb dX9_sends_37 ?_
    refine lv_iload_n hx hb dX9_sends_38 rfl (lv_at hl 4 rfl) ?_
    obtain ⟨r6, hc7, hf⟩ := gbd hf
    refine gm_callV1 (As := [.int p1, .int (((823 : Int32) + ((5 : Int32) * (irem r2 (60 : Int32)))) + (1 : Int32)), .int p3]) (rest := []) (st1 := fun _ => []) (ws' := fun _ => (Mo_c g a0 r6)) hE hl.1 ml_X9_68 (c_X9_set l g a0 r4 p1 (((823 : Int32) + ((5 : Int32) * (irem r2 (60 : Int32)))) + (1 : Int32)) p3 r6 hc7) hZ hP hD hS hA 0 14 rfl (fun _ => rfl) okX9 rfl rfl rfl (fun _ => rfl) ⟨rfl, rfl⟩ ⟨Nat.le_of_ble_eq_true rfl, Nat.le_of_ble_eq_true rfl⟩ ⟨Nat.le_refl _, Nat.le_refl _⟩ (Nat.le_of_ble_eq_true rfl) dX9_sends_39 (fun _ H locs hP hD hS => ?_)
    refine lv_aload_n hx hb dX9_sends_42 rfl (lv_at hl 1 rfl) ?_
    refine lv_iload_n hx hb dX9_sends_43 rfl (lv_at hl 2 rfl) ?_
    refine lv_iload hx hb dX9_sends_44 (lv_at hl 0 rfl) ?_
    refine lv_iconst hx hb dX9_sends_46 kci_2 ?_
    refine lv_iadd hx hb dX9_sends_47 ?_
    refine lv_iload hx hb dX9_sends_48 (lv_at hl 5 rfl) ?_
    obtain ⟨r8, hc9, hf⟩ := gbd hf
    refine gm_callV1 (As := [.int p1, .int (((823 : Int32) + ((5 : Int32) * (irem r2 (60 : Int32)))) + (2 : Int32)), .int p4]) (rest := []) (st1 := fun _ => []) (ws' := fun _ => (Mo_c g a0 r8)) hE hl.1 ml_X9_68 (c_X9_set l g a0 r6 p1 (((823 : Int32) + ((5 : Int32) * (irem r2 (60 : Int32)))) + (2 : Int32)) p4 r8 hc9) hZ hP hD hS hA 0 14 rfl (fun _ => rfl) okX9 rfl rfl rfl (fun _ => rfl) ⟨rfl, rfl⟩ ⟨Nat.le_of_ble_eq_true rfl, Nat.le_of_ble_eq_true rfl⟩ ⟨Nat.le_refl _, Nat.le_refl _⟩ (Nat.le_of_ble_eq_true rfl) dX9_sends_50 (fun _ H locs hP hD hS => ?_)
    refine lv_aload_n hx hb dX9_sends_53 rfl (lv_at hl 1 rfl) ?_
    refine lv_iload_n hx hb dX9_sends_54 rfl (lv_at hl 2 rfl) ?_
    refine lv_iload hx hb dX9_sends_55 (lv_at hl 0 rfl) ?_
    refine lv_iconst hx hb dX9_sends_57 kci_3 ?_
    refine lv_iadd hx hb dX9_sends_58 ?_
    refine lv_iload hx hb dX9_sends_59 (lv_at hl 6 rfl) ?_
    obtain ⟨r10, hc11, hf⟩ := gbd hf
    refine gm_callV1 (As := [.int p1, .int (((823 : Int32) + ((5 : Int32) * (irem r2 (60 : Int32)))) + (3 : Int32)), .int p5]) (rest := []) (st1 := fun _ => []) (ws' := fun _ => (Mo_c g a0 r10)) hE hl.1 ml_X9_68 (c_X9_set l g a0 r8 p1 (((823 : Int32) + ((5 : Int32) * (irem r2 (60 : Int32)))) + (3 : Int32)) p5 r10 hc11) hZ hP hD hS hA 0 14 rfl (fun _ => rfl) okX9 rfl rfl rfl (fun _ => rfl) ⟨rfl, rfl⟩ ⟨Nat.le_of_ble_eq_true rfl, Nat.le_of_ble_eq_true rfl⟩ ⟨Nat.le_refl _, Nat.le_refl _⟩ (Nat.le_of_ble_eq_true rfl) dX9_sends_61 (fun _ H locs hP hD hS => ?_)
    refine lv_aload_n hx hb dX9_sends_64 rfl (lv_at hl 1 rfl) ?_
    refine lv_iload_n hx hb dX9_sends_65 rfl (lv_at hl 2 rfl) ?_
    refine lv_iload hx hb dX9_sends_66 (lv_at hl 0 rfl) ?_
    refine lv_iconst hx hb dX9_sends_68 kci_4 ?_
    refine lv_iadd hx hb dX9_sends_69 ?_
    refine lv_aload_n hx hb dX9_sends_70 rfl (lv_at hl 1 rfl) ?_
    refine lv_iload_n hx hb dX9_sends_71 rfl (lv_at hl 2 rfl) ?_
    refine lv_bipush hx hb dX9_sends_72 kcb_6 ?_
    obtain ⟨r12, hc13, hf⟩ := gbd hf
    refine gr_callV (As := [.int p1, .int (6 : Int32)]) (rest := [.int (((823 : Int32) + ((5 : Int32) * (irem r2 (60 : Int32)))) + (4 : Int32)), .int p1, .ref (a0 0)]) (st1 := [.int r12, .int (((823 : Int32) + ((5 : Int32) * (irem r2 (60 : Int32)))) + (4 : Int32)), .int p1, .ref (a0 0)]) hE hl.1 ml_X9_200 (c_X9_get l g a0 r10 p1 (6 : Int32) r12 hc13) hZ hS hP [(0, 14)] rfl okX9 rfl rfl rfl rfl ⟨rfl, rfl⟩ ⟨Nat.le_of_ble_eq_true rfl, Nat.le_of_ble_eq_true rfl⟩ ⟨Nat.le_refl _, Nat.le_refl _⟩ (Nat.le_of_ble_eq_true rfl) dX9_sends_74 ?_
    obtain ⟨r14, hc15, hf⟩ := gbd hf
    refine gm_callV1 (As := [.int p1, .int (((823 : Int32) + ((5 : Int32) * (irem r2 (60 : Int32)))) + (4 : Int32)), .int r12]) (rest := []) (st1 := fun _ => []) (ws' := fun _ => (Mo_c g a0 r14)) hE hl.1 ml_X9_68 (c_X9_set l g a0 r10 p1 (((823 : Int32) + ((5 : Int32) * (irem r2 (60 : Int32)))) + (4 : Int32)) r12 r14 hc15) hZ hP hD hS hA 0 14 rfl (fun _ => rfl) okX9 rfl rfl rfl (fun _ => rfl) ⟨rfl, rfl⟩ ⟨Nat.le_of_ble_eq_true rfl, Nat.le_of_ble_eq_true rfl⟩ ⟨Nat.le_refl _, Nat.le_refl _⟩ (Nat.le_of_ble_eq_true rfl) dX9_sends_77 (fun _ H locs hP hD hS => ?_)
    refine lv_aload_n hx hb dX9_sends_80 rfl (lv_at hl 1 rfl) ?_
    refine lv_iload_n hx hb dX9_sends_81 rfl (lv_at hl 2 rfl) ?_
    refine lv_bipush hx hb dX9_sends_82 kcb_11 ?_
    refine lv_iconst hx hb dX9_sends_84 kci_1 ?_
    obtain ⟨r16, hc17, hf⟩ := gbd hf
    refine gm_callV1 (As := [.int p1, .int (11 : Int32), .int (1 : Int32)]) (rest := []) (st1 := fun _ => []) (ws' := fun _ => (Mo_c g a0 r16)) hE hl.1 ml_X9_257 (c_X9_more l g a0 r14 p1 (11 : Int32) (1 : Int32) r16 hc17) hZ hP hD hS hA 0 14 rfl (fun _ => rfl) okX9 rfl rfl rfl (fun _ => rfl) ⟨rfl, rfl⟩ ⟨Nat.le_of_ble_eq_true rfl, Nat.le_of_ble_eq_true rfl⟩ ⟨Nat.le_refl _, Nat.le_refl _⟩ (Nat.le_of_ble_eq_true rfl) dX9_sends_85 (fun _ H locs hP hD hS => ?_)
    refine lv_aload_n hx hb dX9_sends_88 rfl (lv_at hl 1 rfl) ?_
    refine lv_iload_n hx hb dX9_sends_89 rfl (lv_at hl 2 rfl) ?_
    refine lv_sipush hx hb dX9_sends_90 kcs_167 ?_
    refine lv_iload_n hx hb dX9_sends_93 rfl (lv_at hl 3 rfl) ?_
    refine lv_iadd hx hb dX9_sends_94 ?_
    refine lv_iconst hx hb dX9_sends_95 kci_1 ?_
    obtain ⟨r18, hc19, hf⟩ := gbd hf
    refine gm_callV1 (As := [.int p1, .int ((167 : Int32) + p2), .int (1 : Int32)]) (rest := []) (st1 := fun _ => []) (ws' := fun _ => (Mo_c g a0 r18)) hE hl.1 ml_X9_257 (c_X9_more l g a0 r16 p1 ((167 : Int32) + p2) (1 : Int32) r18 hc19) hZ hP hD hS hA 0 14 rfl (fun _ => rfl) okX9 rfl rfl rfl (fun _ => rfl) ⟨rfl, rfl⟩ ⟨Nat.le_of_ble_eq_true rfl, Nat.le_of_ble_eq_true rfl⟩ ⟨Nat.le_refl _, Nat.le_refl _⟩ (Nat.le_of_ble_eq_true rfl) dX9_sends_96 (fun _ H locs hP hD hS => ?_)
    refine lv_aload_n hx hb dX9_sends_99 rfl (lv_at hl 1 rfl) ?_
    refine lv_iload_n hx hb dX9_sends_100 rfl (lv_at hl 2 rfl) ?_
    refine lv_iload hx hb dX9_sends_101 (lv_at hl 6 rfl) ?_
    obtain ⟨J20, eJ20, hf⟩ := gltd hf
    have kJ20 : ∀ (y21 : Int32) (ls : Array Slot) (H : Heap) (locs : List Loc), J20 y21 = some res → lv_has ls 7 [(5, .int p5)] → gP g (Mo_c g a0 r18) H → va_D A (Mo_c g a0 r18) → va_S A s.heap H locs → W p l e rm_X9_sends s m args below meth c H locs 0 0 Q (F0 m 113 ls [.int y21, .int p1, .ref (a0 0)]) := by
      intro y21 ls H locs hf hl hP hD hS
      rw [eJ20] at hf
      refine lv_iload hx hb dX9_sends_113 (lv_at hl 0 rfl) ?_
      refine lv_if_le hx hb dX9_sends_115 (tgt := 123) rfl (fun h22 => ?_) (fun h22 => ?_)
      · have hf := gif_t h22 hf
        refine lv_iload hx hb dX9_sends_123 (lv_at hl 0 rfl) ?_
        refine lv_ineg hx hb dX9_sends_125 ?_
        obtain ⟨r23, hc24, hf⟩ := gbd hf
        refine gm_callV1 (As := [.int p1, .int y21, .int (-p5)]) (rest := []) (st1 := fun _ => []) (ws' := fun _ => (Mo_c g a0 r23)) hE hl.1 ml_X9_257 (c_X9_more l g a0 r18 p1 y21 (-p5) r23 hc24) hZ hP hD hS hA 0 14 rfl (fun _ => rfl) okX9 rfl rfl rfl (fun _ => rfl) ⟨rfl, rfl⟩ ⟨Nat.le_of_ble_eq_true rfl, Nat.le_of_ble_eq_true rfl⟩ ⟨Nat.le_refl _, Nat.le_refl _⟩ (Nat.le_of_ble_eq_true rfl) dX9_sends_126 (fun _ H locs hP hD hS => ?_)
        cases hf
        exact hq () rfl hP hD hS dX9_sends_129
      · have hf := gif_f h22 hf
        refine lv_iload hx hb dX9_sends_118 (lv_at hl 0 rfl) ?_
        refine lv_goto hx hb dX9_sends_120 (tgt := 126) rfl ?_
        obtain ⟨r25, hc26, hf⟩ := gbd hf
        refine gm_callV1 (As := [.int p1, .int y21, .int p5]) (rest := []) (st1 := fun _ => []) (ws' := fun _ => (Mo_c g a0 r25)) hE hl.1 ml_X9_257 (c_X9_more l g a0 r18 p1 y21 p5 r25 hc26) hZ hP hD hS hA 0 14 rfl (fun _ => rfl) okX9 rfl rfl rfl (fun _ => rfl) ⟨rfl, rfl⟩ ⟨Nat.le_of_ble_eq_true rfl, Nat.le_of_ble_eq_true rfl⟩ ⟨Nat.le_refl _, Nat.le_refl _⟩ (Nat.le_of_ble_eq_true rfl) dX9_sends_126 (fun _ H locs hP hD hS => ?_)
        cases hf
        exact hq () rfl hP hD hS dX9_sends_129
    refine lv_if_le hx hb dX9_sends_103 (tgt := 111) rfl (fun h27 => ?_) (fun h27 => ?_)
    · have hf := gif_t h27 hf
      refine lv_bipush hx hb dX9_sends_111 kcb_10 ?_
      exact kJ20 (10 : Int32) ls H locs hf (lv_sub hl [6] rfl) hP hD hS
    · have hf := gif_f h27 hf
      refine lv_bipush hx hb dX9_sends_106 kcb_9 ?_
      refine lv_goto hx hb dX9_sends_108 (tgt := 113) rfl ?_
      exact kJ20 (9 : Int32) ls H locs hf (lv_sub hl [6] rfl) hP hD hS
  · have hf := gif_t h1 hf
    cases hf
    exact hq () rfl hP hD hS dX9_sends_5
theorem dX9_sendsBy_0 : decode cX9_sendsBy 0 = .ok (.aload_n 0, 1) := by decide +kernel
theorem dX9_sendsBy_1 : decode cX9_sendsBy 1 = .ok (.iload_n 1, 1) := by decide +kernel
theorem dX9_sendsBy_2 : decode cX9_sendsBy 2 = .ok (.iload_n 3, 1) := by decide +kernel
theorem dX9_sendsBy_3 : decode cX9_sendsBy 3 = .ok (.iload_n 2, 1) := by decide +kernel
theorem dX9_sendsBy_4 : decode cX9_sendsBy 4 = .ok (.ifCond .ne 8, 3) := by decide +kernel
theorem dX9_sendsBy_7 : decode cX9_sendsBy 7 = .ok (.iload 4, 2) := by decide +kernel
theorem dX9_sendsBy_9 : decode cX9_sendsBy 9 = .ok (.goto 5, 3) := by decide +kernel
theorem dX9_sendsBy_12 : decode cX9_sendsBy 12 = .ok (.iload 5, 2) := by decide +kernel
theorem dX9_sendsBy_14 : decode cX9_sendsBy 14 = .ok (.iload_n 2, 1) := by decide +kernel
theorem dX9_sendsBy_15 : decode cX9_sendsBy 15 = .ok (.ifCond .ne 8, 3) := by decide +kernel
theorem dX9_sendsBy_18 : decode cX9_sendsBy 18 = .ok (.iload 5, 2) := by decide +kernel
theorem dX9_sendsBy_20 : decode cX9_sendsBy 20 = .ok (.goto 5, 3) := by decide +kernel
theorem dX9_sendsBy_23 : decode cX9_sendsBy 23 = .ok (.iload 4, 2) := by decide +kernel
theorem dX9_sendsBy_25 : decode cX9_sendsBy 25 = .ok (.iload 6, 2) := by decide +kernel
theorem dX9_sendsBy_27 : decode cX9_sendsBy 27 = .ok (.invokevirtual 260, 3) := by decide +kernel
theorem dX9_sendsBy_30 : decode cX9_sendsBy 30 = .ok (.return_, 1) := by decide +kernel
def f_X9_sendsBy (s0 : MoT) (p1 : Int32) (p2 : Int32) (p3 : Int32) (p4 : Int32) (p5 : Int32) (p6 : Int32) : Option (MoT) :=
  glt (fun (y2 : Int32) => if p2 = 0 then (f_X9_sends s0 p1 p3 y2 p5 p6).bind fun r6 =>
  some (r6)
  else (f_X9_sends s0 p1 p3 y2 p4 p6).bind fun r4 =>
  some (r4)) fun J1 =>
  if p2 = 0 then J1 p4
  else J1 p5
abbrev rm_X9_sendsBy : Room := { frames := 2, cells := 0, slots := 0, locals := 49 }
set_option maxHeartbeats 4000000 in
set_option maxRecDepth 100000 in
theorem c_X9_sendsBy (l : Launch) (g : GK) (a0 : Nat → Nat) (s0 : MoT) (p1 : Int32) (p2 : Int32) (p3 : Int32) (p4 : Int32) (p5 : Int32) (p6 : Int32) (res : (MoT)) (hf : f_X9_sendsBy s0 p1 p2 p3 p4 p5 p6 = some res) : gM l yX9_sendsBy cX9_sendsBy 7 none rm_X9_sendsBy g [.ref (a0 0), .int p1, .int p2, .int p3, .int p4, .int p5, .int p6] (Mo_c g a0 s0) (fun _ : Unit => none) (fun _ => (Mo_c g a0 res)) 0 0 := by
  refine gM_introV RX9 (by decide) rfl (Nat.le_of_ble_eq_true rfl) (fun p e s m args below meth c Q H locs ls A hE hnm hZ hA hP hD hS hq hl => ?_)
  have hl : lv_has ls 7 [(0, .ref (a0 0)), (1, .int p1), (2, .int p2), (3, .int p3), (4, .int p4), (5, .int p5), (6, .int p6)] := hl
  have hx := hE.1
  have hb := hE.2.1
  rw [f_X9_sendsBy] at hf
  refine lv_aload_n hx hb dX9_sendsBy_0 rfl (lv_at hl 0 rfl) ?_
  refine lv_iload_n hx hb dX9_sendsBy_1 rfl (lv_at hl 1 rfl) ?_
  refine lv_iload_n hx hb dX9_sendsBy_2 rfl (lv_at hl 3 rfl) ?_
  refine lv_iload_n hx hb dX9_sendsBy_3 rfl (lv_at hl 2 rfl) ?_
  obtain ⟨J1, eJ1, hf⟩ := gltd hf
  have kJ1 : ∀ (y2 : Int32) (ls : Array Slot) (H : Heap) (locs : List Loc), J1 y2 = some res → lv_has ls 7 [(2, .int p2), (4, .int p4), (5, .int p5), (6, .int p6)] → gP g (Mo_c g a0 s0) H → va_D A (Mo_c g a0 s0) → va_S A s.heap H locs → W p l e rm_X9_sendsBy s m args below meth c H locs 0 0 Q (F0 m 14 ls [.int y2, .int p3, .int p1, .ref (a0 0)]) := by
    intro y2 ls H locs hf hl hP hD hS
    rw [eJ1] at hf
    refine lv_iload_n hx hb dX9_sendsBy_14 rfl (lv_at hl 0 rfl) ?_
    refine lv_if_ne hx hb dX9_sendsBy_15 (tgt := 23) rfl (fun h3 => ?_) (fun h3 => ?_)
    · have hf := gif_f h3 hf
      refine lv_iload hx hb dX9_sendsBy_23 (lv_at hl 1 rfl) ?_
      refine lv_iload hx hb dX9_sendsBy_25 (lv_at hl 3 rfl) ?_
      obtain ⟨r4, hc5, hf⟩ := gbd hf
      refine gm_callV1 (As := [.int p1, .int p3, .int y2, .int p4, .int p6]) (rest := []) (st1 := fun _ => []) (ws' := fun _ => (Mo_c g a0 r4)) hE hl.1 ml_X9_260 (c_X9_sends l g a0 s0 p1 p3 y2 p4 p6 r4 hc5) hZ hP hD hS hA 0 14 rfl (fun _ => rfl) okX9 rfl rfl rfl (fun _ => rfl) ⟨rfl, rfl⟩ ⟨Nat.le_of_ble_eq_true rfl, Nat.le_of_ble_eq_true rfl⟩ ⟨Nat.le_refl _, Nat.le_refl _⟩ (Nat.le_of_ble_eq_true rfl) dX9_sendsBy_27 (fun _ H locs hP hD hS => ?_)
      cases hf
      exact hq () rfl hP hD hS dX9_sendsBy_30
    · have hf := gif_t h3 hf
      refine lv_iload hx hb dX9_sendsBy_18 (lv_at hl 2 rfl) ?_
      refine lv_goto hx hb dX9_sendsBy_20 (tgt := 25) rfl ?_
      refine lv_iload hx hb dX9_sendsBy_25 (lv_at hl 3 rfl) ?_
      obtain ⟨r6, hc7, hf⟩ := gbd hf
      refine gm_callV1 (As := [.int p1, .int p3, .int y2, .int p5, .int p6]) (rest := []) (st1 := fun _ => []) (ws' := fun _ => (Mo_c g a0 r6)) hE hl.1 ml_X9_260 (c_X9_sends l g a0 s0 p1 p3 y2 p5 p6 r6 hc7) hZ hP hD hS hA 0 14 rfl (fun _ => rfl) okX9 rfl rfl rfl (fun _ => rfl) ⟨rfl, rfl⟩ ⟨Nat.le_of_ble_eq_true rfl, Nat.le_of_ble_eq_true rfl⟩ ⟨Nat.le_refl _, Nat.le_refl _⟩ (Nat.le_of_ble_eq_true rfl) dX9_sendsBy_27 (fun _ H locs hP hD hS => ?_)
      cases hf
      exact hq () rfl hP hD hS dX9_sendsBy_30
  refine lv_if_ne hx hb dX9_sendsBy_4 (tgt := 12) rfl (fun h8 => ?_) (fun h8 => ?_)
  · have hf := gif_f h8 hf
    refine lv_iload hx hb dX9_sendsBy_12 (lv_at hl 5 rfl) ?_
    exact kJ1 p5 ls H locs hf (lv_sub hl [2, 4, 5, 6] rfl) hP hD hS
  · have hf := gif_t h8 hf
    refine lv_iload hx hb dX9_sendsBy_7 (lv_at hl 4 rfl) ?_
    refine lv_goto hx hb dX9_sendsBy_9 (tgt := 14) rfl ?_
    exact kJ1 p4 ls H locs hf (lv_sub hl [2, 4, 5, 6] rfl) hP hD hS
theorem dX9_sendsOuter_0 : decode cX9_sendsOuter 0 = .ok (.iconst 0, 1) := by decide +kernel
theorem dX9_sendsOuter_1 : decode cX9_sendsOuter 1 = .ok (.istore 5, 2) := by decide +kernel
theorem dX9_sendsOuter_3 : decode cX9_sendsOuter 3 = .ok (.iload 5, 2) := by decide +kernel
theorem dX9_sendsOuter_5 : decode cX9_sendsOuter 5 = .ok (.bipush 8, 2) := by decide +kernel
theorem dX9_sendsOuter_7 : decode cX9_sendsOuter 7 = .ok (.if_icmp .ge 32, 3) := by decide +kernel
theorem dX9_sendsOuter_10 : decode cX9_sendsOuter 10 = .ok (.aload_n 0, 1) := by decide +kernel
theorem dX9_sendsOuter_11 : decode cX9_sendsOuter 11 = .ok (.iload_n 1, 1) := by decide +kernel
theorem dX9_sendsOuter_12 : decode cX9_sendsOuter 12 = .ok (.iload_n 2, 1) := by decide +kernel
theorem dX9_sendsOuter_13 : decode cX9_sendsOuter 13 = .ok (.iload_n 3, 1) := by decide +kernel
theorem dX9_sendsOuter_14 : decode cX9_sendsOuter 14 = .ok (.iload 5, 2) := by decide +kernel
theorem dX9_sendsOuter_16 : decode cX9_sendsOuter 16 = .ok (.bipush 8, 2) := by decide +kernel
theorem dX9_sendsOuter_18 : decode cX9_sendsOuter 18 = .ok (.iload 4, 2) := by decide +kernel
theorem dX9_sendsOuter_20 : decode cX9_sendsOuter 20 = .ok (.aload_n 0, 1) := by decide +kernel
theorem dX9_sendsOuter_21 : decode cX9_sendsOuter 21 = .ok (.iload_n 1, 1) := by decide +kernel
theorem dX9_sendsOuter_22 : decode cX9_sendsOuter 22 = .ok (.iload_n 2, 1) := by decide +kernel
theorem dX9_sendsOuter_23 : decode cX9_sendsOuter 23 = .ok (.iload_n 3, 1) := by decide +kernel
theorem dX9_sendsOuter_24 : decode cX9_sendsOuter 24 = .ok (.iload 5, 2) := by decide +kernel
theorem dX9_sendsOuter_26 : decode cX9_sendsOuter 26 = .ok (.invokevirtual 237, 3) := by decide +kernel
theorem dX9_sendsOuter_29 : decode cX9_sendsOuter 29 = .ok (.imul, 1) := by decide +kernel
theorem dX9_sendsOuter_30 : decode cX9_sendsOuter 30 = .ok (.invokevirtual 264, 3) := by decide +kernel
theorem dX9_sendsOuter_33 : decode cX9_sendsOuter 33 = .ok (.iinc 5 1, 3) := by decide +kernel
theorem dX9_sendsOuter_36 : decode cX9_sendsOuter 36 = .ok (.goto (-33), 3) := by decide +kernel
theorem dX9_sendsOuter_39 : decode cX9_sendsOuter 39 = .ok (.return_, 1) := by decide +kernel
def f_X9_sendsOuter_L3_5 (p1 : Int32) (p2 : Int32) (p3 : Int32) (p4 : Int32) (K1 : (MoT → Option (MoT))) : Nat → Int32 → MoT → Option (MoT)
  | 0, _, _ => none
  | n6 + 1, x5_3, s0_4 => if (8 : Int32) ≤ x5_3 then K1 s0_4
  else (f_X9_thereOf s0_4 p1 p2 p3 x5_3).bind fun r8 =>
  (f_X9_sendsBy s0_4 p1 p2 p3 x5_3 (8 : Int32) (p4 * r8)).bind fun r10 =>
  f_X9_sendsOuter_L3_5 p1 p2 p3 p4 K1 n6 (x5_3 + (1 : Int32)) r10
def f_X9_sendsOuter (s0 : MoT) (p1 : Int32) (p2 : Int32) (p3 : Int32) (p4 : Int32) : Option (MoT) :=
  glt (fun (s0_2 : MoT) => some (s0_2)) fun K1 =>
  f_X9_sendsOuter_L3_5 p1 p2 p3 p4 K1 10000 (0 : Int32) s0
abbrev rm_X9_sendsOuter : Room := { frames := 3, cells := 0, slots := 0, locals := 75 }
set_option maxHeartbeats 4000000 in
set_option maxRecDepth 100000 in
theorem c_X9_sendsOuter (l : Launch) (g : GK) (a0 : Nat → Nat) (s0 : MoT) (p1 : Int32) (p2 : Int32) (p3 : Int32) (p4 : Int32) (res : (MoT)) (hf : f_X9_sendsOuter s0 p1 p2 p3 p4 = some res) : gM l yX9_sendsOuter cX9_sendsOuter 6 none rm_X9_sendsOuter g [.ref (a0 0), .int p1, .int p2, .int p3, .int p4] (Mo_c g a0 s0) (fun _ : Unit => none) (fun _ => (Mo_c g a0 res)) 0 0 := by
  refine gM_introV RX9 (by decide) rfl (Nat.le_of_ble_eq_true rfl) (fun p e s m args below meth c Q H locs ls A hE hnm hZ hA hP hD hS hq hl => ?_)
  have hl : lv_has ls 6 [(0, .ref (a0 0)), (1, .int p1), (2, .int p2), (3, .int p3), (4, .int p4)] := hl
  have hx := hE.1
  have hb := hE.2.1
  rw [f_X9_sendsOuter] at hf
  refine lv_iconst hx hb dX9_sendsOuter_0 kci_0 ?_
  refine lv_istore hx hb dX9_sendsOuter_1 hl (by decide) (lv' := [(5, .int (0 : Int32)), (0, .ref (a0 0)), (1, .int p1), (2, .int p2), (3, .int p3), (4, .int p4)]) rfl (fun ls hl => ?_)
  obtain ⟨K1, eK1, hf⟩ := gltd hf
  have kK1 : ∀ (s0_2 : MoT) (ls : Array Slot) (H : Heap) (locs : List Loc), K1 s0_2 = some res → lv_has ls 6 [] → gP g (Mo_c g a0 s0_2) H → va_D A (Mo_c g a0 s0_2) → va_S A s.heap H locs → W p l e rm_X9_sendsOuter s m args below meth c H locs 0 0 Q (F0 m 39 ls []) := by
    intro s0_2 ls H locs hf hl hP hD hS
    rw [eK1] at hf
    cases hf
    exact hq () rfl hP hD hS dX9_sendsOuter_39
  have lpn6 : ∀ (n6 : Nat) (x5_3 : Int32) (s0_4 : MoT) (ls : Array Slot) (H : Heap) (locs : List Loc), f_X9_sendsOuter_L3_5 p1 p2 p3 p4 K1 n6 x5_3 s0_4 = some res → lv_has ls 6 [(0, .ref (a0 0)), (1, .int p1), (2, .int p2), (3, .int p3), (4, .int p4), (5, .int x5_3)] → gP g (Mo_c g a0 s0_4) H → va_D A (Mo_c g a0 s0_4) → va_S A s.heap H locs → W p l e rm_X9_sendsOuter s m args below meth c H locs 0 0 Q (F0 m 3 ls []) := by
    intro n6
    induction n6 with
    | zero => intro x5_3 s0_4 ls H locs hf hl hP hD hS; rw [f_X9_sendsOuter_L3_5] at hf; cases hf
    | succ n6 ihn6 =>
      intro x5_3 s0_4 ls H locs hf hl hP hD hS
      rw [f_X9_sendsOuter_L3_5] at hf
      refine lv_iload hx hb dX9_sendsOuter_3 (lv_at hl 5 rfl) ?_
      refine lv_bipush hx hb dX9_sendsOuter_5 kcb_8 ?_
      refine lv_icmp_ge hx hb dX9_sendsOuter_7 (tgt := 39) rfl (fun h7 => ?_) (fun h7 => ?_)
      · have hf := gif_t h7 hf
        exact kK1 s0_4 ls H locs hf (lv_sub hl [] rfl) hP hD hS
      · have hf := gif_f h7 hf
        refine lv_aload_n hx hb dX9_sendsOuter_10 rfl (lv_at hl 0 rfl) ?_
        refine lv_iload_n hx hb dX9_sendsOuter_11 rfl (lv_at hl 1 rfl) ?_
        refine lv_iload_n hx hb dX9_sendsOuter_12 rfl (lv_at hl 2 rfl) ?_
        refine lv_iload_n hx hb dX9_sendsOuter_13 rfl (lv_at hl 3 rfl) ?_
        refine lv_iload hx hb dX9_sendsOuter_14 (lv_at hl 5 rfl) ?_
        refine lv_bipush hx hb dX9_sendsOuter_16 kcb_8 ?_
        refine lv_iload hx hb dX9_sendsOuter_18 (lv_at hl 4 rfl) ?_
        refine lv_aload_n hx hb dX9_sendsOuter_20 rfl (lv_at hl 0 rfl) ?_
        refine lv_iload_n hx hb dX9_sendsOuter_21 rfl (lv_at hl 1 rfl) ?_
        refine lv_iload_n hx hb dX9_sendsOuter_22 rfl (lv_at hl 2 rfl) ?_
        refine lv_iload_n hx hb dX9_sendsOuter_23 rfl (lv_at hl 3 rfl) ?_
        refine lv_iload hx hb dX9_sendsOuter_24 (lv_at hl 5 rfl) ?_
        obtain ⟨r8, hc9, hf⟩ := gbd hf
        refine gr_callV (As := [.int p1, .int p2, .int p3, .int x5_3]) (rest := [.int p4, .int (8 : Int32), .int x5_3, .int p3, .int p2, .int p1, .ref (a0 0)]) (st1 := [.int r8, .int p4, .int (8 : Int32), .int x5_3, .int p3, .int p2, .int p1, .ref (a0 0)]) hE hl.1 ml_X9_237 (c_X9_thereOf l g a0 s0_4 p1 p2 p3 x5_3 r8 hc9) hZ hS hP [(0, 14)] rfl okX9 rfl rfl rfl rfl ⟨rfl, rfl⟩ ⟨Nat.le_of_ble_eq_true rfl, Nat.le_of_ble_eq_true rfl⟩ ⟨Nat.le_refl _, Nat.le_refl _⟩ (Nat.le_of_ble_eq_true rfl) dX9_sendsOuter_26 ?_
        refine lv_imul hx hb dX9_sendsOuter_29 ?_
        obtain ⟨r10, hc11, hf⟩ := gbd hf
        refine gm_callV1 (As := [.int p1, .int p2, .int p3, .int x5_3, .int (8 : Int32), .int (p4 * r8)]) (rest := []) (st1 := fun _ => []) (ws' := fun _ => (Mo_c g a0 r10)) hE hl.1 ml_X9_264 (c_X9_sendsBy l g a0 s0_4 p1 p2 p3 x5_3 (8 : Int32) (p4 * r8) r10 hc11) hZ hP hD hS hA 0 14 rfl (fun _ => rfl) okX9 rfl rfl rfl (fun _ => rfl) ⟨rfl, rfl⟩ ⟨Nat.le_of_ble_eq_true rfl, Nat.le_of_ble_eq_true rfl⟩ ⟨Nat.le_refl _, Nat.le_refl _⟩ (Nat.le_of_ble_eq_true rfl) dX9_sendsOuter_30 (fun _ H locs hP hD hS => ?_)
        refine lv_iinc hx hb dX9_sendsOuter_33 hl (k := 5) (x := x5_3) rfl (kinc_1 _) (by decide) (lv' := [(5, .int (x5_3 + (1 : Int32))), (0, .ref (a0 0)), (1, .int p1), (2, .int p2), (3, .int p3), (4, .int p4)]) rfl (fun ls hl => ?_)
        refine lv_goto hx hb dX9_sendsOuter_36 (tgt := 3) rfl ?_
        exact ihn6 (x5_3 + (1 : Int32)) r10 ls H locs hf (lv_sub hl [1, 2, 3, 4, 5, 0] rfl) hP hD hS
  exact lpn6 10000 (0 : Int32) s0 ls H locs hf (lv_sub hl [1, 2, 3, 4, 5, 0] rfl) hP hD hS
theorem dX9_changes_0 : decode cX9_changes 0 = .ok (.aload_n 0, 1) := by decide +kernel
theorem dX9_changes_1 : decode cX9_changes 1 = .ok (.iload_n 1, 1) := by decide +kernel
theorem dX9_changes_2 : decode cX9_changes 2 = .ok (.iconst 0, 1) := by decide +kernel
theorem dX9_changes_3 : decode cX9_changes 3 = .ok (.invokevirtual 200, 3) := by decide +kernel
theorem dX9_changes_6 : decode cX9_changes 6 = .ok (.istore 6, 2) := by decide +kernel
theorem dX9_changes_8 : decode cX9_changes 8 = .ok (.aload_n 0, 1) := by decide +kernel
theorem dX9_changes_9 : decode cX9_changes 9 = .ok (.iload_n 1, 1) := by decide +kernel
theorem dX9_changes_10 : decode cX9_changes 10 = .ok (.iload_n 2, 1) := by decide +kernel
theorem dX9_changes_11 : decode cX9_changes 11 = .ok (.iload_n 3, 1) := by decide +kernel
theorem dX9_changes_12 : decode cX9_changes 12 = .ok (.invokevirtual 248, 3) := by decide +kernel
theorem dX9_changes_15 : decode cX9_changes 15 = .ok (.istore 7, 2) := by decide +kernel
theorem dX9_changes_17 : decode cX9_changes 17 = .ok (.aload_n 0, 1) := by decide +kernel
theorem dX9_changes_18 : decode cX9_changes 18 = .ok (.iload_n 1, 1) := by decide +kernel
theorem dX9_changes_19 : decode cX9_changes 19 = .ok (.iload_n 2, 1) := by decide +kernel
theorem dX9_changes_20 : decode cX9_changes 20 = .ok (.iload_n 3, 1) := by decide +kernel
theorem dX9_changes_21 : decode cX9_changes 21 = .ok (.iload 4, 2) := by decide +kernel
theorem dX9_changes_23 : decode cX9_changes 23 = .ok (.invokevirtual 237, 3) := by decide +kernel
theorem dX9_changes_26 : decode cX9_changes 26 = .ok (.istore 8, 2) := by decide +kernel
theorem dX9_changes_28 : decode cX9_changes 28 = .ok (.aload_n 0, 1) := by decide +kernel
theorem dX9_changes_29 : decode cX9_changes 29 = .ok (.iload_n 1, 1) := by decide +kernel
theorem dX9_changes_30 : decode cX9_changes 30 = .ok (.iload_n 2, 1) := by decide +kernel
theorem dX9_changes_31 : decode cX9_changes 31 = .ok (.iload_n 3, 1) := by decide +kernel
theorem dX9_changes_32 : decode cX9_changes 32 = .ok (.iload 4, 2) := by decide +kernel
theorem dX9_changes_34 : decode cX9_changes 34 = .ok (.invokestatic 233, 3) := by decide +kernel
theorem dX9_changes_37 : decode cX9_changes 37 = .ok (.iload 5, 2) := by decide +kernel
theorem dX9_changes_39 : decode cX9_changes 39 = .ok (.invokevirtual 257, 3) := by decide +kernel
theorem dX9_changes_42 : decode cX9_changes 42 = .ok (.aload_n 0, 1) := by decide +kernel
theorem dX9_changes_43 : decode cX9_changes 43 = .ok (.iload_n 1, 1) := by decide +kernel
theorem dX9_changes_44 : decode cX9_changes 44 = .ok (.iload_n 2, 1) := by decide +kernel
theorem dX9_changes_45 : decode cX9_changes 45 = .ok (.iload_n 3, 1) := by decide +kernel
theorem dX9_changes_46 : decode cX9_changes 46 = .ok (.iload 4, 2) := by decide +kernel
theorem dX9_changes_48 : decode cX9_changes 48 = .ok (.invokevirtual 237, 3) := by decide +kernel
theorem dX9_changes_51 : decode cX9_changes 51 = .ok (.iload 8, 2) := by decide +kernel
theorem dX9_changes_53 : decode cX9_changes 53 = .ok (.isub, 1) := by decide +kernel
theorem dX9_changes_54 : decode cX9_changes 54 = .ok (.istore 9, 2) := by decide +kernel
theorem dX9_changes_56 : decode cX9_changes 56 = .ok (.aload_n 0, 1) := by decide +kernel
theorem dX9_changes_57 : decode cX9_changes 57 = .ok (.iload_n 1, 1) := by decide +kernel
theorem dX9_changes_58 : decode cX9_changes 58 = .ok (.iload_n 2, 1) := by decide +kernel
theorem dX9_changes_59 : decode cX9_changes 59 = .ok (.iload_n 3, 1) := by decide +kernel
theorem dX9_changes_60 : decode cX9_changes 60 = .ok (.invokevirtual 248, 3) := by decide +kernel
theorem dX9_changes_63 : decode cX9_changes 63 = .ok (.istore 10, 2) := by decide +kernel
theorem dX9_changes_65 : decode cX9_changes 65 = .ok (.aload_n 0, 1) := by decide +kernel
theorem dX9_changes_66 : decode cX9_changes 66 = .ok (.iload_n 1, 1) := by decide +kernel
theorem dX9_changes_67 : decode cX9_changes 67 = .ok (.iconst 1, 1) := by decide +kernel
theorem dX9_changes_68 : decode cX9_changes 68 = .ok (.iload_n 2, 1) := by decide +kernel
theorem dX9_changes_69 : decode cX9_changes 69 = .ok (.isub, 1) := by decide +kernel
theorem dX9_changes_70 : decode cX9_changes 70 = .ok (.iload_n 3, 1) := by decide +kernel
theorem dX9_changes_71 : decode cX9_changes 71 = .ok (.invokevirtual 248, 3) := by decide +kernel
theorem dX9_changes_74 : decode cX9_changes 74 = .ok (.istore 11, 2) := by decide +kernel
theorem dX9_changes_76 : decode cX9_changes 76 = .ok (.iload 7, 2) := by decide +kernel
theorem dX9_changes_78 : decode cX9_changes 78 = .ok (.iload 10, 2) := by decide +kernel
theorem dX9_changes_80 : decode cX9_changes 80 = .ok (.if_icmp .eq 19, 3) := by decide +kernel
theorem dX9_changes_83 : decode cX9_changes 83 = .ok (.aload_n 0, 1) := by decide +kernel
theorem dX9_changes_84 : decode cX9_changes 84 = .ok (.iload_n 1, 1) := by decide +kernel
theorem dX9_changes_85 : decode cX9_changes 85 = .ok (.sipush 1363, 3) := by decide +kernel
theorem dX9_changes_88 : decode cX9_changes 88 = .ok (.bipush 8, 2) := by decide +kernel
theorem dX9_changes_90 : decode cX9_changes 90 = .ok (.iload_n 2, 1) := by decide +kernel
theorem dX9_changes_91 : decode cX9_changes 91 = .ok (.imul, 1) := by decide +kernel
theorem dX9_changes_92 : decode cX9_changes 92 = .ok (.iadd, 1) := by decide +kernel
theorem dX9_changes_93 : decode cX9_changes 93 = .ok (.iload_n 3, 1) := by decide +kernel
theorem dX9_changes_94 : decode cX9_changes 94 = .ok (.iadd, 1) := by decide +kernel
theorem dX9_changes_95 : decode cX9_changes 95 = .ok (.iconst 1, 1) := by decide +kernel
theorem dX9_changes_96 : decode cX9_changes 96 = .ok (.invokevirtual 257, 3) := by decide +kernel
theorem dX9_changes_99 : decode cX9_changes 99 = .ok (.iload 7, 2) := by decide +kernel
theorem dX9_changes_101 : decode cX9_changes 101 = .ok (.ifCond .ne 29, 3) := by decide +kernel
theorem dX9_changes_104 : decode cX9_changes 104 = .ok (.iload 10, 2) := by decide +kernel
theorem dX9_changes_106 : decode cX9_changes 106 = .ok (.ifCond .eq 24, 3) := by decide +kernel
theorem dX9_changes_109 : decode cX9_changes 109 = .ok (.iload 6, 2) := by decide +kernel
theorem dX9_changes_111 : decode cX9_changes 111 = .ok (.iconst 1, 1) := by decide +kernel
theorem dX9_changes_112 : decode cX9_changes 112 = .ok (.iload_n 2, 1) := by decide +kernel
theorem dX9_changes_113 : decode cX9_changes 113 = .ok (.isub, 1) := by decide +kernel
theorem dX9_changes_114 : decode cX9_changes 114 = .ok (.invokestatic 244, 3) := by decide +kernel
theorem dX9_changes_117 : decode cX9_changes 117 = .ok (.ifCond .eq 13, 3) := by decide +kernel
theorem dX9_changes_120 : decode cX9_changes 120 = .ok (.aload_n 0, 1) := by decide +kernel
theorem dX9_changes_121 : decode cX9_changes 121 = .ok (.iload_n 1, 1) := by decide +kernel
theorem dX9_changes_122 : decode cX9_changes 122 = .ok (.iconst 1, 1) := by decide +kernel
theorem dX9_changes_123 : decode cX9_changes 123 = .ok (.iload_n 2, 1) := by decide +kernel
theorem dX9_changes_124 : decode cX9_changes 124 = .ok (.isub, 1) := by decide +kernel
theorem dX9_changes_125 : decode cX9_changes 125 = .ok (.iload_n 3, 1) := by decide +kernel
theorem dX9_changes_126 : decode cX9_changes 126 = .ok (.iconst (-1), 1) := by decide +kernel
theorem dX9_changes_127 : decode cX9_changes 127 = .ok (.invokevirtual 267, 3) := by decide +kernel
theorem dX9_changes_130 : decode cX9_changes 130 = .ok (.iload 11, 2) := by decide +kernel
theorem dX9_changes_132 : decode cX9_changes 132 = .ok (.ifCond .eq 47, 3) := by decide +kernel
theorem dX9_changes_135 : decode cX9_changes 135 = .ok (.iconst 0, 1) := by decide +kernel
theorem dX9_changes_136 : decode cX9_changes 136 = .ok (.istore 12, 2) := by decide +kernel
theorem dX9_changes_138 : decode cX9_changes 138 = .ok (.iload 12, 2) := by decide +kernel
theorem dX9_changes_140 : decode cX9_changes 140 = .ok (.bipush 8, 2) := by decide +kernel
theorem dX9_changes_142 : decode cX9_changes 142 = .ok (.if_icmp .ge 34, 3) := by decide +kernel
theorem dX9_changes_145 : decode cX9_changes 145 = .ok (.aload_n 0, 1) := by decide +kernel
theorem dX9_changes_146 : decode cX9_changes 146 = .ok (.iload_n 1, 1) := by decide +kernel
theorem dX9_changes_147 : decode cX9_changes 147 = .ok (.iload_n 2, 1) := by decide +kernel
theorem dX9_changes_148 : decode cX9_changes 148 = .ok (.iload_n 3, 1) := by decide +kernel
theorem dX9_changes_149 : decode cX9_changes 149 = .ok (.iload 4, 2) := by decide +kernel
theorem dX9_changes_151 : decode cX9_changes 151 = .ok (.iload 12, 2) := by decide +kernel
theorem dX9_changes_153 : decode cX9_changes 153 = .ok (.iload 9, 2) := by decide +kernel
theorem dX9_changes_155 : decode cX9_changes 155 = .ok (.aload_n 0, 1) := by decide +kernel
theorem dX9_changes_156 : decode cX9_changes 156 = .ok (.iload_n 1, 1) := by decide +kernel
theorem dX9_changes_157 : decode cX9_changes 157 = .ok (.iconst 1, 1) := by decide +kernel
theorem dX9_changes_158 : decode cX9_changes 158 = .ok (.iload_n 2, 1) := by decide +kernel
theorem dX9_changes_159 : decode cX9_changes 159 = .ok (.isub, 1) := by decide +kernel
theorem dX9_changes_160 : decode cX9_changes 160 = .ok (.iload_n 3, 1) := by decide +kernel
theorem dX9_changes_161 : decode cX9_changes 161 = .ok (.iload 12, 2) := by decide +kernel
theorem dX9_changes_163 : decode cX9_changes 163 = .ok (.invokevirtual 237, 3) := by decide +kernel
theorem dX9_changes_166 : decode cX9_changes 166 = .ok (.imul, 1) := by decide +kernel
theorem dX9_changes_167 : decode cX9_changes 167 = .ok (.invokevirtual 264, 3) := by decide +kernel
theorem dX9_changes_170 : decode cX9_changes 170 = .ok (.iinc 12 1, 3) := by decide +kernel
theorem dX9_changes_173 : decode cX9_changes 173 = .ok (.goto (-35), 3) := by decide +kernel
theorem dX9_changes_176 : decode cX9_changes 176 = .ok (.goto 25, 3) := by decide +kernel
theorem dX9_changes_179 : decode cX9_changes 179 = .ok (.iload 6, 2) := by decide +kernel
theorem dX9_changes_181 : decode cX9_changes 181 = .ok (.iload_n 2, 1) := by decide +kernel
theorem dX9_changes_182 : decode cX9_changes 182 = .ok (.invokestatic 244, 3) := by decide +kernel
theorem dX9_changes_185 : decode cX9_changes 185 = .ok (.ifCond .eq 16, 3) := by decide +kernel
theorem dX9_changes_188 : decode cX9_changes 188 = .ok (.aload_n 0, 1) := by decide +kernel
theorem dX9_changes_189 : decode cX9_changes 189 = .ok (.iload_n 1, 1) := by decide +kernel
theorem dX9_changes_190 : decode cX9_changes 190 = .ok (.iload_n 2, 1) := by decide +kernel
theorem dX9_changes_191 : decode cX9_changes 191 = .ok (.iload_n 3, 1) := by decide +kernel
theorem dX9_changes_192 : decode cX9_changes 192 = .ok (.iload 4, 2) := by decide +kernel
theorem dX9_changes_194 : decode cX9_changes 194 = .ok (.bipush 8, 2) := by decide +kernel
theorem dX9_changes_196 : decode cX9_changes 196 = .ok (.iload 9, 2) := by decide +kernel
theorem dX9_changes_198 : decode cX9_changes 198 = .ok (.invokevirtual 264, 3) := by decide +kernel
theorem dX9_changes_201 : decode cX9_changes 201 = .ok (.iload 7, 2) := by decide +kernel
theorem dX9_changes_203 : decode cX9_changes 203 = .ok (.ifCond .eq 29, 3) := by decide +kernel
theorem dX9_changes_206 : decode cX9_changes 206 = .ok (.iload 10, 2) := by decide +kernel
theorem dX9_changes_208 : decode cX9_changes 208 = .ok (.ifCond .ne 24, 3) := by decide +kernel
theorem dX9_changes_211 : decode cX9_changes 211 = .ok (.iload 6, 2) := by decide +kernel
theorem dX9_changes_213 : decode cX9_changes 213 = .ok (.iconst 1, 1) := by decide +kernel
theorem dX9_changes_214 : decode cX9_changes 214 = .ok (.iload_n 2, 1) := by decide +kernel
theorem dX9_changes_215 : decode cX9_changes 215 = .ok (.isub, 1) := by decide +kernel
theorem dX9_changes_216 : decode cX9_changes 216 = .ok (.invokestatic 244, 3) := by decide +kernel
theorem dX9_changes_219 : decode cX9_changes 219 = .ok (.ifCond .eq 13, 3) := by decide +kernel
theorem dX9_changes_222 : decode cX9_changes 222 = .ok (.aload_n 0, 1) := by decide +kernel
theorem dX9_changes_223 : decode cX9_changes 223 = .ok (.iload_n 1, 1) := by decide +kernel
theorem dX9_changes_224 : decode cX9_changes 224 = .ok (.iconst 1, 1) := by decide +kernel
theorem dX9_changes_225 : decode cX9_changes 225 = .ok (.iload_n 2, 1) := by decide +kernel
theorem dX9_changes_226 : decode cX9_changes 226 = .ok (.isub, 1) := by decide +kernel
theorem dX9_changes_227 : decode cX9_changes 227 = .ok (.iload_n 3, 1) := by decide +kernel
theorem dX9_changes_228 : decode cX9_changes 228 = .ok (.iconst 1, 1) := by decide +kernel
theorem dX9_changes_229 : decode cX9_changes 229 = .ok (.invokevirtual 267, 3) := by decide +kernel
theorem dX9_changes_232 : decode cX9_changes 232 = .ok (.return_, 1) := by decide +kernel
def f_X9_changes_L138_40 (p1 : Int32) (p2 : Int32) (p3 : Int32) (p4 : Int32) (r5 : (Int32)) (r11 : (Int32)) (K36 : (MoT → Option (MoT))) : Nat → Int32 → MoT → Option (MoT)
  | 0, _, _ => none
  | n41 + 1, x12_38, s0_39 => if (8 : Int32) ≤ x12_38 then K36 s0_39
  else (f_X9_thereOf s0_39 p1 ((1 : Int32) - p2) p3 x12_38).bind fun r43 =>
  (f_X9_sendsBy s0_39 p1 p2 p3 p4 x12_38 ((r11 - r5) * r43)).bind fun r45 =>
  f_X9_changes_L138_40 p1 p2 p3 p4 r5 r11 K36 n41 (x12_38 + (1 : Int32)) r45
def f_X9_changes (s0 : MoT) (p1 : Int32) (p2 : Int32) (p3 : Int32) (p4 : Int32) (p5 : Int32) : Option (MoT) :=
  (f_X9_get s0 p1 (0 : Int32)).bind fun r1 =>
  (f_X9_has s0 p1 p2 p3).bind fun r3 =>
  (f_X9_thereOf s0 p1 p2 p3 p4).bind fun r5 =>
  (f_X9_netAt p2 p3 p4).bind fun r7 =>
  (f_X9_more s0 p1 r7 p5).bind fun r9 =>
  (f_X9_thereOf r9 p1 p2 p3 p4).bind fun r11 =>
  (f_X9_has r9 p1 p2 p3).bind fun r13 =>
  (f_X9_has r9 p1 ((1 : Int32) - p2) p3).bind fun r15 =>
  glt (fun (s0_18 : MoT) => glt (fun (s0_20 : MoT) => glt (fun (s0_22 : MoT) => if r3 = 0 then some (s0_22)
  else if r13 = 0 then (f_X9_isOuter r1 ((1 : Int32) - p2)).bind fun r25 =>
  if r25 = 0 then some (s0_22)
  else (f_X9_sendsOuter s0_22 p1 ((1 : Int32) - p2) p3 (1 : Int32)).bind fun r28 =>
  some (r28)
  else some (s0_22)) fun J21 =>
  if r15 = 0 then (f_X9_isOuter r1 p2).bind fun r31 =>
  if r31 = 0 then J21 s0_20
  else (f_X9_sendsBy s0_20 p1 p2 p3 p4 (8 : Int32) (r11 - r5)).bind fun r34 =>
  J21 r34
  else glt (fun (s0_37 : MoT) => J21 s0_37) fun K36 =>
  f_X9_changes_L138_40 p1 p2 p3 p4 r5 r11 K36 10000 (0 : Int32) s0_20) fun J19 =>
  if r3 = 0 then if r13 = 0 then J19 s0_18
  else (f_X9_isOuter r1 ((1 : Int32) - p2)).bind fun r49 =>
  if r49 = 0 then J19 s0_18
  else (f_X9_sendsOuter s0_18 p1 ((1 : Int32) - p2) p3 (-1 : Int32)).bind fun r52 =>
  J19 r52
  else J19 s0_18) fun J17 =>
  if r3 = r13 then J17 r9
  else (f_X9_more r9 p1 (((1363 : Int32) + ((8 : Int32) * p2)) + p3) (1 : Int32)).bind fun r55 =>
  J17 r55
abbrev rm_X9_changes : Room := { frames := 4, cells := 0, slots := 0, locals := 100 }
set_option maxHeartbeats 4000000 in
set_option maxRecDepth 100000 in
theorem c_X9_changes (l : Launch) (g : GK) (a0 : Nat → Nat) (s0 : MoT) (p1 : Int32) (p2 : Int32) (p3 : Int32) (p4 : Int32) (p5 : Int32) (res : (MoT)) (hf : f_X9_changes s0 p1 p2 p3 p4 p5 = some res) : gM l yX9_changes cX9_changes 13 none rm_X9_changes g [.ref (a0 0), .int p1, .int p2, .int p3, .int p4, .int p5] (Mo_c g a0 s0) (fun _ : Unit => none) (fun _ => (Mo_c g a0 res)) 0 0 := by
  refine gM_introV RX9 (by decide) rfl (Nat.le_of_ble_eq_true rfl) (fun p e s m args below meth c Q H locs ls A hE hnm hZ hA hP hD hS hq hl => ?_)
  have hl : lv_has ls 13 [(0, .ref (a0 0)), (1, .int p1), (2, .int p2), (3, .int p3), (4, .int p4), (5, .int p5)] := hl
  have hx := hE.1
  have hb := hE.2.1
  rw [f_X9_changes] at hf
  refine lv_aload_n hx hb dX9_changes_0 rfl (lv_at hl 0 rfl) ?_
  refine lv_iload_n hx hb dX9_changes_1 rfl (lv_at hl 1 rfl) ?_
  refine lv_iconst hx hb dX9_changes_2 kci_0 ?_
  obtain ⟨r1, hc2, hf⟩ := gbd hf
  refine gr_callV (As := [.int p1, .int (0 : Int32)]) (rest := []) (st1 := [.int r1]) hE hl.1 ml_X9_200 (c_X9_get l g a0 s0 p1 (0 : Int32) r1 hc2) hZ hS hP [(0, 14)] rfl okX9 rfl rfl rfl rfl ⟨rfl, rfl⟩ ⟨Nat.le_of_ble_eq_true rfl, Nat.le_of_ble_eq_true rfl⟩ ⟨Nat.le_refl _, Nat.le_refl _⟩ (Nat.le_of_ble_eq_true rfl) dX9_changes_3 ?_
  refine lv_istore hx hb dX9_changes_6 hl (by decide) (lv' := [(6, .int r1), (0, .ref (a0 0)), (1, .int p1), (2, .int p2), (3, .int p3), (4, .int p4), (5, .int p5)]) rfl (fun ls hl => ?_)
  refine lv_aload_n hx hb dX9_changes_8 rfl (lv_at hl 1 rfl) ?_
  refine lv_iload_n hx hb dX9_changes_9 rfl (lv_at hl 2 rfl) ?_
  refine lv_iload_n hx hb dX9_changes_10 rfl (lv_at hl 3 rfl) ?_
  refine lv_iload_n hx hb dX9_changes_11 rfl (lv_at hl 4 rfl) ?_
  obtain ⟨r3, hc4, hf⟩ := gbd hf
  refine gr_callV (As := [.int p1, .int p2, .int p3]) (rest := []) (st1 := [.int r3]) hE hl.1 ml_X9_248 (c_X9_has l g a0 s0 p1 p2 p3 r3 hc4) hZ hS hP [(0, 14)] rfl okX9 rfl rfl rfl rfl ⟨rfl, rfl⟩ ⟨Nat.le_of_ble_eq_true rfl, Nat.le_of_ble_eq_true rfl⟩ ⟨Nat.le_refl _, Nat.le_refl _⟩ (Nat.le_of_ble_eq_true rfl) dX9_changes_12 ?_
  refine lv_istore hx hb dX9_changes_15 hl (by decide) (lv' := [(7, .int r3), (6, .int r1), (0, .ref (a0 0)), (1, .int p1), (2, .int p2), (3, .int p3), (4, .int p4), (5, .int p5)]) rfl (fun ls hl => ?_)
  refine lv_aload_n hx hb dX9_changes_17 rfl (lv_at hl 2 rfl) ?_
  refine lv_iload_n hx hb dX9_changes_18 rfl (lv_at hl 3 rfl) ?_
  refine lv_iload_n hx hb dX9_changes_19 rfl (lv_at hl 4 rfl) ?_
  refine lv_iload_n hx hb dX9_changes_20 rfl (lv_at hl 5 rfl) ?_
  refine lv_iload hx hb dX9_changes_21 (lv_at hl 6 rfl) ?_
  obtain ⟨r5, hc6, hf⟩ := gbd hf
  refine gr_callV (As := [.int p1, .int p2, .int p3, .int p4]) (rest := []) (st1 := [.int r5]) hE hl.1 ml_X9_237 (c_X9_thereOf l g a0 s0 p1 p2 p3 p4 r5 hc6) hZ hS hP [(0, 14)] rfl okX9 rfl rfl rfl rfl ⟨rfl, rfl⟩ ⟨Nat.le_of_ble_eq_true rfl, Nat.le_of_ble_eq_true rfl⟩ ⟨Nat.le_refl _, Nat.le_refl _⟩ (Nat.le_of_ble_eq_true rfl) dX9_changes_23 ?_
  refine lv_istore hx hb dX9_changes_26 hl (by decide) (lv' := [(8, .int r5), (7, .int r3), (6, .int r1), (0, .ref (a0 0)), (1, .int p1), (2, .int p2), (3, .int p3), (4, .int p4), (5, .int p5)]) rfl (fun ls hl => ?_)
  refine lv_aload_n hx hb dX9_changes_28 rfl (lv_at hl 3 rfl) ?_
  refine lv_iload_n hx hb dX9_changes_29 rfl (lv_at hl 4 rfl) ?_
  refine lv_iload_n hx hb dX9_changes_30 rfl (lv_at hl 5 rfl) ?_
  refine lv_iload_n hx hb dX9_changes_31 rfl (lv_at hl 6 rfl) ?_
  refine lv_iload hx hb dX9_changes_32 (lv_at hl 7 rfl) ?_
  obtain ⟨r7, hc8, hf⟩ := gbd hf
  refine gr_callS (As := [.int p2, .int p3, .int p4]) (rest := [.int p1, .ref (a0 0)]) (st1 := [.int r7, .int p1, .ref (a0 0)]) hE hl.1 ml_X9_233 (c_X9_netAt l g p2 p3 p4 r7 hc8) hZ hS hP [] rfl rfl rfl rfl ⟨rfl, rfl⟩ ⟨Nat.le_of_ble_eq_true rfl, Nat.le_of_ble_eq_true rfl⟩ ⟨Nat.le_refl _, Nat.le_refl _⟩ (Nat.le_of_ble_eq_true rfl) dX9_changes_34 ?_
  refine lv_iload hx hb dX9_changes_37 (lv_at hl 8 rfl) ?_
  obtain ⟨r9, hc10, hf⟩ := gbd hf
  refine gm_callV1 (As := [.int p1, .int r7, .int p5]) (rest := []) (st1 := fun _ => []) (ws' := fun _ => (Mo_c g a0 r9)) hE hl.1 ml_X9_257 (c_X9_more l g a0 s0 p1 r7 p5 r9 hc10) hZ hP hD hS hA 0 14 rfl (fun _ => rfl) okX9 rfl rfl rfl (fun _ => rfl) ⟨rfl, rfl⟩ ⟨Nat.le_of_ble_eq_true rfl, Nat.le_of_ble_eq_true rfl⟩ ⟨Nat.le_refl _, Nat.le_refl _⟩ (Nat.le_of_ble_eq_true rfl) dX9_changes_39 (fun _ H locs hP hD hS => ?_)
  refine lv_aload_n hx hb dX9_changes_42 rfl (lv_at hl 3 rfl) ?_
  refine lv_iload_n hx hb dX9_changes_43 rfl (lv_at hl 4 rfl) ?_
  refine lv_iload_n hx hb dX9_changes_44 rfl (lv_at hl 5 rfl) ?_
  refine lv_iload_n hx hb dX9_changes_45 rfl (lv_at hl 6 rfl) ?_
  refine lv_iload hx hb dX9_changes_46 (lv_at hl 7 rfl) ?_
  obtain ⟨r11, hc12, hf⟩ := gbd hf
  refine gr_callV (As := [.int p1, .int p2, .int p3, .int p4]) (rest := []) (st1 := [.int r11]) hE hl.1 ml_X9_237 (c_X9_thereOf l g a0 r9 p1 p2 p3 p4 r11 hc12) hZ hS hP [(0, 14)] rfl okX9 rfl rfl rfl rfl ⟨rfl, rfl⟩ ⟨Nat.le_of_ble_eq_true rfl, Nat.le_of_ble_eq_true rfl⟩ ⟨Nat.le_refl _, Nat.le_refl _⟩ (Nat.le_of_ble_eq_true rfl) dX9_changes_48 ?_
  refine lv_iload hx hb dX9_changes_51 (lv_at hl 0 rfl) ?_
  refine lv_isub hx hb dX9_changes_53 ?_
  refine lv_istore hx hb dX9_changes_54 hl (by decide) (lv' := [(9, .int (r11 - r5)), (8, .int r5), (7, .int r3), (6, .int r1), (0, .ref (a0 0)), (1, .int p1), (2, .int p2), (3, .int p3), (4, .int p4), (5, .int p5)]) rfl (fun ls hl => ?_)
  refine lv_aload_n hx hb dX9_changes_56 rfl (lv_at hl 4 rfl) ?_
  refine lv_iload_n hx hb dX9_changes_57 rfl (lv_at hl 5 rfl) ?_
  refine lv_iload_n hx hb dX9_changes_58 rfl (lv_at hl 6 rfl) ?_
  refine lv_iload_n hx hb dX9_changes_59 rfl (lv_at hl 7 rfl) ?_
  obtain ⟨r13, hc14, hf⟩ := gbd hf
  refine gr_callV (As := [.int p1, .int p2, .int p3]) (rest := []) (st1 := [.int r13]) hE hl.1 ml_X9_248 (c_X9_has l g a0 r9 p1 p2 p3 r13 hc14) hZ hS hP [(0, 14)] rfl okX9 rfl rfl rfl rfl ⟨rfl, rfl⟩ ⟨Nat.le_of_ble_eq_true rfl, Nat.le_of_ble_eq_true rfl⟩ ⟨Nat.le_refl _, Nat.le_refl _⟩ (Nat.le_of_ble_eq_true rfl) dX9_changes_60 ?_
  refine lv_istore hx hb dX9_changes_63 hl (by decide) (lv' := [(10, .int r13), (9, .int (r11 - r5)), (8, .int r5), (7, .int r3), (6, .int r1), (0, .ref (a0 0)), (1, .int p1), (2, .int p2), (3, .int p3), (4, .int p4), (5, .int p5)]) rfl (fun ls hl => ?_)
  refine lv_aload_n hx hb dX9_changes_65 rfl (lv_at hl 5 rfl) ?_
  refine lv_iload_n hx hb dX9_changes_66 rfl (lv_at hl 6 rfl) ?_
  refine lv_iconst hx hb dX9_changes_67 kci_1 ?_
  refine lv_iload_n hx hb dX9_changes_68 rfl (lv_at hl 7 rfl) ?_
  refine lv_isub hx hb dX9_changes_69 ?_
  refine lv_iload_n hx hb dX9_changes_70 rfl (lv_at hl 8 rfl) ?_
  obtain ⟨r15, hc16, hf⟩ := gbd hf
  refine gr_callV (As := [.int p1, .int ((1 : Int32) - p2), .int p3]) (rest := []) (st1 := [.int r15]) hE hl.1 ml_X9_248 (c_X9_has l g a0 r9 p1 ((1 : Int32) - p2) p3 r15 hc16) hZ hS hP [(0, 14)] rfl okX9 rfl rfl rfl rfl ⟨rfl, rfl⟩ ⟨Nat.le_of_ble_eq_true rfl, Nat.le_of_ble_eq_true rfl⟩ ⟨Nat.le_refl _, Nat.le_refl _⟩ (Nat.le_of_ble_eq_true rfl) dX9_changes_71 ?_
  refine lv_istore hx hb dX9_changes_74 hl (by decide) (lv' := [(11, .int r15), (10, .int r13), (9, .int (r11 - r5)), (8, .int r5), (7, .int r3), (6, .int r1), (0, .ref (a0 0)), (1, .int p1), (2, .int p2), (3, .int p3), (4, .int p4), (5, .int p5)]) rfl (fun ls hl => ?_)
  refine lv_iload hx hb dX9_changes_76 (lv_at hl 4 rfl) ?_
  refine lv_iload hx hb dX9_changes_78 (lv_at hl 1 rfl) ?_
  obtain ⟨J17, eJ17, hf⟩ := gltd hf
  have kJ17 : ∀ (s0_18 : MoT) (ls : Array Slot) (H : Heap) (locs : List Loc), J17 s0_18 = some res → lv_has ls 13 [(0, .ref (a0 0)), (1, .int p1), (2, .int p2), (3, .int p3), (4, .int p4), (6, .int r1), (7, .int r3), (9, .int (r11 - r5)), (10, .int r13), (11, .int r15)] → gP g (Mo_c g a0 s0_18) H → va_D A (Mo_c g a0 s0_18) → va_S A s.heap H locs → W p l e rm_X9_changes s m args below meth c H locs 0 0 Q (F0 m 99 ls []) := by
    intro s0_18 ls H locs hf hl hP hD hS
    rw [eJ17] at hf
    refine lv_iload hx hb dX9_changes_99 (lv_at hl 6 rfl) ?_
    obtain ⟨J19, eJ19, hf⟩ := gltd hf
    have kJ19 : ∀ (s0_20 : MoT) (ls : Array Slot) (H : Heap) (locs : List Loc), J19 s0_20 = some res → lv_has ls 13 [(0, .ref (a0 0)), (1, .int p1), (2, .int p2), (3, .int p3), (4, .int p4), (6, .int r1), (7, .int r3), (9, .int (r11 - r5)), (10, .int r13), (11, .int r15)] → gP g (Mo_c g a0 s0_20) H → va_D A (Mo_c g a0 s0_20) → va_S A s.heap H locs → W p l e rm_X9_changes s m args below meth c H locs 0 0 Q (F0 m 130 ls []) := by
      intro s0_20 ls H locs hf hl hP hD hS
      rw [eJ19] at hf
      refine lv_iload hx hb dX9_changes_130 (lv_at hl 9 rfl) ?_
      obtain ⟨J21, eJ21, hf⟩ := gltd hf
      have kJ21 : ∀ (s0_22 : MoT) (ls : Array Slot) (H : Heap) (locs : List Loc), J21 s0_22 = some res → lv_has ls 13 [(0, .ref (a0 0)), (1, .int p1), (2, .int p2), (3, .int p3), (6, .int r1), (7, .int r3), (10, .int r13)] → gP g (Mo_c g a0 s0_22) H → va_D A (Mo_c g a0 s0_22) → va_S A s.heap H locs → W p l e rm_X9_changes s m args below meth c H locs 0 0 Q (F0 m 201 ls []) := by
        intro s0_22 ls H locs hf hl hP hD hS
        rw [eJ21] at hf
        refine lv_iload hx hb dX9_changes_201 (lv_at hl 5 rfl) ?_
        refine lv_if_eq hx hb dX9_changes_203 (tgt := 232) rfl (fun h23 => ?_) (fun h23 => ?_)
        · have hf := gif_t h23 hf
          cases hf
          exact hq () rfl hP hD hS dX9_changes_232
        · have hf := gif_f h23 hf
          refine lv_iload hx hb dX9_changes_206 (lv_at hl 6 rfl) ?_
          refine lv_if_ne hx hb dX9_changes_208 (tgt := 232) rfl (fun h24 => ?_) (fun h24 => ?_)
          · have hf := gif_f h24 hf
            cases hf
            exact hq () rfl hP hD hS dX9_changes_232
          · have hf := gif_t h24 hf
            refine lv_iload hx hb dX9_changes_211 (lv_at hl 4 rfl) ?_
            refine lv_iconst hx hb dX9_changes_213 kci_1 ?_
            refine lv_iload_n hx hb dX9_changes_214 rfl (lv_at hl 2 rfl) ?_
            refine lv_isub hx hb dX9_changes_215 ?_
            obtain ⟨r25, hc26, hf⟩ := gbd hf
            refine gr_callS (As := [.int r1, .int ((1 : Int32) - p2)]) (rest := []) (st1 := [.int r25]) hE hl.1 ml_X9_244 (c_X9_isOuter l g r1 ((1 : Int32) - p2) r25 hc26) hZ hS hP [] rfl rfl rfl rfl ⟨rfl, rfl⟩ ⟨Nat.le_of_ble_eq_true rfl, Nat.le_of_ble_eq_true rfl⟩ ⟨Nat.le_refl _, Nat.le_refl _⟩ (Nat.le_of_ble_eq_true rfl) dX9_changes_216 ?_
            refine lv_if_eq hx hb dX9_changes_219 (tgt := 232) rfl (fun h27 => ?_) (fun h27 => ?_)
            · have hf := gif_t h27 hf
              cases hf
              exact hq () rfl hP hD hS dX9_changes_232
            · have hf := gif_f h27 hf
              refine lv_aload_n hx hb dX9_changes_222 rfl (lv_at hl 0 rfl) ?_
              refine lv_iload_n hx hb dX9_changes_223 rfl (lv_at hl 1 rfl) ?_
              refine lv_iconst hx hb dX9_changes_224 kci_1 ?_
              refine lv_iload_n hx hb dX9_changes_225 rfl (lv_at hl 2 rfl) ?_
              refine lv_isub hx hb dX9_changes_226 ?_
              refine lv_iload_n hx hb dX9_changes_227 rfl (lv_at hl 3 rfl) ?_
              refine lv_iconst hx hb dX9_changes_228 kci_1 ?_
              obtain ⟨r28, hc29, hf⟩ := gbd hf
              refine gm_callV1 (As := [.int p1, .int ((1 : Int32) - p2), .int p3, .int (1 : Int32)]) (rest := []) (st1 := fun _ => []) (ws' := fun _ => (Mo_c g a0 r28)) hE hl.1 ml_X9_267 (c_X9_sendsOuter l g a0 s0_22 p1 ((1 : Int32) - p2) p3 (1 : Int32) r28 hc29) hZ hP hD hS hA 0 14 rfl (fun _ => rfl) okX9 rfl rfl rfl (fun _ => rfl) ⟨rfl, rfl⟩ ⟨Nat.le_of_ble_eq_true rfl, Nat.le_of_ble_eq_true rfl⟩ ⟨Nat.le_refl _, Nat.le_refl _⟩ (Nat.le_of_ble_eq_true rfl) dX9_changes_229 (fun _ H locs hP hD hS => ?_)
              cases hf
              exact hq () rfl hP hD hS dX9_changes_232
      refine lv_if_eq hx hb dX9_changes_132 (tgt := 179) rfl (fun h30 => ?_) (fun h30 => ?_)
      · have hf := gif_t h30 hf
        refine lv_iload hx hb dX9_changes_179 (lv_at hl 5 rfl) ?_
        refine lv_iload_n hx hb dX9_changes_181 rfl (lv_at hl 2 rfl) ?_
        obtain ⟨r31, hc32, hf⟩ := gbd hf
        refine gr_callS (As := [.int r1, .int p2]) (rest := []) (st1 := [.int r31]) hE hl.1 ml_X9_244 (c_X9_isOuter l g r1 p2 r31 hc32) hZ hS hP [] rfl rfl rfl rfl ⟨rfl, rfl⟩ ⟨Nat.le_of_ble_eq_true rfl, Nat.le_of_ble_eq_true rfl⟩ ⟨Nat.le_refl _, Nat.le_refl _⟩ (Nat.le_of_ble_eq_true rfl) dX9_changes_182 ?_
        refine lv_if_eq hx hb dX9_changes_185 (tgt := 201) rfl (fun h33 => ?_) (fun h33 => ?_)
        · have hf := gif_t h33 hf
          exact kJ21 s0_20 ls H locs hf (lv_sub hl [0, 1, 2, 3, 5, 6, 8] rfl) hP hD hS
        · have hf := gif_f h33 hf
          refine lv_aload_n hx hb dX9_changes_188 rfl (lv_at hl 0 rfl) ?_
          refine lv_iload_n hx hb dX9_changes_189 rfl (lv_at hl 1 rfl) ?_
          refine lv_iload_n hx hb dX9_changes_190 rfl (lv_at hl 2 rfl) ?_
          refine lv_iload_n hx hb dX9_changes_191 rfl (lv_at hl 3 rfl) ?_
          refine lv_iload hx hb dX9_changes_192 (lv_at hl 4 rfl) ?_
          refine lv_bipush hx hb dX9_changes_194 kcb_8 ?_
          refine lv_iload hx hb dX9_changes_196 (lv_at hl 7 rfl) ?_
          obtain ⟨r34, hc35, hf⟩ := gbd hf
          refine gm_callV1 (As := [.int p1, .int p2, .int p3, .int p4, .int (8 : Int32), .int (r11 - r5)]) (rest := []) (st1 := fun _ => []) (ws' := fun _ => (Mo_c g a0 r34)) hE hl.1 ml_X9_264 (c_X9_sendsBy l g a0 s0_20 p1 p2 p3 p4 (8 : Int32) (r11 - r5) r34 hc35) hZ hP hD hS hA 0 14 rfl (fun _ => rfl) okX9 rfl rfl rfl (fun _ => rfl) ⟨rfl, rfl⟩ ⟨Nat.le_of_ble_eq_true rfl, Nat.le_of_ble_eq_true rfl⟩ ⟨Nat.le_refl _, Nat.le_refl _⟩ (Nat.le_of_ble_eq_true rfl) dX9_changes_198 (fun _ H locs hP hD hS => ?_)
          exact kJ21 r34 ls H locs hf (lv_sub hl [0, 1, 2, 3, 5, 6, 8] rfl) hP hD hS
      · have hf := gif_f h30 hf
        refine lv_iconst hx hb dX9_changes_135 kci_0 ?_
        refine lv_istore hx hb dX9_changes_136 hl (by decide) (lv' := [(12, .int (0 : Int32)), (0, .ref (a0 0)), (1, .int p1), (2, .int p2), (3, .int p3), (4, .int p4), (6, .int r1), (7, .int r3), (9, .int (r11 - r5)), (10, .int r13), (11, .int r15)]) rfl (fun ls hl => ?_)
        obtain ⟨K36, eK36, hf⟩ := gltd hf
        have kK36 : ∀ (s0_37 : MoT) (ls : Array Slot) (H : Heap) (locs : List Loc), K36 s0_37 = some res → lv_has ls 13 [(0, .ref (a0 0)), (1, .int p1), (2, .int p2), (3, .int p3), (6, .int r1), (7, .int r3), (10, .int r13)] → gP g (Mo_c g a0 s0_37) H → va_D A (Mo_c g a0 s0_37) → va_S A s.heap H locs → W p l e rm_X9_changes s m args below meth c H locs 0 0 Q (F0 m 176 ls []) := by
          intro s0_37 ls H locs hf hl hP hD hS
          rw [eK36] at hf
          refine lv_goto hx hb dX9_changes_176 (tgt := 201) rfl ?_
          exact kJ21 s0_37 ls H locs hf (lv_sub hl [0, 1, 2, 3, 4, 5, 6] rfl) hP hD hS
        have lpn41 : ∀ (n41 : Nat) (x12_38 : Int32) (s0_39 : MoT) (ls : Array Slot) (H : Heap) (locs : List Loc), f_X9_changes_L138_40 p1 p2 p3 p4 r5 r11 K36 n41 x12_38 s0_39 = some res → lv_has ls 13 [(0, .ref (a0 0)), (1, .int p1), (2, .int p2), (3, .int p3), (4, .int p4), (6, .int r1), (7, .int r3), (9, .int (r11 - r5)), (10, .int r13), (12, .int x12_38)] → gP g (Mo_c g a0 s0_39) H → va_D A (Mo_c g a0 s0_39) → va_S A s.heap H locs → W p l e rm_X9_changes s m args below meth c H locs 0 0 Q (F0 m 138 ls []) := by
          intro n41
          induction n41 with
          | zero => intro x12_38 s0_39 ls H locs hf hl hP hD hS; rw [f_X9_changes_L138_40] at hf; cases hf
          | succ n41 ihn41 =>
            intro x12_38 s0_39 ls H locs hf hl hP hD hS
            rw [f_X9_changes_L138_40] at hf
            refine lv_iload hx hb dX9_changes_138 (lv_at hl 9 rfl) ?_
            refine lv_bipush hx hb dX9_changes_140 kcb_8 ?_
            refine lv_icmp_ge hx hb dX9_changes_142 (tgt := 176) rfl (fun h42 => ?_) (fun h42 => ?_)
            · have hf := gif_t h42 hf
              exact kK36 s0_39 ls H locs hf (lv_sub hl [0, 1, 2, 3, 5, 6, 8] rfl) hP hD hS
            · have hf := gif_f h42 hf
              refine lv_aload_n hx hb dX9_changes_145 rfl (lv_at hl 0 rfl) ?_
              refine lv_iload_n hx hb dX9_changes_146 rfl (lv_at hl 1 rfl) ?_
              refine lv_iload_n hx hb dX9_changes_147 rfl (lv_at hl 2 rfl) ?_
              refine lv_iload_n hx hb dX9_changes_148 rfl (lv_at hl 3 rfl) ?_
              refine lv_iload hx hb dX9_changes_149 (lv_at hl 4 rfl) ?_
              refine lv_iload hx hb dX9_changes_151 (lv_at hl 9 rfl) ?_
              refine lv_iload hx hb dX9_changes_153 (lv_at hl 7 rfl) ?_
              refine lv_aload_n hx hb dX9_changes_155 rfl (lv_at hl 0 rfl) ?_
              refine lv_iload_n hx hb dX9_changes_156 rfl (lv_at hl 1 rfl) ?_
              refine lv_iconst hx hb dX9_changes_157 kci_1 ?_
              refine lv_iload_n hx hb dX9_changes_158 rfl (lv_at hl 2 rfl) ?_
              refine lv_isub hx hb dX9_changes_159 ?_
              refine lv_iload_n hx hb dX9_changes_160 rfl (lv_at hl 3 rfl) ?_
              refine lv_iload hx hb dX9_changes_161 (lv_at hl 9 rfl) ?_
              obtain ⟨r43, hc44, hf⟩ := gbd hf
              refine gr_callV (As := [.int p1, .int ((1 : Int32) - p2), .int p3, .int x12_38]) (rest := [.int (r11 - r5), .int x12_38, .int p4, .int p3, .int p2, .int p1, .ref (a0 0)]) (st1 := [.int r43, .int (r11 - r5), .int x12_38, .int p4, .int p3, .int p2, .int p1, .ref (a0 0)]) hE hl.1 ml_X9_237 (c_X9_thereOf l g a0 s0_39 p1 ((1 : Int32) - p2) p3 x12_38 r43 hc44) hZ hS hP [(0, 14)] rfl okX9 rfl rfl rfl rfl ⟨rfl, rfl⟩ ⟨Nat.le_of_ble_eq_true rfl, Nat.le_of_ble_eq_true rfl⟩ ⟨Nat.le_refl _, Nat.le_refl _⟩ (Nat.le_of_ble_eq_true rfl) dX9_changes_163 ?_
              refine lv_imul hx hb dX9_changes_166 ?_
              obtain ⟨r45, hc46, hf⟩ := gbd hf
              refine gm_callV1 (As := [.int p1, .int p2, .int p3, .int p4, .int x12_38, .int ((r11 - r5) * r43)]) (rest := []) (st1 := fun _ => []) (ws' := fun _ => (Mo_c g a0 r45)) hE hl.1 ml_X9_264 (c_X9_sendsBy l g a0 s0_39 p1 p2 p3 p4 x12_38 ((r11 - r5) * r43) r45 hc46) hZ hP hD hS hA 0 14 rfl (fun _ => rfl) okX9 rfl rfl rfl (fun _ => rfl) ⟨rfl, rfl⟩ ⟨Nat.le_of_ble_eq_true rfl, Nat.le_of_ble_eq_true rfl⟩ ⟨Nat.le_refl _, Nat.le_refl _⟩ (Nat.le_of_ble_eq_true rfl) dX9_changes_167 (fun _ H locs hP hD hS => ?_)
              refine lv_iinc hx hb dX9_changes_170 hl (k := 9) (x := x12_38) rfl (kinc_1 _) (by decide) (lv' := [(12, .int (x12_38 + (1 : Int32))), (0, .ref (a0 0)), (1, .int p1), (2, .int p2), (3, .int p3), (4, .int p4), (6, .int r1), (7, .int r3), (9, .int (r11 - r5)), (10, .int r13)]) rfl (fun ls hl => ?_)
              refine lv_goto hx hb dX9_changes_173 (tgt := 138) rfl ?_
              exact ihn41 (x12_38 + (1 : Int32)) r45 ls H locs hf (lv_sub hl [1, 2, 3, 4, 5, 6, 7, 8, 9, 0] rfl) hP hD hS
        exact lpn41 10000 (0 : Int32) s0_20 ls H locs hf (lv_sub hl [1, 2, 3, 4, 5, 6, 7, 8, 9, 0] rfl) hP hD hS
    refine lv_if_ne hx hb dX9_changes_101 (tgt := 130) rfl (fun h47 => ?_) (fun h47 => ?_)
    · have hf := gif_f h47 hf
      exact kJ19 s0_18 ls H locs hf (lv_sub hl [0, 1, 2, 3, 4, 5, 6, 7, 8, 9] rfl) hP hD hS
    · have hf := gif_t h47 hf
      refine lv_iload hx hb dX9_changes_104 (lv_at hl 8 rfl) ?_
      refine lv_if_eq hx hb dX9_changes_106 (tgt := 130) rfl (fun h48 => ?_) (fun h48 => ?_)
      · have hf := gif_t h48 hf
        exact kJ19 s0_18 ls H locs hf (lv_sub hl [0, 1, 2, 3, 4, 5, 6, 7, 8, 9] rfl) hP hD hS
      · have hf := gif_f h48 hf
        refine lv_iload hx hb dX9_changes_109 (lv_at hl 5 rfl) ?_
        refine lv_iconst hx hb dX9_changes_111 kci_1 ?_
        refine lv_iload_n hx hb dX9_changes_112 rfl (lv_at hl 2 rfl) ?_
        refine lv_isub hx hb dX9_changes_113 ?_
        obtain ⟨r49, hc50, hf⟩ := gbd hf
        refine gr_callS (As := [.int r1, .int ((1 : Int32) - p2)]) (rest := []) (st1 := [.int r49]) hE hl.1 ml_X9_244 (c_X9_isOuter l g r1 ((1 : Int32) - p2) r49 hc50) hZ hS hP [] rfl rfl rfl rfl ⟨rfl, rfl⟩ ⟨Nat.le_of_ble_eq_true rfl, Nat.le_of_ble_eq_true rfl⟩ ⟨Nat.le_refl _, Nat.le_refl _⟩ (Nat.le_of_ble_eq_true rfl) dX9_changes_114 ?_
        refine lv_if_eq hx hb dX9_changes_117 (tgt := 130) rfl (fun h51 => ?_) (fun h51 => ?_)
        · have hf := gif_t h51 hf
          exact kJ19 s0_18 ls H locs hf (lv_sub hl [0, 1, 2, 3, 4, 5, 6, 7, 8, 9] rfl) hP hD hS
        · have hf := gif_f h51 hf
          refine lv_aload_n hx hb dX9_changes_120 rfl (lv_at hl 0 rfl) ?_
          refine lv_iload_n hx hb dX9_changes_121 rfl (lv_at hl 1 rfl) ?_
          refine lv_iconst hx hb dX9_changes_122 kci_1 ?_
          refine lv_iload_n hx hb dX9_changes_123 rfl (lv_at hl 2 rfl) ?_
          refine lv_isub hx hb dX9_changes_124 ?_
          refine lv_iload_n hx hb dX9_changes_125 rfl (lv_at hl 3 rfl) ?_
          refine lv_iconst hx hb dX9_changes_126 kci_m1 ?_
          obtain ⟨r52, hc53, hf⟩ := gbd hf
          refine gm_callV1 (As := [.int p1, .int ((1 : Int32) - p2), .int p3, .int (-1 : Int32)]) (rest := []) (st1 := fun _ => []) (ws' := fun _ => (Mo_c g a0 r52)) hE hl.1 ml_X9_267 (c_X9_sendsOuter l g a0 s0_18 p1 ((1 : Int32) - p2) p3 (-1 : Int32) r52 hc53) hZ hP hD hS hA 0 14 rfl (fun _ => rfl) okX9 rfl rfl rfl (fun _ => rfl) ⟨rfl, rfl⟩ ⟨Nat.le_of_ble_eq_true rfl, Nat.le_of_ble_eq_true rfl⟩ ⟨Nat.le_refl _, Nat.le_refl _⟩ (Nat.le_of_ble_eq_true rfl) dX9_changes_127 (fun _ H locs hP hD hS => ?_)
          exact kJ19 r52 ls H locs hf (lv_sub hl [0, 1, 2, 3, 4, 5, 6, 7, 8, 9] rfl) hP hD hS
  refine lv_icmp_eq hx hb dX9_changes_80 (tgt := 99) rfl (fun h54 => ?_) (fun h54 => ?_)
  · have hf := gif_t h54 hf
    exact kJ17 r9 ls H locs hf (lv_sub hl [6, 7, 8, 9, 10, 5, 4, 2, 1, 0] rfl) hP hD hS
  · have hf := gif_f h54 hf
    refine lv_aload_n hx hb dX9_changes_83 rfl (lv_at hl 6 rfl) ?_
    refine lv_iload_n hx hb dX9_changes_84 rfl (lv_at hl 7 rfl) ?_
    refine lv_sipush hx hb dX9_changes_85 kcs_1363 ?_
    refine lv_bipush hx hb dX9_changes_88 kcb_8 ?_
    refine lv_iload_n hx hb dX9_changes_90 rfl (lv_at hl 8 rfl) ?_
    refine lv_imul hx hb dX9_changes_91 ?_
    refine lv_iadd hx hb dX9_changes_92 ?_
    refine lv_iload_n hx hb dX9_changes_93 rfl (lv_at hl 9 rfl) ?_
    refine lv_iadd hx hb dX9_changes_94 ?_
    refine lv_iconst hx hb dX9_changes_95 kci_1 ?_
    obtain ⟨r55, hc56, hf⟩ := gbd hf
    refine gm_callV1 (As := [.int p1, .int (((1363 : Int32) + ((8 : Int32) * p2)) + p3), .int (1 : Int32)]) (rest := []) (st1 := fun _ => []) (ws' := fun _ => (Mo_c g a0 r55)) hE hl.1 ml_X9_257 (c_X9_more l g a0 r9 p1 (((1363 : Int32) + ((8 : Int32) * p2)) + p3) (1 : Int32) r55 hc56) hZ hP hD hS hA 0 14 rfl (fun _ => rfl) okX9 rfl rfl rfl (fun _ => rfl) ⟨rfl, rfl⟩ ⟨Nat.le_of_ble_eq_true rfl, Nat.le_of_ble_eq_true rfl⟩ ⟨Nat.le_refl _, Nat.le_refl _⟩ (Nat.le_of_ble_eq_true rfl) dX9_changes_96 (fun _ H locs hP hD hS => ?_)
    exact kJ17 r55 ls H locs hf (lv_sub hl [6, 7, 8, 9, 10, 5, 4, 2, 1, 0] rfl) hP hD hS
theorem dX9_countsMost_0 : decode cX9_countsMost 0 = .ok (.aload_n 0, 1) := by decide +kernel
theorem dX9_countsMost_1 : decode cX9_countsMost 1 = .ok (.iload_n 1, 1) := by decide +kernel
theorem dX9_countsMost_2 : decode cX9_countsMost 2 = .ok (.bipush 11, 2) := by decide +kernel
theorem dX9_countsMost_4 : decode cX9_countsMost 4 = .ok (.invokevirtual 200, 3) := by decide +kernel
theorem dX9_countsMost_7 : decode cX9_countsMost 7 = .ok (.iload_n 2, 1) := by decide +kernel
theorem dX9_countsMost_8 : decode cX9_countsMost 8 = .ok (.isub, 1) := by decide +kernel
theorem dX9_countsMost_9 : decode cX9_countsMost 9 = .ok (.istore_n 3, 1) := by decide +kernel
theorem dX9_countsMost_10 : decode cX9_countsMost 10 = .ok (.iload_n 3, 1) := by decide +kernel
theorem dX9_countsMost_11 : decode cX9_countsMost 11 = .ok (.aload_n 0, 1) := by decide +kernel
theorem dX9_countsMost_12 : decode cX9_countsMost 12 = .ok (.iload_n 1, 1) := by decide +kernel
theorem dX9_countsMost_13 : decode cX9_countsMost 13 = .ok (.bipush 12, 2) := by decide +kernel
theorem dX9_countsMost_15 : decode cX9_countsMost 15 = .ok (.invokevirtual 200, 3) := by decide +kernel
theorem dX9_countsMost_18 : decode cX9_countsMost 18 = .ok (.if_icmp .gt 5, 3) := by decide +kernel
theorem dX9_countsMost_21 : decode cX9_countsMost 21 = .ok (.iload_n 3, 1) := by decide +kernel
theorem dX9_countsMost_22 : decode cX9_countsMost 22 = .ok (.ireturn, 1) := by decide +kernel
theorem dX9_countsMost_23 : decode cX9_countsMost 23 = .ok (.aload_n 0, 1) := by decide +kernel
theorem dX9_countsMost_24 : decode cX9_countsMost 24 = .ok (.iload_n 1, 1) := by decide +kernel
theorem dX9_countsMost_25 : decode cX9_countsMost 25 = .ok (.bipush 12, 2) := by decide +kernel
theorem dX9_countsMost_27 : decode cX9_countsMost 27 = .ok (.iload_n 3, 1) := by decide +kernel
theorem dX9_countsMost_28 : decode cX9_countsMost 28 = .ok (.invokevirtual 68, 3) := by decide +kernel
theorem dX9_countsMost_31 : decode cX9_countsMost 31 = .ok (.aload_n 0, 1) := by decide +kernel
theorem dX9_countsMost_32 : decode cX9_countsMost 32 = .ok (.iload_n 1, 1) := by decide +kernel
theorem dX9_countsMost_33 : decode cX9_countsMost 33 = .ok (.bipush 14, 2) := by decide +kernel
theorem dX9_countsMost_35 : decode cX9_countsMost 35 = .ok (.aload_n 0, 1) := by decide +kernel
theorem dX9_countsMost_36 : decode cX9_countsMost 36 = .ok (.iload_n 1, 1) := by decide +kernel
theorem dX9_countsMost_37 : decode cX9_countsMost 37 = .ok (.bipush 6, 2) := by decide +kernel
theorem dX9_countsMost_39 : decode cX9_countsMost 39 = .ok (.invokevirtual 200, 3) := by decide +kernel
theorem dX9_countsMost_42 : decode cX9_countsMost 42 = .ok (.invokevirtual 68, 3) := by decide +kernel
theorem dX9_countsMost_45 : decode cX9_countsMost 45 = .ok (.iload_n 3, 1) := by decide +kernel
theorem dX9_countsMost_46 : decode cX9_countsMost 46 = .ok (.ireturn, 1) := by decide +kernel
def f_X9_countsMost (s0 : MoT) (p1 : Int32) (p2 : Int32) : Option (Int32 × MoT) :=
  (f_X9_get s0 p1 (11 : Int32)).bind fun r1 =>
  (f_X9_get s0 p1 (12 : Int32)).bind fun r3 =>
  if r3 < (r1 - p2) then (f_X9_set s0 p1 (12 : Int32) (r1 - p2)).bind fun r6 =>
  (f_X9_get r6 p1 (6 : Int32)).bind fun r8 =>
  (f_X9_set r6 p1 (14 : Int32) r8).bind fun r10 =>
  some ((r1 - p2), r10)
  else some ((r1 - p2), s0)
abbrev rm_X9_countsMost : Room := { frames := 1, cells := 0, slots := 0, locals := 23 }
set_option maxHeartbeats 4000000 in
set_option maxRecDepth 100000 in
theorem c_X9_countsMost (l : Launch) (g : GK) (a0 : Nat → Nat) (s0 : MoT) (p1 : Int32) (p2 : Int32) (res : (Int32 × MoT)) (hf : f_X9_countsMost s0 p1 p2 = some res) : gM l yX9_countsMost cX9_countsMost 4 (some .int) rm_X9_countsMost g [.ref (a0 0), .int p1, .int p2] (Mo_c g a0 s0) (fun _ : Unit => (some (.int (res.1)))) (fun _ => (Mo_c g a0 (res.2))) 0 0 := by
  refine gM_introI RX9 (by decide) rfl (Nat.le_of_ble_eq_true rfl) (fun p e s m args below meth c Q H locs ls A hE hZ hA hP hD hS hq hl => ?_)
  have hl : lv_has ls 4 [(0, .ref (a0 0)), (1, .int p1), (2, .int p2)] := hl
  have hx := hE.1
  have hb := hE.2.1
  rw [f_X9_countsMost] at hf
  refine lv_aload_n hx hb dX9_countsMost_0 rfl (lv_at hl 0 rfl) ?_
  refine lv_iload_n hx hb dX9_countsMost_1 rfl (lv_at hl 1 rfl) ?_
  refine lv_bipush hx hb dX9_countsMost_2 kcb_11 ?_
  obtain ⟨r1, hc2, hf⟩ := gbd hf
  refine gr_callV (As := [.int p1, .int (11 : Int32)]) (rest := []) (st1 := [.int r1]) hE hl.1 ml_X9_200 (c_X9_get l g a0 s0 p1 (11 : Int32) r1 hc2) hZ hS hP [(0, 14)] rfl okX9 rfl rfl rfl rfl ⟨rfl, rfl⟩ ⟨Nat.le_of_ble_eq_true rfl, Nat.le_of_ble_eq_true rfl⟩ ⟨Nat.le_refl _, Nat.le_refl _⟩ (Nat.le_of_ble_eq_true rfl) dX9_countsMost_4 ?_
  refine lv_iload_n hx hb dX9_countsMost_7 rfl (lv_at hl 2 rfl) ?_
  refine lv_isub hx hb dX9_countsMost_8 ?_
  refine lv_istore_n hx hb dX9_countsMost_9 rfl hl (by decide) (lv' := [(3, .int (r1 - p2)), (0, .ref (a0 0)), (1, .int p1), (2, .int p2)]) rfl (fun ls hl => ?_)
  refine lv_iload_n hx hb dX9_countsMost_10 rfl (lv_at hl 0 rfl) ?_
  refine lv_aload_n hx hb dX9_countsMost_11 rfl (lv_at hl 1 rfl) ?_
  refine lv_iload_n hx hb dX9_countsMost_12 rfl (lv_at hl 2 rfl) ?_
  refine lv_bipush hx hb dX9_countsMost_13 kcb_12 ?_
  obtain ⟨r3, hc4, hf⟩ := gbd hf
  refine gr_callV (As := [.int p1, .int (12 : Int32)]) (rest := [.int (r1 - p2)]) (st1 := [.int r3, .int (r1 - p2)]) hE hl.1 ml_X9_200 (c_X9_get l g a0 s0 p1 (12 : Int32) r3 hc4) hZ hS hP [(0, 14)] rfl okX9 rfl rfl rfl rfl ⟨rfl, rfl⟩ ⟨Nat.le_of_ble_eq_true rfl, Nat.le_of_ble_eq_true rfl⟩ ⟨Nat.le_refl _, Nat.le_refl _⟩ (Nat.le_of_ble_eq_true rfl) dX9_countsMost_15 ?_
  refine lv_icmp_gt hx hb dX9_countsMost_18 (tgt := 23) rfl (fun h5 => ?_) (fun h5 => ?_)
  · have hf := gif_t h5 hf
    refine lv_aload_n hx hb dX9_countsMost_23 rfl (lv_at hl 1 rfl) ?_
    refine lv_iload_n hx hb dX9_countsMost_24 rfl (lv_at hl 2 rfl) ?_
    refine lv_bipush hx hb dX9_countsMost_25 kcb_12 ?_
    refine lv_iload_n hx hb dX9_countsMost_27 rfl (lv_at hl 0 rfl) ?_
    obtain ⟨r6, hc7, hf⟩ := gbd hf
    refine gm_callV1 (As := [.int p1, .int (12 : Int32), .int (r1 - p2)]) (rest := []) (st1 := fun _ => []) (ws' := fun _ => (Mo_c g a0 r6)) hE hl.1 ml_X9_68 (c_X9_set l g a0 s0 p1 (12 : Int32) (r1 - p2) r6 hc7) hZ hP hD hS hA 0 14 rfl (fun _ => rfl) okX9 rfl rfl rfl (fun _ => rfl) ⟨rfl, rfl⟩ ⟨Nat.le_of_ble_eq_true rfl, Nat.le_of_ble_eq_true rfl⟩ ⟨Nat.le_refl _, Nat.le_refl _⟩ (Nat.le_of_ble_eq_true rfl) dX9_countsMost_28 (fun _ H locs hP hD hS => ?_)
    refine lv_aload_n hx hb dX9_countsMost_31 rfl (lv_at hl 1 rfl) ?_
    refine lv_iload_n hx hb dX9_countsMost_32 rfl (lv_at hl 2 rfl) ?_
    refine lv_bipush hx hb dX9_countsMost_33 kcb_14 ?_
    refine lv_aload_n hx hb dX9_countsMost_35 rfl (lv_at hl 1 rfl) ?_
    refine lv_iload_n hx hb dX9_countsMost_36 rfl (lv_at hl 2 rfl) ?_
    refine lv_bipush hx hb dX9_countsMost_37 kcb_6 ?_
    obtain ⟨r8, hc9, hf⟩ := gbd hf
    refine gr_callV (As := [.int p1, .int (6 : Int32)]) (rest := [.int (14 : Int32), .int p1, .ref (a0 0)]) (st1 := [.int r8, .int (14 : Int32), .int p1, .ref (a0 0)]) hE hl.1 ml_X9_200 (c_X9_get l g a0 r6 p1 (6 : Int32) r8 hc9) hZ hS hP [(0, 14)] rfl okX9 rfl rfl rfl rfl ⟨rfl, rfl⟩ ⟨Nat.le_of_ble_eq_true rfl, Nat.le_of_ble_eq_true rfl⟩ ⟨Nat.le_refl _, Nat.le_refl _⟩ (Nat.le_of_ble_eq_true rfl) dX9_countsMost_39 ?_
    obtain ⟨r10, hc11, hf⟩ := gbd hf
    refine gm_callV1 (As := [.int p1, .int (14 : Int32), .int r8]) (rest := []) (st1 := fun _ => []) (ws' := fun _ => (Mo_c g a0 r10)) hE hl.1 ml_X9_68 (c_X9_set l g a0 r6 p1 (14 : Int32) r8 r10 hc11) hZ hP hD hS hA 0 14 rfl (fun _ => rfl) okX9 rfl rfl rfl (fun _ => rfl) ⟨rfl, rfl⟩ ⟨Nat.le_of_ble_eq_true rfl, Nat.le_of_ble_eq_true rfl⟩ ⟨Nat.le_refl _, Nat.le_refl _⟩ (Nat.le_of_ble_eq_true rfl) dX9_countsMost_42 (fun _ H locs hP hD hS => ?_)
    refine lv_iload_n hx hb dX9_countsMost_45 rfl (lv_at hl 0 rfl) ?_
    cases hf
    exact hq () rfl hP hD hS dX9_countsMost_46
  · have hf := gif_f h5 hf
    refine lv_iload_n hx hb dX9_countsMost_21 rfl (lv_at hl 0 rfl) ?_
    cases hf
    exact hq () rfl hP hD hS dX9_countsMost_22
theorem dX9_does_0 : decode cX9_does 0 = .ok (.iload 6, 2) := by decide +kernel
theorem dX9_does_2 : decode cX9_does 2 = .ok (.aload_n 0, 1) := by decide +kernel
theorem dX9_does_3 : decode cX9_does 3 = .ok (.iload_n 1, 1) := by decide +kernel
theorem dX9_does_4 : decode cX9_does 4 = .ok (.iconst 5, 1) := by decide +kernel
theorem dX9_does_5 : decode cX9_does 5 = .ok (.invokevirtual 200, 3) := by decide +kernel
theorem dX9_does_8 : decode cX9_does 8 = .ok (.aload_n 0, 1) := by decide +kernel
theorem dX9_does_9 : decode cX9_does 9 = .ok (.iload_n 1, 1) := by decide +kernel
theorem dX9_does_10 : decode cX9_does 10 = .ok (.iconst 2, 1) := by decide +kernel
theorem dX9_does_11 : decode cX9_does 11 = .ok (.invokevirtual 200, 3) := by decide +kernel
theorem dX9_does_14 : decode cX9_does 14 = .ok (.isub, 1) := by decide +kernel
theorem dX9_does_15 : decode cX9_does 15 = .ok (.if_icmp .ge 14, 3) := by decide +kernel
theorem dX9_does_18 : decode cX9_does 18 = .ok (.aload_n 0, 1) := by decide +kernel
theorem dX9_does_19 : decode cX9_does 19 = .ok (.iload_n 1, 1) := by decide +kernel
theorem dX9_does_20 : decode cX9_does 20 = .ok (.bipush 7, 2) := by decide +kernel
theorem dX9_does_22 : decode cX9_does 22 = .ok (.iconst 1, 1) := by decide +kernel
theorem dX9_does_23 : decode cX9_does 23 = .ok (.invokevirtual 257, 3) := by decide +kernel
theorem dX9_does_26 : decode cX9_does 26 = .ok (.bipush (-2), 2) := by decide +kernel
theorem dX9_does_28 : decode cX9_does 28 = .ok (.ireturn, 1) := by decide +kernel
theorem dX9_does_29 : decode cX9_does 29 = .ok (.aload_n 0, 1) := by decide +kernel
theorem dX9_does_30 : decode cX9_does 30 = .ok (.iload_n 1, 1) := by decide +kernel
theorem dX9_does_31 : decode cX9_does 31 = .ok (.iload 6, 2) := by decide +kernel
theorem dX9_does_33 : decode cX9_does 33 = .ok (.invokevirtual 207, 3) := by decide +kernel
theorem dX9_does_36 : decode cX9_does 36 = .ok (.pop, 1) := by decide +kernel
theorem dX9_does_37 : decode cX9_does 37 = .ok (.aload_n 0, 1) := by decide +kernel
theorem dX9_does_38 : decode cX9_does 38 = .ok (.iload_n 1, 1) := by decide +kernel
theorem dX9_does_39 : decode cX9_does 39 = .ok (.bipush 6, 2) := by decide +kernel
theorem dX9_does_41 : decode cX9_does 41 = .ok (.iconst 1, 1) := by decide +kernel
theorem dX9_does_42 : decode cX9_does 42 = .ok (.invokevirtual 257, 3) := by decide +kernel
theorem dX9_does_45 : decode cX9_does 45 = .ok (.aload_n 0, 1) := by decide +kernel
theorem dX9_does_46 : decode cX9_does 46 = .ok (.iload_n 1, 1) := by decide +kernel
theorem dX9_does_47 : decode cX9_does 47 = .ok (.bipush 13, 2) := by decide +kernel
theorem dX9_does_49 : decode cX9_does 49 = .ok (.invokevirtual 200, 3) := by decide +kernel
theorem dX9_does_52 : decode cX9_does 52 = .ok (.bipush 60, 2) := by decide +kernel
theorem dX9_does_54 : decode cX9_does 54 = .ok (.if_icmp .ge 66, 3) := by decide +kernel
theorem dX9_does_57 : decode cX9_does 57 = .ok (.sipush 1123, 3) := by decide +kernel
theorem dX9_does_60 : decode cX9_does 60 = .ok (.iconst 4, 1) := by decide +kernel
theorem dX9_does_61 : decode cX9_does 61 = .ok (.aload_n 0, 1) := by decide +kernel
theorem dX9_does_62 : decode cX9_does 62 = .ok (.iload_n 1, 1) := by decide +kernel
theorem dX9_does_63 : decode cX9_does 63 = .ok (.bipush 13, 2) := by decide +kernel
theorem dX9_does_65 : decode cX9_does 65 = .ok (.invokevirtual 200, 3) := by decide +kernel
theorem dX9_does_68 : decode cX9_does 68 = .ok (.imul, 1) := by decide +kernel
theorem dX9_does_69 : decode cX9_does 69 = .ok (.iadd, 1) := by decide +kernel
theorem dX9_does_70 : decode cX9_does 70 = .ok (.istore 7, 2) := by decide +kernel
theorem dX9_does_72 : decode cX9_does 72 = .ok (.aload_n 0, 1) := by decide +kernel
theorem dX9_does_73 : decode cX9_does 73 = .ok (.iload_n 1, 1) := by decide +kernel
theorem dX9_does_74 : decode cX9_does 74 = .ok (.iload 7, 2) := by decide +kernel
theorem dX9_does_76 : decode cX9_does 76 = .ok (.iload_n 2, 1) := by decide +kernel
theorem dX9_does_77 : decode cX9_does 77 = .ok (.invokevirtual 68, 3) := by decide +kernel
theorem dX9_does_80 : decode cX9_does 80 = .ok (.aload_n 0, 1) := by decide +kernel
theorem dX9_does_81 : decode cX9_does 81 = .ok (.iload_n 1, 1) := by decide +kernel
theorem dX9_does_82 : decode cX9_does 82 = .ok (.iload 7, 2) := by decide +kernel
theorem dX9_does_84 : decode cX9_does 84 = .ok (.iconst 1, 1) := by decide +kernel
theorem dX9_does_85 : decode cX9_does 85 = .ok (.iadd, 1) := by decide +kernel
theorem dX9_does_86 : decode cX9_does 86 = .ok (.iload_n 3, 1) := by decide +kernel
theorem dX9_does_87 : decode cX9_does 87 = .ok (.invokevirtual 68, 3) := by decide +kernel
theorem dX9_does_90 : decode cX9_does 90 = .ok (.aload_n 0, 1) := by decide +kernel
theorem dX9_does_91 : decode cX9_does 91 = .ok (.iload_n 1, 1) := by decide +kernel
theorem dX9_does_92 : decode cX9_does 92 = .ok (.iload 7, 2) := by decide +kernel
theorem dX9_does_94 : decode cX9_does 94 = .ok (.iconst 2, 1) := by decide +kernel
theorem dX9_does_95 : decode cX9_does 95 = .ok (.iadd, 1) := by decide +kernel
theorem dX9_does_96 : decode cX9_does 96 = .ok (.iload 4, 2) := by decide +kernel
theorem dX9_does_98 : decode cX9_does 98 = .ok (.invokevirtual 68, 3) := by decide +kernel
theorem dX9_does_101 : decode cX9_does 101 = .ok (.aload_n 0, 1) := by decide +kernel
theorem dX9_does_102 : decode cX9_does 102 = .ok (.iload_n 1, 1) := by decide +kernel
theorem dX9_does_103 : decode cX9_does 103 = .ok (.iload 7, 2) := by decide +kernel
theorem dX9_does_105 : decode cX9_does 105 = .ok (.iconst 3, 1) := by decide +kernel
theorem dX9_does_106 : decode cX9_does 106 = .ok (.iadd, 1) := by decide +kernel
theorem dX9_does_107 : decode cX9_does 107 = .ok (.iload 5, 2) := by decide +kernel
theorem dX9_does_109 : decode cX9_does 109 = .ok (.invokevirtual 68, 3) := by decide +kernel
theorem dX9_does_112 : decode cX9_does 112 = .ok (.aload_n 0, 1) := by decide +kernel
theorem dX9_does_113 : decode cX9_does 113 = .ok (.iload_n 1, 1) := by decide +kernel
theorem dX9_does_114 : decode cX9_does 114 = .ok (.bipush 13, 2) := by decide +kernel
theorem dX9_does_116 : decode cX9_does 116 = .ok (.iconst 1, 1) := by decide +kernel
theorem dX9_does_117 : decode cX9_does 117 = .ok (.invokevirtual 257, 3) := by decide +kernel
theorem dX9_does_120 : decode cX9_does 120 = .ok (.aload_n 0, 1) := by decide +kernel
theorem dX9_does_121 : decode cX9_does 121 = .ok (.iload_n 1, 1) := by decide +kernel
theorem dX9_does_122 : decode cX9_does 122 = .ok (.bipush 11, 2) := by decide +kernel
theorem dX9_does_124 : decode cX9_does 124 = .ok (.invokevirtual 200, 3) := by decide +kernel
theorem dX9_does_127 : decode cX9_does 127 = .ok (.istore 7, 2) := by decide +kernel
theorem dX9_does_129 : decode cX9_does 129 = .ok (.aload_n 0, 1) := by decide +kernel
theorem dX9_does_130 : decode cX9_does 130 = .ok (.iload_n 1, 1) := by decide +kernel
theorem dX9_does_131 : decode cX9_does 131 = .ok (.iload_n 2, 1) := by decide +kernel
theorem dX9_does_132 : decode cX9_does 132 = .ok (.iload_n 3, 1) := by decide +kernel
theorem dX9_does_133 : decode cX9_does 133 = .ok (.iload 4, 2) := by decide +kernel
theorem dX9_does_135 : decode cX9_does 135 = .ok (.iload 5, 2) := by decide +kernel
theorem dX9_does_137 : decode cX9_does 137 = .ok (.invokevirtual 279, 3) := by decide +kernel
theorem dX9_does_140 : decode cX9_does 140 = .ok (.aload_n 0, 1) := by decide +kernel
theorem dX9_does_141 : decode cX9_does 141 = .ok (.iload_n 1, 1) := by decide +kernel
theorem dX9_does_142 : decode cX9_does 142 = .ok (.iload_n 3, 1) := by decide +kernel
theorem dX9_does_143 : decode cX9_does 143 = .ok (.invokevirtual 270, 3) := by decide +kernel
theorem dX9_does_146 : decode cX9_does 146 = .ok (.ifCond .eq 18, 3) := by decide +kernel
theorem dX9_does_149 : decode cX9_does 149 = .ok (.aload_n 0, 1) := by decide +kernel
theorem dX9_does_150 : decode cX9_does 150 = .ok (.iload_n 1, 1) := by decide +kernel
theorem dX9_does_151 : decode cX9_does 151 = .ok (.sipush 151, 3) := by decide +kernel
theorem dX9_does_154 : decode cX9_does 154 = .ok (.iload_n 3, 1) := by decide +kernel
theorem dX9_does_155 : decode cX9_does 155 = .ok (.iadd, 1) := by decide +kernel
theorem dX9_does_156 : decode cX9_does 156 = .ok (.invokevirtual 200, 3) := by decide +kernel
theorem dX9_does_159 : decode cX9_does 159 = .ok (.iload 6, 2) := by decide +kernel
theorem dX9_does_161 : decode cX9_does 161 = .ok (.if_icmp .ge 15, 3) := by decide +kernel
theorem dX9_does_164 : decode cX9_does 164 = .ok (.aload_n 0, 1) := by decide +kernel
theorem dX9_does_165 : decode cX9_does 165 = .ok (.iload_n 1, 1) := by decide +kernel
theorem dX9_does_166 : decode cX9_does 166 = .ok (.sipush 151, 3) := by decide +kernel
theorem dX9_does_169 : decode cX9_does 169 = .ok (.iload_n 3, 1) := by decide +kernel
theorem dX9_does_170 : decode cX9_does 170 = .ok (.iadd, 1) := by decide +kernel
theorem dX9_does_171 : decode cX9_does 171 = .ok (.iload 6, 2) := by decide +kernel
theorem dX9_does_173 : decode cX9_does 173 = .ok (.invokevirtual 68, 3) := by decide +kernel
theorem dX9_does_176 : decode cX9_does 176 = .ok (.aload_n 0, 1) := by decide +kernel
theorem dX9_does_177 : decode cX9_does 177 = .ok (.iload_n 1, 1) := by decide +kernel
theorem dX9_does_178 : decode cX9_does 178 = .ok (.sipush 143, 3) := by decide +kernel
theorem dX9_does_181 : decode cX9_does 181 = .ok (.iload_n 3, 1) := by decide +kernel
theorem dX9_does_182 : decode cX9_does 182 = .ok (.iadd, 1) := by decide +kernel
theorem dX9_does_183 : decode cX9_does 183 = .ok (.iconst 1, 1) := by decide +kernel
theorem dX9_does_184 : decode cX9_does 184 = .ok (.invokevirtual 68, 3) := by decide +kernel
theorem dX9_does_187 : decode cX9_does 187 = .ok (.aload_n 0, 1) := by decide +kernel
theorem dX9_does_188 : decode cX9_does 188 = .ok (.iload_n 1, 1) := by decide +kernel
theorem dX9_does_189 : decode cX9_does 189 = .ok (.iload 7, 2) := by decide +kernel
theorem dX9_does_191 : decode cX9_does 191 = .ok (.invokevirtual 282, 3) := by decide +kernel
theorem dX9_does_194 : decode cX9_does 194 = .ok (.ireturn, 1) := by decide +kernel
def f_X9_does (s0 : MoT) (p1 : Int32) (p2 : Int32) (p3 : Int32) (p4 : Int32) (p5 : Int32) (p6 : Int32) : Option (Int32 × MoT) :=
  (f_X9_get s0 p1 (5 : Int32)).bind fun r1 =>
  (f_X9_get s0 p1 (2 : Int32)).bind fun r3 =>
  if (r1 - r3) ≤ p6 then (f_X9_ticks s0 p1 p6).bind fun r6 =>
  (f_X9_more (r6.2) p1 (6 : Int32) (1 : Int32)).bind fun r8 =>
  (f_X9_get r8 p1 (13 : Int32)).bind fun r10 =>
  glt (fun (s0_13 : MoT) => (f_X9_get s0_13 p1 (11 : Int32)).bind fun r14 =>
  (f_X9_changes s0_13 p1 p2 p3 p4 p5).bind fun r16 =>
  (f_X9_lives r16 p1 p3).bind fun r18 =>
  glt (fun (s0_21 : MoT) => (f_X9_set s0_21 p1 ((143 : Int32) + p3) (1 : Int32)).bind fun r22 =>
  (f_X9_countsMost r22 p1 r14).bind fun r24 =>
  some ((r24.1), (r24.2))) fun J20 =>
  glt (fun (_ : Unit) => (f_X9_set r16 p1 ((151 : Int32) + p3) p6).bind fun r27 =>
  J20 r27) fun J26 =>
  if r18 = 0 then J26 ()
  else (f_X9_get r16 p1 ((151 : Int32) + p3)).bind fun r30 =>
  if p6 ≤ r30 then J20 r16
  else J26 ()) fun J12 =>
  if (60 : Int32) ≤ r10 then J12 r8
  else (f_X9_get r8 p1 (13 : Int32)).bind fun r34 =>
  (f_X9_set r8 p1 ((1123 : Int32) + ((4 : Int32) * r34)) p2).bind fun r36 =>
  (f_X9_set r36 p1 (((1123 : Int32) + ((4 : Int32) * r34)) + (1 : Int32)) p3).bind fun r38 =>
  (f_X9_set r38 p1 (((1123 : Int32) + ((4 : Int32) * r34)) + (2 : Int32)) p4).bind fun r40 =>
  (f_X9_set r40 p1 (((1123 : Int32) + ((4 : Int32) * r34)) + (3 : Int32)) p5).bind fun r42 =>
  (f_X9_more r42 p1 (13 : Int32) (1 : Int32)).bind fun r44 =>
  J12 r44
  else (f_X9_more s0 p1 (7 : Int32) (1 : Int32)).bind fun r46 =>
  some ((-2 : Int32), r46)
abbrev rm_X9_does : Room := { frames := 8, cells := 0, slots := 0, locals := 191 }
set_option maxHeartbeats 4000000 in
set_option maxRecDepth 100000 in
theorem c_X9_does (l : Launch) (g : GK) (a0 : Nat → Nat) (s0 : MoT) (p1 : Int32) (p2 : Int32) (p3 : Int32) (p4 : Int32) (p5 : Int32) (p6 : Int32) (res : (Int32 × MoT)) (hf : f_X9_does s0 p1 p2 p3 p4 p5 p6 = some res) : gM l yX9_does cX9_does 8 (some .int) rm_X9_does g [.ref (a0 0), .int p1, .int p2, .int p3, .int p4, .int p5, .int p6] (Mo_c g a0 s0) (fun _ : Unit => (some (.int (res.1)))) (fun _ => (Mo_c g a0 (res.2))) 0 0 := by
  refine gM_introI RX9 (by decide) rfl (Nat.le_of_ble_eq_true rfl) (fun p e s m args below meth c Q H locs ls A hE hZ hA hP hD hS hq hl => ?_)
  have hl : lv_has ls 8 [(0, .ref (a0 0)), (1, .int p1), (2, .int p2), (3, .int p3), (4, .int p4), (5, .int p5), (6, .int p6)] := hl
  have hx := hE.1
  have hb := hE.2.1
  rw [f_X9_does] at hf
  refine lv_iload hx hb dX9_does_0 (lv_at hl 6 rfl) ?_
  refine lv_aload_n hx hb dX9_does_2 rfl (lv_at hl 0 rfl) ?_
  refine lv_iload_n hx hb dX9_does_3 rfl (lv_at hl 1 rfl) ?_
  refine lv_iconst hx hb dX9_does_4 kci_5 ?_
  obtain ⟨r1, hc2, hf⟩ := gbd hf
  refine gr_callV (As := [.int p1, .int (5 : Int32)]) (rest := [.int p6]) (st1 := [.int r1, .int p6]) hE hl.1 ml_X9_200 (c_X9_get l g a0 s0 p1 (5 : Int32) r1 hc2) hZ hS hP [(0, 14)] rfl okX9 rfl rfl rfl rfl ⟨rfl, rfl⟩ ⟨Nat.le_of_ble_eq_true rfl, Nat.le_of_ble_eq_true rfl⟩ ⟨Nat.le_refl _, Nat.le_refl _⟩ (Nat.le_of_ble_eq_true rfl) dX9_does_5 ?_
  refine lv_aload_n hx hb dX9_does_8 rfl (lv_at hl 0 rfl) ?_
  refine lv_iload_n hx hb dX9_does_9 rfl (lv_at hl 1 rfl) ?_
  refine lv_iconst hx hb dX9_does_10 kci_2 ?_
  obtain ⟨r3, hc4, hf⟩ := gbd hf
  refine gr_callV (As := [.int p1, .int (2 : Int32)]) (rest := [.int r1, .int p6]) (st1 := [.int r3, .int r1, .int p6]) hE hl.1 ml_X9_200 (c_X9_get l g a0 s0 p1 (2 : Int32) r3 hc4) hZ hS hP [(0, 14)] rfl okX9 rfl rfl rfl rfl ⟨rfl, rfl⟩ ⟨Nat.le_of_ble_eq_true rfl, Nat.le_of_ble_eq_true rfl⟩ ⟨Nat.le_refl _, Nat.le_refl _⟩ (Nat.le_of_ble_eq_true rfl) dX9_does_11 ?_
  refine lv_isub hx hb dX9_does_14 ?_
  refine lv_icmp_ge hx hb dX9_does_15 (tgt := 29) rfl (fun h5 => ?_) (fun h5 => ?_)
  · have hf := gif_t h5 hf
    refine lv_aload_n hx hb dX9_does_29 rfl (lv_at hl 0 rfl) ?_
    refine lv_iload_n hx hb dX9_does_30 rfl (lv_at hl 1 rfl) ?_
    refine lv_iload hx hb dX9_does_31 (lv_at hl 6 rfl) ?_
    obtain ⟨r6, hc7, hf⟩ := gbd hf
    refine gm_callV1 (As := [.int p1, .int p6]) (rest := []) (st1 := fun _ => [.int (r6.1)]) (ws' := fun _ => (Mo_c g a0 (r6.2))) hE hl.1 ml_X9_207 (c_X9_ticks l g a0 s0 p1 p6 r6 hc7) hZ hP hD hS hA 0 14 rfl (fun _ => rfl) okX9 rfl rfl rfl (fun _ => rfl) ⟨rfl, rfl⟩ ⟨Nat.le_of_ble_eq_true rfl, Nat.le_of_ble_eq_true rfl⟩ ⟨Nat.le_refl _, Nat.le_refl _⟩ (Nat.le_of_ble_eq_true rfl) dX9_does_33 (fun _ H locs hP hD hS => ?_)
    refine lv_pop hx hb dX9_does_36 rfl ?_
    refine lv_aload_n hx hb dX9_does_37 rfl (lv_at hl 0 rfl) ?_
    refine lv_iload_n hx hb dX9_does_38 rfl (lv_at hl 1 rfl) ?_
    refine lv_bipush hx hb dX9_does_39 kcb_6 ?_
    refine lv_iconst hx hb dX9_does_41 kci_1 ?_
    obtain ⟨r8, hc9, hf⟩ := gbd hf
    refine gm_callV1 (As := [.int p1, .int (6 : Int32), .int (1 : Int32)]) (rest := []) (st1 := fun _ => []) (ws' := fun _ => (Mo_c g a0 r8)) hE hl.1 ml_X9_257 (c_X9_more l g a0 (r6.2) p1 (6 : Int32) (1 : Int32) r8 hc9) hZ hP hD hS hA 0 14 rfl (fun _ => rfl) okX9 rfl rfl rfl (fun _ => rfl) ⟨rfl, rfl⟩ ⟨Nat.le_of_ble_eq_true rfl, Nat.le_of_ble_eq_true rfl⟩ ⟨Nat.le_refl _, Nat.le_refl _⟩ (Nat.le_of_ble_eq_true rfl) dX9_does_42 (fun _ H locs hP hD hS => ?_)
    refine lv_aload_n hx hb dX9_does_45 rfl (lv_at hl 0 rfl) ?_
    refine lv_iload_n hx hb dX9_does_46 rfl (lv_at hl 1 rfl) ?_
    refine lv_bipush hx hb dX9_does_47 kcb_13 ?_
    obtain ⟨r10, hc11, hf⟩ := gbd hf
    refine gr_callV (As := [.int p1, .int (13 : Int32)]) (rest := []) (st1 := [.int r10]) hE hl.1 ml_X9_200 (c_X9_get l g a0 r8 p1 (13 : Int32) r10 hc11) hZ hS hP [(0, 14)] rfl okX9 rfl rfl rfl rfl ⟨rfl, rfl⟩ ⟨Nat.le_of_ble_eq_true rfl, Nat.le_of_ble_eq_true rfl⟩ ⟨Nat.le_refl _, Nat.le_refl _⟩ (Nat.le_of_ble_eq_true rfl) dX9_does_49 ?_
    refine lv_bipush hx hb dX9_does_52 kcb_60 ?_
    obtain ⟨J12, eJ12, hf⟩ := gltd hf
    have kJ12 : ∀ (s0_13 : MoT) (ls : Array Slot) (H : Heap) (locs : List Loc), J12 s0_13 = some res → lv_has ls 8 [(0, .ref (a0 0)), (1, .int p1), (2, .int p2), (3, .int p3), (4, .int p4), (5, .int p5), (6, .int p6)] → gP g (Mo_c g a0 s0_13) H → va_D A (Mo_c g a0 s0_13) → va_S A s.heap H locs → W p l e rm_X9_does s m args below meth c H locs 0 0 Q (F0 m 120 ls []) := by
      intro s0_13 ls H locs hf hl hP hD hS
      rw [eJ12] at hf
      refine lv_aload_n hx hb dX9_does_120 rfl (lv_at hl 0 rfl) ?_
      refine lv_iload_n hx hb dX9_does_121 rfl (lv_at hl 1 rfl) ?_
      refine lv_bipush hx hb dX9_does_122 kcb_11 ?_
      obtain ⟨r14, hc15, hf⟩ := gbd hf
      refine gr_callV (As := [.int p1, .int (11 : Int32)]) (rest := []) (st1 := [.int r14]) hE hl.1 ml_X9_200 (c_X9_get l g a0 s0_13 p1 (11 : Int32) r14 hc15) hZ hS hP [(0, 14)] rfl okX9 rfl rfl rfl rfl ⟨rfl, rfl⟩ ⟨Nat.le_of_ble_eq_true rfl, Nat.le_of_ble_eq_true rfl⟩ ⟨Nat.le_refl _, Nat.le_refl _⟩ (Nat.le_of_ble_eq_true rfl) dX9_does_124 ?_
      refine lv_istore hx hb dX9_does_127 hl (by decide) (lv' := [(7, .int r14), (0, .ref (a0 0)), (1, .int p1), (2, .int p2), (3, .int p3), (4, .int p4), (5, .int p5), (6, .int p6)]) rfl (fun ls hl => ?_)
      refine lv_aload_n hx hb dX9_does_129 rfl (lv_at hl 1 rfl) ?_
      refine lv_iload_n hx hb dX9_does_130 rfl (lv_at hl 2 rfl) ?_
      refine lv_iload_n hx hb dX9_does_131 rfl (lv_at hl 3 rfl) ?_
      refine lv_iload_n hx hb dX9_does_132 rfl (lv_at hl 4 rfl) ?_
      refine lv_iload hx hb dX9_does_133 (lv_at hl 5 rfl) ?_
      refine lv_iload hx hb dX9_does_135 (lv_at hl 6 rfl) ?_
      obtain ⟨r16, hc17, hf⟩ := gbd hf
      refine gm_callV1 (As := [.int p1, .int p2, .int p3, .int p4, .int p5]) (rest := []) (st1 := fun _ => []) (ws' := fun _ => (Mo_c g a0 r16)) hE hl.1 ml_X9_279 (c_X9_changes l g a0 s0_13 p1 p2 p3 p4 p5 r16 hc17) hZ hP hD hS hA 0 14 rfl (fun _ => rfl) okX9 rfl rfl rfl (fun _ => rfl) ⟨rfl, rfl⟩ ⟨Nat.le_of_ble_eq_true rfl, Nat.le_of_ble_eq_true rfl⟩ ⟨Nat.le_refl _, Nat.le_refl _⟩ (Nat.le_of_ble_eq_true rfl) dX9_does_137 (fun _ H locs hP hD hS => ?_)
      refine lv_aload_n hx hb dX9_does_140 rfl (lv_at hl 1 rfl) ?_
      refine lv_iload_n hx hb dX9_does_141 rfl (lv_at hl 2 rfl) ?_
      refine lv_iload_n hx hb dX9_does_142 rfl (lv_at hl 4 rfl) ?_
      obtain ⟨r18, hc19, hf⟩ := gbd hf
      refine gr_callV (As := [.int p1, .int p3]) (rest := []) (st1 := [.int r18]) hE hl.1 ml_X9_270 (c_X9_lives l g a0 r16 p1 p3 r18 hc19) hZ hS hP [(0, 14)] rfl okX9 rfl rfl rfl rfl ⟨rfl, rfl⟩ ⟨Nat.le_of_ble_eq_true rfl, Nat.le_of_ble_eq_true rfl⟩ ⟨Nat.le_refl _, Nat.le_refl _⟩ (Nat.le_of_ble_eq_true rfl) dX9_does_143 ?_
      obtain ⟨J20, eJ20, hf⟩ := gltd hf
      have kJ20 : ∀ (s0_21 : MoT) (ls : Array Slot) (H : Heap) (locs : List Loc), J20 s0_21 = some res → lv_has ls 8 [(0, .ref (a0 0)), (1, .int p1), (3, .int p3), (7, .int r14)] → gP g (Mo_c g a0 s0_21) H → va_D A (Mo_c g a0 s0_21) → va_S A s.heap H locs → W p l e rm_X9_does s m args below meth c H locs 0 0 Q (F0 m 176 ls []) := by
        intro s0_21 ls H locs hf hl hP hD hS
        rw [eJ20] at hf
        refine lv_aload_n hx hb dX9_does_176 rfl (lv_at hl 0 rfl) ?_
        refine lv_iload_n hx hb dX9_does_177 rfl (lv_at hl 1 rfl) ?_
        refine lv_sipush hx hb dX9_does_178 kcs_143 ?_
        refine lv_iload_n hx hb dX9_does_181 rfl (lv_at hl 2 rfl) ?_
        refine lv_iadd hx hb dX9_does_182 ?_
        refine lv_iconst hx hb dX9_does_183 kci_1 ?_
        obtain ⟨r22, hc23, hf⟩ := gbd hf
        refine gm_callV1 (As := [.int p1, .int ((143 : Int32) + p3), .int (1 : Int32)]) (rest := []) (st1 := fun _ => []) (ws' := fun _ => (Mo_c g a0 r22)) hE hl.1 ml_X9_68 (c_X9_set l g a0 s0_21 p1 ((143 : Int32) + p3) (1 : Int32) r22 hc23) hZ hP hD hS hA 0 14 rfl (fun _ => rfl) okX9 rfl rfl rfl (fun _ => rfl) ⟨rfl, rfl⟩ ⟨Nat.le_of_ble_eq_true rfl, Nat.le_of_ble_eq_true rfl⟩ ⟨Nat.le_refl _, Nat.le_refl _⟩ (Nat.le_of_ble_eq_true rfl) dX9_does_184 (fun _ H locs hP hD hS => ?_)
        refine lv_aload_n hx hb dX9_does_187 rfl (lv_at hl 0 rfl) ?_
        refine lv_iload_n hx hb dX9_does_188 rfl (lv_at hl 1 rfl) ?_
        refine lv_iload hx hb dX9_does_189 (lv_at hl 3 rfl) ?_
        obtain ⟨r24, hc25, hf⟩ := gbd hf
        refine gm_callV1 (As := [.int p1, .int r14]) (rest := []) (st1 := fun _ => [.int (r24.1)]) (ws' := fun _ => (Mo_c g a0 (r24.2))) hE hl.1 ml_X9_282 (c_X9_countsMost l g a0 r22 p1 r14 r24 hc25) hZ hP hD hS hA 0 14 rfl (fun _ => rfl) okX9 rfl rfl rfl (fun _ => rfl) ⟨rfl, rfl⟩ ⟨Nat.le_of_ble_eq_true rfl, Nat.le_of_ble_eq_true rfl⟩ ⟨Nat.le_refl _, Nat.le_refl _⟩ (Nat.le_of_ble_eq_true rfl) dX9_does_191 (fun _ H locs hP hD hS => ?_)
        cases hf
        exact hq () rfl hP hD hS dX9_does_194
      obtain ⟨J26, eJ26, hf⟩ := gltd hf
      have kJ26 : ∀ (_ : Unit) (ls : Array Slot) (H : Heap) (locs : List Loc), J26 () = some res → lv_has ls 8 [(0, .ref (a0 0)), (1, .int p1), (3, .int p3), (6, .int p6), (7, .int r14)] → gP g (Mo_c g a0 r16) H → va_D A (Mo_c g a0 r16) → va_S A s.heap H locs → W p l e rm_X9_does s m args below meth c H locs 0 0 Q (F0 m 164 ls []) := by
        intro _ ls H locs hf hl hP hD hS
        rw [eJ26] at hf
        refine lv_aload_n hx hb dX9_does_164 rfl (lv_at hl 0 rfl) ?_
        refine lv_iload_n hx hb dX9_does_165 rfl (lv_at hl 1 rfl) ?_
        refine lv_sipush hx hb dX9_does_166 kcs_151 ?_
        refine lv_iload_n hx hb dX9_does_169 rfl (lv_at hl 2 rfl) ?_
        refine lv_iadd hx hb dX9_does_170 ?_
        refine lv_iload hx hb dX9_does_171 (lv_at hl 3 rfl) ?_
        obtain ⟨r27, hc28, hf⟩ := gbd hf
        refine gm_callV1 (As := [.int p1, .int ((151 : Int32) + p3), .int p6]) (rest := []) (st1 := fun _ => []) (ws' := fun _ => (Mo_c g a0 r27)) hE hl.1 ml_X9_68 (c_X9_set l g a0 r16 p1 ((151 : Int32) + p3) p6 r27 hc28) hZ hP hD hS hA 0 14 rfl (fun _ => rfl) okX9 rfl rfl rfl (fun _ => rfl) ⟨rfl, rfl⟩ ⟨Nat.le_of_ble_eq_true rfl, Nat.le_of_ble_eq_true rfl⟩ ⟨Nat.le_refl _, Nat.le_refl _⟩ (Nat.le_of_ble_eq_true rfl) dX9_does_173 (fun _ H locs hP hD hS => ?_)
        exact kJ20 r27 ls H locs hf (lv_sub hl [0, 1, 2, 4] rfl) hP hD hS
      refine lv_if_eq hx hb dX9_does_146 (tgt := 164) rfl (fun h29 => ?_) (fun h29 => ?_)
      · have hf := gif_t h29 hf
        exact kJ26 () ls H locs hf (lv_sub hl [1, 2, 4, 7, 0] rfl) hP hD hS
      · have hf := gif_f h29 hf
        refine lv_aload_n hx hb dX9_does_149 rfl (lv_at hl 1 rfl) ?_
        refine lv_iload_n hx hb dX9_does_150 rfl (lv_at hl 2 rfl) ?_
        refine lv_sipush hx hb dX9_does_151 kcs_151 ?_
        refine lv_iload_n hx hb dX9_does_154 rfl (lv_at hl 4 rfl) ?_
        refine lv_iadd hx hb dX9_does_155 ?_
        obtain ⟨r30, hc31, hf⟩ := gbd hf
        refine gr_callV (As := [.int p1, .int ((151 : Int32) + p3)]) (rest := []) (st1 := [.int r30]) hE hl.1 ml_X9_200 (c_X9_get l g a0 r16 p1 ((151 : Int32) + p3) r30 hc31) hZ hS hP [(0, 14)] rfl okX9 rfl rfl rfl rfl ⟨rfl, rfl⟩ ⟨Nat.le_of_ble_eq_true rfl, Nat.le_of_ble_eq_true rfl⟩ ⟨Nat.le_refl _, Nat.le_refl _⟩ (Nat.le_of_ble_eq_true rfl) dX9_does_156 ?_
        refine lv_iload hx hb dX9_does_159 (lv_at hl 7 rfl) ?_
        refine lv_icmp_ge hx hb dX9_does_161 (tgt := 176) rfl (fun h32 => ?_) (fun h32 => ?_)
        · have hf := gif_t h32 hf
          exact kJ20 r16 ls H locs hf (lv_sub hl [1, 2, 4, 0] rfl) hP hD hS
        · have hf := gif_f h32 hf
          exact kJ26 () ls H locs hf (lv_sub hl [1, 2, 4, 7, 0] rfl) hP hD hS
    refine lv_icmp_ge hx hb dX9_does_54 (tgt := 120) rfl (fun h33 => ?_) (fun h33 => ?_)
    · have hf := gif_t h33 hf
      exact kJ12 r8 ls H locs hf (lv_sub hl [0, 1, 2, 3, 4, 5, 6] rfl) hP hD hS
    · have hf := gif_f h33 hf
      refine lv_sipush hx hb dX9_does_57 kcs_1123 ?_
      refine lv_iconst hx hb dX9_does_60 kci_4 ?_
      refine lv_aload_n hx hb dX9_does_61 rfl (lv_at hl 0 rfl) ?_
      refine lv_iload_n hx hb dX9_does_62 rfl (lv_at hl 1 rfl) ?_
      refine lv_bipush hx hb dX9_does_63 kcb_13 ?_
      obtain ⟨r34, hc35, hf⟩ := gbd hf
      refine gr_callV (As := [.int p1, .int (13 : Int32)]) (rest := [.int (4 : Int32), .int (1123 : Int32)]) (st1 := [.int r34, .int (4 : Int32), .int (1123 : Int32)]) hE hl.1 ml_X9_200 (c_X9_get l g a0 r8 p1 (13 : Int32) r34 hc35) hZ hS hP [(0, 14)] rfl okX9 rfl rfl rfl rfl ⟨rfl, rfl⟩ ⟨Nat.le_of_ble_eq_true rfl, Nat.le_of_ble_eq_true rfl⟩ ⟨Nat.le_refl _, Nat.le_refl _⟩ (Nat.le_of_ble_eq_true rfl) dX9_does_65 ?_
      refine lv_imul hx hb dX9_does_68 ?_
      refine lv_iadd hx hb dX9_does_69 ?_
      refine lv_istore hx hb dX9_does_70 hl (by decide) (lv' := [(7, .int ((1123 : Int32) + ((4 : Int32) * r34))), (0, .ref (a0 0)), (1, .int p1), (2, .int p2), (3, .int p3), (4, .int p4), (5, .int p5), (6, .int p6)]) rfl (fun ls hl => ?_)
      refine lv_aload_n hx hb dX9_does_72 rfl (lv_at hl 1 rfl) ?_
      refine lv_iload_n hx hb dX9_does_73 rfl (lv_at hl 2 rfl) ?_
      refine lv_iload hx hb dX9_does_74 (lv_at hl 0 rfl) ?_
      refine lv_iload_n hx hb dX9_does_76 rfl (lv_at hl 3 rfl) ?_
      obtain ⟨r36, hc37, hf⟩ := gbd hf
      refine gm_callV1 (As := [.int p1, .int ((1123 : Int32) + ((4 : Int32) * r34)), .int p2]) (rest := []) (st1 := fun _ => []) (ws' := fun _ => (Mo_c g a0 r36)) hE hl.1 ml_X9_68 (c_X9_set l g a0 r8 p1 ((1123 : Int32) + ((4 : Int32) * r34)) p2 r36 hc37) hZ hP hD hS hA 0 14 rfl (fun _ => rfl) okX9 rfl rfl rfl (fun _ => rfl) ⟨rfl, rfl⟩ ⟨Nat.le_of_ble_eq_true rfl, Nat.le_of_ble_eq_true rfl⟩ ⟨Nat.le_refl _, Nat.le_refl _⟩ (Nat.le_of_ble_eq_true rfl) dX9_does_77 (fun _ H locs hP hD hS => ?_)
      refine lv_aload_n hx hb dX9_does_80 rfl (lv_at hl 1 rfl) ?_
      refine lv_iload_n hx hb dX9_does_81 rfl (lv_at hl 2 rfl) ?_
      refine lv_iload hx hb dX9_does_82 (lv_at hl 0 rfl) ?_
      refine lv_iconst hx hb dX9_does_84 kci_1 ?_
      refine lv_iadd hx hb dX9_does_85 ?_
      refine lv_iload_n hx hb dX9_does_86 rfl (lv_at hl 4 rfl) ?_
      obtain ⟨r38, hc39, hf⟩ := gbd hf
      refine gm_callV1 (As := [.int p1, .int (((1123 : Int32) + ((4 : Int32) * r34)) + (1 : Int32)), .int p3]) (rest := []) (st1 := fun _ => []) (ws' := fun _ => (Mo_c g a0 r38)) hE hl.1 ml_X9_68 (c_X9_set l g a0 r36 p1 (((1123 : Int32) + ((4 : Int32) * r34)) + (1 : Int32)) p3 r38 hc39) hZ hP hD hS hA 0 14 rfl (fun _ => rfl) okX9 rfl rfl rfl (fun _ => rfl) ⟨rfl, rfl⟩ ⟨Nat.le_of_ble_eq_true rfl, Nat.le_of_ble_eq_true rfl⟩ ⟨Nat.le_refl _, Nat.le_refl _⟩ (Nat.le_of_ble_eq_true rfl) dX9_does_87 (fun _ H locs hP hD hS => ?_)
      refine lv_aload_n hx hb dX9_does_90 rfl (lv_at hl 1 rfl) ?_
      refine lv_iload_n hx hb dX9_does_91 rfl (lv_at hl 2 rfl) ?_
      refine lv_iload hx hb dX9_does_92 (lv_at hl 0 rfl) ?_
      refine lv_iconst hx hb dX9_does_94 kci_2 ?_
      refine lv_iadd hx hb dX9_does_95 ?_
      refine lv_iload hx hb dX9_does_96 (lv_at hl 5 rfl) ?_
      obtain ⟨r40, hc41, hf⟩ := gbd hf
      refine gm_callV1 (As := [.int p1, .int (((1123 : Int32) + ((4 : Int32) * r34)) + (2 : Int32)), .int p4]) (rest := []) (st1 := fun _ => []) (ws' := fun _ => (Mo_c g a0 r40)) hE hl.1 ml_X9_68 (c_X9_set l g a0 r38 p1 (((1123 : Int32) + ((4 : Int32) * r34)) + (2 : Int32)) p4 r40 hc41) hZ hP hD hS hA 0 14 rfl (fun _ => rfl) okX9 rfl rfl rfl (fun _ => rfl) ⟨rfl, rfl⟩ ⟨Nat.le_of_ble_eq_true rfl, Nat.le_of_ble_eq_true rfl⟩ ⟨Nat.le_refl _, Nat.le_refl _⟩ (Nat.le_of_ble_eq_true rfl) dX9_does_98 (fun _ H locs hP hD hS => ?_)
      refine lv_aload_n hx hb dX9_does_101 rfl (lv_at hl 1 rfl) ?_
      refine lv_iload_n hx hb dX9_does_102 rfl (lv_at hl 2 rfl) ?_
      refine lv_iload hx hb dX9_does_103 (lv_at hl 0 rfl) ?_
      refine lv_iconst hx hb dX9_does_105 kci_3 ?_
      refine lv_iadd hx hb dX9_does_106 ?_
      refine lv_iload hx hb dX9_does_107 (lv_at hl 6 rfl) ?_
      obtain ⟨r42, hc43, hf⟩ := gbd hf
      refine gm_callV1 (As := [.int p1, .int (((1123 : Int32) + ((4 : Int32) * r34)) + (3 : Int32)), .int p5]) (rest := []) (st1 := fun _ => []) (ws' := fun _ => (Mo_c g a0 r42)) hE hl.1 ml_X9_68 (c_X9_set l g a0 r40 p1 (((1123 : Int32) + ((4 : Int32) * r34)) + (3 : Int32)) p5 r42 hc43) hZ hP hD hS hA 0 14 rfl (fun _ => rfl) okX9 rfl rfl rfl (fun _ => rfl) ⟨rfl, rfl⟩ ⟨Nat.le_of_ble_eq_true rfl, Nat.le_of_ble_eq_true rfl⟩ ⟨Nat.le_refl _, Nat.le_refl _⟩ (Nat.le_of_ble_eq_true rfl) dX9_does_109 (fun _ H locs hP hD hS => ?_)
      refine lv_aload_n hx hb dX9_does_112 rfl (lv_at hl 1 rfl) ?_
      refine lv_iload_n hx hb dX9_does_113 rfl (lv_at hl 2 rfl) ?_
      refine lv_bipush hx hb dX9_does_114 kcb_13 ?_
      refine lv_iconst hx hb dX9_does_116 kci_1 ?_
      obtain ⟨r44, hc45, hf⟩ := gbd hf
      refine gm_callV1 (As := [.int p1, .int (13 : Int32), .int (1 : Int32)]) (rest := []) (st1 := fun _ => []) (ws' := fun _ => (Mo_c g a0 r44)) hE hl.1 ml_X9_257 (c_X9_more l g a0 r42 p1 (13 : Int32) (1 : Int32) r44 hc45) hZ hP hD hS hA 0 14 rfl (fun _ => rfl) okX9 rfl rfl rfl (fun _ => rfl) ⟨rfl, rfl⟩ ⟨Nat.le_of_ble_eq_true rfl, Nat.le_of_ble_eq_true rfl⟩ ⟨Nat.le_refl _, Nat.le_refl _⟩ (Nat.le_of_ble_eq_true rfl) dX9_does_117 (fun _ H locs hP hD hS => ?_)
      exact kJ12 r44 ls H locs hf (lv_sub hl [1, 2, 3, 4, 5, 6, 7] rfl) hP hD hS
  · have hf := gif_f h5 hf
    refine lv_aload_n hx hb dX9_does_18 rfl (lv_at hl 0 rfl) ?_
    refine lv_iload_n hx hb dX9_does_19 rfl (lv_at hl 1 rfl) ?_
    refine lv_bipush hx hb dX9_does_20 kcb_7 ?_
    refine lv_iconst hx hb dX9_does_22 kci_1 ?_
    obtain ⟨r46, hc47, hf⟩ := gbd hf
    refine gm_callV1 (As := [.int p1, .int (7 : Int32), .int (1 : Int32)]) (rest := []) (st1 := fun _ => []) (ws' := fun _ => (Mo_c g a0 r46)) hE hl.1 ml_X9_257 (c_X9_more l g a0 s0 p1 (7 : Int32) (1 : Int32) r46 hc47) hZ hP hD hS hA 0 14 rfl (fun _ => rfl) okX9 rfl rfl rfl (fun _ => rfl) ⟨rfl, rfl⟩ ⟨Nat.le_of_ble_eq_true rfl, Nat.le_of_ble_eq_true rfl⟩ ⟨Nat.le_refl _, Nat.le_refl _⟩ (Nat.le_of_ble_eq_true rfl) dX9_does_23 (fun _ H locs hP hD hS => ?_)
    refine lv_bipush hx hb dX9_does_26 kcb_m2 ?_
    cases hf
    exact hq () rfl hP hD hS dX9_does_28
theorem dX9_doesAll_0 : decode cX9_doesAll 0 = .ok (.iconst 0, 1) := by decide +kernel
theorem dX9_doesAll_1 : decode cX9_doesAll 1 = .ok (.istore_n 1, 1) := by decide +kernel
theorem dX9_doesAll_2 : decode cX9_doesAll 2 = .ok (.iload_n 1, 1) := by decide +kernel
theorem dX9_doesAll_3 : decode cX9_doesAll 3 = .ok (.bipush 16, 2) := by decide +kernel
theorem dX9_doesAll_5 : decode cX9_doesAll 5 = .ok (.if_icmp .ge 21, 3) := by decide +kernel
theorem dX9_doesAll_8 : decode cX9_doesAll 8 = .ok (.aload_n 0, 1) := by decide +kernel
theorem dX9_doesAll_9 : decode cX9_doesAll 9 = .ok (.getfield 21, 3) := by decide +kernel
theorem dX9_doesAll_12 : decode cX9_doesAll 12 = .ok (.iload_n 1, 1) := by decide +kernel
theorem dX9_doesAll_13 : decode cX9_doesAll 13 = .ok (.aload_n 0, 1) := by decide +kernel
theorem dX9_doesAll_14 : decode cX9_doesAll 14 = .ok (.getfield 25, 3) := by decide +kernel
theorem dX9_doesAll_17 : decode cX9_doesAll 17 = .ok (.iload_n 1, 1) := by decide +kernel
theorem dX9_doesAll_18 : decode cX9_doesAll 18 = .ok (.laload, 1) := by decide +kernel
theorem dX9_doesAll_19 : decode cX9_doesAll 19 = .ok (.lastore, 1) := by decide +kernel
theorem dX9_doesAll_20 : decode cX9_doesAll 20 = .ok (.iinc 1 1, 3) := by decide +kernel
theorem dX9_doesAll_23 : decode cX9_doesAll 23 = .ok (.goto (-21), 3) := by decide +kernel
theorem dX9_doesAll_26 : decode cX9_doesAll 26 = .ok (.aload_n 0, 1) := by decide +kernel
theorem dX9_doesAll_27 : decode cX9_doesAll 27 = .ok (.iconst 0, 1) := by decide +kernel
theorem dX9_doesAll_28 : decode cX9_doesAll 28 = .ok (.iconst 3, 1) := by decide +kernel
theorem dX9_doesAll_29 : decode cX9_doesAll 29 = .ok (.aload_n 0, 1) := by decide +kernel
theorem dX9_doesAll_30 : decode cX9_doesAll 30 = .ok (.getfield 28, 3) := by decide +kernel
theorem dX9_doesAll_33 : decode cX9_doesAll 33 = .ok (.iconst 0, 1) := by decide +kernel
theorem dX9_doesAll_34 : decode cX9_doesAll 34 = .ok (.iaload, 1) := by decide +kernel
theorem dX9_doesAll_35 : decode cX9_doesAll 35 = .ok (.invokevirtual 68, 3) := by decide +kernel
theorem dX9_doesAll_38 : decode cX9_doesAll 38 = .ok (.aload_n 0, 1) := by decide +kernel
theorem dX9_doesAll_39 : decode cX9_doesAll 39 = .ok (.iconst 0, 1) := by decide +kernel
theorem dX9_doesAll_40 : decode cX9_doesAll 40 = .ok (.iconst 4, 1) := by decide +kernel
theorem dX9_doesAll_41 : decode cX9_doesAll 41 = .ok (.aload_n 0, 1) := by decide +kernel
theorem dX9_doesAll_42 : decode cX9_doesAll 42 = .ok (.getfield 28, 3) := by decide +kernel
theorem dX9_doesAll_45 : decode cX9_doesAll 45 = .ok (.iconst 1, 1) := by decide +kernel
theorem dX9_doesAll_46 : decode cX9_doesAll 46 = .ok (.iaload, 1) := by decide +kernel
theorem dX9_doesAll_47 : decode cX9_doesAll 47 = .ok (.invokevirtual 68, 3) := by decide +kernel
theorem dX9_doesAll_50 : decode cX9_doesAll 50 = .ok (.aload_n 0, 1) := by decide +kernel
theorem dX9_doesAll_51 : decode cX9_doesAll 51 = .ok (.iconst 0, 1) := by decide +kernel
theorem dX9_doesAll_52 : decode cX9_doesAll 52 = .ok (.bipush 11, 2) := by decide +kernel
theorem dX9_doesAll_54 : decode cX9_doesAll 54 = .ok (.invokevirtual 200, 3) := by decide +kernel
theorem dX9_doesAll_57 : decode cX9_doesAll 57 = .ok (.istore_n 1, 1) := by decide +kernel
theorem dX9_doesAll_58 : decode cX9_doesAll 58 = .ok (.iconst 0, 1) := by decide +kernel
theorem dX9_doesAll_59 : decode cX9_doesAll 59 = .ok (.istore_n 2, 1) := by decide +kernel
theorem dX9_doesAll_60 : decode cX9_doesAll 60 = .ok (.iload_n 2, 1) := by decide +kernel
theorem dX9_doesAll_61 : decode cX9_doesAll 61 = .ok (.aload_n 0, 1) := by decide +kernel
theorem dX9_doesAll_62 : decode cX9_doesAll 62 = .ok (.getfield 132, 3) := by decide +kernel
theorem dX9_doesAll_65 : decode cX9_doesAll 65 = .ok (.if_icmp .ge 70, 3) := by decide +kernel
theorem dX9_doesAll_68 : decode cX9_doesAll 68 = .ok (.aload_n 0, 1) := by decide +kernel
theorem dX9_doesAll_69 : decode cX9_doesAll 69 = .ok (.getfield 31, 3) := by decide +kernel
theorem dX9_doesAll_72 : decode cX9_doesAll 72 = .ok (.iload_n 2, 1) := by decide +kernel
theorem dX9_doesAll_73 : decode cX9_doesAll 73 = .ok (.iaload, 1) := by decide +kernel
theorem dX9_doesAll_74 : decode cX9_doesAll 74 = .ok (.iconst 2, 1) := by decide +kernel
theorem dX9_doesAll_75 : decode cX9_doesAll 75 = .ok (.if_icmp .ne 18, 3) := by decide +kernel
theorem dX9_doesAll_78 : decode cX9_doesAll 78 = .ok (.aload_n 0, 1) := by decide +kernel
theorem dX9_doesAll_79 : decode cX9_doesAll 79 = .ok (.iconst 0, 1) := by decide +kernel
theorem dX9_doesAll_80 : decode cX9_doesAll 80 = .ok (.aload_n 0, 1) := by decide +kernel
theorem dX9_doesAll_81 : decode cX9_doesAll 81 = .ok (.getfield 46, 3) := by decide +kernel
theorem dX9_doesAll_84 : decode cX9_doesAll 84 = .ok (.iload_n 2, 1) := by decide +kernel
theorem dX9_doesAll_85 : decode cX9_doesAll 85 = .ok (.iaload, 1) := by decide +kernel
theorem dX9_doesAll_86 : decode cX9_doesAll 86 = .ok (.invokevirtual 207, 3) := by decide +kernel
theorem dX9_doesAll_89 : decode cX9_doesAll 89 = .ok (.pop, 1) := by decide +kernel
theorem dX9_doesAll_90 : decode cX9_doesAll 90 = .ok (.goto 39, 3) := by decide +kernel
theorem dX9_doesAll_93 : decode cX9_doesAll 93 = .ok (.aload_n 0, 1) := by decide +kernel
theorem dX9_doesAll_94 : decode cX9_doesAll 94 = .ok (.iconst 0, 1) := by decide +kernel
theorem dX9_doesAll_95 : decode cX9_doesAll 95 = .ok (.aload_n 0, 1) := by decide +kernel
theorem dX9_doesAll_96 : decode cX9_doesAll 96 = .ok (.getfield 34, 3) := by decide +kernel
theorem dX9_doesAll_99 : decode cX9_doesAll 99 = .ok (.iload_n 2, 1) := by decide +kernel
theorem dX9_doesAll_100 : decode cX9_doesAll 100 = .ok (.iaload, 1) := by decide +kernel
theorem dX9_doesAll_101 : decode cX9_doesAll 101 = .ok (.aload_n 0, 1) := by decide +kernel
theorem dX9_doesAll_102 : decode cX9_doesAll 102 = .ok (.getfield 37, 3) := by decide +kernel
theorem dX9_doesAll_105 : decode cX9_doesAll 105 = .ok (.iload_n 2, 1) := by decide +kernel
theorem dX9_doesAll_106 : decode cX9_doesAll 106 = .ok (.iaload, 1) := by decide +kernel
theorem dX9_doesAll_107 : decode cX9_doesAll 107 = .ok (.aload_n 0, 1) := by decide +kernel
theorem dX9_doesAll_108 : decode cX9_doesAll 108 = .ok (.getfield 40, 3) := by decide +kernel
theorem dX9_doesAll_111 : decode cX9_doesAll 111 = .ok (.iload_n 2, 1) := by decide +kernel
theorem dX9_doesAll_112 : decode cX9_doesAll 112 = .ok (.iaload, 1) := by decide +kernel
theorem dX9_doesAll_113 : decode cX9_doesAll 113 = .ok (.aload_n 0, 1) := by decide +kernel
theorem dX9_doesAll_114 : decode cX9_doesAll 114 = .ok (.getfield 43, 3) := by decide +kernel
theorem dX9_doesAll_117 : decode cX9_doesAll 117 = .ok (.iload_n 2, 1) := by decide +kernel
theorem dX9_doesAll_118 : decode cX9_doesAll 118 = .ok (.iaload, 1) := by decide +kernel
theorem dX9_doesAll_119 : decode cX9_doesAll 119 = .ok (.aload_n 0, 1) := by decide +kernel
theorem dX9_doesAll_120 : decode cX9_doesAll 120 = .ok (.getfield 46, 3) := by decide +kernel
theorem dX9_doesAll_123 : decode cX9_doesAll 123 = .ok (.iload_n 2, 1) := by decide +kernel
theorem dX9_doesAll_124 : decode cX9_doesAll 124 = .ok (.iaload, 1) := by decide +kernel
theorem dX9_doesAll_125 : decode cX9_doesAll 125 = .ok (.invokevirtual 210, 3) := by decide +kernel
theorem dX9_doesAll_128 : decode cX9_doesAll 128 = .ok (.pop, 1) := by decide +kernel
theorem dX9_doesAll_129 : decode cX9_doesAll 129 = .ok (.iinc 2 1, 3) := by decide +kernel
theorem dX9_doesAll_132 : decode cX9_doesAll 132 = .ok (.goto (-72), 3) := by decide +kernel
theorem dX9_doesAll_135 : decode cX9_doesAll 135 = .ok (.aload_n 0, 1) := by decide +kernel
theorem dX9_doesAll_136 : decode cX9_doesAll 136 = .ok (.iconst 0, 1) := by decide +kernel
theorem dX9_doesAll_137 : decode cX9_doesAll 137 = .ok (.bipush 11, 2) := by decide +kernel
theorem dX9_doesAll_139 : decode cX9_doesAll 139 = .ok (.invokevirtual 200, 3) := by decide +kernel
theorem dX9_doesAll_142 : decode cX9_doesAll 142 = .ok (.iload_n 1, 1) := by decide +kernel
theorem dX9_doesAll_143 : decode cX9_doesAll 143 = .ok (.isub, 1) := by decide +kernel
theorem dX9_doesAll_144 : decode cX9_doesAll 144 = .ok (.ireturn, 1) := by decide +kernel
def f_X9_doesAll_L60_17 (K11 : (MoT → Option (Int32 × MoT))) : Nat → Int32 → MoT → Option (Int32 × MoT)
  | 0, _, _ => none
  | n18 + 1, x2_15, s0_16 => if (Mo_lines s0_16) ≤ x2_15 then K11 s0_16
  else if inb x2_15 40 then if ((Mo_lineKind s0_16) (ix x2_15)) = (2 : Int32) then if inb x2_15 40 then (f_X9_ticks s0_16 (0 : Int32) ((Mo_lineTime s0_16) (ix x2_15))).bind fun r30 =>
  f_X9_doesAll_L60_17 K11 n18 (x2_15 + (1 : Int32)) (r30.2) else none
  else if inb x2_15 40 then if inb x2_15 40 then if inb x2_15 40 then if inb x2_15 40 then if inb x2_15 40 then (f_X9_does s0_16 (0 : Int32) ((Mo_lineSide s0_16) (ix x2_15)) ((Mo_lineKey s0_16) (ix x2_15)) ((Mo_lineValue s0_16) (ix x2_15)) ((Mo_lineMany s0_16) (ix x2_15)) ((Mo_lineTime s0_16) (ix x2_15))).bind fun r27 =>
  f_X9_doesAll_L60_17 K11 n18 (x2_15 + (1 : Int32)) (r27.2) else none else none else none else none else none else none
def f_X9_doesAll_L2_34 (K1 : (MoT → Option (Int32 × MoT))) : Nat → Int32 → MoT → Option (Int32 × MoT)
  | 0, _, _ => none
  | n35 + 1, x1_32, s0_33 => if (16 : Int32) ≤ x1_32 then K1 s0_33
  else if inb x1_32 16 then if inb x1_32 16 then f_X9_doesAll_L2_34 K1 n35 (x1_32 + (1 : Int32)) (Mo_w_words s0_33 (vp_updL (Mo_words s0_33) (ix x1_32) ((Mo_readWords s0_33) (ix x1_32)))) else none else none
def f_X9_doesAll (s0 : MoT) : Option (Int32 × MoT) :=
  glt (fun (s0_2 : MoT) => if inb (0 : Int32) 2 then (f_X9_set s0_2 (0 : Int32) (3 : Int32) ((Mo_readMany s0_2) (ix (0 : Int32)))).bind fun r4 =>
  if inb (1 : Int32) 2 then (f_X9_set r4 (0 : Int32) (4 : Int32) ((Mo_readMany r4) (ix (1 : Int32)))).bind fun r7 =>
  (f_X9_get r7 (0 : Int32) (11 : Int32)).bind fun r9 =>
  glt (fun (s0_12 : MoT) => (f_X9_get s0_12 (0 : Int32) (11 : Int32)).bind fun r13 =>
  some ((r13 - r9), s0_12)) fun K11 =>
  f_X9_doesAll_L60_17 K11 10000 (0 : Int32) r7 else none else none) fun K1 =>
  f_X9_doesAll_L2_34 K1 10000 (0 : Int32) s0
abbrev rm_X9_doesAll : Room := { frames := 9, cells := 0, slots := 0, locals := 218 }
set_option maxHeartbeats 4000000 in
set_option maxRecDepth 100000 in
theorem c_X9_doesAll (l : Launch) (g : GK) (a0 : Nat → Nat) (s0 : MoT) (res : (Int32 × MoT)) (hf : f_X9_doesAll s0 = some res) : gM l yX9_doesAll cX9_doesAll 3 (some .int) rm_X9_doesAll g [.ref (a0 0)] (Mo_c g a0 s0) (fun _ : Unit => (some (.int (res.1)))) (fun _ => (Mo_c g a0 (res.2))) 0 0 := by
  refine gM_introI RX9 (by decide) rfl (Nat.le_of_ble_eq_true rfl) (fun p e s m args below meth c Q H locs ls A hE hZ hA hP hD hS hq hl => ?_)
  have hl : lv_has ls 3 [(0, .ref (a0 0))] := hl
  have hx := hE.1
  have hb := hE.2.1
  rw [f_X9_doesAll] at hf
  refine lv_iconst hx hb dX9_doesAll_0 kci_0 ?_
  refine lv_istore_n hx hb dX9_doesAll_1 rfl hl (by decide) (lv' := [(1, .int (0 : Int32)), (0, .ref (a0 0))]) rfl (fun ls hl => ?_)
  obtain ⟨K1, eK1, hf⟩ := gltd hf
  have kK1 : ∀ (s0_2 : MoT) (ls : Array Slot) (H : Heap) (locs : List Loc), K1 s0_2 = some res → lv_has ls 3 [(0, .ref (a0 0))] → gP g (Mo_c g a0 s0_2) H → va_D A (Mo_c g a0 s0_2) → va_S A s.heap H locs → W p l e rm_X9_doesAll s m args below meth c H locs 0 0 Q (F0 m 26 ls []) := by
    intro s0_2 ls H locs hf hl hP hD hS
    rw [eK1] at hf
    refine lv_aload_n hx hb dX9_doesAll_26 rfl (lv_at hl 0 rfl) ?_
    refine lv_iconst hx hb dX9_doesAll_27 kci_0 ?_
    refine lv_iconst hx hb dX9_doesAll_28 kci_3 ?_
    refine lv_aload_n hx hb dX9_doesAll_29 rfl (lv_at hl 0 rfl) ?_
    refine g_get hE okX9 fl_X9_28 hP 0 rfl (v := .ref (a0 5)) rfl dX9_doesAll_30 ?_
    refine lv_iconst hx hb dX9_doesAll_33 kci_0 ?_
    obtain ⟨hg3, hf⟩ := ggd hf
    refine g_iald hE hP 5 (f := (Mo_readMany s0_2)) rfl hg3 dX9_doesAll_34 ?_
    obtain ⟨r4, hc5, hf⟩ := gbd hf
    refine gm_callV1 (As := [.int (0 : Int32), .int (3 : Int32), .int ((Mo_readMany s0_2) (ix (0 : Int32)))]) (rest := []) (st1 := fun _ => []) (ws' := fun _ => (Mo_c g a0 r4)) hE hl.1 ml_X9_68 (c_X9_set l g a0 s0_2 (0 : Int32) (3 : Int32) ((Mo_readMany s0_2) (ix (0 : Int32))) r4 hc5) hZ hP hD hS hA 0 14 rfl (fun _ => rfl) okX9 rfl rfl rfl (fun _ => rfl) ⟨rfl, rfl⟩ ⟨Nat.le_of_ble_eq_true rfl, Nat.le_of_ble_eq_true rfl⟩ ⟨Nat.le_refl _, Nat.le_refl _⟩ (Nat.le_of_ble_eq_true rfl) dX9_doesAll_35 (fun _ H locs hP hD hS => ?_)
    refine lv_aload_n hx hb dX9_doesAll_38 rfl (lv_at hl 0 rfl) ?_
    refine lv_iconst hx hb dX9_doesAll_39 kci_0 ?_
    refine lv_iconst hx hb dX9_doesAll_40 kci_4 ?_
    refine lv_aload_n hx hb dX9_doesAll_41 rfl (lv_at hl 0 rfl) ?_
    refine g_get hE okX9 fl_X9_28 hP 0 rfl (v := .ref (a0 5)) rfl dX9_doesAll_42 ?_
    refine lv_iconst hx hb dX9_doesAll_45 kci_1 ?_
    obtain ⟨hg6, hf⟩ := ggd hf
    refine g_iald hE hP 5 (f := (Mo_readMany r4)) rfl hg6 dX9_doesAll_46 ?_
    obtain ⟨r7, hc8, hf⟩ := gbd hf
    refine gm_callV1 (As := [.int (0 : Int32), .int (4 : Int32), .int ((Mo_readMany r4) (ix (1 : Int32)))]) (rest := []) (st1 := fun _ => []) (ws' := fun _ => (Mo_c g a0 r7)) hE hl.1 ml_X9_68 (c_X9_set l g a0 r4 (0 : Int32) (4 : Int32) ((Mo_readMany r4) (ix (1 : Int32))) r7 hc8) hZ hP hD hS hA 0 14 rfl (fun _ => rfl) okX9 rfl rfl rfl (fun _ => rfl) ⟨rfl, rfl⟩ ⟨Nat.le_of_ble_eq_true rfl, Nat.le_of_ble_eq_true rfl⟩ ⟨Nat.le_refl _, Nat.le_refl _⟩ (Nat.le_of_ble_eq_true rfl) dX9_doesAll_47 (fun _ H locs hP hD hS => ?_)
    refine lv_aload_n hx hb dX9_doesAll_50 rfl (lv_at hl 0 rfl) ?_
    refine lv_iconst hx hb dX9_doesAll_51 kci_0 ?_
    refine lv_bipush hx hb dX9_doesAll_52 kcb_11 ?_
    obtain ⟨r9, hc10, hf⟩ := gbd hf
    refine gr_callV (As := [.int (0 : Int32), .int (11 : Int32)]) (rest := []) (st1 := [.int r9]) hE hl.1 ml_X9_200 (c_X9_get l g a0 r7 (0 : Int32) (11 : Int32) r9 hc10) hZ hS hP [(0, 14)] rfl okX9 rfl rfl rfl rfl ⟨rfl, rfl⟩ ⟨Nat.le_of_ble_eq_true rfl, Nat.le_of_ble_eq_true rfl⟩ ⟨Nat.le_refl _, Nat.le_refl _⟩ (Nat.le_of_ble_eq_true rfl) dX9_doesAll_54 ?_
    refine lv_istore_n hx hb dX9_doesAll_57 rfl hl (by decide) (lv' := [(1, .int r9), (0, .ref (a0 0))]) rfl (fun ls hl => ?_)
    refine lv_iconst hx hb dX9_doesAll_58 kci_0 ?_
    refine lv_istore_n hx hb dX9_doesAll_59 rfl hl (by decide) (lv' := [(2, .int (0 : Int32)), (1, .int r9), (0, .ref (a0 0))]) rfl (fun ls hl => ?_)
    obtain ⟨K11, eK11, hf⟩ := gltd hf
    have kK11 : ∀ (s0_12 : MoT) (ls : Array Slot) (H : Heap) (locs : List Loc), K11 s0_12 = some res → lv_has ls 3 [(0, .ref (a0 0)), (1, .int r9)] → gP g (Mo_c g a0 s0_12) H → va_D A (Mo_c g a0 s0_12) → va_S A s.heap H locs → W p l e rm_X9_doesAll s m args below meth c H locs 0 0 Q (F0 m 135 ls []) := by
      intro s0_12 ls H locs hf hl hP hD hS
      rw [eK11] at hf
      refine lv_aload_n hx hb dX9_doesAll_135 rfl (lv_at hl 0 rfl) ?_
      refine lv_iconst hx hb dX9_doesAll_136 kci_0 ?_
      refine lv_bipush hx hb dX9_doesAll_137 kcb_11 ?_
      obtain ⟨r13, hc14, hf⟩ := gbd hf
      refine gr_callV (As := [.int (0 : Int32), .int (11 : Int32)]) (rest := []) (st1 := [.int r13]) hE hl.1 ml_X9_200 (c_X9_get l g a0 s0_12 (0 : Int32) (11 : Int32) r13 hc14) hZ hS hP [(0, 14)] rfl okX9 rfl rfl rfl rfl ⟨rfl, rfl⟩ ⟨Nat.le_of_ble_eq_true rfl, Nat.le_of_ble_eq_true rfl⟩ ⟨Nat.le_refl _, Nat.le_refl _⟩ (Nat.le_of_ble_eq_true rfl) dX9_doesAll_139 ?_
      refine lv_iload_n hx hb dX9_doesAll_142 rfl (lv_at hl 1 rfl) ?_
      refine lv_isub hx hb dX9_doesAll_143 ?_
      cases hf
      exact hq () rfl hP hD hS dX9_doesAll_144
    have lpn18 : ∀ (n18 : Nat) (x2_15 : Int32) (s0_16 : MoT) (ls : Array Slot) (H : Heap) (locs : List Loc), f_X9_doesAll_L60_17 K11 n18 x2_15 s0_16 = some res → lv_has ls 3 [(0, .ref (a0 0)), (1, .int r9), (2, .int x2_15)] → gP g (Mo_c g a0 s0_16) H → va_D A (Mo_c g a0 s0_16) → va_S A s.heap H locs → W p l e rm_X9_doesAll s m args below meth c H locs 0 0 Q (F0 m 60 ls []) := by
      intro n18
      induction n18 with
      | zero => intro x2_15 s0_16 ls H locs hf hl hP hD hS; rw [f_X9_doesAll_L60_17] at hf; cases hf
      | succ n18 ihn18 =>
        intro x2_15 s0_16 ls H locs hf hl hP hD hS
        rw [f_X9_doesAll_L60_17] at hf
        refine lv_iload_n hx hb dX9_doesAll_60 rfl (lv_at hl 2 rfl) ?_
        refine lv_aload_n hx hb dX9_doesAll_61 rfl (lv_at hl 0 rfl) ?_
        refine g_get hE okX9 fl_X9_132 hP 0 rfl (v := .int (Mo_lines s0_16)) rfl dX9_doesAll_62 ?_
        refine lv_icmp_ge hx hb dX9_doesAll_65 (tgt := 135) rfl (fun h19 => ?_) (fun h19 => ?_)
        · have hf := gif_t h19 hf
          exact kK11 s0_16 ls H locs hf (lv_sub hl [0, 1] rfl) hP hD hS
        · have hf := gif_f h19 hf
          refine lv_aload_n hx hb dX9_doesAll_68 rfl (lv_at hl 0 rfl) ?_
          refine g_get hE okX9 fl_X9_31 hP 0 rfl (v := .ref (a0 6)) rfl dX9_doesAll_69 ?_
          refine lv_iload_n hx hb dX9_doesAll_72 rfl (lv_at hl 2 rfl) ?_
          obtain ⟨hg20, hf⟩ := ggd hf
          refine g_iald hE hP 6 (f := (Mo_lineKind s0_16)) rfl hg20 dX9_doesAll_73 ?_
          refine lv_iconst hx hb dX9_doesAll_74 kci_2 ?_
          refine lv_icmp_ne hx hb dX9_doesAll_75 (tgt := 93) rfl (fun h21 => ?_) (fun h21 => ?_)
          · have hf := gif_f h21 hf
            refine lv_aload_n hx hb dX9_doesAll_93 rfl (lv_at hl 0 rfl) ?_
            refine lv_iconst hx hb dX9_doesAll_94 kci_0 ?_
            refine lv_aload_n hx hb dX9_doesAll_95 rfl (lv_at hl 0 rfl) ?_
            refine g_get hE okX9 fl_X9_34 hP 0 rfl (v := .ref (a0 7)) rfl dX9_doesAll_96 ?_
            refine lv_iload_n hx hb dX9_doesAll_99 rfl (lv_at hl 2 rfl) ?_
            obtain ⟨hg22, hf⟩ := ggd hf
            refine g_iald hE hP 7 (f := (Mo_lineSide s0_16)) rfl hg22 dX9_doesAll_100 ?_
            refine lv_aload_n hx hb dX9_doesAll_101 rfl (lv_at hl 0 rfl) ?_
            refine g_get hE okX9 fl_X9_37 hP 0 rfl (v := .ref (a0 8)) rfl dX9_doesAll_102 ?_
            refine lv_iload_n hx hb dX9_doesAll_105 rfl (lv_at hl 2 rfl) ?_
            obtain ⟨hg23, hf⟩ := ggd hf
            refine g_iald hE hP 8 (f := (Mo_lineKey s0_16)) rfl hg23 dX9_doesAll_106 ?_
            refine lv_aload_n hx hb dX9_doesAll_107 rfl (lv_at hl 0 rfl) ?_
            refine g_get hE okX9 fl_X9_40 hP 0 rfl (v := .ref (a0 9)) rfl dX9_doesAll_108 ?_
            refine lv_iload_n hx hb dX9_doesAll_111 rfl (lv_at hl 2 rfl) ?_
            obtain ⟨hg24, hf⟩ := ggd hf
            refine g_iald hE hP 9 (f := (Mo_lineValue s0_16)) rfl hg24 dX9_doesAll_112 ?_
            refine lv_aload_n hx hb dX9_doesAll_113 rfl (lv_at hl 0 rfl) ?_
            refine g_get hE okX9 fl_X9_43 hP 0 rfl (v := .ref (a0 10)) rfl dX9_doesAll_114 ?_
            refine lv_iload_n hx hb dX9_doesAll_117 rfl (lv_at hl 2 rfl) ?_
            obtain ⟨hg25, hf⟩ := ggd hf
            refine g_iald hE hP 10 (f := (Mo_lineMany s0_16)) rfl hg25 dX9_doesAll_118 ?_
            refine lv_aload_n hx hb dX9_doesAll_119 rfl (lv_at hl 0 rfl) ?_
            refine g_get hE okX9 fl_X9_46 hP 0 rfl (v := .ref (a0 11)) rfl dX9_doesAll_120 ?_
            refine lv_iload_n hx hb dX9_doesAll_123 rfl (lv_at hl 2 rfl) ?_
            obtain ⟨hg26, hf⟩ := ggd hf
            refine g_iald hE hP 11 (f := (Mo_lineTime s0_16)) rfl hg26 dX9_doesAll_124 ?_
            obtain ⟨r27, hc28, hf⟩ := gbd hf
            refine gm_callV1 (As := [.int (0 : Int32), .int ((Mo_lineSide s0_16) (ix x2_15)), .int ((Mo_lineKey s0_16) (ix x2_15)), .int ((Mo_lineValue s0_16) (ix x2_15)), .int ((Mo_lineMany s0_16) (ix x2_15)), .int ((Mo_lineTime s0_16) (ix x2_15))]) (rest := []) (st1 := fun _ => [.int (r27.1)]) (ws' := fun _ => (Mo_c g a0 (r27.2))) hE hl.1 ml_X9_210 (c_X9_does l g a0 s0_16 (0 : Int32) ((Mo_lineSide s0_16) (ix x2_15)) ((Mo_lineKey s0_16) (ix x2_15)) ((Mo_lineValue s0_16) (ix x2_15)) ((Mo_lineMany s0_16) (ix x2_15)) ((Mo_lineTime s0_16) (ix x2_15)) r27 hc28) hZ hP hD hS hA 0 14 rfl (fun _ => rfl) okX9 rfl rfl rfl (fun _ => rfl) ⟨rfl, rfl⟩ ⟨Nat.le_of_ble_eq_true rfl, Nat.le_of_ble_eq_true rfl⟩ ⟨Nat.le_refl _, Nat.le_refl _⟩ (Nat.le_of_ble_eq_true rfl) dX9_doesAll_125 (fun _ H locs hP hD hS => ?_)
            refine lv_pop hx hb dX9_doesAll_128 rfl ?_
            refine lv_iinc hx hb dX9_doesAll_129 hl (k := 2) (x := x2_15) rfl (kinc_1 _) (by decide) (lv' := [(2, .int (x2_15 + (1 : Int32))), (0, .ref (a0 0)), (1, .int r9)]) rfl (fun ls hl => ?_)
            refine lv_goto hx hb dX9_doesAll_132 (tgt := 60) rfl ?_
            exact ihn18 (x2_15 + (1 : Int32)) (r27.2) ls H locs hf (lv_sub hl [1, 2, 0] rfl) hP hD hS
          · have hf := gif_t h21 hf
            refine lv_aload_n hx hb dX9_doesAll_78 rfl (lv_at hl 0 rfl) ?_
            refine lv_iconst hx hb dX9_doesAll_79 kci_0 ?_
            refine lv_aload_n hx hb dX9_doesAll_80 rfl (lv_at hl 0 rfl) ?_
            refine g_get hE okX9 fl_X9_46 hP 0 rfl (v := .ref (a0 11)) rfl dX9_doesAll_81 ?_
            refine lv_iload_n hx hb dX9_doesAll_84 rfl (lv_at hl 2 rfl) ?_
            obtain ⟨hg29, hf⟩ := ggd hf
            refine g_iald hE hP 11 (f := (Mo_lineTime s0_16)) rfl hg29 dX9_doesAll_85 ?_
            obtain ⟨r30, hc31, hf⟩ := gbd hf
            refine gm_callV1 (As := [.int (0 : Int32), .int ((Mo_lineTime s0_16) (ix x2_15))]) (rest := []) (st1 := fun _ => [.int (r30.1)]) (ws' := fun _ => (Mo_c g a0 (r30.2))) hE hl.1 ml_X9_207 (c_X9_ticks l g a0 s0_16 (0 : Int32) ((Mo_lineTime s0_16) (ix x2_15)) r30 hc31) hZ hP hD hS hA 0 14 rfl (fun _ => rfl) okX9 rfl rfl rfl (fun _ => rfl) ⟨rfl, rfl⟩ ⟨Nat.le_of_ble_eq_true rfl, Nat.le_of_ble_eq_true rfl⟩ ⟨Nat.le_refl _, Nat.le_refl _⟩ (Nat.le_of_ble_eq_true rfl) dX9_doesAll_86 (fun _ H locs hP hD hS => ?_)
            refine lv_pop hx hb dX9_doesAll_89 rfl ?_
            refine lv_goto hx hb dX9_doesAll_90 (tgt := 129) rfl ?_
            refine lv_iinc hx hb dX9_doesAll_129 hl (k := 2) (x := x2_15) rfl (kinc_1 _) (by decide) (lv' := [(2, .int (x2_15 + (1 : Int32))), (0, .ref (a0 0)), (1, .int r9)]) rfl (fun ls hl => ?_)
            refine lv_goto hx hb dX9_doesAll_132 (tgt := 60) rfl ?_
            exact ihn18 (x2_15 + (1 : Int32)) (r30.2) ls H locs hf (lv_sub hl [1, 2, 0] rfl) hP hD hS
    exact lpn18 10000 (0 : Int32) r7 ls H locs hf (lv_sub hl [2, 1, 0] rfl) hP hD hS
  have lpn35 : ∀ (n35 : Nat) (x1_32 : Int32) (s0_33 : MoT) (ls : Array Slot) (H : Heap) (locs : List Loc), f_X9_doesAll_L2_34 K1 n35 x1_32 s0_33 = some res → lv_has ls 3 [(0, .ref (a0 0)), (1, .int x1_32)] → gP g (Mo_c g a0 s0_33) H → va_D A (Mo_c g a0 s0_33) → va_S A s.heap H locs → W p l e rm_X9_doesAll s m args below meth c H locs 0 0 Q (F0 m 2 ls []) := by
    intro n35
    induction n35 with
    | zero => intro x1_32 s0_33 ls H locs hf hl hP hD hS; rw [f_X9_doesAll_L2_34] at hf; cases hf
    | succ n35 ihn35 =>
      intro x1_32 s0_33 ls H locs hf hl hP hD hS
      rw [f_X9_doesAll_L2_34] at hf
      refine lv_iload_n hx hb dX9_doesAll_2 rfl (lv_at hl 1 rfl) ?_
      refine lv_bipush hx hb dX9_doesAll_3 kcb_16 ?_
      refine lv_icmp_ge hx hb dX9_doesAll_5 (tgt := 26) rfl (fun h36 => ?_) (fun h36 => ?_)
      · have hf := gif_t h36 hf
        exact kK1 s0_33 ls H locs hf (lv_sub hl [0] rfl) hP hD hS
      · have hf := gif_f h36 hf
        refine lv_aload_n hx hb dX9_doesAll_8 rfl (lv_at hl 0 rfl) ?_
        refine g_get hE okX9 fl_X9_21 hP 0 rfl (v := .ref (a0 3)) rfl dX9_doesAll_9 ?_
        refine lv_iload_n hx hb dX9_doesAll_12 rfl (lv_at hl 1 rfl) ?_
        refine lv_aload_n hx hb dX9_doesAll_13 rfl (lv_at hl 0 rfl) ?_
        refine g_get hE okX9 fl_X9_25 hP 0 rfl (v := .ref (a0 4)) rfl dX9_doesAll_14 ?_
        refine lv_iload_n hx hb dX9_doesAll_17 rfl (lv_at hl 1 rfl) ?_
        obtain ⟨hg37, hf⟩ := ggd hf
        refine g_lald hE hP 4 (f := (Mo_readWords s0_33)) rfl hg37 dX9_doesAll_18 ?_
        obtain ⟨hg38, hf⟩ := ggd hf
        refine g_last hE hP hD hS 3 (f := (Mo_words s0_33)) rfl hg38 (Mo_c g a0 (Mo_w_words s0_33 (vp_updL (Mo_words s0_33) (ix x1_32) ((Mo_readWords s0_33) (ix x1_32))))) rfl dX9_doesAll_19 (fun H locs hP hD hS => ?_)
        refine lv_iinc hx hb dX9_doesAll_20 hl (k := 1) (x := x1_32) rfl (kinc_1 _) (by decide) (lv' := [(1, .int (x1_32 + (1 : Int32))), (0, .ref (a0 0))]) rfl (fun ls hl => ?_)
        refine lv_goto hx hb dX9_doesAll_23 (tgt := 2) rfl ?_
        exact ihn35 (x1_32 + (1 : Int32)) (Mo_w_words s0_33 (vp_updL (Mo_words s0_33) (ix x1_32) ((Mo_readWords s0_33) (ix x1_32)))) ls H locs hf (lv_sub hl [1, 0] rfl) hP hD hS
  exact lpn35 10000 (0 : Int32) s0 ls H locs hf (lv_sub hl [1, 0] rfl) hP hD hS
theorem dX9_feed_0 : decode cX9_feed 0 = .ok (.aload_n 0, 1) := by decide +kernel
theorem dX9_feed_1 : decode cX9_feed 1 = .ok (.iconst 0, 1) := by decide +kernel
theorem dX9_feed_2 : decode cX9_feed 2 = .ok (.putfield 55, 3) := by decide +kernel
theorem dX9_feed_5 : decode cX9_feed 5 = .ok (.aload_n 0, 1) := by decide +kernel
theorem dX9_feed_6 : decode cX9_feed 6 = .ok (.getfield 197, 3) := by decide +kernel
theorem dX9_feed_9 : decode cX9_feed 9 = .ok (.bipush 20, 2) := by decide +kernel
theorem dX9_feed_11 : decode cX9_feed 11 = .ok (.iadd, 1) := by decide +kernel
theorem dX9_feed_12 : decode cX9_feed 12 = .ok (.sipush 900, 3) := by decide +kernel
theorem dX9_feed_15 : decode cX9_feed 15 = .ok (.if_icmp .le 5, 3) := by decide +kernel
theorem dX9_feed_18 : decode cX9_feed 18 = .ok (.iconst (-1), 1) := by decide +kernel
theorem dX9_feed_19 : decode cX9_feed 19 = .ok (.ireturn, 1) := by decide +kernel
theorem dX9_feed_20 : decode cX9_feed 20 = .ok (.iconst 0, 1) := by decide +kernel
theorem dX9_feed_21 : decode cX9_feed 21 = .ok (.istore 6, 2) := by decide +kernel
theorem dX9_feed_23 : decode cX9_feed 23 = .ok (.iload 6, 2) := by decide +kernel
theorem dX9_feed_25 : decode cX9_feed 25 = .ok (.bipush 20, 2) := by decide +kernel
theorem dX9_feed_27 : decode cX9_feed 27 = .ok (.if_icmp .ge 90, 3) := by decide +kernel
theorem dX9_feed_30 : decode cX9_feed 30 = .ok (.iload 6, 2) := by decide +kernel
theorem dX9_feed_32 : decode cX9_feed 32 = .ok (.iconst 4, 1) := by decide +kernel
theorem dX9_feed_33 : decode cX9_feed 33 = .ok (.if_icmp .ge 7, 3) := by decide +kernel
theorem dX9_feed_36 : decode cX9_feed 36 = .ok (.iload_n 1, 1) := by decide +kernel
theorem dX9_feed_37 : decode cX9_feed 37 = .ok (.goto 39, 3) := by decide +kernel
theorem dX9_feed_40 : decode cX9_feed 40 = .ok (.iload 6, 2) := by decide +kernel
theorem dX9_feed_42 : decode cX9_feed 42 = .ok (.bipush 8, 2) := by decide +kernel
theorem dX9_feed_44 : decode cX9_feed 44 = .ok (.if_icmp .ge 7, 3) := by decide +kernel
theorem dX9_feed_47 : decode cX9_feed 47 = .ok (.iload_n 2, 1) := by decide +kernel
theorem dX9_feed_48 : decode cX9_feed 48 = .ok (.goto 28, 3) := by decide +kernel
theorem dX9_feed_51 : decode cX9_feed 51 = .ok (.iload 6, 2) := by decide +kernel
theorem dX9_feed_53 : decode cX9_feed 53 = .ok (.bipush 12, 2) := by decide +kernel
theorem dX9_feed_55 : decode cX9_feed 55 = .ok (.if_icmp .ge 7, 3) := by decide +kernel
theorem dX9_feed_58 : decode cX9_feed 58 = .ok (.iload_n 3, 1) := by decide +kernel
theorem dX9_feed_59 : decode cX9_feed 59 = .ok (.goto 17, 3) := by decide +kernel
theorem dX9_feed_62 : decode cX9_feed 62 = .ok (.iload 6, 2) := by decide +kernel
theorem dX9_feed_64 : decode cX9_feed 64 = .ok (.bipush 16, 2) := by decide +kernel
theorem dX9_feed_66 : decode cX9_feed 66 = .ok (.if_icmp .ge 8, 3) := by decide +kernel
theorem dX9_feed_69 : decode cX9_feed 69 = .ok (.iload 4, 2) := by decide +kernel
theorem dX9_feed_71 : decode cX9_feed 71 = .ok (.goto 5, 3) := by decide +kernel
theorem dX9_feed_74 : decode cX9_feed 74 = .ok (.iload 5, 2) := by decide +kernel
theorem dX9_feed_76 : decode cX9_feed 76 = .ok (.istore 7, 2) := by decide +kernel
theorem dX9_feed_78 : decode cX9_feed 78 = .ok (.aload_n 0, 1) := by decide +kernel
theorem dX9_feed_79 : decode cX9_feed 79 = .ok (.getfield 17, 3) := by decide +kernel
theorem dX9_feed_82 : decode cX9_feed 82 = .ok (.aload_n 0, 1) := by decide +kernel
theorem dX9_feed_83 : decode cX9_feed 83 = .ok (.getfield 197, 3) := by decide +kernel
theorem dX9_feed_86 : decode cX9_feed 86 = .ok (.iload 7, 2) := by decide +kernel
theorem dX9_feed_88 : decode cX9_feed 88 = .ok (.bipush 24, 2) := by decide +kernel
theorem dX9_feed_90 : decode cX9_feed 90 = .ok (.bipush 8, 2) := by decide +kernel
theorem dX9_feed_92 : decode cX9_feed 92 = .ok (.iload 6, 2) := by decide +kernel
theorem dX9_feed_94 : decode cX9_feed 94 = .ok (.iconst 4, 1) := by decide +kernel
theorem dX9_feed_95 : decode cX9_feed 95 = .ok (.irem, 1) := by decide +kernel
theorem dX9_feed_96 : decode cX9_feed 96 = .ok (.imul, 1) := by decide +kernel
theorem dX9_feed_97 : decode cX9_feed 97 = .ok (.isub, 1) := by decide +kernel
theorem dX9_feed_98 : decode cX9_feed 98 = .ok (.ishr, 1) := by decide +kernel
theorem dX9_feed_99 : decode cX9_feed 99 = .ok (.i2b, 1) := by decide +kernel
theorem dX9_feed_100 : decode cX9_feed 100 = .ok (.bastore, 1) := by decide +kernel
theorem dX9_feed_101 : decode cX9_feed 101 = .ok (.aload_n 0, 1) := by decide +kernel
theorem dX9_feed_102 : decode cX9_feed 102 = .ok (.dup, 1) := by decide +kernel
theorem dX9_feed_103 : decode cX9_feed 103 = .ok (.getfield 197, 3) := by decide +kernel
theorem dX9_feed_106 : decode cX9_feed 106 = .ok (.iconst 1, 1) := by decide +kernel
theorem dX9_feed_107 : decode cX9_feed 107 = .ok (.iadd, 1) := by decide +kernel
theorem dX9_feed_108 : decode cX9_feed 108 = .ok (.putfield 197, 3) := by decide +kernel
theorem dX9_feed_111 : decode cX9_feed 111 = .ok (.iinc 6 1, 3) := by decide +kernel
theorem dX9_feed_114 : decode cX9_feed 114 = .ok (.goto (-91), 3) := by decide +kernel
theorem dX9_feed_117 : decode cX9_feed 117 = .ok (.aload_n 0, 1) := by decide +kernel
theorem dX9_feed_118 : decode cX9_feed 118 = .ok (.getfield 197, 3) := by decide +kernel
theorem dX9_feed_121 : decode cX9_feed 121 = .ok (.ireturn, 1) := by decide +kernel
def f_X9_feed_L23_6 (p1 : Int32) (p2 : Int32) (p3 : Int32) (p4 : Int32) (p5 : Int32) (K2 : (MoT → Option (Int32 × MoT))) : Nat → Int32 → MoT → Option (Int32 × MoT)
  | 0, _, _ => none
  | n7 + 1, x6_4, s0_5 => if (20 : Int32) ≤ x6_4 then K2 s0_5
  else glt (fun (y10 : Int32) => if inb (Mo_taped s0_5) 900 then f_X9_feed_L23_6 p1 p2 p3 p4 p5 K2 n7 (x6_4 + (1 : Int32)) (Mo_w_taped (Mo_w_tape s0_5 (upd (Mo_tape s0_5) (ix (Mo_taped s0_5)) (vp_nar .byte (y10 >>> (((24 : Int32) - ((8 : Int32) * (irem x6_4 (4 : Int32)))) &&& 31)).toInt8.toInt32))) ((Mo_taped s0_5) + (1 : Int32))) else none) fun J9 =>
  if (4 : Int32) ≤ x6_4 then if (8 : Int32) ≤ x6_4 then if (12 : Int32) ≤ x6_4 then if (16 : Int32) ≤ x6_4 then J9 p5
  else J9 p4
  else J9 p3
  else J9 p2
  else J9 p1
def f_X9_feed (s0 : MoT) (p1 : Int32) (p2 : Int32) (p3 : Int32) (p4 : Int32) (p5 : Int32) : Option (Int32 × MoT) :=
  if ((Mo_taped s0) + (20 : Int32)) ≤ (900 : Int32) then glt (fun (s0_3 : MoT) => some ((Mo_taped s0_3), s0_3)) fun K2 =>
  f_X9_feed_L23_6 p1 p2 p3 p4 p5 K2 10000 (0 : Int32) (Mo_w_thrown s0 (0 : Int32))
  else some ((-1 : Int32), (Mo_w_thrown s0 (0 : Int32)))
abbrev rm_X9_feed : Room := { frames := 0, cells := 0, slots := 0, locals := 0 }
set_option maxHeartbeats 4000000 in
set_option maxRecDepth 100000 in
theorem c_X9_feed (l : Launch) (g : GK) (a0 : Nat → Nat) (s0 : MoT) (p1 : Int32) (p2 : Int32) (p3 : Int32) (p4 : Int32) (p5 : Int32) (res : (Int32 × MoT)) (hf : f_X9_feed s0 p1 p2 p3 p4 p5 = some res) : gM l yX9_feed cX9_feed 8 (some .int) rm_X9_feed g [.ref (a0 0), .int p1, .int p2, .int p3, .int p4, .int p5] (Mo_c g a0 s0) (fun _ : Unit => (some (.int (res.1)))) (fun _ => (Mo_c g a0 (res.2))) 0 0 := by
  refine gM_introI RX9 (by decide) rfl (Nat.le_of_ble_eq_true rfl) (fun p e s m args below meth c Q H locs ls A hE hZ hA hP hD hS hq hl => ?_)
  have hl : lv_has ls 8 [(0, .ref (a0 0)), (1, .int p1), (2, .int p2), (3, .int p3), (4, .int p4), (5, .int p5)] := hl
  have hx := hE.1
  have hb := hE.2.1
  rw [f_X9_feed] at hf
  refine lv_aload_n hx hb dX9_feed_0 rfl (lv_at hl 0 rfl) ?_
  refine lv_iconst hx hb dX9_feed_1 kci_0 ?_
  refine g_put hE okX9 fl_X9_55 hP hD hS 0 rfl rfl rfl rfl (Nat.le_of_ble_eq_true rfl) (Mo_c g a0 (Mo_w_thrown s0 (0 : Int32))) rfl dX9_feed_2 (fun H locs hP hD hS => ?_)
  refine lv_aload_n hx hb dX9_feed_5 rfl (lv_at hl 0 rfl) ?_
  refine g_get hE okX9 fl_X9_197 hP 0 rfl (v := .int (Mo_taped s0)) rfl dX9_feed_6 ?_
  refine lv_bipush hx hb dX9_feed_9 kcb_20 ?_
  refine lv_iadd hx hb dX9_feed_11 ?_
  refine lv_sipush hx hb dX9_feed_12 kcs_900 ?_
  refine lv_icmp_le hx hb dX9_feed_15 (tgt := 20) rfl (fun h1 => ?_) (fun h1 => ?_)
  · have hf := gif_t h1 hf
    refine lv_iconst hx hb dX9_feed_20 kci_0 ?_
    refine lv_istore hx hb dX9_feed_21 hl (by decide) (lv' := [(6, .int (0 : Int32)), (0, .ref (a0 0)), (1, .int p1), (2, .int p2), (3, .int p3), (4, .int p4), (5, .int p5)]) rfl (fun ls hl => ?_)
    obtain ⟨K2, eK2, hf⟩ := gltd hf
    have kK2 : ∀ (s0_3 : MoT) (ls : Array Slot) (H : Heap) (locs : List Loc), K2 s0_3 = some res → lv_has ls 8 [(0, .ref (a0 0))] → gP g (Mo_c g a0 s0_3) H → va_D A (Mo_c g a0 s0_3) → va_S A s.heap H locs → W p l e rm_X9_feed s m args below meth c H locs 0 0 Q (F0 m 117 ls []) := by
      intro s0_3 ls H locs hf hl hP hD hS
      rw [eK2] at hf
      refine lv_aload_n hx hb dX9_feed_117 rfl (lv_at hl 0 rfl) ?_
      refine g_get hE okX9 fl_X9_197 hP 0 rfl (v := .int (Mo_taped s0_3)) rfl dX9_feed_118 ?_
      cases hf
      exact hq () rfl hP hD hS dX9_feed_121
    have lpn7 : ∀ (n7 : Nat) (x6_4 : Int32) (s0_5 : MoT) (ls : Array Slot) (H : Heap) (locs : List Loc), f_X9_feed_L23_6 p1 p2 p3 p4 p5 K2 n7 x6_4 s0_5 = some res → lv_has ls 8 [(0, .ref (a0 0)), (1, .int p1), (2, .int p2), (3, .int p3), (4, .int p4), (5, .int p5), (6, .int x6_4)] → gP g (Mo_c g a0 s0_5) H → va_D A (Mo_c g a0 s0_5) → va_S A s.heap H locs → W p l e rm_X9_feed s m args below meth c H locs 0 0 Q (F0 m 23 ls []) := by
      intro n7
      induction n7 with
      | zero => intro x6_4 s0_5 ls H locs hf hl hP hD hS; rw [f_X9_feed_L23_6] at hf; cases hf
      | succ n7 ihn7 =>
        intro x6_4 s0_5 ls H locs hf hl hP hD hS
        rw [f_X9_feed_L23_6] at hf
        refine lv_iload hx hb dX9_feed_23 (lv_at hl 6 rfl) ?_
        refine lv_bipush hx hb dX9_feed_25 kcb_20 ?_
        refine lv_icmp_ge hx hb dX9_feed_27 (tgt := 117) rfl (fun h8 => ?_) (fun h8 => ?_)
        · have hf := gif_t h8 hf
          exact kK2 s0_5 ls H locs hf (lv_sub hl [0] rfl) hP hD hS
        · have hf := gif_f h8 hf
          refine lv_iload hx hb dX9_feed_30 (lv_at hl 6 rfl) ?_
          refine lv_iconst hx hb dX9_feed_32 kci_4 ?_
          obtain ⟨J9, eJ9, hf⟩ := gltd hf
          have kJ9 : ∀ (y10 : Int32) (ls : Array Slot) (H : Heap) (locs : List Loc), J9 y10 = some res → lv_has ls 8 [(0, .ref (a0 0)), (1, .int p1), (2, .int p2), (3, .int p3), (4, .int p4), (5, .int p5), (6, .int x6_4)] → gP g (Mo_c g a0 s0_5) H → va_D A (Mo_c g a0 s0_5) → va_S A s.heap H locs → W p l e rm_X9_feed s m args below meth c H locs 0 0 Q (F0 m 76 ls [.int y10]) := by
            intro y10 ls H locs hf hl hP hD hS
            rw [eJ9] at hf
            refine lv_istore hx hb dX9_feed_76 hl (by decide) (lv' := [(7, .int y10), (0, .ref (a0 0)), (1, .int p1), (2, .int p2), (3, .int p3), (4, .int p4), (5, .int p5), (6, .int x6_4)]) rfl (fun ls hl => ?_)
            refine lv_aload_n hx hb dX9_feed_78 rfl (lv_at hl 1 rfl) ?_
            refine g_get hE okX9 fl_X9_17 hP 0 rfl (v := .ref (a0 2)) rfl dX9_feed_79 ?_
            refine lv_aload_n hx hb dX9_feed_82 rfl (lv_at hl 1 rfl) ?_
            refine g_get hE okX9 fl_X9_197 hP 0 rfl (v := .int (Mo_taped s0_5)) rfl dX9_feed_83 ?_
            refine lv_iload hx hb dX9_feed_86 (lv_at hl 0 rfl) ?_
            refine lv_bipush hx hb dX9_feed_88 kcb_24 ?_
            refine lv_bipush hx hb dX9_feed_90 kcb_8 ?_
            refine lv_iload hx hb dX9_feed_92 (lv_at hl 7 rfl) ?_
            refine lv_iconst hx hb dX9_feed_94 kci_4 ?_
            refine lv_irem hx hb dX9_feed_95 kne_4 ?_
            refine lv_imul hx hb dX9_feed_96 ?_
            refine lv_isub hx hb dX9_feed_97 ?_
            refine lv_ishr hx hb dX9_feed_98 ?_
            refine lv_i2b hx hb dX9_feed_99 rfl ?_
            obtain ⟨hg11, hf⟩ := ggd hf
            refine g_bast hE hP hD hS 2 (f := (Mo_tape s0_5)) rfl hg11 (Mo_c g a0 (Mo_w_tape s0_5 (upd (Mo_tape s0_5) (ix (Mo_taped s0_5)) (vp_nar .byte (y10 >>> (((24 : Int32) - ((8 : Int32) * (irem x6_4 (4 : Int32)))) &&& 31)).toInt8.toInt32)))) rfl dX9_feed_100 (fun H locs hP hD hS => ?_)
            refine lv_aload_n hx hb dX9_feed_101 rfl (lv_at hl 1 rfl) ?_
            refine lv_dup hx hb dX9_feed_102 rfl ?_
            refine g_get hE okX9 fl_X9_197 hP 0 rfl (v := .int (Mo_taped s0_5)) rfl dX9_feed_103 ?_
            refine lv_iconst hx hb dX9_feed_106 kci_1 ?_
            refine lv_iadd hx hb dX9_feed_107 ?_
            refine g_put hE okX9 fl_X9_197 hP hD hS 0 rfl rfl rfl rfl (Nat.le_of_ble_eq_true rfl) (Mo_c g a0 (Mo_w_taped (Mo_w_tape s0_5 (upd (Mo_tape s0_5) (ix (Mo_taped s0_5)) (vp_nar .byte (y10 >>> (((24 : Int32) - ((8 : Int32) * (irem x6_4 (4 : Int32)))) &&& 31)).toInt8.toInt32))) ((Mo_taped s0_5) + (1 : Int32)))) rfl dX9_feed_108 (fun H locs hP hD hS => ?_)
            refine lv_iinc hx hb dX9_feed_111 hl (k := 7) (x := x6_4) rfl (kinc_1 _) (by decide) (lv' := [(6, .int (x6_4 + (1 : Int32))), (7, .int y10), (0, .ref (a0 0)), (1, .int p1), (2, .int p2), (3, .int p3), (4, .int p4), (5, .int p5)]) rfl (fun ls hl => ?_)
            refine lv_goto hx hb dX9_feed_114 (tgt := 23) rfl ?_
            exact ihn7 (x6_4 + (1 : Int32)) (Mo_w_taped (Mo_w_tape s0_5 (upd (Mo_tape s0_5) (ix (Mo_taped s0_5)) (vp_nar .byte (y10 >>> (((24 : Int32) - ((8 : Int32) * (irem x6_4 (4 : Int32)))) &&& 31)).toInt8.toInt32))) ((Mo_taped s0_5) + (1 : Int32))) ls H locs hf (lv_sub hl [2, 3, 4, 5, 6, 7, 0] rfl) hP hD hS
          refine lv_icmp_ge hx hb dX9_feed_33 (tgt := 40) rfl (fun h12 => ?_) (fun h12 => ?_)
          · have hf := gif_t h12 hf
            refine lv_iload hx hb dX9_feed_40 (lv_at hl 6 rfl) ?_
            refine lv_bipush hx hb dX9_feed_42 kcb_8 ?_
            refine lv_icmp_ge hx hb dX9_feed_44 (tgt := 51) rfl (fun h13 => ?_) (fun h13 => ?_)
            · have hf := gif_t h13 hf
              refine lv_iload hx hb dX9_feed_51 (lv_at hl 6 rfl) ?_
              refine lv_bipush hx hb dX9_feed_53 kcb_12 ?_
              refine lv_icmp_ge hx hb dX9_feed_55 (tgt := 62) rfl (fun h14 => ?_) (fun h14 => ?_)
              · have hf := gif_t h14 hf
                refine lv_iload hx hb dX9_feed_62 (lv_at hl 6 rfl) ?_
                refine lv_bipush hx hb dX9_feed_64 kcb_16 ?_
                refine lv_icmp_ge hx hb dX9_feed_66 (tgt := 74) rfl (fun h15 => ?_) (fun h15 => ?_)
                · have hf := gif_t h15 hf
                  refine lv_iload hx hb dX9_feed_74 (lv_at hl 5 rfl) ?_
                  exact kJ9 p5 ls H locs hf (lv_sub hl [0, 1, 2, 3, 4, 5, 6] rfl) hP hD hS
                · have hf := gif_f h15 hf
                  refine lv_iload hx hb dX9_feed_69 (lv_at hl 4 rfl) ?_
                  refine lv_goto hx hb dX9_feed_71 (tgt := 76) rfl ?_
                  exact kJ9 p4 ls H locs hf (lv_sub hl [0, 1, 2, 3, 4, 5, 6] rfl) hP hD hS
              · have hf := gif_f h14 hf
                refine lv_iload_n hx hb dX9_feed_58 rfl (lv_at hl 3 rfl) ?_
                refine lv_goto hx hb dX9_feed_59 (tgt := 76) rfl ?_
                exact kJ9 p3 ls H locs hf (lv_sub hl [0, 1, 2, 3, 4, 5, 6] rfl) hP hD hS
            · have hf := gif_f h13 hf
              refine lv_iload_n hx hb dX9_feed_47 rfl (lv_at hl 2 rfl) ?_
              refine lv_goto hx hb dX9_feed_48 (tgt := 76) rfl ?_
              exact kJ9 p2 ls H locs hf (lv_sub hl [0, 1, 2, 3, 4, 5, 6] rfl) hP hD hS
          · have hf := gif_f h12 hf
            refine lv_iload_n hx hb dX9_feed_36 rfl (lv_at hl 1 rfl) ?_
            refine lv_goto hx hb dX9_feed_37 (tgt := 76) rfl ?_
            exact kJ9 p1 ls H locs hf (lv_sub hl [0, 1, 2, 3, 4, 5, 6] rfl) hP hD hS
    exact lpn7 10000 (0 : Int32) (Mo_w_thrown s0 (0 : Int32)) ls H locs hf (lv_sub hl [1, 2, 3, 4, 5, 6, 0] rfl) hP hD hS
  · have hf := gif_f h1 hf
    refine lv_iconst hx hb dX9_feed_18 kci_m1 ?_
    cases hf
    exact hq () rfl hP hD hS dX9_feed_19
theorem dX9_desk_0 : decode cX9_desk 0 = .ok (.aload_n 0, 1) := by decide +kernel
theorem dX9_desk_1 : decode cX9_desk 1 = .ok (.iconst 0, 1) := by decide +kernel
theorem dX9_desk_2 : decode cX9_desk 2 = .ok (.putfield 55, 3) := by decide +kernel
theorem dX9_desk_5 : decode cX9_desk 5 = .ok (.iload_n 1, 1) := by decide +kernel
theorem dX9_desk_6 : decode cX9_desk 6 = .ok (.ifCond .lt 11, 3) := by decide +kernel
theorem dX9_desk_9 : decode cX9_desk 9 = .ok (.iload_n 1, 1) := by decide +kernel
theorem dX9_desk_10 : decode cX9_desk 10 = .ok (.aload_n 0, 1) := by decide +kernel
theorem dX9_desk_11 : decode cX9_desk 11 = .ok (.getfield 197, 3) := by decide +kernel
theorem dX9_desk_14 : decode cX9_desk 14 = .ok (.if_icmp .le 9, 3) := by decide +kernel
theorem dX9_desk_17 : decode cX9_desk 17 = .ok (.aload_n 0, 1) := by decide +kernel
theorem dX9_desk_18 : decode cX9_desk 18 = .ok (.iconst 2, 1) := by decide +kernel
theorem dX9_desk_19 : decode cX9_desk 19 = .ok (.invokevirtual 61, 3) := by decide +kernel
theorem dX9_desk_22 : decode cX9_desk 22 = .ok (.ireturn, 1) := by decide +kernel
theorem dX9_desk_23 : decode cX9_desk 23 = .ok (.aload_n 0, 1) := by decide +kernel
theorem dX9_desk_24 : decode cX9_desk 24 = .ok (.iload_n 1, 1) := by decide +kernel
theorem dX9_desk_25 : decode cX9_desk 25 = .ok (.iconst 0, 1) := by decide +kernel
theorem dX9_desk_26 : decode cX9_desk 26 = .ok (.invokevirtual 214, 3) := by decide +kernel
theorem dX9_desk_29 : decode cX9_desk 29 = .ok (.ifCond .ne 5, 3) := by decide +kernel
theorem dX9_desk_32 : decode cX9_desk 32 = .ok (.iconst (-1), 1) := by decide +kernel
theorem dX9_desk_33 : decode cX9_desk 33 = .ok (.ireturn, 1) := by decide +kernel
theorem dX9_desk_34 : decode cX9_desk 34 = .ok (.aload_n 0, 1) := by decide +kernel
theorem dX9_desk_35 : decode cX9_desk 35 = .ok (.iconst 1, 1) := by decide +kernel
theorem dX9_desk_36 : decode cX9_desk 36 = .ok (.putfield 218, 3) := by decide +kernel
theorem dX9_desk_39 : decode cX9_desk 39 = .ok (.aload_n 0, 1) := by decide +kernel
theorem dX9_desk_40 : decode cX9_desk 40 = .ok (.iconst 0, 1) := by decide +kernel
theorem dX9_desk_41 : decode cX9_desk 41 = .ok (.putfield 221, 3) := by decide +kernel
theorem dX9_desk_44 : decode cX9_desk 44 = .ok (.aload_n 0, 1) := by decide +kernel
theorem dX9_desk_45 : decode cX9_desk 45 = .ok (.iconst 0, 1) := by decide +kernel
theorem dX9_desk_46 : decode cX9_desk 46 = .ok (.aload_n 0, 1) := by decide +kernel
theorem dX9_desk_47 : decode cX9_desk 47 = .ok (.getfield 163, 3) := by decide +kernel
theorem dX9_desk_50 : decode cX9_desk 50 = .ok (.aload_n 0, 1) := by decide +kernel
theorem dX9_desk_51 : decode cX9_desk 51 = .ok (.getfield 176, 3) := by decide +kernel
theorem dX9_desk_54 : decode cX9_desk 54 = .ok (.aload_n 0, 1) := by decide +kernel
theorem dX9_desk_55 : decode cX9_desk 55 = .ok (.getfield 181, 3) := by decide +kernel
theorem dX9_desk_58 : decode cX9_desk 58 = .ok (.invokevirtual 224, 3) := by decide +kernel
theorem dX9_desk_61 : decode cX9_desk 61 = .ok (.aload_n 0, 1) := by decide +kernel
theorem dX9_desk_62 : decode cX9_desk 62 = .ok (.aload_n 0, 1) := by decide +kernel
theorem dX9_desk_63 : decode cX9_desk 63 = .ok (.invokevirtual 227, 3) := by decide +kernel
theorem dX9_desk_66 : decode cX9_desk 66 = .ok (.invokevirtual 230, 3) := by decide +kernel
theorem dX9_desk_69 : decode cX9_desk 69 = .ok (.ireturn, 1) := by decide +kernel
def f_X9_desk (s0 : MoT) (p1 : Int32) : Option (Int32 × MoT) :=
  if p1 < 0 then (f_X9_refused (Mo_w_thrown s0 (0 : Int32)) (2 : Int32)).bind fun r2 =>
  some ((r2.1), (r2.2))
  else if p1 ≤ (Mo_taped s0) then (f_X9_reads (Mo_w_thrown s0 (0 : Int32)) p1 (0 : Int32)).bind fun r5 =>
  if (r5.1) = 0 then some ((-1 : Int32), (r5.2))
  else (f_X9_begins (Mo_w_hasImage (Mo_w_isThere (r5.2) (1 : Int32)) (0 : Int32)) (0 : Int32) (Mo_readHow (r5.2)) (Mo_readKeep (r5.2)) (Mo_readLate (r5.2))).bind fun r8 =>
  (f_X9_doesAll r8).bind fun r10 =>
  (f_X9_good (r10.2) (r10.1)).bind fun r12 =>
  some ((r12.1), (r12.2))
  else (f_X9_refused (Mo_w_thrown s0 (0 : Int32)) (2 : Int32)).bind fun r14 =>
  some ((r14.1), (r14.2))
abbrev rm_X9_desk : Room := { frames := 10, cells := 0, slots := 0, locals := 240 }
set_option maxHeartbeats 4000000 in
set_option maxRecDepth 100000 in
theorem c_X9_desk (l : Launch) (g : GK) (a0 : Nat → Nat) (s0 : MoT) (p1 : Int32) (res : (Int32 × MoT)) (hf : f_X9_desk s0 p1 = some res) : gM l yX9_desk cX9_desk 2 (some .int) rm_X9_desk g [.ref (a0 0), .int p1] (Mo_c g a0 s0) (fun _ : Unit => (some (.int (res.1)))) (fun _ => (Mo_c g a0 (res.2))) 0 0 := by
  refine gM_introI RX9 (by decide) rfl (Nat.le_of_ble_eq_true rfl) (fun p e s m args below meth c Q H locs ls A hE hZ hA hP hD hS hq hl => ?_)
  have hl : lv_has ls 2 [(0, .ref (a0 0)), (1, .int p1)] := hl
  have hx := hE.1
  have hb := hE.2.1
  rw [f_X9_desk] at hf
  refine lv_aload_n hx hb dX9_desk_0 rfl (lv_at hl 0 rfl) ?_
  refine lv_iconst hx hb dX9_desk_1 kci_0 ?_
  refine g_put hE okX9 fl_X9_55 hP hD hS 0 rfl rfl rfl rfl (Nat.le_of_ble_eq_true rfl) (Mo_c g a0 (Mo_w_thrown s0 (0 : Int32))) rfl dX9_desk_2 (fun H locs hP hD hS => ?_)
  refine lv_iload_n hx hb dX9_desk_5 rfl (lv_at hl 1 rfl) ?_
  refine lv_if_lt hx hb dX9_desk_6 (tgt := 17) rfl (fun h1 => ?_) (fun h1 => ?_)
  · have hf := gif_t h1 hf
    refine lv_aload_n hx hb dX9_desk_17 rfl (lv_at hl 0 rfl) ?_
    refine lv_iconst hx hb dX9_desk_18 kci_2 ?_
    obtain ⟨r2, hc3, hf⟩ := gbd hf
    refine gm_callV1 (As := [.int (2 : Int32)]) (rest := []) (st1 := fun _ => [.int (r2.1)]) (ws' := fun _ => (Mo_c g a0 (r2.2))) hE hl.1 ml_X9_61 (c_X9_refused l g a0 (Mo_w_thrown s0 (0 : Int32)) (2 : Int32) r2 hc3) hZ hP hD hS hA 0 14 rfl (fun _ => rfl) okX9 rfl rfl rfl (fun _ => rfl) ⟨rfl, rfl⟩ ⟨Nat.le_of_ble_eq_true rfl, Nat.le_of_ble_eq_true rfl⟩ ⟨Nat.le_refl _, Nat.le_refl _⟩ (Nat.le_of_ble_eq_true rfl) dX9_desk_19 (fun _ H locs hP hD hS => ?_)
    cases hf
    exact hq () rfl hP hD hS dX9_desk_22
  · have hf := gif_f h1 hf
    refine lv_iload_n hx hb dX9_desk_9 rfl (lv_at hl 1 rfl) ?_
    refine lv_aload_n hx hb dX9_desk_10 rfl (lv_at hl 0 rfl) ?_
    refine g_get hE okX9 fl_X9_197 hP 0 rfl (v := .int (Mo_taped s0)) rfl dX9_desk_11 ?_
    refine lv_icmp_le hx hb dX9_desk_14 (tgt := 23) rfl (fun h4 => ?_) (fun h4 => ?_)
    · have hf := gif_t h4 hf
      refine lv_aload_n hx hb dX9_desk_23 rfl (lv_at hl 0 rfl) ?_
      refine lv_iload_n hx hb dX9_desk_24 rfl (lv_at hl 1 rfl) ?_
      refine lv_iconst hx hb dX9_desk_25 kci_0 ?_
      obtain ⟨r5, hc6, hf⟩ := gbd hf
      refine gm_callV1 (As := [.int p1, .int (0 : Int32)]) (rest := []) (st1 := fun _ => [.int (r5.1)]) (ws' := fun _ => (Mo_c g a0 (r5.2))) hE hl.1 ml_X9_214 (c_X9_reads l g a0 (Mo_w_thrown s0 (0 : Int32)) p1 (0 : Int32) r5 hc6) hZ hP hD hS hA 0 14 rfl (fun _ => rfl) okX9 rfl rfl rfl (fun _ => rfl) ⟨rfl, rfl⟩ ⟨Nat.le_of_ble_eq_true rfl, Nat.le_of_ble_eq_true rfl⟩ ⟨Nat.le_refl _, Nat.le_refl _⟩ (Nat.le_of_ble_eq_true rfl) dX9_desk_26 (fun _ H locs hP hD hS => ?_)
      refine lv_if_ne hx hb dX9_desk_29 (tgt := 34) rfl (fun h7 => ?_) (fun h7 => ?_)
      · have hf := gif_f h7 hf
        refine lv_aload_n hx hb dX9_desk_34 rfl (lv_at hl 0 rfl) ?_
        refine lv_iconst hx hb dX9_desk_35 kci_1 ?_
        refine g_put hE okX9 fl_X9_218 hP hD hS 0 rfl rfl rfl rfl (Nat.le_of_ble_eq_true rfl) (Mo_c g a0 (Mo_w_isThere (r5.2) (1 : Int32))) rfl dX9_desk_36 (fun H locs hP hD hS => ?_)
        refine lv_aload_n hx hb dX9_desk_39 rfl (lv_at hl 0 rfl) ?_
        refine lv_iconst hx hb dX9_desk_40 kci_0 ?_
        refine g_put hE okX9 fl_X9_221 hP hD hS 0 rfl rfl rfl rfl (Nat.le_of_ble_eq_true rfl) (Mo_c g a0 (Mo_w_hasImage (Mo_w_isThere (r5.2) (1 : Int32)) (0 : Int32))) rfl dX9_desk_41 (fun H locs hP hD hS => ?_)
        refine lv_aload_n hx hb dX9_desk_44 rfl (lv_at hl 0 rfl) ?_
        refine lv_iconst hx hb dX9_desk_45 kci_0 ?_
        refine lv_aload_n hx hb dX9_desk_46 rfl (lv_at hl 0 rfl) ?_
        refine g_get hE okX9 fl_X9_163 hP 0 rfl (v := .int (Mo_readHow (r5.2))) rfl dX9_desk_47 ?_
        refine lv_aload_n hx hb dX9_desk_50 rfl (lv_at hl 0 rfl) ?_
        refine g_get hE okX9 fl_X9_176 hP 0 rfl (v := .int (Mo_readKeep (r5.2))) rfl dX9_desk_51 ?_
        refine lv_aload_n hx hb dX9_desk_54 rfl (lv_at hl 0 rfl) ?_
        refine g_get hE okX9 fl_X9_181 hP 0 rfl (v := .int (Mo_readLate (r5.2))) rfl dX9_desk_55 ?_
        obtain ⟨r8, hc9, hf⟩ := gbd hf
        refine gm_callV1 (As := [.int (0 : Int32), .int (Mo_readHow (r5.2)), .int (Mo_readKeep (r5.2)), .int (Mo_readLate (r5.2))]) (rest := []) (st1 := fun _ => []) (ws' := fun _ => (Mo_c g a0 r8)) hE hl.1 ml_X9_224 (c_X9_begins l g a0 (Mo_w_hasImage (Mo_w_isThere (r5.2) (1 : Int32)) (0 : Int32)) (0 : Int32) (Mo_readHow (r5.2)) (Mo_readKeep (r5.2)) (Mo_readLate (r5.2)) r8 hc9) hZ hP hD hS hA 0 14 rfl (fun _ => rfl) okX9 rfl rfl rfl (fun _ => rfl) ⟨rfl, rfl⟩ ⟨Nat.le_of_ble_eq_true rfl, Nat.le_of_ble_eq_true rfl⟩ ⟨Nat.le_refl _, Nat.le_refl _⟩ (Nat.le_of_ble_eq_true rfl) dX9_desk_58 (fun _ H locs hP hD hS => ?_)
        refine lv_aload_n hx hb dX9_desk_61 rfl (lv_at hl 0 rfl) ?_
        refine lv_aload_n hx hb dX9_desk_62 rfl (lv_at hl 0 rfl) ?_
        obtain ⟨r10, hc11, hf⟩ := gbd hf
        refine gm_callV1 (As := []) (rest := [.ref (a0 0)]) (st1 := fun _ => [.int (r10.1), .ref (a0 0)]) (ws' := fun _ => (Mo_c g a0 (r10.2))) hE hl.1 ml_X9_227 (c_X9_doesAll l g a0 r8 r10 hc11) hZ hP hD hS hA 0 14 rfl (fun _ => rfl) okX9 rfl rfl rfl (fun _ => rfl) ⟨rfl, rfl⟩ ⟨Nat.le_of_ble_eq_true rfl, Nat.le_of_ble_eq_true rfl⟩ ⟨Nat.le_refl _, Nat.le_refl _⟩ (Nat.le_of_ble_eq_true rfl) dX9_desk_63 (fun _ H locs hP hD hS => ?_)
        obtain ⟨r12, hc13, hf⟩ := gbd hf
        refine gm_callV1 (As := [.int (r10.1)]) (rest := []) (st1 := fun _ => [.int (r12.1)]) (ws' := fun _ => (Mo_c g a0 (r12.2))) hE hl.1 ml_X9_230 (c_X9_good l g a0 (r10.2) (r10.1) r12 hc13) hZ hP hD hS hA 0 14 rfl (fun _ => rfl) okX9 rfl rfl rfl (fun _ => rfl) ⟨rfl, rfl⟩ ⟨Nat.le_of_ble_eq_true rfl, Nat.le_of_ble_eq_true rfl⟩ ⟨Nat.le_refl _, Nat.le_refl _⟩ (Nat.le_of_ble_eq_true rfl) dX9_desk_66 (fun _ H locs hP hD hS => ?_)
        cases hf
        exact hq () rfl hP hD hS dX9_desk_69
      · have hf := gif_t h7 hf
        refine lv_iconst hx hb dX9_desk_32 kci_m1 ?_
        cases hf
        exact hq () rfl hP hD hS dX9_desk_33
    · have hf := gif_f h4 hf
      refine lv_aload_n hx hb dX9_desk_17 rfl (lv_at hl 0 rfl) ?_
      refine lv_iconst hx hb dX9_desk_18 kci_2 ?_
      obtain ⟨r14, hc15, hf⟩ := gbd hf
      refine gm_callV1 (As := [.int (2 : Int32)]) (rest := []) (st1 := fun _ => [.int (r14.1)]) (ws' := fun _ => (Mo_c g a0 (r14.2))) hE hl.1 ml_X9_61 (c_X9_refused l g a0 (Mo_w_thrown s0 (0 : Int32)) (2 : Int32) r14 hc15) hZ hP hD hS hA 0 14 rfl (fun _ => rfl) okX9 rfl rfl rfl (fun _ => rfl) ⟨rfl, rfl⟩ ⟨Nat.le_of_ble_eq_true rfl, Nat.le_of_ble_eq_true rfl⟩ ⟨Nat.le_refl _, Nat.le_refl _⟩ (Nat.le_of_ble_eq_true rfl) dX9_desk_19 (fun _ H locs hP hD hS => ?_)
      cases hf
      exact hq () rfl hP hD hS dX9_desk_22
theorem dX9_more__0 : decode cX9_more_ 0 = .ok (.aload_n 0, 1) := by decide +kernel
theorem dX9_more__1 : decode cX9_more_ 1 = .ok (.iconst 0, 1) := by decide +kernel
theorem dX9_more__2 : decode cX9_more_ 2 = .ok (.putfield 55, 3) := by decide +kernel
theorem dX9_more__5 : decode cX9_more_ 5 = .ok (.aload_n 0, 1) := by decide +kernel
theorem dX9_more__6 : decode cX9_more_ 6 = .ok (.getfield 218, 3) := by decide +kernel
theorem dX9_more__9 : decode cX9_more_ 9 = .ok (.ifCond .ne 9, 3) := by decide +kernel
theorem dX9_more__12 : decode cX9_more_ 12 = .ok (.aload_n 0, 1) := by decide +kernel
theorem dX9_more__13 : decode cX9_more_ 13 = .ok (.iconst 1, 1) := by decide +kernel
theorem dX9_more__14 : decode cX9_more_ 14 = .ok (.invokevirtual 61, 3) := by decide +kernel
theorem dX9_more__17 : decode cX9_more_ 17 = .ok (.ireturn, 1) := by decide +kernel
theorem dX9_more__18 : decode cX9_more_ 18 = .ok (.iload_n 1, 1) := by decide +kernel
theorem dX9_more__19 : decode cX9_more_ 19 = .ok (.ifCond .lt 11, 3) := by decide +kernel
theorem dX9_more__22 : decode cX9_more_ 22 = .ok (.iload_n 1, 1) := by decide +kernel
theorem dX9_more__23 : decode cX9_more_ 23 = .ok (.aload_n 0, 1) := by decide +kernel
theorem dX9_more__24 : decode cX9_more_ 24 = .ok (.getfield 197, 3) := by decide +kernel
theorem dX9_more__27 : decode cX9_more_ 27 = .ok (.if_icmp .le 9, 3) := by decide +kernel
theorem dX9_more__30 : decode cX9_more_ 30 = .ok (.aload_n 0, 1) := by decide +kernel
theorem dX9_more__31 : decode cX9_more_ 31 = .ok (.iconst 2, 1) := by decide +kernel
theorem dX9_more__32 : decode cX9_more_ 32 = .ok (.invokevirtual 61, 3) := by decide +kernel
theorem dX9_more__35 : decode cX9_more_ 35 = .ok (.ireturn, 1) := by decide +kernel
theorem dX9_more__36 : decode cX9_more_ 36 = .ok (.aload_n 0, 1) := by decide +kernel
theorem dX9_more__37 : decode cX9_more_ 37 = .ok (.iload_n 1, 1) := by decide +kernel
theorem dX9_more__38 : decode cX9_more_ 38 = .ok (.iconst 1, 1) := by decide +kernel
theorem dX9_more__39 : decode cX9_more_ 39 = .ok (.invokevirtual 214, 3) := by decide +kernel
theorem dX9_more__42 : decode cX9_more_ 42 = .ok (.ifCond .eq 14, 3) := by decide +kernel
theorem dX9_more__45 : decode cX9_more_ 45 = .ok (.aload_n 0, 1) := by decide +kernel
theorem dX9_more__46 : decode cX9_more_ 46 = .ok (.aload_n 0, 1) := by decide +kernel
theorem dX9_more__47 : decode cX9_more_ 47 = .ok (.invokevirtual 227, 3) := by decide +kernel
theorem dX9_more__50 : decode cX9_more_ 50 = .ok (.invokevirtual 230, 3) := by decide +kernel
theorem dX9_more__53 : decode cX9_more_ 53 = .ok (.goto 4, 3) := by decide +kernel
theorem dX9_more__56 : decode cX9_more_ 56 = .ok (.iconst (-1), 1) := by decide +kernel
theorem dX9_more__57 : decode cX9_more_ 57 = .ok (.ireturn, 1) := by decide +kernel
def f_X9_more_ (s0 : MoT) (p1 : Int32) : Option (Int32 × MoT) :=
  if (Mo_isThere s0) = 0 then (f_X9_refused (Mo_w_thrown s0 (0 : Int32)) (1 : Int32)).bind fun r15 =>
  some ((r15.1), (r15.2))
  else if p1 < 0 then (f_X9_refused (Mo_w_thrown s0 (0 : Int32)) (2 : Int32)).bind fun r3 =>
  some ((r3.1), (r3.2))
  else if p1 ≤ (Mo_taped s0) then (f_X9_reads (Mo_w_thrown s0 (0 : Int32)) p1 (1 : Int32)).bind fun r6 =>
  if (r6.1) = 0 then some ((-1 : Int32), (r6.2))
  else (f_X9_doesAll (r6.2)).bind fun r9 =>
  (f_X9_good (r9.2) (r9.1)).bind fun r11 =>
  some ((r11.1), (r11.2))
  else (f_X9_refused (Mo_w_thrown s0 (0 : Int32)) (2 : Int32)).bind fun r13 =>
  some ((r13.1), (r13.2))
abbrev rm_X9_more_ : Room := { frames := 10, cells := 0, slots := 0, locals := 240 }
set_option maxHeartbeats 4000000 in
set_option maxRecDepth 100000 in
theorem c_X9_more_ (l : Launch) (g : GK) (a0 : Nat → Nat) (s0 : MoT) (p1 : Int32) (res : (Int32 × MoT)) (hf : f_X9_more_ s0 p1 = some res) : gM l yX9_more_ cX9_more_ 2 (some .int) rm_X9_more_ g [.ref (a0 0), .int p1] (Mo_c g a0 s0) (fun _ : Unit => (some (.int (res.1)))) (fun _ => (Mo_c g a0 (res.2))) 0 0 := by
  refine gM_introI RX9 (by decide) rfl (Nat.le_of_ble_eq_true rfl) (fun p e s m args below meth c Q H locs ls A hE hZ hA hP hD hS hq hl => ?_)
  have hl : lv_has ls 2 [(0, .ref (a0 0)), (1, .int p1)] := hl
  have hx := hE.1
  have hb := hE.2.1
  rw [f_X9_more_] at hf
  refine lv_aload_n hx hb dX9_more__0 rfl (lv_at hl 0 rfl) ?_
  refine lv_iconst hx hb dX9_more__1 kci_0 ?_
  refine g_put hE okX9 fl_X9_55 hP hD hS 0 rfl rfl rfl rfl (Nat.le_of_ble_eq_true rfl) (Mo_c g a0 (Mo_w_thrown s0 (0 : Int32))) rfl dX9_more__2 (fun H locs hP hD hS => ?_)
  refine lv_aload_n hx hb dX9_more__5 rfl (lv_at hl 0 rfl) ?_
  refine g_get hE okX9 fl_X9_218 hP 0 rfl (v := .int (Mo_isThere s0)) rfl dX9_more__6 ?_
  refine lv_if_ne hx hb dX9_more__9 (tgt := 18) rfl (fun h1 => ?_) (fun h1 => ?_)
  · have hf := gif_f h1 hf
    refine lv_iload_n hx hb dX9_more__18 rfl (lv_at hl 1 rfl) ?_
    refine lv_if_lt hx hb dX9_more__19 (tgt := 30) rfl (fun h2 => ?_) (fun h2 => ?_)
    · have hf := gif_t h2 hf
      refine lv_aload_n hx hb dX9_more__30 rfl (lv_at hl 0 rfl) ?_
      refine lv_iconst hx hb dX9_more__31 kci_2 ?_
      obtain ⟨r3, hc4, hf⟩ := gbd hf
      refine gm_callV1 (As := [.int (2 : Int32)]) (rest := []) (st1 := fun _ => [.int (r3.1)]) (ws' := fun _ => (Mo_c g a0 (r3.2))) hE hl.1 ml_X9_61 (c_X9_refused l g a0 (Mo_w_thrown s0 (0 : Int32)) (2 : Int32) r3 hc4) hZ hP hD hS hA 0 14 rfl (fun _ => rfl) okX9 rfl rfl rfl (fun _ => rfl) ⟨rfl, rfl⟩ ⟨Nat.le_of_ble_eq_true rfl, Nat.le_of_ble_eq_true rfl⟩ ⟨Nat.le_refl _, Nat.le_refl _⟩ (Nat.le_of_ble_eq_true rfl) dX9_more__32 (fun _ H locs hP hD hS => ?_)
      cases hf
      exact hq () rfl hP hD hS dX9_more__35
    · have hf := gif_f h2 hf
      refine lv_iload_n hx hb dX9_more__22 rfl (lv_at hl 1 rfl) ?_
      refine lv_aload_n hx hb dX9_more__23 rfl (lv_at hl 0 rfl) ?_
      refine g_get hE okX9 fl_X9_197 hP 0 rfl (v := .int (Mo_taped s0)) rfl dX9_more__24 ?_
      refine lv_icmp_le hx hb dX9_more__27 (tgt := 36) rfl (fun h5 => ?_) (fun h5 => ?_)
      · have hf := gif_t h5 hf
        refine lv_aload_n hx hb dX9_more__36 rfl (lv_at hl 0 rfl) ?_
        refine lv_iload_n hx hb dX9_more__37 rfl (lv_at hl 1 rfl) ?_
        refine lv_iconst hx hb dX9_more__38 kci_1 ?_
        obtain ⟨r6, hc7, hf⟩ := gbd hf
        refine gm_callV1 (As := [.int p1, .int (1 : Int32)]) (rest := []) (st1 := fun _ => [.int (r6.1)]) (ws' := fun _ => (Mo_c g a0 (r6.2))) hE hl.1 ml_X9_214 (c_X9_reads l g a0 (Mo_w_thrown s0 (0 : Int32)) p1 (1 : Int32) r6 hc7) hZ hP hD hS hA 0 14 rfl (fun _ => rfl) okX9 rfl rfl rfl (fun _ => rfl) ⟨rfl, rfl⟩ ⟨Nat.le_of_ble_eq_true rfl, Nat.le_of_ble_eq_true rfl⟩ ⟨Nat.le_refl _, Nat.le_refl _⟩ (Nat.le_of_ble_eq_true rfl) dX9_more__39 (fun _ H locs hP hD hS => ?_)
        refine lv_if_eq hx hb dX9_more__42 (tgt := 56) rfl (fun h8 => ?_) (fun h8 => ?_)
        · have hf := gif_t h8 hf
          refine lv_iconst hx hb dX9_more__56 kci_m1 ?_
          cases hf
          exact hq () rfl hP hD hS dX9_more__57
        · have hf := gif_f h8 hf
          refine lv_aload_n hx hb dX9_more__45 rfl (lv_at hl 0 rfl) ?_
          refine lv_aload_n hx hb dX9_more__46 rfl (lv_at hl 0 rfl) ?_
          obtain ⟨r9, hc10, hf⟩ := gbd hf
          refine gm_callV1 (As := []) (rest := [.ref (a0 0)]) (st1 := fun _ => [.int (r9.1), .ref (a0 0)]) (ws' := fun _ => (Mo_c g a0 (r9.2))) hE hl.1 ml_X9_227 (c_X9_doesAll l g a0 (r6.2) r9 hc10) hZ hP hD hS hA 0 14 rfl (fun _ => rfl) okX9 rfl rfl rfl (fun _ => rfl) ⟨rfl, rfl⟩ ⟨Nat.le_of_ble_eq_true rfl, Nat.le_of_ble_eq_true rfl⟩ ⟨Nat.le_refl _, Nat.le_refl _⟩ (Nat.le_of_ble_eq_true rfl) dX9_more__47 (fun _ H locs hP hD hS => ?_)
          obtain ⟨r11, hc12, hf⟩ := gbd hf
          refine gm_callV1 (As := [.int (r9.1)]) (rest := []) (st1 := fun _ => [.int (r11.1)]) (ws' := fun _ => (Mo_c g a0 (r11.2))) hE hl.1 ml_X9_230 (c_X9_good l g a0 (r9.2) (r9.1) r11 hc12) hZ hP hD hS hA 0 14 rfl (fun _ => rfl) okX9 rfl rfl rfl (fun _ => rfl) ⟨rfl, rfl⟩ ⟨Nat.le_of_ble_eq_true rfl, Nat.le_of_ble_eq_true rfl⟩ ⟨Nat.le_refl _, Nat.le_refl _⟩ (Nat.le_of_ble_eq_true rfl) dX9_more__50 (fun _ H locs hP hD hS => ?_)
          refine lv_goto hx hb dX9_more__53 (tgt := 57) rfl ?_
          cases hf
          exact hq () rfl hP hD hS dX9_more__57
      · have hf := gif_f h5 hf
        refine lv_aload_n hx hb dX9_more__30 rfl (lv_at hl 0 rfl) ?_
        refine lv_iconst hx hb dX9_more__31 kci_2 ?_
        obtain ⟨r13, hc14, hf⟩ := gbd hf
        refine gm_callV1 (As := [.int (2 : Int32)]) (rest := []) (st1 := fun _ => [.int (r13.1)]) (ws' := fun _ => (Mo_c g a0 (r13.2))) hE hl.1 ml_X9_61 (c_X9_refused l g a0 (Mo_w_thrown s0 (0 : Int32)) (2 : Int32) r13 hc14) hZ hP hD hS hA 0 14 rfl (fun _ => rfl) okX9 rfl rfl rfl (fun _ => rfl) ⟨rfl, rfl⟩ ⟨Nat.le_of_ble_eq_true rfl, Nat.le_of_ble_eq_true rfl⟩ ⟨Nat.le_refl _, Nat.le_refl _⟩ (Nat.le_of_ble_eq_true rfl) dX9_more__32 (fun _ H locs hP hD hS => ?_)
        cases hf
        exact hq () rfl hP hD hS dX9_more__35
  · have hf := gif_t h1 hf
    refine lv_aload_n hx hb dX9_more__12 rfl (lv_at hl 0 rfl) ?_
    refine lv_iconst hx hb dX9_more__13 kci_1 ?_
    obtain ⟨r15, hc16, hf⟩ := gbd hf
    refine gm_callV1 (As := [.int (1 : Int32)]) (rest := []) (st1 := fun _ => [.int (r15.1)]) (ws' := fun _ => (Mo_c g a0 (r15.2))) hE hl.1 ml_X9_61 (c_X9_refused l g a0 (Mo_w_thrown s0 (0 : Int32)) (1 : Int32) r15 hc16) hZ hP hD hS hA 0 14 rfl (fun _ => rfl) okX9 rfl rfl rfl (fun _ => rfl) ⟨rfl, rfl⟩ ⟨Nat.le_of_ble_eq_true rfl, Nat.le_of_ble_eq_true rfl⟩ ⟨Nat.le_refl _, Nat.le_refl _⟩ (Nat.le_of_ble_eq_true rfl) dX9_more__14 (fun _ H locs hP hD hS => ?_)
    cases hf
    exact hq () rfl hP hD hS dX9_more__17
theorem dX9_fault_0 : decode cX9_fault 0 = .ok (.aload_n 0, 1) := by decide +kernel
theorem dX9_fault_1 : decode cX9_fault 1 = .ok (.iconst 0, 1) := by decide +kernel
theorem dX9_fault_2 : decode cX9_fault 2 = .ok (.putfield 55, 3) := by decide +kernel
theorem dX9_fault_5 : decode cX9_fault 5 = .ok (.aload_n 0, 1) := by decide +kernel
theorem dX9_fault_6 : decode cX9_fault 6 = .ok (.getfield 75, 3) := by decide +kernel
theorem dX9_fault_9 : decode cX9_fault 9 = .ok (.ireturn, 1) := by decide +kernel
def f_X9_fault (s0 : MoT) : Option (Int32 × MoT) :=
  some ((Mo_fault s0), (Mo_w_thrown s0 (0 : Int32)))
abbrev rm_X9_fault : Room := { frames := 0, cells := 0, slots := 0, locals := 0 }
set_option maxHeartbeats 4000000 in
set_option maxRecDepth 100000 in
theorem c_X9_fault (l : Launch) (g : GK) (a0 : Nat → Nat) (s0 : MoT) (res : (Int32 × MoT)) (hf : f_X9_fault s0 = some res) : gM l yX9_fault cX9_fault 1 (some .int) rm_X9_fault g [.ref (a0 0)] (Mo_c g a0 s0) (fun _ : Unit => (some (.int (res.1)))) (fun _ => (Mo_c g a0 (res.2))) 0 0 := by
  refine gM_introI RX9 (by decide) rfl (Nat.le_of_ble_eq_true rfl) (fun p e s m args below meth c Q H locs ls A hE hZ hA hP hD hS hq hl => ?_)
  have hl : lv_has ls 1 [(0, .ref (a0 0))] := hl
  have hx := hE.1
  have hb := hE.2.1
  rw [f_X9_fault] at hf
  refine lv_aload_n hx hb dX9_fault_0 rfl (lv_at hl 0 rfl) ?_
  refine lv_iconst hx hb dX9_fault_1 kci_0 ?_
  refine g_put hE okX9 fl_X9_55 hP hD hS 0 rfl rfl rfl rfl (Nat.le_of_ble_eq_true rfl) (Mo_c g a0 (Mo_w_thrown s0 (0 : Int32))) rfl dX9_fault_2 (fun H locs hP hD hS => ?_)
  refine lv_aload_n hx hb dX9_fault_5 rfl (lv_at hl 0 rfl) ?_
  refine g_get hE okX9 fl_X9_75 hP 0 rfl (v := .int (Mo_fault s0)) rfl dX9_fault_6 ?_
  cases hf
  exact hq () rfl hP hD hS dX9_fault_9
theorem dX9_where_0 : decode cX9_where 0 = .ok (.aload_n 0, 1) := by decide +kernel
theorem dX9_where_1 : decode cX9_where 1 = .ok (.iconst 0, 1) := by decide +kernel
theorem dX9_where_2 : decode cX9_where 2 = .ok (.putfield 55, 3) := by decide +kernel
theorem dX9_where_5 : decode cX9_where 5 = .ok (.aload_n 0, 1) := by decide +kernel
theorem dX9_where_6 : decode cX9_where 6 = .ok (.getfield 9, 3) := by decide +kernel
theorem dX9_where_9 : decode cX9_where 9 = .ok (.ireturn, 1) := by decide +kernel
def f_X9_where (s0 : MoT) : Option (Int32 × MoT) :=
  some ((Mo_wrongAt s0), (Mo_w_thrown s0 (0 : Int32)))
abbrev rm_X9_where : Room := { frames := 0, cells := 0, slots := 0, locals := 0 }
set_option maxHeartbeats 4000000 in
set_option maxRecDepth 100000 in
theorem c_X9_where (l : Launch) (g : GK) (a0 : Nat → Nat) (s0 : MoT) (res : (Int32 × MoT)) (hf : f_X9_where s0 = some res) : gM l yX9_where cX9_where 1 (some .int) rm_X9_where g [.ref (a0 0)] (Mo_c g a0 s0) (fun _ : Unit => (some (.int (res.1)))) (fun _ => (Mo_c g a0 (res.2))) 0 0 := by
  refine gM_introI RX9 (by decide) rfl (Nat.le_of_ble_eq_true rfl) (fun p e s m args below meth c Q H locs ls A hE hZ hA hP hD hS hq hl => ?_)
  have hl : lv_has ls 1 [(0, .ref (a0 0))] := hl
  have hx := hE.1
  have hb := hE.2.1
  rw [f_X9_where] at hf
  refine lv_aload_n hx hb dX9_where_0 rfl (lv_at hl 0 rfl) ?_
  refine lv_iconst hx hb dX9_where_1 kci_0 ?_
  refine g_put hE okX9 fl_X9_55 hP hD hS 0 rfl rfl rfl rfl (Nat.le_of_ble_eq_true rfl) (Mo_c g a0 (Mo_w_thrown s0 (0 : Int32))) rfl dX9_where_2 (fun H locs hP hD hS => ?_)
  refine lv_aload_n hx hb dX9_where_5 rfl (lv_at hl 0 rfl) ?_
  refine g_get hE okX9 fl_X9_9 hP 0 rfl (v := .int (Mo_wrongAt s0)) rfl dX9_where_6 ?_
  cases hf
  exact hq () rfl hP hD hS dX9_where_9
theorem dX9_sentOf_0 : decode cX9_sentOf 0 = .ok (.aload_n 0, 1) := by decide +kernel
theorem dX9_sentOf_1 : decode cX9_sentOf 1 = .ok (.iload_n 1, 1) := by decide +kernel
theorem dX9_sentOf_2 : decode cX9_sentOf 2 = .ok (.iload_n 2, 1) := by decide +kernel
theorem dX9_sentOf_3 : decode cX9_sentOf 3 = .ok (.iload_n 3, 1) := by decide +kernel
theorem dX9_sentOf_4 : decode cX9_sentOf 4 = .ok (.iload 4, 2) := by decide +kernel
theorem dX9_sentOf_6 : decode cX9_sentOf 6 = .ok (.invokevirtual 251, 3) := by decide +kernel
theorem dX9_sentOf_9 : decode cX9_sentOf 9 = .ok (.aload_n 0, 1) := by decide +kernel
theorem dX9_sentOf_10 : decode cX9_sentOf 10 = .ok (.iload_n 1, 1) := by decide +kernel
theorem dX9_sentOf_11 : decode cX9_sentOf 11 = .ok (.iload_n 2, 1) := by decide +kernel
theorem dX9_sentOf_12 : decode cX9_sentOf 12 = .ok (.iload_n 3, 1) := by decide +kernel
theorem dX9_sentOf_13 : decode cX9_sentOf 13 = .ok (.iload 4, 2) := by decide +kernel
theorem dX9_sentOf_15 : decode cX9_sentOf 15 = .ok (.invokestatic 254, 3) := by decide +kernel
theorem dX9_sentOf_18 : decode cX9_sentOf 18 = .ok (.invokevirtual 200, 3) := by decide +kernel
theorem dX9_sentOf_21 : decode cX9_sentOf 21 = .ok (.iadd, 1) := by decide +kernel
theorem dX9_sentOf_22 : decode cX9_sentOf 22 = .ok (.ireturn, 1) := by decide +kernel
def f_X9_sentOf (s0 : MoT) (p1 : Int32) (p2 : Int32) (p3 : Int32) (p4 : Int32) : Option (Int32) :=
  (f_X9_joined s0 p1 p2 p3 p4).bind fun r1 =>
  (f_X9_closedAt p2 p3 p4).bind fun r3 =>
  (f_X9_get s0 p1 r3).bind fun r5 =>
  some ((r1 + r5))
abbrev rm_X9_sentOf : Room := { frames := 5, cells := 0, slots := 0, locals := 120 }
set_option maxHeartbeats 4000000 in
set_option maxRecDepth 100000 in
theorem c_X9_sentOf (l : Launch) (g : GK) (a0 : Nat → Nat) (s0 : MoT) (p1 : Int32) (p2 : Int32) (p3 : Int32) (p4 : Int32) (res : (Int32)) (hf : f_X9_sentOf s0 p1 p2 p3 p4 = some res) : gR l yX9_sentOf cX9_sentOf 5 (some .int) rm_X9_sentOf g [.ref (a0 0), .int p1, .int p2, .int p3, .int p4] (Mo_c g a0 s0) (some (.int res)) := by
  refine gR_introI RX9 (by decide) rfl (Nat.le_of_ble_eq_true rfl) (fun p e s m args below meth c Q H locs ls hE hP hZ hS hq hl => ?_)
  have hl : lv_has ls 5 [(0, .ref (a0 0)), (1, .int p1), (2, .int p2), (3, .int p3), (4, .int p4)] := hl
  have hx := hE.1
  have hb := hE.2.1
  rw [f_X9_sentOf] at hf
  refine lv_aload_n hx hb dX9_sentOf_0 rfl (lv_at hl 0 rfl) ?_
  refine lv_iload_n hx hb dX9_sentOf_1 rfl (lv_at hl 1 rfl) ?_
  refine lv_iload_n hx hb dX9_sentOf_2 rfl (lv_at hl 2 rfl) ?_
  refine lv_iload_n hx hb dX9_sentOf_3 rfl (lv_at hl 3 rfl) ?_
  refine lv_iload hx hb dX9_sentOf_4 (lv_at hl 4 rfl) ?_
  obtain ⟨r1, hc2, hf⟩ := gbd hf
  refine gr_callV (As := [.int p1, .int p2, .int p3, .int p4]) (rest := []) (st1 := [.int r1]) hE hl.1 ml_X9_251 (c_X9_joined l g a0 s0 p1 p2 p3 p4 r1 hc2) hZ hS hP [(0, 14)] rfl okX9 rfl rfl rfl rfl ⟨rfl, rfl⟩ ⟨Nat.le_of_ble_eq_true rfl, Nat.le_of_ble_eq_true rfl⟩ ⟨Nat.le_refl _, Nat.le_refl _⟩ (Nat.le_of_ble_eq_true rfl) dX9_sentOf_6 ?_
  refine lv_aload_n hx hb dX9_sentOf_9 rfl (lv_at hl 0 rfl) ?_
  refine lv_iload_n hx hb dX9_sentOf_10 rfl (lv_at hl 1 rfl) ?_
  refine lv_iload_n hx hb dX9_sentOf_11 rfl (lv_at hl 2 rfl) ?_
  refine lv_iload_n hx hb dX9_sentOf_12 rfl (lv_at hl 3 rfl) ?_
  refine lv_iload hx hb dX9_sentOf_13 (lv_at hl 4 rfl) ?_
  obtain ⟨r3, hc4, hf⟩ := gbd hf
  refine gr_callS (As := [.int p2, .int p3, .int p4]) (rest := [.int p1, .ref (a0 0), .int r1]) (st1 := [.int r3, .int p1, .ref (a0 0), .int r1]) hE hl.1 ml_X9_254 (c_X9_closedAt l g p2 p3 p4 r3 hc4) hZ hS hP [] rfl rfl rfl rfl ⟨rfl, rfl⟩ ⟨Nat.le_of_ble_eq_true rfl, Nat.le_of_ble_eq_true rfl⟩ ⟨Nat.le_refl _, Nat.le_refl _⟩ (Nat.le_of_ble_eq_true rfl) dX9_sentOf_15 ?_
  obtain ⟨r5, hc6, hf⟩ := gbd hf
  refine gr_callV (As := [.int p1, .int r3]) (rest := [.int r1]) (st1 := [.int r5, .int r1]) hE hl.1 ml_X9_200 (c_X9_get l g a0 s0 p1 r3 r5 hc6) hZ hS hP [(0, 14)] rfl okX9 rfl rfl rfl rfl ⟨rfl, rfl⟩ ⟨Nat.le_of_ble_eq_true rfl, Nat.le_of_ble_eq_true rfl⟩ ⟨Nat.le_refl _, Nat.le_refl _⟩ (Nat.le_of_ble_eq_true rfl) dX9_sentOf_18 ?_
  refine lv_iadd hx hb dX9_sentOf_21 ?_
  cases hf
  exact hq rfl dX9_sentOf_22
theorem dX9_isKey_0 : decode cX9_isKey 0 = .ok (.aload_n 0, 1) := by decide +kernel
theorem dX9_isKey_1 : decode cX9_isKey 1 = .ok (.getfield 218, 3) := by decide +kernel
theorem dX9_isKey_4 : decode cX9_isKey 4 = .ok (.ifCond .eq 23, 3) := by decide +kernel
theorem dX9_isKey_7 : decode cX9_isKey 7 = .ok (.iload_n 1, 1) := by decide +kernel
theorem dX9_isKey_8 : decode cX9_isKey 8 = .ok (.iconst 0, 1) := by decide +kernel
theorem dX9_isKey_9 : decode cX9_isKey 9 = .ok (.aload_n 0, 1) := by decide +kernel
theorem dX9_isKey_10 : decode cX9_isKey 10 = .ok (.iconst 0, 1) := by decide +kernel
theorem dX9_isKey_11 : decode cX9_isKey 11 = .ok (.iconst 3, 1) := by decide +kernel
theorem dX9_isKey_12 : decode cX9_isKey 12 = .ok (.invokevirtual 200, 3) := by decide +kernel
theorem dX9_isKey_15 : decode cX9_isKey 15 = .ok (.iconst 1, 1) := by decide +kernel
theorem dX9_isKey_16 : decode cX9_isKey 16 = .ok (.isub, 1) := by decide +kernel
theorem dX9_isKey_17 : decode cX9_isKey 17 = .ok (.invokestatic 90, 3) := by decide +kernel
theorem dX9_isKey_20 : decode cX9_isKey 20 = .ok (.ifCond .eq 7, 3) := by decide +kernel
theorem dX9_isKey_23 : decode cX9_isKey 23 = .ok (.iconst 1, 1) := by decide +kernel
theorem dX9_isKey_24 : decode cX9_isKey 24 = .ok (.goto 4, 3) := by decide +kernel
theorem dX9_isKey_27 : decode cX9_isKey 27 = .ok (.iconst 0, 1) := by decide +kernel
theorem dX9_isKey_28 : decode cX9_isKey 28 = .ok (.ireturn, 1) := by decide +kernel
def f_X9_isKey (s0 : MoT) (p1 : Int32) : Option (Int32) :=
  if (Mo_isThere s0) = 0 then some ((0 : Int32))
  else (f_X9_get s0 (0 : Int32) (3 : Int32)).bind fun r2 =>
  (f_X9_in p1 (0 : Int32) (r2 - (1 : Int32))).bind fun r4 =>
  if r4 = 0 then some ((0 : Int32))
  else some ((1 : Int32))
abbrev rm_X9_isKey : Room := { frames := 1, cells := 0, slots := 0, locals := 22 }
set_option maxHeartbeats 4000000 in
set_option maxRecDepth 100000 in
theorem c_X9_isKey (l : Launch) (g : GK) (a0 : Nat → Nat) (s0 : MoT) (p1 : Int32) (res : (Int32)) (hf : f_X9_isKey s0 p1 = some res) : gR l yX9_isKey cX9_isKey 2 (some .boolean) rm_X9_isKey g [.ref (a0 0), .int p1] (Mo_c g a0 s0) (some (.int res)) := by
  refine gR_introZ RX9 (by decide) rfl (Nat.le_of_ble_eq_true rfl) (fun p e s m args below meth c Q H locs ls hE hP hZ hS hq hl => ?_)
  have hl : lv_has ls 2 [(0, .ref (a0 0)), (1, .int p1)] := hl
  have hx := hE.1
  have hb := hE.2.1
  rw [f_X9_isKey] at hf
  refine lv_aload_n hx hb dX9_isKey_0 rfl (lv_at hl 0 rfl) ?_
  refine g_get hE okX9 fl_X9_218 hP 0 rfl (v := .int (Mo_isThere s0)) rfl dX9_isKey_1 ?_
  refine lv_if_eq hx hb dX9_isKey_4 (tgt := 27) rfl (fun h1 => ?_) (fun h1 => ?_)
  · have hf := gif_t h1 hf
    refine lv_iconst hx hb dX9_isKey_27 kci_0 ?_
    cases hf
    exact hq (by decide) rfl dX9_isKey_28
  · have hf := gif_f h1 hf
    refine lv_iload_n hx hb dX9_isKey_7 rfl (lv_at hl 1 rfl) ?_
    refine lv_iconst hx hb dX9_isKey_8 kci_0 ?_
    refine lv_aload_n hx hb dX9_isKey_9 rfl (lv_at hl 0 rfl) ?_
    refine lv_iconst hx hb dX9_isKey_10 kci_0 ?_
    refine lv_iconst hx hb dX9_isKey_11 kci_3 ?_
    obtain ⟨r2, hc3, hf⟩ := gbd hf
    refine gr_callV (As := [.int (0 : Int32), .int (3 : Int32)]) (rest := [.int (0 : Int32), .int p1]) (st1 := [.int r2, .int (0 : Int32), .int p1]) hE hl.1 ml_X9_200 (c_X9_get l g a0 s0 (0 : Int32) (3 : Int32) r2 hc3) hZ hS hP [(0, 14)] rfl okX9 rfl rfl rfl rfl ⟨rfl, rfl⟩ ⟨Nat.le_of_ble_eq_true rfl, Nat.le_of_ble_eq_true rfl⟩ ⟨Nat.le_refl _, Nat.le_refl _⟩ (Nat.le_of_ble_eq_true rfl) dX9_isKey_12 ?_
    refine lv_iconst hx hb dX9_isKey_15 kci_1 ?_
    refine lv_isub hx hb dX9_isKey_16 ?_
    obtain ⟨r4, hc5, hf⟩ := gbd hf
    refine gr_callS (As := [.int p1, .int (0 : Int32), .int (r2 - (1 : Int32))]) (rest := []) (st1 := [.int r4]) hE hl.1 ml_X9_90 (c_X9_in l g p1 (0 : Int32) (r2 - (1 : Int32)) r4 hc5) hZ hS hP [] rfl rfl rfl rfl ⟨rfl, rfl⟩ ⟨Nat.le_of_ble_eq_true rfl, Nat.le_of_ble_eq_true rfl⟩ ⟨Nat.le_refl _, Nat.le_refl _⟩ (Nat.le_of_ble_eq_true rfl) dX9_isKey_17 ?_
    refine lv_if_eq hx hb dX9_isKey_20 (tgt := 27) rfl (fun h6 => ?_) (fun h6 => ?_)
    · have hf := gif_t h6 hf
      refine lv_iconst hx hb dX9_isKey_27 kci_0 ?_
      cases hf
      exact hq (by decide) rfl dX9_isKey_28
    · have hf := gif_f h6 hf
      refine lv_iconst hx hb dX9_isKey_23 kci_1 ?_
      refine lv_goto hx hb dX9_isKey_24 (tgt := 28) rfl ?_
      cases hf
      exact hq (by decide) rfl dX9_isKey_28
theorem dX9_isValue_0 : decode cX9_isValue 0 = .ok (.aload_n 0, 1) := by decide +kernel
theorem dX9_isValue_1 : decode cX9_isValue 1 = .ok (.getfield 218, 3) := by decide +kernel
theorem dX9_isValue_4 : decode cX9_isValue 4 = .ok (.ifCond .eq 23, 3) := by decide +kernel
theorem dX9_isValue_7 : decode cX9_isValue 7 = .ok (.iload_n 1, 1) := by decide +kernel
theorem dX9_isValue_8 : decode cX9_isValue 8 = .ok (.iconst 0, 1) := by decide +kernel
theorem dX9_isValue_9 : decode cX9_isValue 9 = .ok (.aload_n 0, 1) := by decide +kernel
theorem dX9_isValue_10 : decode cX9_isValue 10 = .ok (.iconst 0, 1) := by decide +kernel
theorem dX9_isValue_11 : decode cX9_isValue 11 = .ok (.iconst 4, 1) := by decide +kernel
theorem dX9_isValue_12 : decode cX9_isValue 12 = .ok (.invokevirtual 200, 3) := by decide +kernel
theorem dX9_isValue_15 : decode cX9_isValue 15 = .ok (.iconst 1, 1) := by decide +kernel
theorem dX9_isValue_16 : decode cX9_isValue 16 = .ok (.isub, 1) := by decide +kernel
theorem dX9_isValue_17 : decode cX9_isValue 17 = .ok (.invokestatic 90, 3) := by decide +kernel
theorem dX9_isValue_20 : decode cX9_isValue 20 = .ok (.ifCond .eq 7, 3) := by decide +kernel
theorem dX9_isValue_23 : decode cX9_isValue 23 = .ok (.iconst 1, 1) := by decide +kernel
theorem dX9_isValue_24 : decode cX9_isValue 24 = .ok (.goto 4, 3) := by decide +kernel
theorem dX9_isValue_27 : decode cX9_isValue 27 = .ok (.iconst 0, 1) := by decide +kernel
theorem dX9_isValue_28 : decode cX9_isValue 28 = .ok (.ireturn, 1) := by decide +kernel
def f_X9_isValue (s0 : MoT) (p1 : Int32) : Option (Int32) :=
  if (Mo_isThere s0) = 0 then some ((0 : Int32))
  else (f_X9_get s0 (0 : Int32) (4 : Int32)).bind fun r2 =>
  (f_X9_in p1 (0 : Int32) (r2 - (1 : Int32))).bind fun r4 =>
  if r4 = 0 then some ((0 : Int32))
  else some ((1 : Int32))
abbrev rm_X9_isValue : Room := { frames := 1, cells := 0, slots := 0, locals := 22 }
set_option maxHeartbeats 4000000 in
set_option maxRecDepth 100000 in
theorem c_X9_isValue (l : Launch) (g : GK) (a0 : Nat → Nat) (s0 : MoT) (p1 : Int32) (res : (Int32)) (hf : f_X9_isValue s0 p1 = some res) : gR l yX9_isValue cX9_isValue 2 (some .boolean) rm_X9_isValue g [.ref (a0 0), .int p1] (Mo_c g a0 s0) (some (.int res)) := by
  refine gR_introZ RX9 (by decide) rfl (Nat.le_of_ble_eq_true rfl) (fun p e s m args below meth c Q H locs ls hE hP hZ hS hq hl => ?_)
  have hl : lv_has ls 2 [(0, .ref (a0 0)), (1, .int p1)] := hl
  have hx := hE.1
  have hb := hE.2.1
  rw [f_X9_isValue] at hf
  refine lv_aload_n hx hb dX9_isValue_0 rfl (lv_at hl 0 rfl) ?_
  refine g_get hE okX9 fl_X9_218 hP 0 rfl (v := .int (Mo_isThere s0)) rfl dX9_isValue_1 ?_
  refine lv_if_eq hx hb dX9_isValue_4 (tgt := 27) rfl (fun h1 => ?_) (fun h1 => ?_)
  · have hf := gif_t h1 hf
    refine lv_iconst hx hb dX9_isValue_27 kci_0 ?_
    cases hf
    exact hq (by decide) rfl dX9_isValue_28
  · have hf := gif_f h1 hf
    refine lv_iload_n hx hb dX9_isValue_7 rfl (lv_at hl 1 rfl) ?_
    refine lv_iconst hx hb dX9_isValue_8 kci_0 ?_
    refine lv_aload_n hx hb dX9_isValue_9 rfl (lv_at hl 0 rfl) ?_
    refine lv_iconst hx hb dX9_isValue_10 kci_0 ?_
    refine lv_iconst hx hb dX9_isValue_11 kci_4 ?_
    obtain ⟨r2, hc3, hf⟩ := gbd hf
    refine gr_callV (As := [.int (0 : Int32), .int (4 : Int32)]) (rest := [.int (0 : Int32), .int p1]) (st1 := [.int r2, .int (0 : Int32), .int p1]) hE hl.1 ml_X9_200 (c_X9_get l g a0 s0 (0 : Int32) (4 : Int32) r2 hc3) hZ hS hP [(0, 14)] rfl okX9 rfl rfl rfl rfl ⟨rfl, rfl⟩ ⟨Nat.le_of_ble_eq_true rfl, Nat.le_of_ble_eq_true rfl⟩ ⟨Nat.le_refl _, Nat.le_refl _⟩ (Nat.le_of_ble_eq_true rfl) dX9_isValue_12 ?_
    refine lv_iconst hx hb dX9_isValue_15 kci_1 ?_
    refine lv_isub hx hb dX9_isValue_16 ?_
    obtain ⟨r4, hc5, hf⟩ := gbd hf
    refine gr_callS (As := [.int p1, .int (0 : Int32), .int (r2 - (1 : Int32))]) (rest := []) (st1 := [.int r4]) hE hl.1 ml_X9_90 (c_X9_in l g p1 (0 : Int32) (r2 - (1 : Int32)) r4 hc5) hZ hS hP [] rfl rfl rfl rfl ⟨rfl, rfl⟩ ⟨Nat.le_of_ble_eq_true rfl, Nat.le_of_ble_eq_true rfl⟩ ⟨Nat.le_refl _, Nat.le_refl _⟩ (Nat.le_of_ble_eq_true rfl) dX9_isValue_17 ?_
    refine lv_if_eq hx hb dX9_isValue_20 (tgt := 27) rfl (fun h6 => ?_) (fun h6 => ?_)
    · have hf := gif_t h6 hf
      refine lv_iconst hx hb dX9_isValue_27 kci_0 ?_
      cases hf
      exact hq (by decide) rfl dX9_isValue_28
    · have hf := gif_f h6 hf
      refine lv_iconst hx hb dX9_isValue_23 kci_1 ?_
      refine lv_goto hx hb dX9_isValue_24 (tgt := 28) rfl ?_
      cases hf
      exact hq (by decide) rfl dX9_isValue_28
theorem dX9_isSide_0 : decode cX9_isSide 0 = .ok (.iload_n 0, 1) := by decide +kernel
theorem dX9_isSide_1 : decode cX9_isSide 1 = .ok (.iconst 0, 1) := by decide +kernel
theorem dX9_isSide_2 : decode cX9_isSide 2 = .ok (.iconst 1, 1) := by decide +kernel
theorem dX9_isSide_3 : decode cX9_isSide 3 = .ok (.invokestatic 90, 3) := by decide +kernel
theorem dX9_isSide_6 : decode cX9_isSide 6 = .ok (.ireturn, 1) := by decide +kernel
def f_X9_isSide (p1 : Int32) : Option (Int32) :=
  (f_X9_in p1 (0 : Int32) (1 : Int32)).bind fun r1 =>
  if isB r1 then some (r1) else none
abbrev rm_X9_isSide : Room := { frames := 1, cells := 0, slots := 0, locals := 22 }
set_option maxHeartbeats 4000000 in
set_option maxRecDepth 100000 in
theorem c_X9_isSide (l : Launch) (g : GK) (p1 : Int32) (res : (Int32)) (hf : f_X9_isSide p1 = some res) : gR l yX9_isSide cX9_isSide 1 (some .boolean) rm_X9_isSide g [.int p1] [] (some (.int res)) := by
  refine gR_introZ RX9 (by decide) rfl (Nat.le_of_ble_eq_true rfl) (fun p e s m args below meth c Q H locs ls hE hP hZ hS hq hl => ?_)
  have hl : lv_has ls 1 [(0, .int p1)] := hl
  have hx := hE.1
  have hb := hE.2.1
  rw [f_X9_isSide] at hf
  refine lv_iload_n hx hb dX9_isSide_0 rfl (lv_at hl 0 rfl) ?_
  refine lv_iconst hx hb dX9_isSide_1 kci_0 ?_
  refine lv_iconst hx hb dX9_isSide_2 kci_1 ?_
  obtain ⟨r1, hc2, hf⟩ := gbd hf
  refine gr_callS (As := [.int p1, .int (0 : Int32), .int (1 : Int32)]) (rest := []) (st1 := [.int r1]) hE hl.1 ml_X9_90 (c_X9_in l g p1 (0 : Int32) (1 : Int32) r1 hc2) hZ hS hP [] rfl rfl rfl rfl ⟨rfl, rfl⟩ ⟨Nat.le_of_ble_eq_true rfl, Nat.le_of_ble_eq_true rfl⟩ ⟨Nat.le_refl _, Nat.le_refl _⟩ (Nat.le_of_ble_eq_true rfl) dX9_isSide_3 ?_
  obtain ⟨hg3, hf⟩ := ggd hf
  cases hf
  exact hq hg3 rfl dX9_isSide_6
theorem dX9_living_0 : decode cX9_living 0 = .ok (.iconst 0, 1) := by decide +kernel
theorem dX9_living_1 : decode cX9_living 1 = .ok (.istore_n 1, 1) := by decide +kernel
theorem dX9_living_2 : decode cX9_living 2 = .ok (.iconst 0, 1) := by decide +kernel
theorem dX9_living_3 : decode cX9_living 3 = .ok (.istore_n 2, 1) := by decide +kernel
theorem dX9_living_4 : decode cX9_living 4 = .ok (.iload_n 2, 1) := by decide +kernel
theorem dX9_living_5 : decode cX9_living 5 = .ok (.bipush 8, 2) := by decide +kernel
theorem dX9_living_7 : decode cX9_living 7 = .ok (.if_icmp .ge 26, 3) := by decide +kernel
theorem dX9_living_10 : decode cX9_living 10 = .ok (.iload_n 1, 1) := by decide +kernel
theorem dX9_living_11 : decode cX9_living 11 = .ok (.aload_n 0, 1) := by decide +kernel
theorem dX9_living_12 : decode cX9_living 12 = .ok (.iconst 0, 1) := by decide +kernel
theorem dX9_living_13 : decode cX9_living 13 = .ok (.iload_n 2, 1) := by decide +kernel
theorem dX9_living_14 : decode cX9_living 14 = .ok (.invokevirtual 270, 3) := by decide +kernel
theorem dX9_living_17 : decode cX9_living 17 = .ok (.ifCond .eq 7, 3) := by decide +kernel
theorem dX9_living_20 : decode cX9_living 20 = .ok (.iconst 1, 1) := by decide +kernel
theorem dX9_living_21 : decode cX9_living 21 = .ok (.goto 4, 3) := by decide +kernel
theorem dX9_living_24 : decode cX9_living 24 = .ok (.iconst 0, 1) := by decide +kernel
theorem dX9_living_25 : decode cX9_living 25 = .ok (.iadd, 1) := by decide +kernel
theorem dX9_living_26 : decode cX9_living 26 = .ok (.istore_n 1, 1) := by decide +kernel
theorem dX9_living_27 : decode cX9_living 27 = .ok (.iinc 2 1, 3) := by decide +kernel
theorem dX9_living_30 : decode cX9_living 30 = .ok (.goto (-26), 3) := by decide +kernel
theorem dX9_living_33 : decode cX9_living 33 = .ok (.iload_n 1, 1) := by decide +kernel
theorem dX9_living_34 : decode cX9_living 34 = .ok (.ireturn, 1) := by decide +kernel
def f_X9_living_L4_5 (s0 : MoT) (K1 : (Int32 → Option (Int32))) : Nat → Int32 → Int32 → Option (Int32)
  | 0, _, _ => none
  | n6 + 1, x1_3, x2_4 => if (8 : Int32) ≤ x2_4 then K1 x1_3
  else (f_X9_lives s0 (0 : Int32) x2_4).bind fun r8 =>
  if r8 = 0 then f_X9_living_L4_5 s0 K1 n6 (x1_3 + (0 : Int32)) (x2_4 + (1 : Int32))
  else f_X9_living_L4_5 s0 K1 n6 (x1_3 + (1 : Int32)) (x2_4 + (1 : Int32))
def f_X9_living (s0 : MoT) : Option (Int32) :=
  glt (fun (x1_2 : Int32) => some (x1_2)) fun K1 =>
  f_X9_living_L4_5 s0 K1 10000 (0 : Int32) (0 : Int32)
abbrev rm_X9_living : Room := { frames := 2, cells := 0, slots := 0, locals := 44 }
set_option maxHeartbeats 4000000 in
set_option maxRecDepth 100000 in
theorem c_X9_living (l : Launch) (g : GK) (a0 : Nat → Nat) (s0 : MoT) (res : (Int32)) (hf : f_X9_living s0 = some res) : gR l yX9_living cX9_living 3 (some .int) rm_X9_living g [.ref (a0 0)] (Mo_c g a0 s0) (some (.int res)) := by
  refine gR_introI RX9 (by decide) rfl (Nat.le_of_ble_eq_true rfl) (fun p e s m args below meth c Q H locs ls hE hP hZ hS hq hl => ?_)
  have hl : lv_has ls 3 [(0, .ref (a0 0))] := hl
  have hx := hE.1
  have hb := hE.2.1
  rw [f_X9_living] at hf
  refine lv_iconst hx hb dX9_living_0 kci_0 ?_
  refine lv_istore_n hx hb dX9_living_1 rfl hl (by decide) (lv' := [(1, .int (0 : Int32)), (0, .ref (a0 0))]) rfl (fun ls hl => ?_)
  refine lv_iconst hx hb dX9_living_2 kci_0 ?_
  refine lv_istore_n hx hb dX9_living_3 rfl hl (by decide) (lv' := [(2, .int (0 : Int32)), (1, .int (0 : Int32)), (0, .ref (a0 0))]) rfl (fun ls hl => ?_)
  obtain ⟨K1, eK1, hf⟩ := gltd hf
  have kK1 : ∀ (x1_2 : Int32) (ls : Array Slot), K1 x1_2 = some res → lv_has ls 3 [(1, .int x1_2)] → W p l e rm_X9_living s m args below meth c H locs 0 0 Q (F0 m 33 ls []) := by
    intro x1_2 ls hf hl
    rw [eK1] at hf
    refine lv_iload_n hx hb dX9_living_33 rfl (lv_at hl 0 rfl) ?_
    cases hf
    exact hq rfl dX9_living_34
  have lpn6 : ∀ (n6 : Nat) (x1_3 : Int32) (x2_4 : Int32) (ls : Array Slot), f_X9_living_L4_5 s0 K1 n6 x1_3 x2_4 = some res → lv_has ls 3 [(0, .ref (a0 0)), (1, .int x1_3), (2, .int x2_4)] → W p l e rm_X9_living s m args below meth c H locs 0 0 Q (F0 m 4 ls []) := by
    intro n6
    induction n6 with
    | zero => intro x1_3 x2_4 ls hf hl; rw [f_X9_living_L4_5] at hf; cases hf
    | succ n6 ihn6 =>
      intro x1_3 x2_4 ls hf hl
      rw [f_X9_living_L4_5] at hf
      refine lv_iload_n hx hb dX9_living_4 rfl (lv_at hl 2 rfl) ?_
      refine lv_bipush hx hb dX9_living_5 kcb_8 ?_
      refine lv_icmp_ge hx hb dX9_living_7 (tgt := 33) rfl (fun h7 => ?_) (fun h7 => ?_)
      · have hf := gif_t h7 hf
        exact kK1 x1_3 ls hf (lv_sub hl [1] rfl)
      · have hf := gif_f h7 hf
        refine lv_iload_n hx hb dX9_living_10 rfl (lv_at hl 1 rfl) ?_
        refine lv_aload_n hx hb dX9_living_11 rfl (lv_at hl 0 rfl) ?_
        refine lv_iconst hx hb dX9_living_12 kci_0 ?_
        refine lv_iload_n hx hb dX9_living_13 rfl (lv_at hl 2 rfl) ?_
        obtain ⟨r8, hc9, hf⟩ := gbd hf
        refine gr_callV (As := [.int (0 : Int32), .int x2_4]) (rest := [.int x1_3]) (st1 := [.int r8, .int x1_3]) hE hl.1 ml_X9_270 (c_X9_lives l g a0 s0 (0 : Int32) x2_4 r8 hc9) hZ hS hP [(0, 14)] rfl okX9 rfl rfl rfl rfl ⟨rfl, rfl⟩ ⟨Nat.le_of_ble_eq_true rfl, Nat.le_of_ble_eq_true rfl⟩ ⟨Nat.le_refl _, Nat.le_refl _⟩ (Nat.le_of_ble_eq_true rfl) dX9_living_14 ?_
        refine lv_if_eq hx hb dX9_living_17 (tgt := 24) rfl (fun h10 => ?_) (fun h10 => ?_)
        · have hf := gif_t h10 hf
          refine lv_iconst hx hb dX9_living_24 kci_0 ?_
          refine lv_iadd hx hb dX9_living_25 ?_
          refine lv_istore_n hx hb dX9_living_26 rfl hl (by decide) (lv' := [(1, .int (x1_3 + (0 : Int32))), (0, .ref (a0 0)), (2, .int x2_4)]) rfl (fun ls hl => ?_)
          refine lv_iinc hx hb dX9_living_27 hl (k := 2) (x := x2_4) rfl (kinc_1 _) (by decide) (lv' := [(2, .int (x2_4 + (1 : Int32))), (1, .int (x1_3 + (0 : Int32))), (0, .ref (a0 0))]) rfl (fun ls hl => ?_)
          refine lv_goto hx hb dX9_living_30 (tgt := 4) rfl ?_
          exact ihn6 (x1_3 + (0 : Int32)) (x2_4 + (1 : Int32)) ls hf (lv_sub hl [2, 1, 0] rfl)
        · have hf := gif_f h10 hf
          refine lv_iconst hx hb dX9_living_20 kci_1 ?_
          refine lv_goto hx hb dX9_living_21 (tgt := 25) rfl ?_
          refine lv_iadd hx hb dX9_living_25 ?_
          refine lv_istore_n hx hb dX9_living_26 rfl hl (by decide) (lv' := [(1, .int (x1_3 + (1 : Int32))), (0, .ref (a0 0)), (2, .int x2_4)]) rfl (fun ls hl => ?_)
          refine lv_iinc hx hb dX9_living_27 hl (k := 2) (x := x2_4) rfl (kinc_1 _) (by decide) (lv' := [(2, .int (x2_4 + (1 : Int32))), (1, .int (x1_3 + (1 : Int32))), (0, .ref (a0 0))]) rfl (fun ls hl => ?_)
          refine lv_goto hx hb dX9_living_30 (tgt := 4) rfl ?_
          exact ihn6 (x1_3 + (1 : Int32)) (x2_4 + (1 : Int32)) ls hf (lv_sub hl [2, 1, 0] rfl)
  exact lpn6 10000 (0 : Int32) (0 : Int32) ls hf (lv_sub hl [2, 1, 0] rfl)
theorem dX9_about_0 : decode cX9_about 0 = .ok (.aload_n 0, 1) := by decide +kernel
theorem dX9_about_1 : decode cX9_about 1 = .ok (.iconst 0, 1) := by decide +kernel
theorem dX9_about_2 : decode cX9_about 2 = .ok (.putfield 55, 3) := by decide +kernel
theorem dX9_about_5 : decode cX9_about 5 = .ok (.aload_n 0, 1) := by decide +kernel
theorem dX9_about_6 : decode cX9_about 6 = .ok (.getfield 218, 3) := by decide +kernel
theorem dX9_about_9 : decode cX9_about 9 = .ok (.ifCond .ne 9, 3) := by decide +kernel
theorem dX9_about_12 : decode cX9_about 12 = .ok (.aload_n 0, 1) := by decide +kernel
theorem dX9_about_13 : decode cX9_about 13 = .ok (.iconst 1, 1) := by decide +kernel
theorem dX9_about_14 : decode cX9_about 14 = .ok (.invokevirtual 61, 3) := by decide +kernel
theorem dX9_about_17 : decode cX9_about 17 = .ok (.ireturn, 1) := by decide +kernel
theorem dX9_about_18 : decode cX9_about 18 = .ok (.iload_n 1, 1) := by decide +kernel
theorem dX9_about_19 : decode cX9_about 19 = .ok (.tableswitch 164 0 9 #[53, 64, 75, 86, 97, 108, 119, 128, 140, 152], 53) := by decide +kernel
theorem dX9_about_72 : decode cX9_about 72 = .ok (.aload_n 0, 1) := by decide +kernel
theorem dX9_about_73 : decode cX9_about 73 = .ok (.aload_n 0, 1) := by decide +kernel
theorem dX9_about_74 : decode cX9_about 74 = .ok (.iconst 0, 1) := by decide +kernel
theorem dX9_about_75 : decode cX9_about 75 = .ok (.iconst 0, 1) := by decide +kernel
theorem dX9_about_76 : decode cX9_about 76 = .ok (.invokevirtual 200, 3) := by decide +kernel
theorem dX9_about_79 : decode cX9_about 79 = .ok (.invokevirtual 230, 3) := by decide +kernel
theorem dX9_about_82 : decode cX9_about 82 = .ok (.ireturn, 1) := by decide +kernel
theorem dX9_about_83 : decode cX9_about 83 = .ok (.aload_n 0, 1) := by decide +kernel
theorem dX9_about_84 : decode cX9_about 84 = .ok (.aload_n 0, 1) := by decide +kernel
theorem dX9_about_85 : decode cX9_about 85 = .ok (.iconst 0, 1) := by decide +kernel
theorem dX9_about_86 : decode cX9_about 86 = .ok (.iconst 1, 1) := by decide +kernel
theorem dX9_about_87 : decode cX9_about 87 = .ok (.invokevirtual 200, 3) := by decide +kernel
theorem dX9_about_90 : decode cX9_about 90 = .ok (.invokevirtual 230, 3) := by decide +kernel
theorem dX9_about_93 : decode cX9_about 93 = .ok (.ireturn, 1) := by decide +kernel
theorem dX9_about_94 : decode cX9_about 94 = .ok (.aload_n 0, 1) := by decide +kernel
theorem dX9_about_95 : decode cX9_about 95 = .ok (.aload_n 0, 1) := by decide +kernel
theorem dX9_about_96 : decode cX9_about 96 = .ok (.iconst 0, 1) := by decide +kernel
theorem dX9_about_97 : decode cX9_about 97 = .ok (.iconst 2, 1) := by decide +kernel
theorem dX9_about_98 : decode cX9_about 98 = .ok (.invokevirtual 200, 3) := by decide +kernel
theorem dX9_about_101 : decode cX9_about 101 = .ok (.invokevirtual 230, 3) := by decide +kernel
theorem dX9_about_104 : decode cX9_about 104 = .ok (.ireturn, 1) := by decide +kernel
theorem dX9_about_105 : decode cX9_about 105 = .ok (.aload_n 0, 1) := by decide +kernel
theorem dX9_about_106 : decode cX9_about 106 = .ok (.aload_n 0, 1) := by decide +kernel
theorem dX9_about_107 : decode cX9_about 107 = .ok (.iconst 0, 1) := by decide +kernel
theorem dX9_about_108 : decode cX9_about 108 = .ok (.iconst 3, 1) := by decide +kernel
theorem dX9_about_109 : decode cX9_about 109 = .ok (.invokevirtual 200, 3) := by decide +kernel
theorem dX9_about_112 : decode cX9_about 112 = .ok (.invokevirtual 230, 3) := by decide +kernel
theorem dX9_about_115 : decode cX9_about 115 = .ok (.ireturn, 1) := by decide +kernel
theorem dX9_about_116 : decode cX9_about 116 = .ok (.aload_n 0, 1) := by decide +kernel
theorem dX9_about_117 : decode cX9_about 117 = .ok (.aload_n 0, 1) := by decide +kernel
theorem dX9_about_118 : decode cX9_about 118 = .ok (.iconst 0, 1) := by decide +kernel
theorem dX9_about_119 : decode cX9_about 119 = .ok (.iconst 4, 1) := by decide +kernel
theorem dX9_about_120 : decode cX9_about 120 = .ok (.invokevirtual 200, 3) := by decide +kernel
theorem dX9_about_123 : decode cX9_about 123 = .ok (.invokevirtual 230, 3) := by decide +kernel
theorem dX9_about_126 : decode cX9_about 126 = .ok (.ireturn, 1) := by decide +kernel
theorem dX9_about_127 : decode cX9_about 127 = .ok (.aload_n 0, 1) := by decide +kernel
theorem dX9_about_128 : decode cX9_about 128 = .ok (.aload_n 0, 1) := by decide +kernel
theorem dX9_about_129 : decode cX9_about 129 = .ok (.iconst 0, 1) := by decide +kernel
theorem dX9_about_130 : decode cX9_about 130 = .ok (.iconst 5, 1) := by decide +kernel
theorem dX9_about_131 : decode cX9_about 131 = .ok (.invokevirtual 200, 3) := by decide +kernel
theorem dX9_about_134 : decode cX9_about 134 = .ok (.invokevirtual 230, 3) := by decide +kernel
theorem dX9_about_137 : decode cX9_about 137 = .ok (.ireturn, 1) := by decide +kernel
theorem dX9_about_138 : decode cX9_about 138 = .ok (.aload_n 0, 1) := by decide +kernel
theorem dX9_about_139 : decode cX9_about 139 = .ok (.aload_n 0, 1) := by decide +kernel
theorem dX9_about_140 : decode cX9_about 140 = .ok (.invokevirtual 285, 3) := by decide +kernel
theorem dX9_about_143 : decode cX9_about 143 = .ok (.invokevirtual 230, 3) := by decide +kernel
theorem dX9_about_146 : decode cX9_about 146 = .ok (.ireturn, 1) := by decide +kernel
theorem dX9_about_147 : decode cX9_about 147 = .ok (.aload_n 0, 1) := by decide +kernel
theorem dX9_about_148 : decode cX9_about 148 = .ok (.aload_n 0, 1) := by decide +kernel
theorem dX9_about_149 : decode cX9_about 149 = .ok (.iconst 0, 1) := by decide +kernel
theorem dX9_about_150 : decode cX9_about 150 = .ok (.bipush 6, 2) := by decide +kernel
theorem dX9_about_152 : decode cX9_about 152 = .ok (.invokevirtual 200, 3) := by decide +kernel
theorem dX9_about_155 : decode cX9_about 155 = .ok (.invokevirtual 230, 3) := by decide +kernel
theorem dX9_about_158 : decode cX9_about 158 = .ok (.ireturn, 1) := by decide +kernel
theorem dX9_about_159 : decode cX9_about 159 = .ok (.aload_n 0, 1) := by decide +kernel
theorem dX9_about_160 : decode cX9_about 160 = .ok (.aload_n 0, 1) := by decide +kernel
theorem dX9_about_161 : decode cX9_about 161 = .ok (.iconst 0, 1) := by decide +kernel
theorem dX9_about_162 : decode cX9_about 162 = .ok (.bipush 7, 2) := by decide +kernel
theorem dX9_about_164 : decode cX9_about 164 = .ok (.invokevirtual 200, 3) := by decide +kernel
theorem dX9_about_167 : decode cX9_about 167 = .ok (.invokevirtual 230, 3) := by decide +kernel
theorem dX9_about_170 : decode cX9_about 170 = .ok (.ireturn, 1) := by decide +kernel
theorem dX9_about_171 : decode cX9_about 171 = .ok (.aload_n 0, 1) := by decide +kernel
theorem dX9_about_172 : decode cX9_about 172 = .ok (.aload_n 0, 1) := by decide +kernel
theorem dX9_about_173 : decode cX9_about 173 = .ok (.iconst 0, 1) := by decide +kernel
theorem dX9_about_174 : decode cX9_about 174 = .ok (.bipush 8, 2) := by decide +kernel
theorem dX9_about_176 : decode cX9_about 176 = .ok (.invokevirtual 200, 3) := by decide +kernel
theorem dX9_about_179 : decode cX9_about 179 = .ok (.invokevirtual 230, 3) := by decide +kernel
theorem dX9_about_182 : decode cX9_about 182 = .ok (.ireturn, 1) := by decide +kernel
theorem dX9_about_183 : decode cX9_about 183 = .ok (.aload_n 0, 1) := by decide +kernel
theorem dX9_about_184 : decode cX9_about 184 = .ok (.iconst 1, 1) := by decide +kernel
theorem dX9_about_185 : decode cX9_about 185 = .ok (.invokevirtual 61, 3) := by decide +kernel
theorem dX9_about_188 : decode cX9_about 188 = .ok (.ireturn, 1) := by decide +kernel
def f_X9_about (s0 : MoT) (p1 : Int32) : Option (Int32 × MoT) :=
  if (Mo_isThere s0) = 0 then (f_X9_refused (Mo_w_thrown s0 (0 : Int32)) (1 : Int32)).bind fun r54 =>
  some ((r54.1), (r54.2))
  else if p1 = (0 : Int32) then (f_X9_get (Mo_w_thrown s0 (0 : Int32)) (0 : Int32) (0 : Int32)).bind fun r3 =>
  (f_X9_good (Mo_w_thrown s0 (0 : Int32)) r3).bind fun r5 =>
  some ((r5.1), (r5.2))
  else if p1 = (1 : Int32) then (f_X9_get (Mo_w_thrown s0 (0 : Int32)) (0 : Int32) (1 : Int32)).bind fun r8 =>
  (f_X9_good (Mo_w_thrown s0 (0 : Int32)) r8).bind fun r10 =>
  some ((r10.1), (r10.2))
  else if p1 = (2 : Int32) then (f_X9_get (Mo_w_thrown s0 (0 : Int32)) (0 : Int32) (2 : Int32)).bind fun r13 =>
  (f_X9_good (Mo_w_thrown s0 (0 : Int32)) r13).bind fun r15 =>
  some ((r15.1), (r15.2))
  else if p1 = (3 : Int32) then (f_X9_get (Mo_w_thrown s0 (0 : Int32)) (0 : Int32) (3 : Int32)).bind fun r18 =>
  (f_X9_good (Mo_w_thrown s0 (0 : Int32)) r18).bind fun r20 =>
  some ((r20.1), (r20.2))
  else if p1 = (4 : Int32) then (f_X9_get (Mo_w_thrown s0 (0 : Int32)) (0 : Int32) (4 : Int32)).bind fun r23 =>
  (f_X9_good (Mo_w_thrown s0 (0 : Int32)) r23).bind fun r25 =>
  some ((r25.1), (r25.2))
  else if p1 = (5 : Int32) then (f_X9_get (Mo_w_thrown s0 (0 : Int32)) (0 : Int32) (5 : Int32)).bind fun r28 =>
  (f_X9_good (Mo_w_thrown s0 (0 : Int32)) r28).bind fun r30 =>
  some ((r30.1), (r30.2))
  else if p1 = (6 : Int32) then (f_X9_living (Mo_w_thrown s0 (0 : Int32))).bind fun r33 =>
  (f_X9_good (Mo_w_thrown s0 (0 : Int32)) r33).bind fun r35 =>
  some ((r35.1), (r35.2))
  else if p1 = (7 : Int32) then (f_X9_get (Mo_w_thrown s0 (0 : Int32)) (0 : Int32) (6 : Int32)).bind fun r38 =>
  (f_X9_good (Mo_w_thrown s0 (0 : Int32)) r38).bind fun r40 =>
  some ((r40.1), (r40.2))
  else if p1 = (8 : Int32) then (f_X9_get (Mo_w_thrown s0 (0 : Int32)) (0 : Int32) (7 : Int32)).bind fun r43 =>
  (f_X9_good (Mo_w_thrown s0 (0 : Int32)) r43).bind fun r45 =>
  some ((r45.1), (r45.2))
  else if p1 = (9 : Int32) then (f_X9_get (Mo_w_thrown s0 (0 : Int32)) (0 : Int32) (8 : Int32)).bind fun r48 =>
  (f_X9_good (Mo_w_thrown s0 (0 : Int32)) r48).bind fun r50 =>
  some ((r50.1), (r50.2))
  else (f_X9_refused (Mo_w_thrown s0 (0 : Int32)) (1 : Int32)).bind fun r52 =>
  some ((r52.1), (r52.2))
abbrev rm_X9_about : Room := { frames := 3, cells := 0, slots := 0, locals := 66 }
set_option maxHeartbeats 4000000 in
set_option maxRecDepth 100000 in
theorem c_X9_about (l : Launch) (g : GK) (a0 : Nat → Nat) (s0 : MoT) (p1 : Int32) (res : (Int32 × MoT)) (hf : f_X9_about s0 p1 = some res) : gM l yX9_about cX9_about 2 (some .int) rm_X9_about g [.ref (a0 0), .int p1] (Mo_c g a0 s0) (fun _ : Unit => (some (.int (res.1)))) (fun _ => (Mo_c g a0 (res.2))) 0 0 := by
  refine gM_introI RX9 (by decide) rfl (Nat.le_of_ble_eq_true rfl) (fun p e s m args below meth c Q H locs ls A hE hZ hA hP hD hS hq hl => ?_)
  have hl : lv_has ls 2 [(0, .ref (a0 0)), (1, .int p1)] := hl
  have hx := hE.1
  have hb := hE.2.1
  rw [f_X9_about] at hf
  refine lv_aload_n hx hb dX9_about_0 rfl (lv_at hl 0 rfl) ?_
  refine lv_iconst hx hb dX9_about_1 kci_0 ?_
  refine g_put hE okX9 fl_X9_55 hP hD hS 0 rfl rfl rfl rfl (Nat.le_of_ble_eq_true rfl) (Mo_c g a0 (Mo_w_thrown s0 (0 : Int32))) rfl dX9_about_2 (fun H locs hP hD hS => ?_)
  refine lv_aload_n hx hb dX9_about_5 rfl (lv_at hl 0 rfl) ?_
  refine g_get hE okX9 fl_X9_218 hP 0 rfl (v := .int (Mo_isThere s0)) rfl dX9_about_6 ?_
  refine lv_if_ne hx hb dX9_about_9 (tgt := 18) rfl (fun h1 => ?_) (fun h1 => ?_)
  · have hf := gif_f h1 hf
    refine lv_iload_n hx hb dX9_about_18 rfl (lv_at hl 1 rfl) ?_
    by_cases h2 : p1 = (0 : Int32)
    · have hf := gif_t h2 hf
      refine g_swIn hE h2 dX9_about_19 (0) ⟨by decide, by decide⟩ (by decide) (off := 53) rfl (tgt := 72) rfl ?_
      refine lv_aload_n hx hb dX9_about_72 rfl (lv_at hl 0 rfl) ?_
      refine lv_aload_n hx hb dX9_about_73 rfl (lv_at hl 0 rfl) ?_
      refine lv_iconst hx hb dX9_about_74 kci_0 ?_
      refine lv_iconst hx hb dX9_about_75 kci_0 ?_
      obtain ⟨r3, hc4, hf⟩ := gbd hf
      refine gr_callV (As := [.int (0 : Int32), .int (0 : Int32)]) (rest := [.ref (a0 0)]) (st1 := [.int r3, .ref (a0 0)]) hE hl.1 ml_X9_200 (c_X9_get l g a0 (Mo_w_thrown s0 (0 : Int32)) (0 : Int32) (0 : Int32) r3 hc4) hZ hS hP [(0, 14)] rfl okX9 rfl rfl rfl rfl ⟨rfl, rfl⟩ ⟨Nat.le_of_ble_eq_true rfl, Nat.le_of_ble_eq_true rfl⟩ ⟨Nat.le_refl _, Nat.le_refl _⟩ (Nat.le_of_ble_eq_true rfl) dX9_about_76 ?_
      obtain ⟨r5, hc6, hf⟩ := gbd hf
      refine gm_callV1 (As := [.int r3]) (rest := []) (st1 := fun _ => [.int (r5.1)]) (ws' := fun _ => (Mo_c g a0 (r5.2))) hE hl.1 ml_X9_230 (c_X9_good l g a0 (Mo_w_thrown s0 (0 : Int32)) r3 r5 hc6) hZ hP hD hS hA 0 14 rfl (fun _ => rfl) okX9 rfl rfl rfl (fun _ => rfl) ⟨rfl, rfl⟩ ⟨Nat.le_of_ble_eq_true rfl, Nat.le_of_ble_eq_true rfl⟩ ⟨Nat.le_refl _, Nat.le_refl _⟩ (Nat.le_of_ble_eq_true rfl) dX9_about_79 (fun _ H locs hP hD hS => ?_)
      cases hf
      exact hq () rfl hP hD hS dX9_about_82
    have hf := gif_f h2 hf
    by_cases h7 : p1 = (1 : Int32)
    · have hf := gif_t h7 hf
      refine g_swIn hE h7 dX9_about_19 (1) ⟨by decide, by decide⟩ (by decide) (off := 64) rfl (tgt := 83) rfl ?_
      refine lv_aload_n hx hb dX9_about_83 rfl (lv_at hl 0 rfl) ?_
      refine lv_aload_n hx hb dX9_about_84 rfl (lv_at hl 0 rfl) ?_
      refine lv_iconst hx hb dX9_about_85 kci_0 ?_
      refine lv_iconst hx hb dX9_about_86 kci_1 ?_
      obtain ⟨r8, hc9, hf⟩ := gbd hf
      refine gr_callV (As := [.int (0 : Int32), .int (1 : Int32)]) (rest := [.ref (a0 0)]) (st1 := [.int r8, .ref (a0 0)]) hE hl.1 ml_X9_200 (c_X9_get l g a0 (Mo_w_thrown s0 (0 : Int32)) (0 : Int32) (1 : Int32) r8 hc9) hZ hS hP [(0, 14)] rfl okX9 rfl rfl rfl rfl ⟨rfl, rfl⟩ ⟨Nat.le_of_ble_eq_true rfl, Nat.le_of_ble_eq_true rfl⟩ ⟨Nat.le_refl _, Nat.le_refl _⟩ (Nat.le_of_ble_eq_true rfl) dX9_about_87 ?_
      obtain ⟨r10, hc11, hf⟩ := gbd hf
      refine gm_callV1 (As := [.int r8]) (rest := []) (st1 := fun _ => [.int (r10.1)]) (ws' := fun _ => (Mo_c g a0 (r10.2))) hE hl.1 ml_X9_230 (c_X9_good l g a0 (Mo_w_thrown s0 (0 : Int32)) r8 r10 hc11) hZ hP hD hS hA 0 14 rfl (fun _ => rfl) okX9 rfl rfl rfl (fun _ => rfl) ⟨rfl, rfl⟩ ⟨Nat.le_of_ble_eq_true rfl, Nat.le_of_ble_eq_true rfl⟩ ⟨Nat.le_refl _, Nat.le_refl _⟩ (Nat.le_of_ble_eq_true rfl) dX9_about_90 (fun _ H locs hP hD hS => ?_)
      cases hf
      exact hq () rfl hP hD hS dX9_about_93
    have hf := gif_f h7 hf
    by_cases h12 : p1 = (2 : Int32)
    · have hf := gif_t h12 hf
      refine g_swIn hE h12 dX9_about_19 (2) ⟨by decide, by decide⟩ (by decide) (off := 75) rfl (tgt := 94) rfl ?_
      refine lv_aload_n hx hb dX9_about_94 rfl (lv_at hl 0 rfl) ?_
      refine lv_aload_n hx hb dX9_about_95 rfl (lv_at hl 0 rfl) ?_
      refine lv_iconst hx hb dX9_about_96 kci_0 ?_
      refine lv_iconst hx hb dX9_about_97 kci_2 ?_
      obtain ⟨r13, hc14, hf⟩ := gbd hf
      refine gr_callV (As := [.int (0 : Int32), .int (2 : Int32)]) (rest := [.ref (a0 0)]) (st1 := [.int r13, .ref (a0 0)]) hE hl.1 ml_X9_200 (c_X9_get l g a0 (Mo_w_thrown s0 (0 : Int32)) (0 : Int32) (2 : Int32) r13 hc14) hZ hS hP [(0, 14)] rfl okX9 rfl rfl rfl rfl ⟨rfl, rfl⟩ ⟨Nat.le_of_ble_eq_true rfl, Nat.le_of_ble_eq_true rfl⟩ ⟨Nat.le_refl _, Nat.le_refl _⟩ (Nat.le_of_ble_eq_true rfl) dX9_about_98 ?_
      obtain ⟨r15, hc16, hf⟩ := gbd hf
      refine gm_callV1 (As := [.int r13]) (rest := []) (st1 := fun _ => [.int (r15.1)]) (ws' := fun _ => (Mo_c g a0 (r15.2))) hE hl.1 ml_X9_230 (c_X9_good l g a0 (Mo_w_thrown s0 (0 : Int32)) r13 r15 hc16) hZ hP hD hS hA 0 14 rfl (fun _ => rfl) okX9 rfl rfl rfl (fun _ => rfl) ⟨rfl, rfl⟩ ⟨Nat.le_of_ble_eq_true rfl, Nat.le_of_ble_eq_true rfl⟩ ⟨Nat.le_refl _, Nat.le_refl _⟩ (Nat.le_of_ble_eq_true rfl) dX9_about_101 (fun _ H locs hP hD hS => ?_)
      cases hf
      exact hq () rfl hP hD hS dX9_about_104
    have hf := gif_f h12 hf
    by_cases h17 : p1 = (3 : Int32)
    · have hf := gif_t h17 hf
      refine g_swIn hE h17 dX9_about_19 (3) ⟨by decide, by decide⟩ (by decide) (off := 86) rfl (tgt := 105) rfl ?_
      refine lv_aload_n hx hb dX9_about_105 rfl (lv_at hl 0 rfl) ?_
      refine lv_aload_n hx hb dX9_about_106 rfl (lv_at hl 0 rfl) ?_
      refine lv_iconst hx hb dX9_about_107 kci_0 ?_
      refine lv_iconst hx hb dX9_about_108 kci_3 ?_
      obtain ⟨r18, hc19, hf⟩ := gbd hf
      refine gr_callV (As := [.int (0 : Int32), .int (3 : Int32)]) (rest := [.ref (a0 0)]) (st1 := [.int r18, .ref (a0 0)]) hE hl.1 ml_X9_200 (c_X9_get l g a0 (Mo_w_thrown s0 (0 : Int32)) (0 : Int32) (3 : Int32) r18 hc19) hZ hS hP [(0, 14)] rfl okX9 rfl rfl rfl rfl ⟨rfl, rfl⟩ ⟨Nat.le_of_ble_eq_true rfl, Nat.le_of_ble_eq_true rfl⟩ ⟨Nat.le_refl _, Nat.le_refl _⟩ (Nat.le_of_ble_eq_true rfl) dX9_about_109 ?_
      obtain ⟨r20, hc21, hf⟩ := gbd hf
      refine gm_callV1 (As := [.int r18]) (rest := []) (st1 := fun _ => [.int (r20.1)]) (ws' := fun _ => (Mo_c g a0 (r20.2))) hE hl.1 ml_X9_230 (c_X9_good l g a0 (Mo_w_thrown s0 (0 : Int32)) r18 r20 hc21) hZ hP hD hS hA 0 14 rfl (fun _ => rfl) okX9 rfl rfl rfl (fun _ => rfl) ⟨rfl, rfl⟩ ⟨Nat.le_of_ble_eq_true rfl, Nat.le_of_ble_eq_true rfl⟩ ⟨Nat.le_refl _, Nat.le_refl _⟩ (Nat.le_of_ble_eq_true rfl) dX9_about_112 (fun _ H locs hP hD hS => ?_)
      cases hf
      exact hq () rfl hP hD hS dX9_about_115
    have hf := gif_f h17 hf
    by_cases h22 : p1 = (4 : Int32)
    · have hf := gif_t h22 hf
      refine g_swIn hE h22 dX9_about_19 (4) ⟨by decide, by decide⟩ (by decide) (off := 97) rfl (tgt := 116) rfl ?_
      refine lv_aload_n hx hb dX9_about_116 rfl (lv_at hl 0 rfl) ?_
      refine lv_aload_n hx hb dX9_about_117 rfl (lv_at hl 0 rfl) ?_
      refine lv_iconst hx hb dX9_about_118 kci_0 ?_
      refine lv_iconst hx hb dX9_about_119 kci_4 ?_
      obtain ⟨r23, hc24, hf⟩ := gbd hf
      refine gr_callV (As := [.int (0 : Int32), .int (4 : Int32)]) (rest := [.ref (a0 0)]) (st1 := [.int r23, .ref (a0 0)]) hE hl.1 ml_X9_200 (c_X9_get l g a0 (Mo_w_thrown s0 (0 : Int32)) (0 : Int32) (4 : Int32) r23 hc24) hZ hS hP [(0, 14)] rfl okX9 rfl rfl rfl rfl ⟨rfl, rfl⟩ ⟨Nat.le_of_ble_eq_true rfl, Nat.le_of_ble_eq_true rfl⟩ ⟨Nat.le_refl _, Nat.le_refl _⟩ (Nat.le_of_ble_eq_true rfl) dX9_about_120 ?_
      obtain ⟨r25, hc26, hf⟩ := gbd hf
      refine gm_callV1 (As := [.int r23]) (rest := []) (st1 := fun _ => [.int (r25.1)]) (ws' := fun _ => (Mo_c g a0 (r25.2))) hE hl.1 ml_X9_230 (c_X9_good l g a0 (Mo_w_thrown s0 (0 : Int32)) r23 r25 hc26) hZ hP hD hS hA 0 14 rfl (fun _ => rfl) okX9 rfl rfl rfl (fun _ => rfl) ⟨rfl, rfl⟩ ⟨Nat.le_of_ble_eq_true rfl, Nat.le_of_ble_eq_true rfl⟩ ⟨Nat.le_refl _, Nat.le_refl _⟩ (Nat.le_of_ble_eq_true rfl) dX9_about_123 (fun _ H locs hP hD hS => ?_)
      cases hf
      exact hq () rfl hP hD hS dX9_about_126
    have hf := gif_f h22 hf
    by_cases h27 : p1 = (5 : Int32)
    · have hf := gif_t h27 hf
      refine g_swIn hE h27 dX9_about_19 (5) ⟨by decide, by decide⟩ (by decide) (off := 108) rfl (tgt := 127) rfl ?_
      refine lv_aload_n hx hb dX9_about_127 rfl (lv_at hl 0 rfl) ?_
      refine lv_aload_n hx hb dX9_about_128 rfl (lv_at hl 0 rfl) ?_
      refine lv_iconst hx hb dX9_about_129 kci_0 ?_
      refine lv_iconst hx hb dX9_about_130 kci_5 ?_
      obtain ⟨r28, hc29, hf⟩ := gbd hf
      refine gr_callV (As := [.int (0 : Int32), .int (5 : Int32)]) (rest := [.ref (a0 0)]) (st1 := [.int r28, .ref (a0 0)]) hE hl.1 ml_X9_200 (c_X9_get l g a0 (Mo_w_thrown s0 (0 : Int32)) (0 : Int32) (5 : Int32) r28 hc29) hZ hS hP [(0, 14)] rfl okX9 rfl rfl rfl rfl ⟨rfl, rfl⟩ ⟨Nat.le_of_ble_eq_true rfl, Nat.le_of_ble_eq_true rfl⟩ ⟨Nat.le_refl _, Nat.le_refl _⟩ (Nat.le_of_ble_eq_true rfl) dX9_about_131 ?_
      obtain ⟨r30, hc31, hf⟩ := gbd hf
      refine gm_callV1 (As := [.int r28]) (rest := []) (st1 := fun _ => [.int (r30.1)]) (ws' := fun _ => (Mo_c g a0 (r30.2))) hE hl.1 ml_X9_230 (c_X9_good l g a0 (Mo_w_thrown s0 (0 : Int32)) r28 r30 hc31) hZ hP hD hS hA 0 14 rfl (fun _ => rfl) okX9 rfl rfl rfl (fun _ => rfl) ⟨rfl, rfl⟩ ⟨Nat.le_of_ble_eq_true rfl, Nat.le_of_ble_eq_true rfl⟩ ⟨Nat.le_refl _, Nat.le_refl _⟩ (Nat.le_of_ble_eq_true rfl) dX9_about_134 (fun _ H locs hP hD hS => ?_)
      cases hf
      exact hq () rfl hP hD hS dX9_about_137
    have hf := gif_f h27 hf
    by_cases h32 : p1 = (6 : Int32)
    · have hf := gif_t h32 hf
      refine g_swIn hE h32 dX9_about_19 (6) ⟨by decide, by decide⟩ (by decide) (off := 119) rfl (tgt := 138) rfl ?_
      refine lv_aload_n hx hb dX9_about_138 rfl (lv_at hl 0 rfl) ?_
      refine lv_aload_n hx hb dX9_about_139 rfl (lv_at hl 0 rfl) ?_
      obtain ⟨r33, hc34, hf⟩ := gbd hf
      refine gr_callV (As := []) (rest := [.ref (a0 0)]) (st1 := [.int r33, .ref (a0 0)]) hE hl.1 ml_X9_285 (c_X9_living l g a0 (Mo_w_thrown s0 (0 : Int32)) r33 hc34) hZ hS hP [(0, 14)] rfl okX9 rfl rfl rfl rfl ⟨rfl, rfl⟩ ⟨Nat.le_of_ble_eq_true rfl, Nat.le_of_ble_eq_true rfl⟩ ⟨Nat.le_refl _, Nat.le_refl _⟩ (Nat.le_of_ble_eq_true rfl) dX9_about_140 ?_
      obtain ⟨r35, hc36, hf⟩ := gbd hf
      refine gm_callV1 (As := [.int r33]) (rest := []) (st1 := fun _ => [.int (r35.1)]) (ws' := fun _ => (Mo_c g a0 (r35.2))) hE hl.1 ml_X9_230 (c_X9_good l g a0 (Mo_w_thrown s0 (0 : Int32)) r33 r35 hc36) hZ hP hD hS hA 0 14 rfl (fun _ => rfl) okX9 rfl rfl rfl (fun _ => rfl) ⟨rfl, rfl⟩ ⟨Nat.le_of_ble_eq_true rfl, Nat.le_of_ble_eq_true rfl⟩ ⟨Nat.le_refl _, Nat.le_refl _⟩ (Nat.le_of_ble_eq_true rfl) dX9_about_143 (fun _ H locs hP hD hS => ?_)
      cases hf
      exact hq () rfl hP hD hS dX9_about_146
    have hf := gif_f h32 hf
    by_cases h37 : p1 = (7 : Int32)
    · have hf := gif_t h37 hf
      refine g_swIn hE h37 dX9_about_19 (7) ⟨by decide, by decide⟩ (by decide) (off := 128) rfl (tgt := 147) rfl ?_
      refine lv_aload_n hx hb dX9_about_147 rfl (lv_at hl 0 rfl) ?_
      refine lv_aload_n hx hb dX9_about_148 rfl (lv_at hl 0 rfl) ?_
      refine lv_iconst hx hb dX9_about_149 kci_0 ?_
      refine lv_bipush hx hb dX9_about_150 kcb_6 ?_
      obtain ⟨r38, hc39, hf⟩ := gbd hf
      refine gr_callV (As := [.int (0 : Int32), .int (6 : Int32)]) (rest := [.ref (a0 0)]) (st1 := [.int r38, .ref (a0 0)]) hE hl.1 ml_X9_200 (c_X9_get l g a0 (Mo_w_thrown s0 (0 : Int32)) (0 : Int32) (6 : Int32) r38 hc39) hZ hS hP [(0, 14)] rfl okX9 rfl rfl rfl rfl ⟨rfl, rfl⟩ ⟨Nat.le_of_ble_eq_true rfl, Nat.le_of_ble_eq_true rfl⟩ ⟨Nat.le_refl _, Nat.le_refl _⟩ (Nat.le_of_ble_eq_true rfl) dX9_about_152 ?_
      obtain ⟨r40, hc41, hf⟩ := gbd hf
      refine gm_callV1 (As := [.int r38]) (rest := []) (st1 := fun _ => [.int (r40.1)]) (ws' := fun _ => (Mo_c g a0 (r40.2))) hE hl.1 ml_X9_230 (c_X9_good l g a0 (Mo_w_thrown s0 (0 : Int32)) r38 r40 hc41) hZ hP hD hS hA 0 14 rfl (fun _ => rfl) okX9 rfl rfl rfl (fun _ => rfl) ⟨rfl, rfl⟩ ⟨Nat.le_of_ble_eq_true rfl, Nat.le_of_ble_eq_true rfl⟩ ⟨Nat.le_refl _, Nat.le_refl _⟩ (Nat.le_of_ble_eq_true rfl) dX9_about_155 (fun _ H locs hP hD hS => ?_)
      cases hf
      exact hq () rfl hP hD hS dX9_about_158
    have hf := gif_f h37 hf
    by_cases h42 : p1 = (8 : Int32)
    · have hf := gif_t h42 hf
      refine g_swIn hE h42 dX9_about_19 (8) ⟨by decide, by decide⟩ (by decide) (off := 140) rfl (tgt := 159) rfl ?_
      refine lv_aload_n hx hb dX9_about_159 rfl (lv_at hl 0 rfl) ?_
      refine lv_aload_n hx hb dX9_about_160 rfl (lv_at hl 0 rfl) ?_
      refine lv_iconst hx hb dX9_about_161 kci_0 ?_
      refine lv_bipush hx hb dX9_about_162 kcb_7 ?_
      obtain ⟨r43, hc44, hf⟩ := gbd hf
      refine gr_callV (As := [.int (0 : Int32), .int (7 : Int32)]) (rest := [.ref (a0 0)]) (st1 := [.int r43, .ref (a0 0)]) hE hl.1 ml_X9_200 (c_X9_get l g a0 (Mo_w_thrown s0 (0 : Int32)) (0 : Int32) (7 : Int32) r43 hc44) hZ hS hP [(0, 14)] rfl okX9 rfl rfl rfl rfl ⟨rfl, rfl⟩ ⟨Nat.le_of_ble_eq_true rfl, Nat.le_of_ble_eq_true rfl⟩ ⟨Nat.le_refl _, Nat.le_refl _⟩ (Nat.le_of_ble_eq_true rfl) dX9_about_164 ?_
      obtain ⟨r45, hc46, hf⟩ := gbd hf
      refine gm_callV1 (As := [.int r43]) (rest := []) (st1 := fun _ => [.int (r45.1)]) (ws' := fun _ => (Mo_c g a0 (r45.2))) hE hl.1 ml_X9_230 (c_X9_good l g a0 (Mo_w_thrown s0 (0 : Int32)) r43 r45 hc46) hZ hP hD hS hA 0 14 rfl (fun _ => rfl) okX9 rfl rfl rfl (fun _ => rfl) ⟨rfl, rfl⟩ ⟨Nat.le_of_ble_eq_true rfl, Nat.le_of_ble_eq_true rfl⟩ ⟨Nat.le_refl _, Nat.le_refl _⟩ (Nat.le_of_ble_eq_true rfl) dX9_about_167 (fun _ H locs hP hD hS => ?_)
      cases hf
      exact hq () rfl hP hD hS dX9_about_170
    have hf := gif_f h42 hf
    by_cases h47 : p1 = (9 : Int32)
    · have hf := gif_t h47 hf
      refine g_swIn hE h47 dX9_about_19 (9) ⟨by decide, by decide⟩ (by decide) (off := 152) rfl (tgt := 171) rfl ?_
      refine lv_aload_n hx hb dX9_about_171 rfl (lv_at hl 0 rfl) ?_
      refine lv_aload_n hx hb dX9_about_172 rfl (lv_at hl 0 rfl) ?_
      refine lv_iconst hx hb dX9_about_173 kci_0 ?_
      refine lv_bipush hx hb dX9_about_174 kcb_8 ?_
      obtain ⟨r48, hc49, hf⟩ := gbd hf
      refine gr_callV (As := [.int (0 : Int32), .int (8 : Int32)]) (rest := [.ref (a0 0)]) (st1 := [.int r48, .ref (a0 0)]) hE hl.1 ml_X9_200 (c_X9_get l g a0 (Mo_w_thrown s0 (0 : Int32)) (0 : Int32) (8 : Int32) r48 hc49) hZ hS hP [(0, 14)] rfl okX9 rfl rfl rfl rfl ⟨rfl, rfl⟩ ⟨Nat.le_of_ble_eq_true rfl, Nat.le_of_ble_eq_true rfl⟩ ⟨Nat.le_refl _, Nat.le_refl _⟩ (Nat.le_of_ble_eq_true rfl) dX9_about_176 ?_
      obtain ⟨r50, hc51, hf⟩ := gbd hf
      refine gm_callV1 (As := [.int r48]) (rest := []) (st1 := fun _ => [.int (r50.1)]) (ws' := fun _ => (Mo_c g a0 (r50.2))) hE hl.1 ml_X9_230 (c_X9_good l g a0 (Mo_w_thrown s0 (0 : Int32)) r48 r50 hc51) hZ hP hD hS hA 0 14 rfl (fun _ => rfl) okX9 rfl rfl rfl (fun _ => rfl) ⟨rfl, rfl⟩ ⟨Nat.le_of_ble_eq_true rfl, Nat.le_of_ble_eq_true rfl⟩ ⟨Nat.le_refl _, Nat.le_refl _⟩ (Nat.le_of_ble_eq_true rfl) dX9_about_179 (fun _ H locs hP hD hS => ?_)
      cases hf
      exact hq () rfl hP hD hS dX9_about_182
    have hf := gif_f h47 hf
    refine lv_tableOut hx hb dX9_about_19 (by have := nti h2 (k := 0) (by decide); have := nti h7 (k := 1) (by decide); have := nti h12 (k := 2) (by decide); have := nti h17 (k := 3) (by decide); have := nti h22 (k := 4) (by decide); have := nti h27 (k := 5) (by decide); have := nti h32 (k := 6) (by decide); have := nti h37 (k := 7) (by decide); have := nti h42 (k := 8) (by decide); have := nti h47 (k := 9) (by decide); omega) (tgt := 183) rfl ?_
    refine lv_aload_n hx hb dX9_about_183 rfl (lv_at hl 0 rfl) ?_
    refine lv_iconst hx hb dX9_about_184 kci_1 ?_
    obtain ⟨r52, hc53, hf⟩ := gbd hf
    refine gm_callV1 (As := [.int (1 : Int32)]) (rest := []) (st1 := fun _ => [.int (r52.1)]) (ws' := fun _ => (Mo_c g a0 (r52.2))) hE hl.1 ml_X9_61 (c_X9_refused l g a0 (Mo_w_thrown s0 (0 : Int32)) (1 : Int32) r52 hc53) hZ hP hD hS hA 0 14 rfl (fun _ => rfl) okX9 rfl rfl rfl (fun _ => rfl) ⟨rfl, rfl⟩ ⟨Nat.le_of_ble_eq_true rfl, Nat.le_of_ble_eq_true rfl⟩ ⟨Nat.le_refl _, Nat.le_refl _⟩ (Nat.le_of_ble_eq_true rfl) dX9_about_185 (fun _ H locs hP hD hS => ?_)
    cases hf
    exact hq () rfl hP hD hS dX9_about_188
  · have hf := gif_t h1 hf
    refine lv_aload_n hx hb dX9_about_12 rfl (lv_at hl 0 rfl) ?_
    refine lv_iconst hx hb dX9_about_13 kci_1 ?_
    obtain ⟨r54, hc55, hf⟩ := gbd hf
    refine gm_callV1 (As := [.int (1 : Int32)]) (rest := []) (st1 := fun _ => [.int (r54.1)]) (ws' := fun _ => (Mo_c g a0 (r54.2))) hE hl.1 ml_X9_61 (c_X9_refused l g a0 (Mo_w_thrown s0 (0 : Int32)) (1 : Int32) r54 hc55) hZ hP hD hS hA 0 14 rfl (fun _ => rfl) okX9 rfl rfl rfl (fun _ => rfl) ⟨rfl, rfl⟩ ⟨Nat.le_of_ble_eq_true rfl, Nat.le_of_ble_eq_true rfl⟩ ⟨Nat.le_refl _, Nat.le_refl _⟩ (Nat.le_of_ble_eq_true rfl) dX9_about_14 (fun _ H locs hP hD hS => ?_)
    cases hf
    exact hq () rfl hP hD hS dX9_about_17
