theorem kinc_1 (x : Int32) : x + Int32.ofInt (1) = x + (1 : Int32) := congrArg (x + ·) (by decide)
theorem kcb_m2 : (Int8.ofInt (-2)).toInt32 = (-2 : Int32) := by decide
theorem kcb_8 : (Int8.ofInt (8)).toInt32 = (8 : Int32) := by decide
theorem kcb_81 : (Int8.ofInt (81)).toInt32 = (81 : Int32) := by decide
theorem kcb_9 : (Int8.ofInt (9)).toInt32 = (9 : Int32) := by decide
theorem kci_m1 : Int32.ofInt (-1) = (-1 : Int32) := by decide
theorem kci_0 : Int32.ofInt (0) = (0 : Int32) := by decide
theorem kci_1 : Int32.ofInt (1) = (1 : Int32) := by decide
theorem kci_3 : Int32.ofInt (3) = (3 : Int32) := by decide
theorem kcs_648 : (Int16.ofInt (648)).toInt32 = (648 : Int32) := by decide
theorem kcs_9999 : (Int16.ofInt (9999)).toInt32 = (9999 : Int32) := by decide
theorem kne_81 : ¬ (81 : Int32) = 0 := by decide
theorem kne_9 : ¬ (9 : Int32) = 0 := by decide
theorem dX8_isSide_0 : decode cX8_isSide 0 = .ok (.iload_n 0, 1) := by decide +kernel
theorem dX8_isSide_1 : decode cX8_isSide 1 = .ok (.ifCond .eq 8, 3) := by decide +kernel
theorem dX8_isSide_4 : decode cX8_isSide 4 = .ok (.iload_n 0, 1) := by decide +kernel
theorem dX8_isSide_5 : decode cX8_isSide 5 = .ok (.iconst 1, 1) := by decide +kernel
theorem dX8_isSide_6 : decode cX8_isSide 6 = .ok (.if_icmp .ne 7, 3) := by decide +kernel
theorem dX8_isSide_9 : decode cX8_isSide 9 = .ok (.iconst 1, 1) := by decide +kernel
theorem dX8_isSide_10 : decode cX8_isSide 10 = .ok (.goto 4, 3) := by decide +kernel
theorem dX8_isSide_13 : decode cX8_isSide 13 = .ok (.iconst 0, 1) := by decide +kernel
theorem dX8_isSide_14 : decode cX8_isSide 14 = .ok (.ireturn, 1) := by decide +kernel
def f_X8_isSide (p1 : Int32) : Option (Int32) :=
  if p1 = 0 then some ((1 : Int32))
  else if p1 = (1 : Int32) then some ((1 : Int32))
  else some ((0 : Int32))
abbrev rm_X8_isSide : Room := { frames := 0, cells := 0, slots := 0, locals := 0 }
set_option maxHeartbeats 4000000 in
set_option maxRecDepth 100000 in
theorem c_X8_isSide (l : Launch) (g : GK) (p1 : Int32) (res : (Int32)) (hf : f_X8_isSide p1 = some res) : gR l yX8_isSide cX8_isSide 1 (some .boolean) rm_X8_isSide g [.int p1] [] (some (.int res)) := by
  refine gR_introZ RX8 (by decide) rfl (Nat.le_of_ble_eq_true rfl) (fun p e s m args below meth c Q H locs ls hE hP hZ hS hq hl => ?_)
  have hl : lv_has ls 1 [(0, .int p1)] := hl
  have hx := hE.1
  have hb := hE.2.1
  rw [f_X8_isSide] at hf
  refine lv_iload_n hx hb dX8_isSide_0 rfl (lv_at hl 0 rfl) ?_
  refine lv_if_eq hx hb dX8_isSide_1 (tgt := 9) rfl (fun h1 => ?_) (fun h1 => ?_)
  · have hf := gif_t h1 hf
    refine lv_iconst hx hb dX8_isSide_9 kci_1 ?_
    refine lv_goto hx hb dX8_isSide_10 (tgt := 14) rfl ?_
    cases hf
    exact hq (by decide) rfl dX8_isSide_14
  · have hf := gif_f h1 hf
    refine lv_iload_n hx hb dX8_isSide_4 rfl (lv_at hl 0 rfl) ?_
    refine lv_iconst hx hb dX8_isSide_5 kci_1 ?_
    refine lv_icmp_ne hx hb dX8_isSide_6 (tgt := 13) rfl (fun h2 => ?_) (fun h2 => ?_)
    · have hf := gif_f h2 hf
      refine lv_iconst hx hb dX8_isSide_13 kci_0 ?_
      cases hf
      exact hq (by decide) rfl dX8_isSide_14
    · have hf := gif_t h2 hf
      refine lv_iconst hx hb dX8_isSide_9 kci_1 ?_
      refine lv_goto hx hb dX8_isSide_10 (tgt := 14) rfl ?_
      cases hf
      exact hq (by decide) rfl dX8_isSide_14
theorem dX8_isHow_0 : decode cX8_isHow 0 = .ok (.iload_n 0, 1) := by decide +kernel
theorem dX8_isHow_1 : decode cX8_isHow 1 = .ok (.ifCond .lt 12, 3) := by decide +kernel
theorem dX8_isHow_4 : decode cX8_isHow 4 = .ok (.iload_n 0, 1) := by decide +kernel
theorem dX8_isHow_5 : decode cX8_isHow 5 = .ok (.iconst 3, 1) := by decide +kernel
theorem dX8_isHow_6 : decode cX8_isHow 6 = .ok (.if_icmp .gt 7, 3) := by decide +kernel
theorem dX8_isHow_9 : decode cX8_isHow 9 = .ok (.iconst 1, 1) := by decide +kernel
theorem dX8_isHow_10 : decode cX8_isHow 10 = .ok (.goto 4, 3) := by decide +kernel
theorem dX8_isHow_13 : decode cX8_isHow 13 = .ok (.iconst 0, 1) := by decide +kernel
theorem dX8_isHow_14 : decode cX8_isHow 14 = .ok (.ireturn, 1) := by decide +kernel
def f_X8_isHow (p1 : Int32) : Option (Int32) :=
  if p1 < 0 then some ((0 : Int32))
  else if (3 : Int32) < p1 then some ((0 : Int32))
  else some ((1 : Int32))
abbrev rm_X8_isHow : Room := { frames := 0, cells := 0, slots := 0, locals := 0 }
set_option maxHeartbeats 4000000 in
set_option maxRecDepth 100000 in
theorem c_X8_isHow (l : Launch) (g : GK) (p1 : Int32) (res : (Int32)) (hf : f_X8_isHow p1 = some res) : gR l yX8_isHow cX8_isHow 1 (some .boolean) rm_X8_isHow g [.int p1] [] (some (.int res)) := by
  refine gR_introZ RX8 (by decide) rfl (Nat.le_of_ble_eq_true rfl) (fun p e s m args below meth c Q H locs ls hE hP hZ hS hq hl => ?_)
  have hl : lv_has ls 1 [(0, .int p1)] := hl
  have hx := hE.1
  have hb := hE.2.1
  rw [f_X8_isHow] at hf
  refine lv_iload_n hx hb dX8_isHow_0 rfl (lv_at hl 0 rfl) ?_
  refine lv_if_lt hx hb dX8_isHow_1 (tgt := 13) rfl (fun h1 => ?_) (fun h1 => ?_)
  · have hf := gif_t h1 hf
    refine lv_iconst hx hb dX8_isHow_13 kci_0 ?_
    cases hf
    exact hq (by decide) rfl dX8_isHow_14
  · have hf := gif_f h1 hf
    refine lv_iload_n hx hb dX8_isHow_4 rfl (lv_at hl 0 rfl) ?_
    refine lv_iconst hx hb dX8_isHow_5 kci_3 ?_
    refine lv_icmp_gt hx hb dX8_isHow_6 (tgt := 13) rfl (fun h2 => ?_) (fun h2 => ?_)
    · have hf := gif_t h2 hf
      refine lv_iconst hx hb dX8_isHow_13 kci_0 ?_
      cases hf
      exact hq (by decide) rfl dX8_isHow_14
    · have hf := gif_f h2 hf
      refine lv_iconst hx hb dX8_isHow_9 kci_1 ?_
      refine lv_goto hx hb dX8_isHow_10 (tgt := 14) rfl ?_
      cases hf
      exact hq (by decide) rfl dX8_isHow_14
theorem dX8_isTime_0 : decode cX8_isTime 0 = .ok (.iload_n 0, 1) := by decide +kernel
theorem dX8_isTime_1 : decode cX8_isTime 1 = .ok (.ifCond .lt 14, 3) := by decide +kernel
theorem dX8_isTime_4 : decode cX8_isTime 4 = .ok (.iload_n 0, 1) := by decide +kernel
theorem dX8_isTime_5 : decode cX8_isTime 5 = .ok (.sipush 9999, 3) := by decide +kernel
theorem dX8_isTime_8 : decode cX8_isTime 8 = .ok (.if_icmp .gt 7, 3) := by decide +kernel
theorem dX8_isTime_11 : decode cX8_isTime 11 = .ok (.iconst 1, 1) := by decide +kernel
theorem dX8_isTime_12 : decode cX8_isTime 12 = .ok (.goto 4, 3) := by decide +kernel
theorem dX8_isTime_15 : decode cX8_isTime 15 = .ok (.iconst 0, 1) := by decide +kernel
theorem dX8_isTime_16 : decode cX8_isTime 16 = .ok (.ireturn, 1) := by decide +kernel
def f_X8_isTime (p1 : Int32) : Option (Int32) :=
  if p1 < 0 then some ((0 : Int32))
  else if (9999 : Int32) < p1 then some ((0 : Int32))
  else some ((1 : Int32))
abbrev rm_X8_isTime : Room := { frames := 0, cells := 0, slots := 0, locals := 0 }
set_option maxHeartbeats 4000000 in
set_option maxRecDepth 100000 in
theorem c_X8_isTime (l : Launch) (g : GK) (p1 : Int32) (res : (Int32)) (hf : f_X8_isTime p1 = some res) : gR l yX8_isTime cX8_isTime 1 (some .boolean) rm_X8_isTime g [.int p1] [] (some (.int res)) := by
  refine gR_introZ RX8 (by decide) rfl (Nat.le_of_ble_eq_true rfl) (fun p e s m args below meth c Q H locs ls hE hP hZ hS hq hl => ?_)
  have hl : lv_has ls 1 [(0, .int p1)] := hl
  have hx := hE.1
  have hb := hE.2.1
  rw [f_X8_isTime] at hf
  refine lv_iload_n hx hb dX8_isTime_0 rfl (lv_at hl 0 rfl) ?_
  refine lv_if_lt hx hb dX8_isTime_1 (tgt := 15) rfl (fun h1 => ?_) (fun h1 => ?_)
  · have hf := gif_t h1 hf
    refine lv_iconst hx hb dX8_isTime_15 kci_0 ?_
    cases hf
    exact hq (by decide) rfl dX8_isTime_16
  · have hf := gif_f h1 hf
    refine lv_iload_n hx hb dX8_isTime_4 rfl (lv_at hl 0 rfl) ?_
    refine lv_sipush hx hb dX8_isTime_5 kcs_9999 ?_
    refine lv_icmp_gt hx hb dX8_isTime_8 (tgt := 15) rfl (fun h2 => ?_) (fun h2 => ?_)
    · have hf := gif_t h2 hf
      refine lv_iconst hx hb dX8_isTime_15 kci_0 ?_
      cases hf
      exact hq (by decide) rfl dX8_isTime_16
    · have hf := gif_f h2 hf
      refine lv_iconst hx hb dX8_isTime_11 kci_1 ?_
      refine lv_goto hx hb dX8_isTime_12 (tgt := 16) rfl ?_
      cases hf
      exact hq (by decide) rfl dX8_isTime_16
theorem dX8_placeOf_0 : decode cX8_placeOf 0 = .ok (.iload_n 1, 1) := by decide +kernel
theorem dX8_placeOf_1 : decode cX8_placeOf 1 = .ok (.iconst (-1), 1) := by decide +kernel
theorem dX8_placeOf_2 : decode cX8_placeOf 2 = .ok (.if_icmp .ne 8, 3) := by decide +kernel
theorem dX8_placeOf_5 : decode cX8_placeOf 5 = .ok (.bipush 8, 2) := by decide +kernel
theorem dX8_placeOf_7 : decode cX8_placeOf 7 = .ok (.goto 4, 3) := by decide +kernel
theorem dX8_placeOf_10 : decode cX8_placeOf 10 = .ok (.iload_n 1, 1) := by decide +kernel
theorem dX8_placeOf_11 : decode cX8_placeOf 11 = .ok (.istore_n 3, 1) := by decide +kernel
theorem dX8_placeOf_12 : decode cX8_placeOf 12 = .ok (.iload_n 2, 1) := by decide +kernel
theorem dX8_placeOf_13 : decode cX8_placeOf 13 = .ok (.iconst (-1), 1) := by decide +kernel
theorem dX8_placeOf_14 : decode cX8_placeOf 14 = .ok (.if_icmp .ne 8, 3) := by decide +kernel
theorem dX8_placeOf_17 : decode cX8_placeOf 17 = .ok (.bipush 8, 2) := by decide +kernel
theorem dX8_placeOf_19 : decode cX8_placeOf 19 = .ok (.goto 4, 3) := by decide +kernel
theorem dX8_placeOf_22 : decode cX8_placeOf 22 = .ok (.iload_n 2, 1) := by decide +kernel
theorem dX8_placeOf_23 : decode cX8_placeOf 23 = .ok (.istore 4, 2) := by decide +kernel
theorem dX8_placeOf_25 : decode cX8_placeOf 25 = .ok (.iload_n 0, 1) := by decide +kernel
theorem dX8_placeOf_26 : decode cX8_placeOf 26 = .ok (.bipush 81, 2) := by decide +kernel
theorem dX8_placeOf_28 : decode cX8_placeOf 28 = .ok (.imul, 1) := by decide +kernel
theorem dX8_placeOf_29 : decode cX8_placeOf 29 = .ok (.iload_n 3, 1) := by decide +kernel
theorem dX8_placeOf_30 : decode cX8_placeOf 30 = .ok (.bipush 9, 2) := by decide +kernel
theorem dX8_placeOf_32 : decode cX8_placeOf 32 = .ok (.imul, 1) := by decide +kernel
theorem dX8_placeOf_33 : decode cX8_placeOf 33 = .ok (.iadd, 1) := by decide +kernel
theorem dX8_placeOf_34 : decode cX8_placeOf 34 = .ok (.iload 4, 2) := by decide +kernel
theorem dX8_placeOf_36 : decode cX8_placeOf 36 = .ok (.iadd, 1) := by decide +kernel
theorem dX8_placeOf_37 : decode cX8_placeOf 37 = .ok (.ireturn, 1) := by decide +kernel
def f_X8_placeOf (p1 : Int32) (p2 : Int32) (p3 : Int32) : Option (Int32) :=
  glt (fun (y2 : Int32) => glt (fun (y4 : Int32) => some ((((p1 * (81 : Int32)) + (y2 * (9 : Int32))) + y4))) fun J3 =>
  if p3 = (-1 : Int32) then J3 (8 : Int32)
  else J3 p3) fun J1 =>
  if p2 = (-1 : Int32) then J1 (8 : Int32)
  else J1 p2
abbrev rm_X8_placeOf : Room := { frames := 0, cells := 0, slots := 0, locals := 0 }
set_option maxHeartbeats 4000000 in
set_option maxRecDepth 100000 in
theorem c_X8_placeOf (l : Launch) (g : GK) (p1 : Int32) (p2 : Int32) (p3 : Int32) (res : (Int32)) (hf : f_X8_placeOf p1 p2 p3 = some res) : gR l yX8_placeOf cX8_placeOf 5 (some .int) rm_X8_placeOf g [.int p1, .int p2, .int p3] [] (some (.int res)) := by
  refine gR_introI RX8 (by decide) rfl (Nat.le_of_ble_eq_true rfl) (fun p e s m args below meth c Q H locs ls hE hP hZ hS hq hl => ?_)
  have hl : lv_has ls 5 [(0, .int p1), (1, .int p2), (2, .int p3)] := hl
  have hx := hE.1
  have hb := hE.2.1
  rw [f_X8_placeOf] at hf
  refine lv_iload_n hx hb dX8_placeOf_0 rfl (lv_at hl 1 rfl) ?_
  refine lv_iconst hx hb dX8_placeOf_1 kci_m1 ?_
  obtain ⟨J1, eJ1, hf⟩ := gltd hf
  have kJ1 : ∀ (y2 : Int32) (ls : Array Slot), J1 y2 = some res → lv_has ls 5 [(0, .int p1), (2, .int p3)] → W p l e rm_X8_placeOf s m args below meth c H locs 0 0 Q (F0 m 11 ls [.int y2]) := by
    intro y2 ls hf hl
    rw [eJ1] at hf
    refine lv_istore_n hx hb dX8_placeOf_11 rfl hl (by decide) (lv' := [(3, .int y2), (0, .int p1), (2, .int p3)]) rfl (fun ls hl => ?_)
    refine lv_iload_n hx hb dX8_placeOf_12 rfl (lv_at hl 2 rfl) ?_
    refine lv_iconst hx hb dX8_placeOf_13 kci_m1 ?_
    obtain ⟨J3, eJ3, hf⟩ := gltd hf
    have kJ3 : ∀ (y4 : Int32) (ls : Array Slot), J3 y4 = some res → lv_has ls 5 [(0, .int p1), (3, .int y2)] → W p l e rm_X8_placeOf s m args below meth c H locs 0 0 Q (F0 m 23 ls [.int y4]) := by
      intro y4 ls hf hl
      rw [eJ3] at hf
      refine lv_istore hx hb dX8_placeOf_23 hl (by decide) (lv' := [(4, .int y4), (0, .int p1), (3, .int y2)]) rfl (fun ls hl => ?_)
      refine lv_iload_n hx hb dX8_placeOf_25 rfl (lv_at hl 1 rfl) ?_
      refine lv_bipush hx hb dX8_placeOf_26 kcb_81 ?_
      refine lv_imul hx hb dX8_placeOf_28 ?_
      refine lv_iload_n hx hb dX8_placeOf_29 rfl (lv_at hl 2 rfl) ?_
      refine lv_bipush hx hb dX8_placeOf_30 kcb_9 ?_
      refine lv_imul hx hb dX8_placeOf_32 ?_
      refine lv_iadd hx hb dX8_placeOf_33 ?_
      refine lv_iload hx hb dX8_placeOf_34 (lv_at hl 0 rfl) ?_
      refine lv_iadd hx hb dX8_placeOf_36 ?_
      cases hf
      exact hq rfl dX8_placeOf_37
    refine lv_icmp_ne hx hb dX8_placeOf_14 (tgt := 22) rfl (fun h5 => ?_) (fun h5 => ?_)
    · have hf := gif_f h5 hf
      refine lv_iload_n hx hb dX8_placeOf_22 rfl (lv_at hl 2 rfl) ?_
      exact kJ3 p3 ls hf (lv_sub hl [1, 0] rfl)
    · have hf := gif_t h5 hf
      refine lv_bipush hx hb dX8_placeOf_17 kcb_8 ?_
      refine lv_goto hx hb dX8_placeOf_19 (tgt := 23) rfl ?_
      exact kJ3 (8 : Int32) ls hf (lv_sub hl [1, 0] rfl)
  refine lv_icmp_ne hx hb dX8_placeOf_2 (tgt := 10) rfl (fun h6 => ?_) (fun h6 => ?_)
  · have hf := gif_f h6 hf
    refine lv_iload_n hx hb dX8_placeOf_10 rfl (lv_at hl 1 rfl) ?_
    exact kJ1 p2 ls hf (lv_sub hl [0, 2] rfl)
  · have hf := gif_t h6 hf
    refine lv_bipush hx hb dX8_placeOf_5 kcb_8 ?_
    refine lv_goto hx hb dX8_placeOf_7 (tgt := 11) rfl ?_
    exact kJ1 (8 : Int32) ls hf (lv_sub hl [0, 2] rfl)
theorem dX8_keyOfPlace_0 : decode cX8_keyOfPlace 0 = .ok (.iload_n 0, 1) := by decide +kernel
theorem dX8_keyOfPlace_1 : decode cX8_keyOfPlace 1 = .ok (.bipush 81, 2) := by decide +kernel
theorem dX8_keyOfPlace_3 : decode cX8_keyOfPlace 3 = .ok (.idiv, 1) := by decide +kernel
theorem dX8_keyOfPlace_4 : decode cX8_keyOfPlace 4 = .ok (.ireturn, 1) := by decide +kernel
def f_X8_keyOfPlace (p1 : Int32) : Option (Int32) :=
  some ((p1 / (81 : Int32)))
abbrev rm_X8_keyOfPlace : Room := { frames := 0, cells := 0, slots := 0, locals := 0 }
set_option maxHeartbeats 4000000 in
set_option maxRecDepth 100000 in
theorem c_X8_keyOfPlace (l : Launch) (g : GK) (p1 : Int32) (res : (Int32)) (hf : f_X8_keyOfPlace p1 = some res) : gR l yX8_keyOfPlace cX8_keyOfPlace 1 (some .int) rm_X8_keyOfPlace g [.int p1] [] (some (.int res)) := by
  refine gR_introI RX8 (by decide) rfl (Nat.le_of_ble_eq_true rfl) (fun p e s m args below meth c Q H locs ls hE hP hZ hS hq hl => ?_)
  have hl : lv_has ls 1 [(0, .int p1)] := hl
  have hx := hE.1
  have hb := hE.2.1
  rw [f_X8_keyOfPlace] at hf
  refine lv_iload_n hx hb dX8_keyOfPlace_0 rfl (lv_at hl 0 rfl) ?_
  refine lv_bipush hx hb dX8_keyOfPlace_1 kcb_81 ?_
  refine lv_idiv hx hb dX8_keyOfPlace_3 kne_81 ?_
  cases hf
  exact hq rfl dX8_keyOfPlace_4
theorem dX8_leftOfPlace_0 : decode cX8_leftOfPlace 0 = .ok (.iload_n 0, 1) := by decide +kernel
theorem dX8_leftOfPlace_1 : decode cX8_leftOfPlace 1 = .ok (.bipush 9, 2) := by decide +kernel
theorem dX8_leftOfPlace_3 : decode cX8_leftOfPlace 3 = .ok (.idiv, 1) := by decide +kernel
theorem dX8_leftOfPlace_4 : decode cX8_leftOfPlace 4 = .ok (.bipush 9, 2) := by decide +kernel
theorem dX8_leftOfPlace_6 : decode cX8_leftOfPlace 6 = .ok (.irem, 1) := by decide +kernel
theorem dX8_leftOfPlace_7 : decode cX8_leftOfPlace 7 = .ok (.istore_n 1, 1) := by decide +kernel
theorem dX8_leftOfPlace_8 : decode cX8_leftOfPlace 8 = .ok (.iload_n 1, 1) := by decide +kernel
theorem dX8_leftOfPlace_9 : decode cX8_leftOfPlace 9 = .ok (.bipush 8, 2) := by decide +kernel
theorem dX8_leftOfPlace_11 : decode cX8_leftOfPlace 11 = .ok (.if_icmp .ne 8, 3) := by decide +kernel
theorem dX8_leftOfPlace_14 : decode cX8_leftOfPlace 14 = .ok (.bipush (-2), 2) := by decide +kernel
theorem dX8_leftOfPlace_16 : decode cX8_leftOfPlace 16 = .ok (.goto 4, 3) := by decide +kernel
theorem dX8_leftOfPlace_19 : decode cX8_leftOfPlace 19 = .ok (.iload_n 1, 1) := by decide +kernel
theorem dX8_leftOfPlace_20 : decode cX8_leftOfPlace 20 = .ok (.ireturn, 1) := by decide +kernel
def f_X8_leftOfPlace (p1 : Int32) : Option (Int32) :=
  if (irem (p1 / (9 : Int32)) (9 : Int32)) = (8 : Int32) then some ((-2 : Int32))
  else some ((irem (p1 / (9 : Int32)) (9 : Int32)))
abbrev rm_X8_leftOfPlace : Room := { frames := 0, cells := 0, slots := 0, locals := 0 }
set_option maxHeartbeats 4000000 in
set_option maxRecDepth 100000 in
theorem c_X8_leftOfPlace (l : Launch) (g : GK) (p1 : Int32) (res : (Int32)) (hf : f_X8_leftOfPlace p1 = some res) : gR l yX8_leftOfPlace cX8_leftOfPlace 2 (some .int) rm_X8_leftOfPlace g [.int p1] [] (some (.int res)) := by
  refine gR_introI RX8 (by decide) rfl (Nat.le_of_ble_eq_true rfl) (fun p e s m args below meth c Q H locs ls hE hP hZ hS hq hl => ?_)
  have hl : lv_has ls 2 [(0, .int p1)] := hl
  have hx := hE.1
  have hb := hE.2.1
  rw [f_X8_leftOfPlace] at hf
  refine lv_iload_n hx hb dX8_leftOfPlace_0 rfl (lv_at hl 0 rfl) ?_
  refine lv_bipush hx hb dX8_leftOfPlace_1 kcb_9 ?_
  refine lv_idiv hx hb dX8_leftOfPlace_3 kne_9 ?_
  refine lv_bipush hx hb dX8_leftOfPlace_4 kcb_9 ?_
  refine lv_irem hx hb dX8_leftOfPlace_6 kne_9 ?_
  refine lv_istore_n hx hb dX8_leftOfPlace_7 rfl hl (by decide) (lv' := [(1, .int (irem (p1 / (9 : Int32)) (9 : Int32))), (0, .int p1)]) rfl (fun ls hl => ?_)
  refine lv_iload_n hx hb dX8_leftOfPlace_8 rfl (lv_at hl 0 rfl) ?_
  refine lv_bipush hx hb dX8_leftOfPlace_9 kcb_8 ?_
  refine lv_icmp_ne hx hb dX8_leftOfPlace_11 (tgt := 19) rfl (fun h1 => ?_) (fun h1 => ?_)
  · have hf := gif_f h1 hf
    refine lv_iload_n hx hb dX8_leftOfPlace_19 rfl (lv_at hl 0 rfl) ?_
    cases hf
    exact hq rfl dX8_leftOfPlace_20
  · have hf := gif_t h1 hf
    refine lv_bipush hx hb dX8_leftOfPlace_14 kcb_m2 ?_
    refine lv_goto hx hb dX8_leftOfPlace_16 (tgt := 20) rfl ?_
    cases hf
    exact hq rfl dX8_leftOfPlace_20
theorem dX8_rightOfPlace_0 : decode cX8_rightOfPlace 0 = .ok (.iload_n 0, 1) := by decide +kernel
theorem dX8_rightOfPlace_1 : decode cX8_rightOfPlace 1 = .ok (.bipush 9, 2) := by decide +kernel
theorem dX8_rightOfPlace_3 : decode cX8_rightOfPlace 3 = .ok (.irem, 1) := by decide +kernel
theorem dX8_rightOfPlace_4 : decode cX8_rightOfPlace 4 = .ok (.istore_n 1, 1) := by decide +kernel
theorem dX8_rightOfPlace_5 : decode cX8_rightOfPlace 5 = .ok (.iload_n 1, 1) := by decide +kernel
theorem dX8_rightOfPlace_6 : decode cX8_rightOfPlace 6 = .ok (.bipush 8, 2) := by decide +kernel
theorem dX8_rightOfPlace_8 : decode cX8_rightOfPlace 8 = .ok (.if_icmp .ne 8, 3) := by decide +kernel
theorem dX8_rightOfPlace_11 : decode cX8_rightOfPlace 11 = .ok (.bipush (-2), 2) := by decide +kernel
theorem dX8_rightOfPlace_13 : decode cX8_rightOfPlace 13 = .ok (.goto 4, 3) := by decide +kernel
theorem dX8_rightOfPlace_16 : decode cX8_rightOfPlace 16 = .ok (.iload_n 1, 1) := by decide +kernel
theorem dX8_rightOfPlace_17 : decode cX8_rightOfPlace 17 = .ok (.ireturn, 1) := by decide +kernel
def f_X8_rightOfPlace (p1 : Int32) : Option (Int32) :=
  if (irem p1 (9 : Int32)) = (8 : Int32) then some ((-2 : Int32))
  else some ((irem p1 (9 : Int32)))
abbrev rm_X8_rightOfPlace : Room := { frames := 0, cells := 0, slots := 0, locals := 0 }
set_option maxHeartbeats 4000000 in
set_option maxRecDepth 100000 in
theorem c_X8_rightOfPlace (l : Launch) (g : GK) (p1 : Int32) (res : (Int32)) (hf : f_X8_rightOfPlace p1 = some res) : gR l yX8_rightOfPlace cX8_rightOfPlace 2 (some .int) rm_X8_rightOfPlace g [.int p1] [] (some (.int res)) := by
  refine gR_introI RX8 (by decide) rfl (Nat.le_of_ble_eq_true rfl) (fun p e s m args below meth c Q H locs ls hE hP hZ hS hq hl => ?_)
  have hl : lv_has ls 2 [(0, .int p1)] := hl
  have hx := hE.1
  have hb := hE.2.1
  rw [f_X8_rightOfPlace] at hf
  refine lv_iload_n hx hb dX8_rightOfPlace_0 rfl (lv_at hl 0 rfl) ?_
  refine lv_bipush hx hb dX8_rightOfPlace_1 kcb_9 ?_
  refine lv_irem hx hb dX8_rightOfPlace_3 kne_9 ?_
  refine lv_istore_n hx hb dX8_rightOfPlace_4 rfl hl (by decide) (lv' := [(1, .int (irem p1 (9 : Int32))), (0, .int p1)]) rfl (fun ls hl => ?_)
  refine lv_iload_n hx hb dX8_rightOfPlace_5 rfl (lv_at hl 0 rfl) ?_
  refine lv_bipush hx hb dX8_rightOfPlace_6 kcb_8 ?_
  refine lv_icmp_ne hx hb dX8_rightOfPlace_8 (tgt := 16) rfl (fun h1 => ?_) (fun h1 => ?_)
  · have hf := gif_f h1 hf
    refine lv_iload_n hx hb dX8_rightOfPlace_16 rfl (lv_at hl 0 rfl) ?_
    cases hf
    exact hq rfl dX8_rightOfPlace_17
  · have hf := gif_t h1 hf
    refine lv_bipush hx hb dX8_rightOfPlace_11 kcb_m2 ?_
    refine lv_goto hx hb dX8_rightOfPlace_13 (tgt := 17) rfl ?_
    cases hf
    exact hq rfl dX8_rightOfPlace_17
theorem dX8_partOfRow_0 : decode cX8_partOfRow 0 = .ok (.iload_n 1, 1) := by decide +kernel
theorem dX8_partOfRow_1 : decode cX8_partOfRow 1 = .ok (.tableswitch 42 0 2 #[27, 32, 37], 27) := by decide +kernel
theorem dX8_partOfRow_28 : decode cX8_partOfRow 28 = .ok (.iload_n 0, 1) := by decide +kernel
theorem dX8_partOfRow_29 : decode cX8_partOfRow 29 = .ok (.invokestatic 359, 3) := by decide +kernel
theorem dX8_partOfRow_32 : decode cX8_partOfRow 32 = .ok (.ireturn, 1) := by decide +kernel
theorem dX8_partOfRow_33 : decode cX8_partOfRow 33 = .ok (.iload_n 0, 1) := by decide +kernel
theorem dX8_partOfRow_34 : decode cX8_partOfRow 34 = .ok (.invokestatic 362, 3) := by decide +kernel
theorem dX8_partOfRow_37 : decode cX8_partOfRow 37 = .ok (.ireturn, 1) := by decide +kernel
theorem dX8_partOfRow_38 : decode cX8_partOfRow 38 = .ok (.iload_n 0, 1) := by decide +kernel
theorem dX8_partOfRow_39 : decode cX8_partOfRow 39 = .ok (.invokestatic 365, 3) := by decide +kernel
theorem dX8_partOfRow_42 : decode cX8_partOfRow 42 = .ok (.ireturn, 1) := by decide +kernel
theorem dX8_partOfRow_43 : decode cX8_partOfRow 43 = .ok (.iload_n 2, 1) := by decide +kernel
theorem dX8_partOfRow_44 : decode cX8_partOfRow 44 = .ok (.ireturn, 1) := by decide +kernel
def f_X8_partOfRow (p1 : Int32) (p2 : Int32) (p3 : Int32) : Option (Int32) :=
  if p2 = (0 : Int32) then (f_X8_keyOfPlace p1).bind fun r2 =>
  some (r2)
  else if p2 = (1 : Int32) then (f_X8_leftOfPlace p1).bind fun r5 =>
  some (r5)
  else if p2 = (2 : Int32) then (f_X8_rightOfPlace p1).bind fun r8 =>
  some (r8)
  else some (p3)
abbrev rm_X8_partOfRow : Room := { frames := 1, cells := 0, slots := 0, locals := 21 }
set_option maxHeartbeats 4000000 in
set_option maxRecDepth 100000 in
theorem c_X8_partOfRow (l : Launch) (g : GK) (p1 : Int32) (p2 : Int32) (p3 : Int32) (res : (Int32)) (hf : f_X8_partOfRow p1 p2 p3 = some res) : gR l yX8_partOfRow cX8_partOfRow 3 (some .int) rm_X8_partOfRow g [.int p1, .int p2, .int p3] [] (some (.int res)) := by
  refine gR_introI RX8 (by decide) rfl (Nat.le_of_ble_eq_true rfl) (fun p e s m args below meth c Q H locs ls hE hP hZ hS hq hl => ?_)
  have hl : lv_has ls 3 [(0, .int p1), (1, .int p2), (2, .int p3)] := hl
  have hx := hE.1
  have hb := hE.2.1
  rw [f_X8_partOfRow] at hf
  refine lv_iload_n hx hb dX8_partOfRow_0 rfl (lv_at hl 1 rfl) ?_
  by_cases h1 : p2 = (0 : Int32)
  · have hf := gif_t h1 hf
    refine g_swIn hE h1 dX8_partOfRow_1 (0) ⟨by decide, by decide⟩ (by decide) (off := 27) rfl (tgt := 28) rfl ?_
    refine lv_iload_n hx hb dX8_partOfRow_28 rfl (lv_at hl 0 rfl) ?_
    obtain ⟨r2, hc3, hf⟩ := gbd hf
    refine gr_callS (As := [.int p1]) (rest := []) (st1 := [.int r2]) hE hl.1 ml_X8_359 (c_X8_keyOfPlace l g p1 r2 hc3) hZ hS hP [] rfl rfl rfl rfl ⟨rfl, rfl⟩ ⟨Nat.le_of_ble_eq_true rfl, Nat.le_of_ble_eq_true rfl⟩ ⟨Nat.le_refl _, Nat.le_refl _⟩ (Nat.le_of_ble_eq_true rfl) dX8_partOfRow_29 ?_
    cases hf
    exact hq rfl dX8_partOfRow_32
  have hf := gif_f h1 hf
  by_cases h4 : p2 = (1 : Int32)
  · have hf := gif_t h4 hf
    refine g_swIn hE h4 dX8_partOfRow_1 (1) ⟨by decide, by decide⟩ (by decide) (off := 32) rfl (tgt := 33) rfl ?_
    refine lv_iload_n hx hb dX8_partOfRow_33 rfl (lv_at hl 0 rfl) ?_
    obtain ⟨r5, hc6, hf⟩ := gbd hf
    refine gr_callS (As := [.int p1]) (rest := []) (st1 := [.int r5]) hE hl.1 ml_X8_362 (c_X8_leftOfPlace l g p1 r5 hc6) hZ hS hP [] rfl rfl rfl rfl ⟨rfl, rfl⟩ ⟨Nat.le_of_ble_eq_true rfl, Nat.le_of_ble_eq_true rfl⟩ ⟨Nat.le_refl _, Nat.le_refl _⟩ (Nat.le_of_ble_eq_true rfl) dX8_partOfRow_34 ?_
    cases hf
    exact hq rfl dX8_partOfRow_37
  have hf := gif_f h4 hf
  by_cases h7 : p2 = (2 : Int32)
  · have hf := gif_t h7 hf
    refine g_swIn hE h7 dX8_partOfRow_1 (2) ⟨by decide, by decide⟩ (by decide) (off := 37) rfl (tgt := 38) rfl ?_
    refine lv_iload_n hx hb dX8_partOfRow_38 rfl (lv_at hl 0 rfl) ?_
    obtain ⟨r8, hc9, hf⟩ := gbd hf
    refine gr_callS (As := [.int p1]) (rest := []) (st1 := [.int r8]) hE hl.1 ml_X8_365 (c_X8_rightOfPlace l g p1 r8 hc9) hZ hS hP [] rfl rfl rfl rfl ⟨rfl, rfl⟩ ⟨Nat.le_of_ble_eq_true rfl, Nat.le_of_ble_eq_true rfl⟩ ⟨Nat.le_refl _, Nat.le_refl _⟩ (Nat.le_of_ble_eq_true rfl) dX8_partOfRow_39 ?_
    cases hf
    exact hq rfl dX8_partOfRow_42
  have hf := gif_f h7 hf
  refine lv_tableOut hx hb dX8_partOfRow_1 (by have := nti h1 (k := 0) (by decide); have := nti h4 (k := 1) (by decide); have := nti h7 (k := 2) (by decide); omega) (tgt := 43) rfl ?_
  refine lv_iload_n hx hb dX8_partOfRow_43 rfl (lv_at hl 2 rfl) ?_
  cases hf
  exact hq rfl dX8_partOfRow_44
theorem dX8_countFilled_0 : decode cX8_countFilled 0 = .ok (.iconst 0, 1) := by decide +kernel
theorem dX8_countFilled_1 : decode cX8_countFilled 1 = .ok (.istore_n 2, 1) := by decide +kernel
theorem dX8_countFilled_2 : decode cX8_countFilled 2 = .ok (.iconst 0, 1) := by decide +kernel
theorem dX8_countFilled_3 : decode cX8_countFilled 3 = .ok (.istore_n 3, 1) := by decide +kernel
theorem dX8_countFilled_4 : decode cX8_countFilled 4 = .ok (.iload_n 3, 1) := by decide +kernel
theorem dX8_countFilled_5 : decode cX8_countFilled 5 = .ok (.sipush 648, 3) := by decide +kernel
theorem dX8_countFilled_8 : decode cX8_countFilled 8 = .ok (.if_icmp .ge 20, 3) := by decide +kernel
theorem dX8_countFilled_11 : decode cX8_countFilled 11 = .ok (.aload_n 0, 1) := by decide +kernel
theorem dX8_countFilled_12 : decode cX8_countFilled 12 = .ok (.iload_n 1, 1) := by decide +kernel
theorem dX8_countFilled_13 : decode cX8_countFilled 13 = .ok (.iload_n 3, 1) := by decide +kernel
theorem dX8_countFilled_14 : decode cX8_countFilled 14 = .ok (.iadd, 1) := by decide +kernel
theorem dX8_countFilled_15 : decode cX8_countFilled 15 = .ok (.iaload, 1) := by decide +kernel
theorem dX8_countFilled_16 : decode cX8_countFilled 16 = .ok (.ifCond .eq 6, 3) := by decide +kernel
theorem dX8_countFilled_19 : decode cX8_countFilled 19 = .ok (.iinc 2 1, 3) := by decide +kernel
theorem dX8_countFilled_22 : decode cX8_countFilled 22 = .ok (.iinc 3 1, 3) := by decide +kernel
theorem dX8_countFilled_25 : decode cX8_countFilled 25 = .ok (.goto (-21), 3) := by decide +kernel
theorem dX8_countFilled_28 : decode cX8_countFilled 28 = .ok (.iload_n 2, 1) := by decide +kernel
theorem dX8_countFilled_29 : decode cX8_countFilled 29 = .ok (.ireturn, 1) := by decide +kernel
def f_X8_countFilled_L4_5 (n0 : Nat) (t0 : (Nat → Int32)) (p1 : Int32) (K1 : (Int32 → Option (Int32))) : Nat → Int32 → Int32 → Option (Int32)
  | 0, _, _ => none
  | n6 + 1, x2_3, x3_4 => if (648 : Int32) ≤ x3_4 then K1 x2_3
  else if inb (p1 + x3_4) n0 then if (t0 (ix (p1 + x3_4))) = 0 then f_X8_countFilled_L4_5 n0 t0 p1 K1 n6 x2_3 (x3_4 + (1 : Int32))
  else f_X8_countFilled_L4_5 n0 t0 p1 K1 n6 (x2_3 + (1 : Int32)) (x3_4 + (1 : Int32)) else none
def f_X8_countFilled (n0 : Nat) (t0 : (Nat → Int32)) (p1 : Int32) : Option (Int32) :=
  glt (fun (x2_2 : Int32) => some (x2_2)) fun K1 =>
  f_X8_countFilled_L4_5 n0 t0 p1 K1 10000 (0 : Int32) (0 : Int32)
abbrev rm_X8_countFilled : Room := { frames := 0, cells := 0, slots := 0, locals := 0 }
set_option maxHeartbeats 4000000 in
set_option maxRecDepth 100000 in
theorem c_X8_countFilled (l : Launch) (g : GK) (d0 : Nat) (n0 : Nat) (t0 : Nat → Int32) (p1 : Int32) (res : (Int32)) (hf : f_X8_countFilled n0 t0 p1 = some res) : gR l yX8_countFilled cX8_countFilled 4 (some .int) rm_X8_countFilled g [.ref d0, .int p1] ([(d0, .inl (g.2.1, n0, .inl t0))]) (some (.int res)) := by
  refine gR_introI RX8 (by decide) rfl (Nat.le_of_ble_eq_true rfl) (fun p e s m args below meth c Q H locs ls hE hP hZ hS hq hl => ?_)
  have hl : lv_has ls 4 [(0, .ref d0), (1, .int p1)] := hl
  have hx := hE.1
  have hb := hE.2.1
  rw [f_X8_countFilled] at hf
  refine lv_iconst hx hb dX8_countFilled_0 kci_0 ?_
  refine lv_istore_n hx hb dX8_countFilled_1 rfl hl (by decide) (lv' := [(2, .int (0 : Int32)), (0, .ref d0), (1, .int p1)]) rfl (fun ls hl => ?_)
  refine lv_iconst hx hb dX8_countFilled_2 kci_0 ?_
  refine lv_istore_n hx hb dX8_countFilled_3 rfl hl (by decide) (lv' := [(3, .int (0 : Int32)), (2, .int (0 : Int32)), (0, .ref d0), (1, .int p1)]) rfl (fun ls hl => ?_)
  obtain ⟨K1, eK1, hf⟩ := gltd hf
  have kK1 : ∀ (x2_2 : Int32) (ls : Array Slot), K1 x2_2 = some res → lv_has ls 4 [(2, .int x2_2)] → W p l e rm_X8_countFilled s m args below meth c H locs 0 0 Q (F0 m 28 ls []) := by
    intro x2_2 ls hf hl
    rw [eK1] at hf
    refine lv_iload_n hx hb dX8_countFilled_28 rfl (lv_at hl 0 rfl) ?_
    cases hf
    exact hq rfl dX8_countFilled_29
  have lpn6 : ∀ (n6 : Nat) (x2_3 : Int32) (x3_4 : Int32) (ls : Array Slot), f_X8_countFilled_L4_5 n0 t0 p1 K1 n6 x2_3 x3_4 = some res → lv_has ls 4 [(0, .ref d0), (1, .int p1), (2, .int x2_3), (3, .int x3_4)] → W p l e rm_X8_countFilled s m args below meth c H locs 0 0 Q (F0 m 4 ls []) := by
    intro n6
    induction n6 with
    | zero => intro x2_3 x3_4 ls hf hl; rw [f_X8_countFilled_L4_5] at hf; cases hf
    | succ n6 ihn6 =>
      intro x2_3 x3_4 ls hf hl
      rw [f_X8_countFilled_L4_5] at hf
      refine lv_iload_n hx hb dX8_countFilled_4 rfl (lv_at hl 3 rfl) ?_
      refine lv_sipush hx hb dX8_countFilled_5 kcs_648 ?_
      refine lv_icmp_ge hx hb dX8_countFilled_8 (tgt := 28) rfl (fun h7 => ?_) (fun h7 => ?_)
      · have hf := gif_t h7 hf
        exact kK1 x2_3 ls hf (lv_sub hl [2] rfl)
      · have hf := gif_f h7 hf
        refine lv_aload_n hx hb dX8_countFilled_11 rfl (lv_at hl 0 rfl) ?_
        refine lv_iload_n hx hb dX8_countFilled_12 rfl (lv_at hl 1 rfl) ?_
        refine lv_iload_n hx hb dX8_countFilled_13 rfl (lv_at hl 3 rfl) ?_
        refine lv_iadd hx hb dX8_countFilled_14 ?_
        obtain ⟨hg8, hf⟩ := ggd hf
        refine g_iald hE hP 0 (f := t0) rfl hg8 dX8_countFilled_15 ?_
        refine lv_if_eq hx hb dX8_countFilled_16 (tgt := 22) rfl (fun h9 => ?_) (fun h9 => ?_)
        · have hf := gif_t h9 hf
          refine lv_iinc hx hb dX8_countFilled_22 hl (k := 3) (x := x3_4) rfl (kinc_1 _) (by decide) (lv' := [(3, .int (x3_4 + (1 : Int32))), (0, .ref d0), (1, .int p1), (2, .int x2_3)]) rfl (fun ls hl => ?_)
          refine lv_goto hx hb dX8_countFilled_25 (tgt := 4) rfl ?_
          exact ihn6 x2_3 (x3_4 + (1 : Int32)) ls hf (lv_sub hl [1, 2, 3, 0] rfl)
        · have hf := gif_f h9 hf
          refine lv_iinc hx hb dX8_countFilled_19 hl (k := 2) (x := x2_3) rfl (kinc_1 _) (by decide) (lv' := [(2, .int (x2_3 + (1 : Int32))), (0, .ref d0), (1, .int p1), (3, .int x3_4)]) rfl (fun ls hl => ?_)
          refine lv_iinc hx hb dX8_countFilled_22 hl (k := 3) (x := x3_4) rfl (kinc_1 _) (by decide) (lv' := [(3, .int (x3_4 + (1 : Int32))), (2, .int (x2_3 + (1 : Int32))), (0, .ref d0), (1, .int p1)]) rfl (fun ls hl => ?_)
          refine lv_goto hx hb dX8_countFilled_25 (tgt := 4) rfl ?_
          exact ihn6 (x2_3 + (1 : Int32)) (x3_4 + (1 : Int32)) ls hf (lv_sub hl [2, 3, 1, 0] rfl)
  exact lpn6 10000 (0 : Int32) (0 : Int32) ls hf (lv_sub hl [2, 3, 1, 0] rfl)
theorem dX8_filledPlace_0 : decode cX8_filledPlace 0 = .ok (.iconst 0, 1) := by decide +kernel
theorem dX8_filledPlace_1 : decode cX8_filledPlace 1 = .ok (.istore_n 3, 1) := by decide +kernel
theorem dX8_filledPlace_2 : decode cX8_filledPlace 2 = .ok (.iconst 0, 1) := by decide +kernel
theorem dX8_filledPlace_3 : decode cX8_filledPlace 3 = .ok (.istore 4, 2) := by decide +kernel
theorem dX8_filledPlace_5 : decode cX8_filledPlace 5 = .ok (.iload 4, 2) := by decide +kernel
theorem dX8_filledPlace_7 : decode cX8_filledPlace 7 = .ok (.sipush 648, 3) := by decide +kernel
theorem dX8_filledPlace_10 : decode cX8_filledPlace 10 = .ok (.if_icmp .ge 29, 3) := by decide +kernel
theorem dX8_filledPlace_13 : decode cX8_filledPlace 13 = .ok (.aload_n 0, 1) := by decide +kernel
theorem dX8_filledPlace_14 : decode cX8_filledPlace 14 = .ok (.iload_n 1, 1) := by decide +kernel
theorem dX8_filledPlace_15 : decode cX8_filledPlace 15 = .ok (.iload 4, 2) := by decide +kernel
theorem dX8_filledPlace_17 : decode cX8_filledPlace 17 = .ok (.iadd, 1) := by decide +kernel
theorem dX8_filledPlace_18 : decode cX8_filledPlace 18 = .ok (.iaload, 1) := by decide +kernel
theorem dX8_filledPlace_19 : decode cX8_filledPlace 19 = .ok (.ifCond .eq 14, 3) := by decide +kernel
theorem dX8_filledPlace_22 : decode cX8_filledPlace 22 = .ok (.iload_n 3, 1) := by decide +kernel
theorem dX8_filledPlace_23 : decode cX8_filledPlace 23 = .ok (.iload_n 2, 1) := by decide +kernel
theorem dX8_filledPlace_24 : decode cX8_filledPlace 24 = .ok (.if_icmp .ne 6, 3) := by decide +kernel
theorem dX8_filledPlace_27 : decode cX8_filledPlace 27 = .ok (.iload 4, 2) := by decide +kernel
theorem dX8_filledPlace_29 : decode cX8_filledPlace 29 = .ok (.ireturn, 1) := by decide +kernel
theorem dX8_filledPlace_30 : decode cX8_filledPlace 30 = .ok (.iinc 3 1, 3) := by decide +kernel
theorem dX8_filledPlace_33 : decode cX8_filledPlace 33 = .ok (.iinc 4 1, 3) := by decide +kernel
theorem dX8_filledPlace_36 : decode cX8_filledPlace 36 = .ok (.goto (-31), 3) := by decide +kernel
theorem dX8_filledPlace_39 : decode cX8_filledPlace 39 = .ok (.iconst (-1), 1) := by decide +kernel
theorem dX8_filledPlace_40 : decode cX8_filledPlace 40 = .ok (.ireturn, 1) := by decide +kernel
def f_X8_filledPlace_L5_6 (n0 : Nat) (t0 : (Nat → Int32)) (p1 : Int32) (p2 : Int32) (K1 : (Int32 → Option (Int32))) (K3 : (Unit → Option (Int32))) : Nat → Int32 → Int32 → Option (Int32)
  | 0, _, _ => none
  | n7 + 1, x3_4, x4_5 => if (648 : Int32) ≤ x4_5 then K3 ()
  else if inb (p1 + x4_5) n0 then if (t0 (ix (p1 + x4_5))) = 0 then f_X8_filledPlace_L5_6 n0 t0 p1 p2 K1 K3 n7 x3_4 (x4_5 + (1 : Int32))
  else if x3_4 = p2 then K1 x4_5
  else f_X8_filledPlace_L5_6 n0 t0 p1 p2 K1 K3 n7 (x3_4 + (1 : Int32)) (x4_5 + (1 : Int32)) else none
def f_X8_filledPlace (n0 : Nat) (t0 : (Nat → Int32)) (p1 : Int32) (p2 : Int32) : Option (Int32) :=
  glt (fun (x4_2 : Int32) => some (x4_2)) fun K1 =>
  glt (fun (_ : Unit) => some ((-1 : Int32))) fun K3 =>
  f_X8_filledPlace_L5_6 n0 t0 p1 p2 K1 K3 10000 (0 : Int32) (0 : Int32)
abbrev rm_X8_filledPlace : Room := { frames := 0, cells := 0, slots := 0, locals := 0 }
set_option maxHeartbeats 4000000 in
set_option maxRecDepth 100000 in
theorem c_X8_filledPlace (l : Launch) (g : GK) (d0 : Nat) (n0 : Nat) (t0 : Nat → Int32) (p1 : Int32) (p2 : Int32) (res : (Int32)) (hf : f_X8_filledPlace n0 t0 p1 p2 = some res) : gR l yX8_filledPlace cX8_filledPlace 5 (some .int) rm_X8_filledPlace g [.ref d0, .int p1, .int p2] ([(d0, .inl (g.2.1, n0, .inl t0))]) (some (.int res)) := by
  refine gR_introI RX8 (by decide) rfl (Nat.le_of_ble_eq_true rfl) (fun p e s m args below meth c Q H locs ls hE hP hZ hS hq hl => ?_)
  have hl : lv_has ls 5 [(0, .ref d0), (1, .int p1), (2, .int p2)] := hl
  have hx := hE.1
  have hb := hE.2.1
  rw [f_X8_filledPlace] at hf
  refine lv_iconst hx hb dX8_filledPlace_0 kci_0 ?_
  refine lv_istore_n hx hb dX8_filledPlace_1 rfl hl (by decide) (lv' := [(3, .int (0 : Int32)), (0, .ref d0), (1, .int p1), (2, .int p2)]) rfl (fun ls hl => ?_)
  refine lv_iconst hx hb dX8_filledPlace_2 kci_0 ?_
  refine lv_istore hx hb dX8_filledPlace_3 hl (by decide) (lv' := [(4, .int (0 : Int32)), (3, .int (0 : Int32)), (0, .ref d0), (1, .int p1), (2, .int p2)]) rfl (fun ls hl => ?_)
  obtain ⟨K1, eK1, hf⟩ := gltd hf
  have kK1 : ∀ (x4_2 : Int32) (ls : Array Slot), K1 x4_2 = some res → lv_has ls 5 [(4, .int x4_2)] → W p l e rm_X8_filledPlace s m args below meth c H locs 0 0 Q (F0 m 27 ls []) := by
    intro x4_2 ls hf hl
    rw [eK1] at hf
    refine lv_iload hx hb dX8_filledPlace_27 (lv_at hl 0 rfl) ?_
    cases hf
    exact hq rfl dX8_filledPlace_29
  obtain ⟨K3, eK3, hf⟩ := gltd hf
  have kK3 : ∀ (_ : Unit) (ls : Array Slot), K3 () = some res → lv_has ls 5 [] → W p l e rm_X8_filledPlace s m args below meth c H locs 0 0 Q (F0 m 39 ls []) := by
    intro _ ls hf hl
    rw [eK3] at hf
    refine lv_iconst hx hb dX8_filledPlace_39 kci_m1 ?_
    cases hf
    exact hq rfl dX8_filledPlace_40
  have lpn7 : ∀ (n7 : Nat) (x3_4 : Int32) (x4_5 : Int32) (ls : Array Slot), f_X8_filledPlace_L5_6 n0 t0 p1 p2 K1 K3 n7 x3_4 x4_5 = some res → lv_has ls 5 [(0, .ref d0), (1, .int p1), (2, .int p2), (3, .int x3_4), (4, .int x4_5)] → W p l e rm_X8_filledPlace s m args below meth c H locs 0 0 Q (F0 m 5 ls []) := by
    intro n7
    induction n7 with
    | zero => intro x3_4 x4_5 ls hf hl; rw [f_X8_filledPlace_L5_6] at hf; cases hf
    | succ n7 ihn7 =>
      intro x3_4 x4_5 ls hf hl
      rw [f_X8_filledPlace_L5_6] at hf
      refine lv_iload hx hb dX8_filledPlace_5 (lv_at hl 4 rfl) ?_
      refine lv_sipush hx hb dX8_filledPlace_7 kcs_648 ?_
      refine lv_icmp_ge hx hb dX8_filledPlace_10 (tgt := 39) rfl (fun h8 => ?_) (fun h8 => ?_)
      · have hf := gif_t h8 hf
        exact kK3 () ls hf (lv_sub hl [] rfl)
      · have hf := gif_f h8 hf
        refine lv_aload_n hx hb dX8_filledPlace_13 rfl (lv_at hl 0 rfl) ?_
        refine lv_iload_n hx hb dX8_filledPlace_14 rfl (lv_at hl 1 rfl) ?_
        refine lv_iload hx hb dX8_filledPlace_15 (lv_at hl 4 rfl) ?_
        refine lv_iadd hx hb dX8_filledPlace_17 ?_
        obtain ⟨hg9, hf⟩ := ggd hf
        refine g_iald hE hP 0 (f := t0) rfl hg9 dX8_filledPlace_18 ?_
        refine lv_if_eq hx hb dX8_filledPlace_19 (tgt := 33) rfl (fun h10 => ?_) (fun h10 => ?_)
        · have hf := gif_t h10 hf
          refine lv_iinc hx hb dX8_filledPlace_33 hl (k := 4) (x := x4_5) rfl (kinc_1 _) (by decide) (lv' := [(4, .int (x4_5 + (1 : Int32))), (0, .ref d0), (1, .int p1), (2, .int p2), (3, .int x3_4)]) rfl (fun ls hl => ?_)
          refine lv_goto hx hb dX8_filledPlace_36 (tgt := 5) rfl ?_
          exact ihn7 x3_4 (x4_5 + (1 : Int32)) ls hf (lv_sub hl [1, 2, 3, 4, 0] rfl)
        · have hf := gif_f h10 hf
          refine lv_iload_n hx hb dX8_filledPlace_22 rfl (lv_at hl 3 rfl) ?_
          refine lv_iload_n hx hb dX8_filledPlace_23 rfl (lv_at hl 2 rfl) ?_
          refine lv_icmp_ne hx hb dX8_filledPlace_24 (tgt := 30) rfl (fun h11 => ?_) (fun h11 => ?_)
          · have hf := gif_f h11 hf
            refine lv_iinc hx hb dX8_filledPlace_30 hl (k := 3) (x := x3_4) rfl (kinc_1 _) (by decide) (lv' := [(3, .int (x3_4 + (1 : Int32))), (0, .ref d0), (1, .int p1), (2, .int p2), (4, .int x4_5)]) rfl (fun ls hl => ?_)
            refine lv_iinc hx hb dX8_filledPlace_33 hl (k := 4) (x := x4_5) rfl (kinc_1 _) (by decide) (lv' := [(4, .int (x4_5 + (1 : Int32))), (3, .int (x3_4 + (1 : Int32))), (0, .ref d0), (1, .int p1), (2, .int p2)]) rfl (fun ls hl => ?_)
            refine lv_goto hx hb dX8_filledPlace_36 (tgt := 5) rfl ?_
            exact ihn7 (x3_4 + (1 : Int32)) (x4_5 + (1 : Int32)) ls hf (lv_sub hl [2, 3, 4, 1, 0] rfl)
          · have hf := gif_t h11 hf
            exact kK1 x4_5 ls hf (lv_sub hl [4] rfl)
  exact lpn7 10000 (0 : Int32) (0 : Int32) ls hf (lv_sub hl [2, 3, 4, 1, 0] rfl)
theorem dJ7_fill_53178_0 : decode cJ7_fill_53178 0 = .ok (.iconst 0, 1) := by decide +kernel
theorem dJ7_fill_53178_1 : decode cJ7_fill_53178 1 = .ok (.istore_n 2, 1) := by decide +kernel
theorem dJ7_fill_53178_2 : decode cJ7_fill_53178 2 = .ok (.aload_n 0, 1) := by decide +kernel
theorem dJ7_fill_53178_3 : decode cJ7_fill_53178 3 = .ok (.arraylength, 1) := by decide +kernel
theorem dJ7_fill_53178_4 : decode cJ7_fill_53178 4 = .ok (.istore_n 3, 1) := by decide +kernel
theorem dJ7_fill_53178_5 : decode cJ7_fill_53178 5 = .ok (.iload_n 2, 1) := by decide +kernel
theorem dJ7_fill_53178_6 : decode cJ7_fill_53178 6 = .ok (.iload_n 3, 1) := by decide +kernel
theorem dJ7_fill_53178_7 : decode cJ7_fill_53178 7 = .ok (.if_icmp .ge 13, 3) := by decide +kernel
theorem dJ7_fill_53178_10 : decode cJ7_fill_53178 10 = .ok (.aload_n 0, 1) := by decide +kernel
theorem dJ7_fill_53178_11 : decode cJ7_fill_53178 11 = .ok (.iload_n 2, 1) := by decide +kernel
theorem dJ7_fill_53178_12 : decode cJ7_fill_53178 12 = .ok (.iload_n 1, 1) := by decide +kernel
theorem dJ7_fill_53178_13 : decode cJ7_fill_53178 13 = .ok (.iastore, 1) := by decide +kernel
theorem dJ7_fill_53178_14 : decode cJ7_fill_53178 14 = .ok (.iinc 2 1, 3) := by decide +kernel
theorem dJ7_fill_53178_17 : decode cJ7_fill_53178 17 = .ok (.goto (-12), 3) := by decide +kernel
theorem dJ7_fill_53178_20 : decode cJ7_fill_53178 20 = .ok (.return_, 1) := by decide +kernel
def f_J7_fill_53178_L5_5 (n0 : Nat) (p1 : Int32) (K1 : ((Nat → Int32) → Option ((Nat → Int32)))) : Nat → Int32 → (Nat → Int32) → Option ((Nat → Int32))
  | 0, _, _ => none
  | n6 + 1, x2_3, s0_4 => if (Int32.ofNat n0) ≤ x2_3 then K1 s0_4
  else if inb x2_3 n0 then f_J7_fill_53178_L5_5 n0 p1 K1 n6 (x2_3 + (1 : Int32)) (upd s0_4 (ix x2_3) p1) else none
def f_J7_fill_53178 (n0 : Nat) (t0 : (Nat → Int32)) (p1 : Int32) : Option ((Nat → Int32)) :=
  glt (fun (s0_2 : (Nat → Int32)) => some (s0_2)) fun K1 =>
  f_J7_fill_53178_L5_5 n0 p1 K1 10000 (0 : Int32) t0
abbrev rm_J7_fill_53178 : Room := { frames := 0, cells := 0, slots := 0, locals := 0 }
set_option maxHeartbeats 4000000 in
set_option maxRecDepth 100000 in
theorem c_J7_fill_53178 (l : Launch) (g : GK) (d0 : Nat) (n0 : Nat) (t0 : Nat → Int32) (p1 : Int32) (res : ((Nat → Int32))) (hf : f_J7_fill_53178 n0 t0 p1 = some res) : gM l yJ7_fill_53178 cJ7_fill_53178 4 none rm_J7_fill_53178 g [.ref d0, .int p1] ([(d0, .inl (g.2.1, n0, .inl t0))]) (fun _ : Unit => none) (fun _ => ([(d0, .inl (g.2.1, n0, .inl res))])) 0 0 := by
  refine gM_introV RJ7 (by decide) rfl (Nat.le_of_ble_eq_true rfl) (fun p e s m args below meth c Q H locs ls A hE hnm hZ hA hP hD hS hq hl => ?_)
  have hl : lv_has ls 4 [(0, .ref d0), (1, .int p1)] := hl
  have hx := hE.1
  have hb := hE.2.1
  rw [f_J7_fill_53178] at hf
  refine lv_iconst hx hb dJ7_fill_53178_0 kci_0 ?_
  refine lv_istore_n hx hb dJ7_fill_53178_1 rfl hl (by decide) (lv' := [(2, .int (0 : Int32)), (0, .ref d0), (1, .int p1)]) rfl (fun ls hl => ?_)
  refine lv_aload_n hx hb dJ7_fill_53178_2 rfl (lv_at hl 1 rfl) ?_
  refine g_alen hE hP 0 0 rfl rfl (v := (Int32.ofNat n0)) rfl dJ7_fill_53178_3 ?_
  refine lv_istore_n hx hb dJ7_fill_53178_4 rfl hl (by decide) (lv' := [(3, .int (Int32.ofNat n0)), (2, .int (0 : Int32)), (0, .ref d0), (1, .int p1)]) rfl (fun ls hl => ?_)
  obtain ⟨K1, eK1, hf⟩ := gltd hf
  have kK1 : ∀ (s0_2 : (Nat → Int32)) (ls : Array Slot) (H : Heap) (locs : List Loc), K1 s0_2 = some res → lv_has ls 4 [] → gP g ([(d0, .inl (g.2.1, n0, .inl s0_2))]) H → va_D A ([(d0, .inl (g.2.1, n0, .inl s0_2))]) → va_S A s.heap H locs → W p l e rm_J7_fill_53178 s m args below meth c H locs 0 0 Q (F0 m 20 ls []) := by
    intro s0_2 ls H locs hf hl hP hD hS
    rw [eK1] at hf
    cases hf
    exact hq () rfl hP hD hS dJ7_fill_53178_20
  have lpn6 : ∀ (n6 : Nat) (x2_3 : Int32) (s0_4 : (Nat → Int32)) (ls : Array Slot) (H : Heap) (locs : List Loc), f_J7_fill_53178_L5_5 n0 p1 K1 n6 x2_3 s0_4 = some res → lv_has ls 4 [(0, .ref d0), (1, .int p1), (2, .int x2_3), (3, .int (Int32.ofNat n0))] → gP g ([(d0, .inl (g.2.1, n0, .inl s0_4))]) H → va_D A ([(d0, .inl (g.2.1, n0, .inl s0_4))]) → va_S A s.heap H locs → W p l e rm_J7_fill_53178 s m args below meth c H locs 0 0 Q (F0 m 5 ls []) := by
    intro n6
    induction n6 with
    | zero => intro x2_3 s0_4 ls H locs hf hl hP hD hS; rw [f_J7_fill_53178_L5_5] at hf; cases hf
    | succ n6 ihn6 =>
      intro x2_3 s0_4 ls H locs hf hl hP hD hS
      rw [f_J7_fill_53178_L5_5] at hf
      refine lv_iload_n hx hb dJ7_fill_53178_5 rfl (lv_at hl 2 rfl) ?_
      refine lv_iload_n hx hb dJ7_fill_53178_6 rfl (lv_at hl 3 rfl) ?_
      refine lv_icmp_ge hx hb dJ7_fill_53178_7 (tgt := 20) rfl (fun h7 => ?_) (fun h7 => ?_)
      · have hf := gif_t h7 hf
        exact kK1 s0_4 ls H locs hf (lv_sub hl [] rfl) hP hD hS
      · have hf := gif_f h7 hf
        refine lv_aload_n hx hb dJ7_fill_53178_10 rfl (lv_at hl 0 rfl) ?_
        refine lv_iload_n hx hb dJ7_fill_53178_11 rfl (lv_at hl 2 rfl) ?_
        refine lv_iload_n hx hb dJ7_fill_53178_12 rfl (lv_at hl 1 rfl) ?_
        obtain ⟨hg8, hf⟩ := ggd hf
        refine g_iast hE hP hD hS 0 (f := s0_4) rfl hg8 ([(d0, .inl (g.2.1, n0, .inl (upd s0_4 (ix x2_3) p1)))]) rfl dJ7_fill_53178_13 (fun H locs hP hD hS => ?_)
        refine lv_iinc hx hb dJ7_fill_53178_14 hl (k := 2) (x := x2_3) rfl (kinc_1 _) (by decide) (lv' := [(2, .int (x2_3 + (1 : Int32))), (0, .ref d0), (1, .int p1), (3, .int (Int32.ofNat n0))]) rfl (fun ls hl => ?_)
        refine lv_goto hx hb dJ7_fill_53178_17 (tgt := 5) rfl ?_
        exact ihn6 (x2_3 + (1 : Int32)) (upd s0_4 (ix x2_3) p1) ls H locs hf (lv_sub hl [1, 2, 0, 3] rfl) hP hD hS
  exact lpn6 10000 (0 : Int32) t0 ls H locs hf (lv_sub hl [2, 3, 1, 0] rfl) hP hD hS
