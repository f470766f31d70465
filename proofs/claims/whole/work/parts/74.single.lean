theorem dX8_single_0 : decode cX8_single 0 = .ok (.aload_n 0, 1) := by decide +kernel
theorem dX8_single_1 : decode cX8_single 1 = .ok (.getfield 31, 3) := by decide +kernel
theorem dX8_single_4 : decode cX8_single 4 = .ok (.ifnonnull 7, 3) := by decide +kernel
theorem dX8_single_7 : decode cX8_single 7 = .ok (.iconst (-1), 1) := by decide +kernel
theorem dX8_single_8 : decode cX8_single 8 = .ok (.goto 11, 3) := by decide +kernel
theorem dX8_single_11 : decode cX8_single 11 = .ok (.aload_n 0, 1) := by decide +kernel
theorem dX8_single_12 : decode cX8_single 12 = .ok (.getfield 31, 3) := by decide +kernel
theorem dX8_single_15 : decode cX8_single 15 = .ok (.iload_n 1, 1) := by decide +kernel
theorem dX8_single_16 : decode cX8_single 16 = .ok (.invokevirtual 318, 3) := by decide +kernel
theorem dX8_single_19 : decode cX8_single 19 = .ok (.istore_n 2, 1) := by decide +kernel
theorem dX8_single_20 : decode cX8_single 20 = .ok (.iload_n 2, 1) := by decide +kernel
theorem dX8_single_21 : decode cX8_single 21 = .ok (.iconst (-1), 1) := by decide +kernel
theorem dX8_single_22 : decode cX8_single 22 = .ok (.if_icmp .ne 14, 3) := by decide +kernel
theorem dX8_single_25 : decode cX8_single 25 = .ok (.new 321, 3) := by decide +kernel
theorem dX8_single_28 : decode cX8_single 28 = .ok (.dup, 1) := by decide +kernel
theorem dX8_single_29 : decode cX8_single 29 = .ok (.ldc_w 323, 3) := by decide +kernel
theorem dX8_single_32 : decode cX8_single 32 = .ok (.invokespecial 325, 3) := by decide +kernel
theorem dX8_single_35 : decode cX8_single 35 = .ok (.athrow, 1) := by decide +kernel
theorem dX8_single_36 : decode cX8_single 36 = .ok (.iload_n 2, 1) := by decide +kernel
theorem dX8_single_37 : decode cX8_single 37 = .ok (.ireturn, 1) := by decide +kernel
def f_X8_single_B (s0 : OuBT) (p1 : Int32) : Option (Int32) :=
  (f_X1_lonelyKey (OuB_books s0) p1).bind fun r1 =>
  if r1 = (-1 : Int32) then none
  else some (r1)
abbrev rm_X8_single_B : Room := { frames := 3, cells := 0, slots := 0, locals := 68 }
set_option maxHeartbeats 4000000 in
set_option maxRecDepth 100000 in
theorem c_X8_single_B (l : Launch) (g : GK) (a0 : Nat → Nat) (v_shelf : Value) (s0 : OuBT) (p1 : Int32) (res : (Int32)) (hf : f_X8_single_B s0 p1 = some res) : gR l yX8_single cX8_single 3 (some .int) rm_X8_single_B g [.ref (a0 0), .int p1] (OuB_c g a0 v_shelf s0) (some (.int res)) := by
  refine gR_introI RX8 (by decide) rfl (Nat.le_of_ble_eq_true rfl) (fun p e s m args below meth c Q H locs ls hE hP hZ hS hq hl => ?_)
  have hl : lv_has ls 3 [(0, .ref (a0 0)), (1, .int p1)] := hl
  have hx := hE.1
  have hb := hE.2.1
  rw [f_X8_single_B] at hf
  refine lv_aload_n hx hb dX8_single_0 rfl (lv_at hl 0 rfl) ?_
  refine g_get hE okX8 fl_X8_31 hP 0 rfl (v := .ref (a0 19)) rfl dX8_single_1 ?_
  refine lv_ifnonnull hx hb dX8_single_4 (tgt := 11) rfl ?_
  refine lv_aload_n hx hb dX8_single_11 rfl (lv_at hl 0 rfl) ?_
  refine g_get hE okX8 fl_X8_31 hP 0 rfl (v := .ref (a0 19)) rfl dX8_single_12 ?_
  refine lv_iload_n hx hb dX8_single_15 rfl (lv_at hl 1 rfl) ?_
  obtain ⟨r1, hc2, hf⟩ := gbd hf
  refine gr_callV (As := [.int p1]) (rest := []) (st1 := [.int r1]) hE hl.1 ml_X8_318 (c_X1_lonelyKey l g (fun k => a0 (k + 19)) (OuB_books s0) p1 r1 hc2) hZ hS hP [(19, 25)] rfl okX1 rfl rfl rfl rfl ⟨rfl, rfl⟩ ⟨Nat.le_of_ble_eq_true rfl, Nat.le_of_ble_eq_true rfl⟩ ⟨Nat.le_refl _, Nat.le_refl _⟩ (Nat.le_of_ble_eq_true rfl) dX8_single_16 ?_
  refine lv_istore_n hx hb dX8_single_19 rfl hl (by decide) (lv' := [(2, .int r1), (0, .ref (a0 0)), (1, .int p1)]) rfl (fun ls hl => ?_)
  refine lv_iload_n hx hb dX8_single_20 rfl (lv_at hl 0 rfl) ?_
  refine lv_iconst hx hb dX8_single_21 kci_m1 ?_
  refine lv_icmp_ne hx hb dX8_single_22 (tgt := 36) rfl (fun h3 => ?_) (fun h3 => ?_)
  · have hf := gif_f h3 hf
    refine lv_iload_n hx hb dX8_single_36 rfl (lv_at hl 0 rfl) ?_
    cases hf
    exact hq rfl dX8_single_37
  · have hf := gif_t h3 hf
    cases hf
