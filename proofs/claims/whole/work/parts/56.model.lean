theorem kcs_650 : (Int16.ofInt (650)).toInt32 = (650 : Int32) := by decide
theorem kd_X9_384 : Cond.constant RX9 384 (65536 : Int32) ∈ TBL := tb (in8 (List.mem_of_getElem? (i := 81) (by decide +kernel))) (by decide +kernel)
theorem kd_X9_385 : Cond.constant RX9 385 (65537 : Int32) ∈ TBL := tb (in8 (List.mem_of_getElem? (i := 82) (by decide +kernel))) (by decide +kernel)
theorem dX9_hasBegun_0 : decode cX9_hasBegun 0 = .ok (.aload_n 0, 1) := by decide +kernel
theorem dX9_hasBegun_1 : decode cX9_hasBegun 1 = .ok (.getfield 218, 3) := by decide +kernel
theorem dX9_hasBegun_4 : decode cX9_hasBegun 4 = .ok (.ifCond .eq 30, 3) := by decide +kernel
theorem dX9_hasBegun_7 : decode cX9_hasBegun 7 = .ok (.iload_n 1, 1) := by decide +kernel
theorem dX9_hasBegun_8 : decode cX9_hasBegun 8 = .ok (.iconst 0, 1) := by decide +kernel
theorem dX9_hasBegun_9 : decode cX9_hasBegun 9 = .ok (.iconst 3, 1) := by decide +kernel
theorem dX9_hasBegun_10 : decode cX9_hasBegun 10 = .ok (.invokestatic 90, 3) := by decide +kernel
theorem dX9_hasBegun_13 : decode cX9_hasBegun 13 = .ok (.ifCond .eq 21, 3) := by decide +kernel
theorem dX9_hasBegun_16 : decode cX9_hasBegun 16 = .ok (.aload_n 0, 1) := by decide +kernel
theorem dX9_hasBegun_17 : decode cX9_hasBegun 17 = .ok (.iconst 0, 1) := by decide +kernel
theorem dX9_hasBegun_18 : decode cX9_hasBegun 18 = .ok (.iload_n 1, 1) := by decide +kernel
theorem dX9_hasBegun_19 : decode cX9_hasBegun 19 = .ok (.iconst 0, 1) := by decide +kernel
theorem dX9_hasBegun_20 : decode cX9_hasBegun 20 = .ok (.invokestatic 359, 3) := by decide +kernel
theorem dX9_hasBegun_23 : decode cX9_hasBegun 23 = .ok (.invokevirtual 200, 3) := by decide +kernel
theorem dX9_hasBegun_26 : decode cX9_hasBegun 26 = .ok (.iconst 1, 1) := by decide +kernel
theorem dX9_hasBegun_27 : decode cX9_hasBegun 27 = .ok (.if_icmp .ne 7, 3) := by decide +kernel
theorem dX9_hasBegun_30 : decode cX9_hasBegun 30 = .ok (.iconst 1, 1) := by decide +kernel
theorem dX9_hasBegun_31 : decode cX9_hasBegun 31 = .ok (.goto 4, 3) := by decide +kernel
theorem dX9_hasBegun_34 : decode cX9_hasBegun 34 = .ok (.iconst 0, 1) := by decide +kernel
theorem dX9_hasBegun_35 : decode cX9_hasBegun 35 = .ok (.ireturn, 1) := by decide +kernel
def f_X9_hasBegun (s0 : MoT) (p1 : Int32) : Option (Int32) :=
  if (Mo_isThere s0) = 0 then some ((0 : Int32))
  else (f_X9_in p1 (0 : Int32) (3 : Int32)).bind fun r2 =>
  if r2 = 0 then some ((0 : Int32))
  else (f_X9_subAt p1 (0 : Int32)).bind fun r5 =>
  (f_X9_get s0 (0 : Int32) r5).bind fun r7 =>
  if r7 = (1 : Int32) then some ((1 : Int32))
  else some ((0 : Int32))
abbrev rm_X9_hasBegun : Room := { frames := 1, cells := 0, slots := 0, locals := 22 }
set_option maxHeartbeats 4000000 in
set_option maxRecDepth 100000 in
theorem c_X9_hasBegun (l : Launch) (g : GK) (a0 : Nat → Nat) (s0 : MoT) (p1 : Int32) (res : (Int32)) (hf : f_X9_hasBegun s0 p1 = some res) : gR l yX9_hasBegun cX9_hasBegun 2 (some .boolean) rm_X9_hasBegun g [.ref (a0 0), .int p1] (Mo_c g a0 s0) (some (.int res)) := by
  refine gR_introZ RX9 (by decide) rfl (Nat.le_of_ble_eq_true rfl) (fun p e s m args below meth c Q H locs ls hE hP hZ hS hq hl => ?_)
  have hl : lv_has ls 2 [(0, .ref (a0 0)), (1, .int p1)] := hl
  have hx := hE.1
  have hb := hE.2.1
  rw [f_X9_hasBegun] at hf
  refine lv_aload_n hx hb dX9_hasBegun_0 rfl (lv_at hl 0 rfl) ?_
  refine g_get hE okX9 fl_X9_218 hP 0 rfl (v := .int (Mo_isThere s0)) rfl dX9_hasBegun_1 ?_
  refine lv_if_eq hx hb dX9_hasBegun_4 (tgt := 34) rfl (fun h1 => ?_) (fun h1 => ?_)
  · have hf := gif_t h1 hf
    refine lv_iconst hx hb dX9_hasBegun_34 kci_0 ?_
    cases hf
    exact hq (by decide) rfl dX9_hasBegun_35
  · have hf := gif_f h1 hf
    refine lv_iload_n hx hb dX9_hasBegun_7 rfl (lv_at hl 1 rfl) ?_
    refine lv_iconst hx hb dX9_hasBegun_8 kci_0 ?_
    refine lv_iconst hx hb dX9_hasBegun_9 kci_3 ?_
    obtain ⟨r2, hc3, hf⟩ := gbd hf
    refine gr_callS (As := [.int p1, .int (0 : Int32), .int (3 : Int32)]) (rest := []) (st1 := [.int r2]) hE hl.1 ml_X9_90 (c_X9_in l g p1 (0 : Int32) (3 : Int32) r2 hc3) hZ hS hP [] rfl rfl rfl rfl ⟨rfl, rfl⟩ ⟨Nat.le_of_ble_eq_true rfl, Nat.le_of_ble_eq_true rfl⟩ ⟨Nat.le_refl _, Nat.le_refl _⟩ (Nat.le_of_ble_eq_true rfl) dX9_hasBegun_10 ?_
    refine lv_if_eq hx hb dX9_hasBegun_13 (tgt := 34) rfl (fun h4 => ?_) (fun h4 => ?_)
    · have hf := gif_t h4 hf
      refine lv_iconst hx hb dX9_hasBegun_34 kci_0 ?_
      cases hf
      exact hq (by decide) rfl dX9_hasBegun_35
    · have hf := gif_f h4 hf
      refine lv_aload_n hx hb dX9_hasBegun_16 rfl (lv_at hl 0 rfl) ?_
      refine lv_iconst hx hb dX9_hasBegun_17 kci_0 ?_
      refine lv_iload_n hx hb dX9_hasBegun_18 rfl (lv_at hl 1 rfl) ?_
      refine lv_iconst hx hb dX9_hasBegun_19 kci_0 ?_
      obtain ⟨r5, hc6, hf⟩ := gbd hf
      refine gr_callS (As := [.int p1, .int (0 : Int32)]) (rest := [.int (0 : Int32), .ref (a0 0)]) (st1 := [.int r5, .int (0 : Int32), .ref (a0 0)]) hE hl.1 ml_X9_359 (c_X9_subAt l g p1 (0 : Int32) r5 hc6) hZ hS hP [] rfl rfl rfl rfl ⟨rfl, rfl⟩ ⟨Nat.le_of_ble_eq_true rfl, Nat.le_of_ble_eq_true rfl⟩ ⟨Nat.le_refl _, Nat.le_refl _⟩ (Nat.le_of_ble_eq_true rfl) dX9_hasBegun_20 ?_
      obtain ⟨r7, hc8, hf⟩ := gbd hf
      refine gr_callV (As := [.int (0 : Int32), .int r5]) (rest := []) (st1 := [.int r7]) hE hl.1 ml_X9_200 (c_X9_get l g a0 s0 (0 : Int32) r5 r7 hc8) hZ hS hP [(0, 14)] rfl okX9 rfl rfl rfl rfl ⟨rfl, rfl⟩ ⟨Nat.le_of_ble_eq_true rfl, Nat.le_of_ble_eq_true rfl⟩ ⟨Nat.le_refl _, Nat.le_refl _⟩ (Nat.le_of_ble_eq_true rfl) dX9_hasBegun_23 ?_
      refine lv_iconst hx hb dX9_hasBegun_26 kci_1 ?_
      refine lv_icmp_ne hx hb dX9_hasBegun_27 (tgt := 34) rfl (fun h9 => ?_) (fun h9 => ?_)
      · have hf := gif_f h9 hf
        refine lv_iconst hx hb dX9_hasBegun_34 kci_0 ?_
        cases hf
        exact hq (by decide) rfl dX9_hasBegun_35
      · have hf := gif_t h9 hf
        refine lv_iconst hx hb dX9_hasBegun_30 kci_1 ?_
        refine lv_goto hx hb dX9_hasBegun_31 (tgt := 35) rfl ?_
        cases hf
        exact hq (by decide) rfl dX9_hasBegun_35
theorem dX9_sentAt_0 : decode cX9_sentAt 0 = .ok (.iload_n 1, 1) := by decide +kernel
theorem dX9_sentAt_1 : decode cX9_sentAt 1 = .ok (.bipush 9, 2) := by decide +kernel
theorem dX9_sentAt_3 : decode cX9_sentAt 3 = .ok (.idiv, 1) := by decide +kernel
theorem dX9_sentAt_4 : decode cX9_sentAt 4 = .ok (.bipush 9, 2) := by decide +kernel
theorem dX9_sentAt_6 : decode cX9_sentAt 6 = .ok (.irem, 1) := by decide +kernel
theorem dX9_sentAt_7 : decode cX9_sentAt 7 = .ok (.istore_n 2, 1) := by decide +kernel
theorem dX9_sentAt_8 : decode cX9_sentAt 8 = .ok (.iload_n 1, 1) := by decide +kernel
theorem dX9_sentAt_9 : decode cX9_sentAt 9 = .ok (.bipush 9, 2) := by decide +kernel
theorem dX9_sentAt_11 : decode cX9_sentAt 11 = .ok (.irem, 1) := by decide +kernel
theorem dX9_sentAt_12 : decode cX9_sentAt 12 = .ok (.istore_n 3, 1) := by decide +kernel
theorem dX9_sentAt_13 : decode cX9_sentAt 13 = .ok (.iload_n 2, 1) := by decide +kernel
theorem dX9_sentAt_14 : decode cX9_sentAt 14 = .ok (.bipush 8, 2) := by decide +kernel
theorem dX9_sentAt_16 : decode cX9_sentAt 16 = .ok (.if_icmp .lt 9, 3) := by decide +kernel
theorem dX9_sentAt_19 : decode cX9_sentAt 19 = .ok (.iload_n 3, 1) := by decide +kernel
theorem dX9_sentAt_20 : decode cX9_sentAt 20 = .ok (.bipush 8, 2) := by decide +kernel
theorem dX9_sentAt_22 : decode cX9_sentAt 22 = .ok (.if_icmp .ge 17, 3) := by decide +kernel
theorem dX9_sentAt_25 : decode cX9_sentAt 25 = .ok (.aload_n 0, 1) := by decide +kernel
theorem dX9_sentAt_26 : decode cX9_sentAt 26 = .ok (.iconst 0, 1) := by decide +kernel
theorem dX9_sentAt_27 : decode cX9_sentAt 27 = .ok (.iload_n 1, 1) := by decide +kernel
theorem dX9_sentAt_28 : decode cX9_sentAt 28 = .ok (.bipush 81, 2) := by decide +kernel
theorem dX9_sentAt_30 : decode cX9_sentAt 30 = .ok (.idiv, 1) := by decide +kernel
theorem dX9_sentAt_31 : decode cX9_sentAt 31 = .ok (.iload_n 2, 1) := by decide +kernel
theorem dX9_sentAt_32 : decode cX9_sentAt 32 = .ok (.iload_n 3, 1) := by decide +kernel
theorem dX9_sentAt_33 : decode cX9_sentAt 33 = .ok (.invokevirtual 315, 3) := by decide +kernel
theorem dX9_sentAt_36 : decode cX9_sentAt 36 = .ok (.goto 4, 3) := by decide +kernel
theorem dX9_sentAt_39 : decode cX9_sentAt 39 = .ok (.iconst 0, 1) := by decide +kernel
theorem dX9_sentAt_40 : decode cX9_sentAt 40 = .ok (.ireturn, 1) := by decide +kernel
def f_X9_sentAt (s0 : MoT) (p1 : Int32) : Option (Int32) :=
  glt (fun (_ : Unit) => (f_X9_sentOf s0 (0 : Int32) (p1 / (81 : Int32)) (irem (p1 / (9 : Int32)) (9 : Int32)) (irem p1 (9 : Int32))).bind fun r2 =>
  some (r2)) fun J1 =>
  if (irem (p1 / (9 : Int32)) (9 : Int32)) < (8 : Int32) then J1 ()
  else if (8 : Int32) ≤ (irem p1 (9 : Int32)) then some ((0 : Int32))
  else J1 ()
abbrev rm_X9_sentAt : Room := { frames := 6, cells := 0, slots := 0, locals := 144 }
set_option maxHeartbeats 4000000 in
set_option maxRecDepth 100000 in
theorem c_X9_sentAt (l : Launch) (g : GK) (a0 : Nat → Nat) (s0 : MoT) (p1 : Int32) (res : (Int32)) (hf : f_X9_sentAt s0 p1 = some res) : gR l yX9_sentAt cX9_sentAt 4 (some .int) rm_X9_sentAt g [.ref (a0 0), .int p1] (Mo_c g a0 s0) (some (.int res)) := by
  refine gR_introI RX9 (by decide) rfl (Nat.le_of_ble_eq_true rfl) (fun p e s m args below meth c Q H locs ls hE hP hZ hS hq hl => ?_)
  have hl : lv_has ls 4 [(0, .ref (a0 0)), (1, .int p1)] := hl
  have hx := hE.1
  have hb := hE.2.1
  rw [f_X9_sentAt] at hf
  refine lv_iload_n hx hb dX9_sentAt_0 rfl (lv_at hl 1 rfl) ?_
  refine lv_bipush hx hb dX9_sentAt_1 kcb_9 ?_
  refine lv_idiv hx hb dX9_sentAt_3 kne_9 ?_
  refine lv_bipush hx hb dX9_sentAt_4 kcb_9 ?_
  refine lv_irem hx hb dX9_sentAt_6 kne_9 ?_
  refine lv_istore_n hx hb dX9_sentAt_7 rfl hl (by decide) (lv' := [(2, .int (irem (p1 / (9 : Int32)) (9 : Int32))), (0, .ref (a0 0)), (1, .int p1)]) rfl (fun ls hl => ?_)
  refine lv_iload_n hx hb dX9_sentAt_8 rfl (lv_at hl 2 rfl) ?_
  refine lv_bipush hx hb dX9_sentAt_9 kcb_9 ?_
  refine lv_irem hx hb dX9_sentAt_11 kne_9 ?_
  refine lv_istore_n hx hb dX9_sentAt_12 rfl hl (by decide) (lv' := [(3, .int (irem p1 (9 : Int32))), (2, .int (irem (p1 / (9 : Int32)) (9 : Int32))), (0, .ref (a0 0)), (1, .int p1)]) rfl (fun ls hl => ?_)
  refine lv_iload_n hx hb dX9_sentAt_13 rfl (lv_at hl 1 rfl) ?_
  refine lv_bipush hx hb dX9_sentAt_14 kcb_8 ?_
  obtain ⟨J1, eJ1, hf⟩ := gltd hf
  have kJ1 : ∀ (_ : Unit) (ls : Array Slot), J1 () = some res → lv_has ls 4 [(0, .ref (a0 0)), (1, .int p1), (2, .int (irem (p1 / (9 : Int32)) (9 : Int32))), (3, .int (irem p1 (9 : Int32)))] → W p l e rm_X9_sentAt s m args below meth c H locs 0 0 Q (F0 m 25 ls []) := by
    intro _ ls hf hl
    rw [eJ1] at hf
    refine lv_aload_n hx hb dX9_sentAt_25 rfl (lv_at hl 0 rfl) ?_
    refine lv_iconst hx hb dX9_sentAt_26 kci_0 ?_
    refine lv_iload_n hx hb dX9_sentAt_27 rfl (lv_at hl 1 rfl) ?_
    refine lv_bipush hx hb dX9_sentAt_28 kcb_81 ?_
    refine lv_idiv hx hb dX9_sentAt_30 kne_81 ?_
    refine lv_iload_n hx hb dX9_sentAt_31 rfl (lv_at hl 2 rfl) ?_
    refine lv_iload_n hx hb dX9_sentAt_32 rfl (lv_at hl 3 rfl) ?_
    obtain ⟨r2, hc3, hf⟩ := gbd hf
    refine gr_callV (As := [.int (0 : Int32), .int (p1 / (81 : Int32)), .int (irem (p1 / (9 : Int32)) (9 : Int32)), .int (irem p1 (9 : Int32))]) (rest := []) (st1 := [.int r2]) hE hl.1 ml_X9_315 (c_X9_sentOf l g a0 s0 (0 : Int32) (p1 / (81 : Int32)) (irem (p1 / (9 : Int32)) (9 : Int32)) (irem p1 (9 : Int32)) r2 hc3) hZ hS hP [(0, 14)] rfl okX9 rfl rfl rfl rfl ⟨rfl, rfl⟩ ⟨Nat.le_of_ble_eq_true rfl, Nat.le_of_ble_eq_true rfl⟩ ⟨Nat.le_refl _, Nat.le_refl _⟩ (Nat.le_of_ble_eq_true rfl) dX9_sentAt_33 ?_
    refine lv_goto hx hb dX9_sentAt_36 (tgt := 40) rfl ?_
    cases hf
    exact hq rfl dX9_sentAt_40
  refine lv_icmp_lt hx hb dX9_sentAt_16 (tgt := 25) rfl (fun h4 => ?_) (fun h4 => ?_)
  · have hf := gif_t h4 hf
    exact kJ1 () ls hf (lv_sub hl [2, 3, 1, 0] rfl)
  · have hf := gif_f h4 hf
    refine lv_iload_n hx hb dX9_sentAt_19 rfl (lv_at hl 0 rfl) ?_
    refine lv_bipush hx hb dX9_sentAt_20 kcb_8 ?_
    refine lv_icmp_ge hx hb dX9_sentAt_22 (tgt := 39) rfl (fun h5 => ?_) (fun h5 => ?_)
    · have hf := gif_t h5 hf
      refine lv_iconst hx hb dX9_sentAt_39 kci_0 ?_
      cases hf
      exact hq rfl dX9_sentAt_40
    · have hf := gif_f h5 hf
      exact kJ1 () ls hf (lv_sub hl [2, 3, 1, 0] rfl)
theorem dX9_looks_0 : decode cX9_looks 0 = .ok (.iconst 0, 1) := by decide +kernel
theorem dX9_looks_1 : decode cX9_looks 1 = .ok (.istore_n 2, 1) := by decide +kernel
theorem dX9_looks_2 : decode cX9_looks 2 = .ok (.iconst 0, 1) := by decide +kernel
theorem dX9_looks_3 : decode cX9_looks 3 = .ok (.istore_n 3, 1) := by decide +kernel
theorem dX9_looks_4 : decode cX9_looks 4 = .ok (.iload_n 3, 1) := by decide +kernel
theorem dX9_looks_5 : decode cX9_looks 5 = .ok (.sipush 648, 3) := by decide +kernel
theorem dX9_looks_8 : decode cX9_looks 8 = .ok (.if_icmp .ge 72, 3) := by decide +kernel
theorem dX9_looks_11 : decode cX9_looks 11 = .ok (.aload_n 0, 1) := by decide +kernel
theorem dX9_looks_12 : decode cX9_looks 12 = .ok (.iload_n 3, 1) := by decide +kernel
theorem dX9_looks_13 : decode cX9_looks 13 = .ok (.invokevirtual 362, 3) := by decide +kernel
theorem dX9_looks_16 : decode cX9_looks 16 = .ok (.aload_n 0, 1) := by decide +kernel
theorem dX9_looks_17 : decode cX9_looks 17 = .ok (.iconst 0, 1) := by decide +kernel
theorem dX9_looks_18 : decode cX9_looks 18 = .ok (.iload_n 1, 1) := by decide +kernel
theorem dX9_looks_19 : decode cX9_looks 19 = .ok (.iconst 2, 1) := by decide +kernel
theorem dX9_looks_20 : decode cX9_looks 20 = .ok (.iload_n 3, 1) := by decide +kernel
theorem dX9_looks_21 : decode cX9_looks 21 = .ok (.iadd, 1) := by decide +kernel
theorem dX9_looks_22 : decode cX9_looks 22 = .ok (.invokestatic 359, 3) := by decide +kernel
theorem dX9_looks_25 : decode cX9_looks 25 = .ok (.invokevirtual 200, 3) := by decide +kernel
theorem dX9_looks_28 : decode cX9_looks 28 = .ok (.isub, 1) := by decide +kernel
theorem dX9_looks_29 : decode cX9_looks 29 = .ok (.istore 4, 2) := by decide +kernel
theorem dX9_looks_31 : decode cX9_looks 31 = .ok (.aload_n 0, 1) := by decide +kernel
theorem dX9_looks_32 : decode cX9_looks 32 = .ok (.iconst 0, 1) := by decide +kernel
theorem dX9_looks_33 : decode cX9_looks 33 = .ok (.iload_n 1, 1) := by decide +kernel
theorem dX9_looks_34 : decode cX9_looks 34 = .ok (.sipush 650, 3) := by decide +kernel
theorem dX9_looks_37 : decode cX9_looks 37 = .ok (.iload_n 3, 1) := by decide +kernel
theorem dX9_looks_38 : decode cX9_looks 38 = .ok (.iadd, 1) := by decide +kernel
theorem dX9_looks_39 : decode cX9_looks 39 = .ok (.invokestatic 359, 3) := by decide +kernel
theorem dX9_looks_42 : decode cX9_looks 42 = .ok (.iload 4, 2) := by decide +kernel
theorem dX9_looks_44 : decode cX9_looks 44 = .ok (.invokevirtual 68, 3) := by decide +kernel
theorem dX9_looks_47 : decode cX9_looks 47 = .ok (.aload_n 0, 1) := by decide +kernel
theorem dX9_looks_48 : decode cX9_looks 48 = .ok (.iconst 0, 1) := by decide +kernel
theorem dX9_looks_49 : decode cX9_looks 49 = .ok (.iload_n 1, 1) := by decide +kernel
theorem dX9_looks_50 : decode cX9_looks 50 = .ok (.iconst 2, 1) := by decide +kernel
theorem dX9_looks_51 : decode cX9_looks 51 = .ok (.iload_n 3, 1) := by decide +kernel
theorem dX9_looks_52 : decode cX9_looks 52 = .ok (.iadd, 1) := by decide +kernel
theorem dX9_looks_53 : decode cX9_looks 53 = .ok (.invokestatic 359, 3) := by decide +kernel
theorem dX9_looks_56 : decode cX9_looks 56 = .ok (.iload 4, 2) := by decide +kernel
theorem dX9_looks_58 : decode cX9_looks 58 = .ok (.invokevirtual 257, 3) := by decide +kernel
theorem dX9_looks_61 : decode cX9_looks 61 = .ok (.iload_n 2, 1) := by decide +kernel
theorem dX9_looks_62 : decode cX9_looks 62 = .ok (.iload 4, 2) := by decide +kernel
theorem dX9_looks_64 : decode cX9_looks 64 = .ok (.ifCond .eq 7, 3) := by decide +kernel
theorem dX9_looks_67 : decode cX9_looks 67 = .ok (.iconst 1, 1) := by decide +kernel
theorem dX9_looks_68 : decode cX9_looks 68 = .ok (.goto 4, 3) := by decide +kernel
theorem dX9_looks_71 : decode cX9_looks 71 = .ok (.iconst 0, 1) := by decide +kernel
theorem dX9_looks_72 : decode cX9_looks 72 = .ok (.iadd, 1) := by decide +kernel
theorem dX9_looks_73 : decode cX9_looks 73 = .ok (.istore_n 2, 1) := by decide +kernel
theorem dX9_looks_74 : decode cX9_looks 74 = .ok (.iinc 3 1, 3) := by decide +kernel
theorem dX9_looks_77 : decode cX9_looks 77 = .ok (.goto (-73), 3) := by decide +kernel
theorem dX9_looks_80 : decode cX9_looks 80 = .ok (.aload_n 0, 1) := by decide +kernel
theorem dX9_looks_81 : decode cX9_looks 81 = .ok (.iconst 0, 1) := by decide +kernel
theorem dX9_looks_82 : decode cX9_looks 82 = .ok (.iload_n 1, 1) := by decide +kernel
theorem dX9_looks_83 : decode cX9_looks 83 = .ok (.iconst 1, 1) := by decide +kernel
theorem dX9_looks_84 : decode cX9_looks 84 = .ok (.invokestatic 359, 3) := by decide +kernel
theorem dX9_looks_87 : decode cX9_looks 87 = .ok (.aload_n 0, 1) := by decide +kernel
theorem dX9_looks_88 : decode cX9_looks 88 = .ok (.iconst 0, 1) := by decide +kernel
theorem dX9_looks_89 : decode cX9_looks 89 = .ok (.bipush 11, 2) := by decide +kernel
theorem dX9_looks_91 : decode cX9_looks 91 = .ok (.invokevirtual 200, 3) := by decide +kernel
theorem dX9_looks_94 : decode cX9_looks 94 = .ok (.invokevirtual 68, 3) := by decide +kernel
theorem dX9_looks_97 : decode cX9_looks 97 = .ok (.iload_n 2, 1) := by decide +kernel
theorem dX9_looks_98 : decode cX9_looks 98 = .ok (.ireturn, 1) := by decide +kernel
def f_X9_looks_L4_13 (p1 : Int32) (K1 : (Int32 → MoT → Option (Int32 × MoT))) : Nat → Int32 → Int32 → MoT → Option (Int32 × MoT)
  | 0, _, _, _ => none
  | n14 + 1, x2_10, x3_11, s0_12 => if (648 : Int32) ≤ x3_11 then K1 x2_10 s0_12
  else (f_X9_sentAt s0_12 x3_11).bind fun r16 =>
  (f_X9_subAt p1 ((2 : Int32) + x3_11)).bind fun r18 =>
  (f_X9_get s0_12 (0 : Int32) r18).bind fun r20 =>
  (f_X9_subAt p1 ((650 : Int32) + x3_11)).bind fun r22 =>
  (f_X9_set s0_12 (0 : Int32) r22 (r16 - r20)).bind fun r24 =>
  (f_X9_subAt p1 ((2 : Int32) + x3_11)).bind fun r26 =>
  (f_X9_more r24 (0 : Int32) r26 (r16 - r20)).bind fun r28 =>
  if (r16 - r20) = 0 then f_X9_looks_L4_13 p1 K1 n14 (x2_10 + (0 : Int32)) (x3_11 + (1 : Int32)) r28
  else f_X9_looks_L4_13 p1 K1 n14 (x2_10 + (1 : Int32)) (x3_11 + (1 : Int32)) r28
def f_X9_looks (s0 : MoT) (p1 : Int32) : Option (Int32 × MoT) :=
  glt (fun (x2_2 : Int32) (s0_3 : MoT) => (f_X9_subAt p1 (1 : Int32)).bind fun r4 =>
  (f_X9_get s0_3 (0 : Int32) (11 : Int32)).bind fun r6 =>
  (f_X9_set s0_3 (0 : Int32) r4 r6).bind fun r8 =>
  some (x2_2, r8)) fun K1 =>
  f_X9_looks_L4_13 p1 K1 10000 (0 : Int32) (0 : Int32) s0
abbrev rm_X9_looks : Room := { frames := 7, cells := 0, slots := 0, locals := 167 }
set_option maxHeartbeats 4000000 in
set_option maxRecDepth 100000 in
theorem c_X9_looks (l : Launch) (g : GK) (a0 : Nat → Nat) (s0 : MoT) (p1 : Int32) (res : (Int32 × MoT)) (hf : f_X9_looks s0 p1 = some res) : gM l yX9_looks cX9_looks 5 (some .int) rm_X9_looks g [.ref (a0 0), .int p1] (Mo_c g a0 s0) (fun _ : Unit => (some (.int (res.1)))) (fun _ => (Mo_c g a0 (res.2))) 0 0 := by
  refine gM_introI RX9 (by decide) rfl (Nat.le_of_ble_eq_true rfl) (fun p e s m args below meth c Q H locs ls A hE hZ hA hP hD hS hq hl => ?_)
  have hl : lv_has ls 5 [(0, .ref (a0 0)), (1, .int p1)] := hl
  have hx := hE.1
  have hb := hE.2.1
  rw [f_X9_looks] at hf
  refine lv_iconst hx hb dX9_looks_0 kci_0 ?_
  refine lv_istore_n hx hb dX9_looks_1 rfl hl (by decide) (lv' := [(2, .int (0 : Int32)), (0, .ref (a0 0)), (1, .int p1)]) rfl (fun ls hl => ?_)
  refine lv_iconst hx hb dX9_looks_2 kci_0 ?_
  refine lv_istore_n hx hb dX9_looks_3 rfl hl (by decide) (lv' := [(3, .int (0 : Int32)), (2, .int (0 : Int32)), (0, .ref (a0 0)), (1, .int p1)]) rfl (fun ls hl => ?_)
  obtain ⟨K1, eK1, hf⟩ := gltd hf
  have kK1 : ∀ (x2_2 : Int32) (s0_3 : MoT) (ls : Array Slot) (H : Heap) (locs : List Loc), K1 x2_2 s0_3 = some res → lv_has ls 5 [(0, .ref (a0 0)), (1, .int p1), (2, .int x2_2)] → gP g (Mo_c g a0 s0_3) H → va_D A (Mo_c g a0 s0_3) → va_S A s.heap H locs → W p l e rm_X9_looks s m args below meth c H locs 0 0 Q (F0 m 80 ls []) := by
    intro x2_2 s0_3 ls H locs hf hl hP hD hS
    rw [eK1] at hf
    refine lv_aload_n hx hb dX9_looks_80 rfl (lv_at hl 0 rfl) ?_
    refine lv_iconst hx hb dX9_looks_81 kci_0 ?_
    refine lv_iload_n hx hb dX9_looks_82 rfl (lv_at hl 1 rfl) ?_
    refine lv_iconst hx hb dX9_looks_83 kci_1 ?_
    obtain ⟨r4, hc5, hf⟩ := gbd hf
    refine gr_callS (As := [.int p1, .int (1 : Int32)]) (rest := [.int (0 : Int32), .ref (a0 0)]) (st1 := [.int r4, .int (0 : Int32), .ref (a0 0)]) hE hl.1 ml_X9_359 (c_X9_subAt l g p1 (1 : Int32) r4 hc5) hZ hS hP [] rfl rfl rfl rfl ⟨rfl, rfl⟩ ⟨Nat.le_of_ble_eq_true rfl, Nat.le_of_ble_eq_true rfl⟩ ⟨Nat.le_refl _, Nat.le_refl _⟩ (Nat.le_of_ble_eq_true rfl) dX9_looks_84 ?_
    refine lv_aload_n hx hb dX9_looks_87 rfl (lv_at hl 0 rfl) ?_
    refine lv_iconst hx hb dX9_looks_88 kci_0 ?_
    refine lv_bipush hx hb dX9_looks_89 kcb_11 ?_
    obtain ⟨r6, hc7, hf⟩ := gbd hf
    refine gr_callV (As := [.int (0 : Int32), .int (11 : Int32)]) (rest := [.int r4, .int (0 : Int32), .ref (a0 0)]) (st1 := [.int r6, .int r4, .int (0 : Int32), .ref (a0 0)]) hE hl.1 ml_X9_200 (c_X9_get l g a0 s0_3 (0 : Int32) (11 : Int32) r6 hc7) hZ hS hP [(0, 14)] rfl okX9 rfl rfl rfl rfl ⟨rfl, rfl⟩ ⟨Nat.le_of_ble_eq_true rfl, Nat.le_of_ble_eq_true rfl⟩ ⟨Nat.le_refl _, Nat.le_refl _⟩ (Nat.le_of_ble_eq_true rfl) dX9_looks_91 ?_
    obtain ⟨r8, hc9, hf⟩ := gbd hf
    refine gm_callV1 (As := [.int (0 : Int32), .int r4, .int r6]) (rest := []) (st1 := fun _ => []) (ws' := fun _ => (Mo_c g a0 r8)) hE hl.1 ml_X9_68 (c_X9_set l g a0 s0_3 (0 : Int32) r4 r6 r8 hc9) hZ hP hD hS hA 0 14 rfl (fun _ => rfl) okX9 rfl rfl rfl (fun _ => rfl) ⟨rfl, rfl⟩ ⟨Nat.le_of_ble_eq_true rfl, Nat.le_of_ble_eq_true rfl⟩ ⟨Nat.le_refl _, Nat.le_refl _⟩ (Nat.le_of_ble_eq_true rfl) dX9_looks_94 (fun _ H locs hP hD hS => ?_)
    refine lv_iload_n hx hb dX9_looks_97 rfl (lv_at hl 2 rfl) ?_
    cases hf
    exact hq () rfl hP hD hS dX9_looks_98
  have lpn14 : ∀ (n14 : Nat) (x2_10 : Int32) (x3_11 : Int32) (s0_12 : MoT) (ls : Array Slot) (H : Heap) (locs : List Loc), f_X9_looks_L4_13 p1 K1 n14 x2_10 x3_11 s0_12 = some res → lv_has ls 5 [(0, .ref (a0 0)), (1, .int p1), (2, .int x2_10), (3, .int x3_11)] → gP g (Mo_c g a0 s0_12) H → va_D A (Mo_c g a0 s0_12) → va_S A s.heap H locs → W p l e rm_X9_looks s m args below meth c H locs 0 0 Q (F0 m 4 ls []) := by
    intro n14
    induction n14 with
    | zero => intro x2_10 x3_11 s0_12 ls H locs hf hl hP hD hS; rw [f_X9_looks_L4_13] at hf; cases hf
    | succ n14 ihn14 =>
      intro x2_10 x3_11 s0_12 ls H locs hf hl hP hD hS
      rw [f_X9_looks_L4_13] at hf
      refine lv_iload_n hx hb dX9_looks_4 rfl (lv_at hl 3 rfl) ?_
      refine lv_sipush hx hb dX9_looks_5 kcs_648 ?_
      refine lv_icmp_ge hx hb dX9_looks_8 (tgt := 80) rfl (fun h15 => ?_) (fun h15 => ?_)
      · have hf := gif_t h15 hf
        exact kK1 x2_10 s0_12 ls H locs hf (lv_sub hl [0, 1, 2] rfl) hP hD hS
      · have hf := gif_f h15 hf
        refine lv_aload_n hx hb dX9_looks_11 rfl (lv_at hl 0 rfl) ?_
        refine lv_iload_n hx hb dX9_looks_12 rfl (lv_at hl 3 rfl) ?_
        obtain ⟨r16, hc17, hf⟩ := gbd hf
        refine gr_callV (As := [.int x3_11]) (rest := []) (st1 := [.int r16]) hE hl.1 ml_X9_362 (c_X9_sentAt l g a0 s0_12 x3_11 r16 hc17) hZ hS hP [(0, 14)] rfl okX9 rfl rfl rfl rfl ⟨rfl, rfl⟩ ⟨Nat.le_of_ble_eq_true rfl, Nat.le_of_ble_eq_true rfl⟩ ⟨Nat.le_refl _, Nat.le_refl _⟩ (Nat.le_of_ble_eq_true rfl) dX9_looks_13 ?_
        refine lv_aload_n hx hb dX9_looks_16 rfl (lv_at hl 0 rfl) ?_
        refine lv_iconst hx hb dX9_looks_17 kci_0 ?_
        refine lv_iload_n hx hb dX9_looks_18 rfl (lv_at hl 1 rfl) ?_
        refine lv_iconst hx hb dX9_looks_19 kci_2 ?_
        refine lv_iload_n hx hb dX9_looks_20 rfl (lv_at hl 3 rfl) ?_
        refine lv_iadd hx hb dX9_looks_21 ?_
        obtain ⟨r18, hc19, hf⟩ := gbd hf
        refine gr_callS (As := [.int p1, .int ((2 : Int32) + x3_11)]) (rest := [.int (0 : Int32), .ref (a0 0), .int r16]) (st1 := [.int r18, .int (0 : Int32), .ref (a0 0), .int r16]) hE hl.1 ml_X9_359 (c_X9_subAt l g p1 ((2 : Int32) + x3_11) r18 hc19) hZ hS hP [] rfl rfl rfl rfl ⟨rfl, rfl⟩ ⟨Nat.le_of_ble_eq_true rfl, Nat.le_of_ble_eq_true rfl⟩ ⟨Nat.le_refl _, Nat.le_refl _⟩ (Nat.le_of_ble_eq_true rfl) dX9_looks_22 ?_
        obtain ⟨r20, hc21, hf⟩ := gbd hf
        refine gr_callV (As := [.int (0 : Int32), .int r18]) (rest := [.int r16]) (st1 := [.int r20, .int r16]) hE hl.1 ml_X9_200 (c_X9_get l g a0 s0_12 (0 : Int32) r18 r20 hc21) hZ hS hP [(0, 14)] rfl okX9 rfl rfl rfl rfl ⟨rfl, rfl⟩ ⟨Nat.le_of_ble_eq_true rfl, Nat.le_of_ble_eq_true rfl⟩ ⟨Nat.le_refl _, Nat.le_refl _⟩ (Nat.le_of_ble_eq_true rfl) dX9_looks_25 ?_
        refine lv_isub hx hb dX9_looks_28 ?_
        refine lv_istore hx hb dX9_looks_29 hl (by decide) (lv' := [(4, .int (r16 - r20)), (0, .ref (a0 0)), (1, .int p1), (2, .int x2_10), (3, .int x3_11)]) rfl (fun ls hl => ?_)
        refine lv_aload_n hx hb dX9_looks_31 rfl (lv_at hl 1 rfl) ?_
        refine lv_iconst hx hb dX9_looks_32 kci_0 ?_
        refine lv_iload_n hx hb dX9_looks_33 rfl (lv_at hl 2 rfl) ?_
        refine lv_sipush hx hb dX9_looks_34 kcs_650 ?_
        refine lv_iload_n hx hb dX9_looks_37 rfl (lv_at hl 4 rfl) ?_
        refine lv_iadd hx hb dX9_looks_38 ?_
        obtain ⟨r22, hc23, hf⟩ := gbd hf
        refine gr_callS (As := [.int p1, .int ((650 : Int32) + x3_11)]) (rest := [.int (0 : Int32), .ref (a0 0)]) (st1 := [.int r22, .int (0 : Int32), .ref (a0 0)]) hE hl.1 ml_X9_359 (c_X9_subAt l g p1 ((650 : Int32) + x3_11) r22 hc23) hZ hS hP [] rfl rfl rfl rfl ⟨rfl, rfl⟩ ⟨Nat.le_of_ble_eq_true rfl, Nat.le_of_ble_eq_true rfl⟩ ⟨Nat.le_refl _, Nat.le_refl _⟩ (Nat.le_of_ble_eq_true rfl) dX9_looks_39 ?_
        refine lv_iload hx hb dX9_looks_42 (lv_at hl 0 rfl) ?_
        obtain ⟨r24, hc25, hf⟩ := gbd hf
        refine gm_callV1 (As := [.int (0 : Int32), .int r22, .int (r16 - r20)]) (rest := []) (st1 := fun _ => []) (ws' := fun _ => (Mo_c g a0 r24)) hE hl.1 ml_X9_68 (c_X9_set l g a0 s0_12 (0 : Int32) r22 (r16 - r20) r24 hc25) hZ hP hD hS hA 0 14 rfl (fun _ => rfl) okX9 rfl rfl rfl (fun _ => rfl) ⟨rfl, rfl⟩ ⟨Nat.le_of_ble_eq_true rfl, Nat.le_of_ble_eq_true rfl⟩ ⟨Nat.le_refl _, Nat.le_refl _⟩ (Nat.le_of_ble_eq_true rfl) dX9_looks_44 (fun _ H locs hP hD hS => ?_)
        refine lv_aload_n hx hb dX9_looks_47 rfl (lv_at hl 1 rfl) ?_
        refine lv_iconst hx hb dX9_looks_48 kci_0 ?_
        refine lv_iload_n hx hb dX9_looks_49 rfl (lv_at hl 2 rfl) ?_
        refine lv_iconst hx hb dX9_looks_50 kci_2 ?_
        refine lv_iload_n hx hb dX9_looks_51 rfl (lv_at hl 4 rfl) ?_
        refine lv_iadd hx hb dX9_looks_52 ?_
        obtain ⟨r26, hc27, hf⟩ := gbd hf
        refine gr_callS (As := [.int p1, .int ((2 : Int32) + x3_11)]) (rest := [.int (0 : Int32), .ref (a0 0)]) (st1 := [.int r26, .int (0 : Int32), .ref (a0 0)]) hE hl.1 ml_X9_359 (c_X9_subAt l g p1 ((2 : Int32) + x3_11) r26 hc27) hZ hS hP [] rfl rfl rfl rfl ⟨rfl, rfl⟩ ⟨Nat.le_of_ble_eq_true rfl, Nat.le_of_ble_eq_true rfl⟩ ⟨Nat.le_refl _, Nat.le_refl _⟩ (Nat.le_of_ble_eq_true rfl) dX9_looks_53 ?_
        refine lv_iload hx hb dX9_looks_56 (lv_at hl 0 rfl) ?_
        obtain ⟨r28, hc29, hf⟩ := gbd hf
        refine gm_callV1 (As := [.int (0 : Int32), .int r26, .int (r16 - r20)]) (rest := []) (st1 := fun _ => []) (ws' := fun _ => (Mo_c g a0 r28)) hE hl.1 ml_X9_257 (c_X9_more l g a0 r24 (0 : Int32) r26 (r16 - r20) r28 hc29) hZ hP hD hS hA 0 14 rfl (fun _ => rfl) okX9 rfl rfl rfl (fun _ => rfl) ⟨rfl, rfl⟩ ⟨Nat.le_of_ble_eq_true rfl, Nat.le_of_ble_eq_true rfl⟩ ⟨Nat.le_refl _, Nat.le_refl _⟩ (Nat.le_of_ble_eq_true rfl) dX9_looks_58 (fun _ H locs hP hD hS => ?_)
        refine lv_iload_n hx hb dX9_looks_61 rfl (lv_at hl 3 rfl) ?_
        refine lv_iload hx hb dX9_looks_62 (lv_at hl 0 rfl) ?_
        refine lv_if_eq hx hb dX9_looks_64 (tgt := 71) rfl (fun h30 => ?_) (fun h30 => ?_)
        · have hf := gif_t h30 hf
          refine lv_iconst hx hb dX9_looks_71 kci_0 ?_
          refine lv_iadd hx hb dX9_looks_72 ?_
          refine lv_istore_n hx hb dX9_looks_73 rfl hl (by decide) (lv' := [(2, .int (x2_10 + (0 : Int32))), (4, .int (r16 - r20)), (0, .ref (a0 0)), (1, .int p1), (3, .int x3_11)]) rfl (fun ls hl => ?_)
          refine lv_iinc hx hb dX9_looks_74 hl (k := 4) (x := x3_11) rfl (kinc_1 _) (by decide) (lv' := [(3, .int (x3_11 + (1 : Int32))), (2, .int (x2_10 + (0 : Int32))), (4, .int (r16 - r20)), (0, .ref (a0 0)), (1, .int p1)]) rfl (fun ls hl => ?_)
          refine lv_goto hx hb dX9_looks_77 (tgt := 4) rfl ?_
          exact ihn14 (x2_10 + (0 : Int32)) (x3_11 + (1 : Int32)) r28 ls H locs hf (lv_sub hl [3, 4, 1, 0] rfl) hP hD hS
        · have hf := gif_f h30 hf
          refine lv_iconst hx hb dX9_looks_67 kci_1 ?_
          refine lv_goto hx hb dX9_looks_68 (tgt := 72) rfl ?_
          refine lv_iadd hx hb dX9_looks_72 ?_
          refine lv_istore_n hx hb dX9_looks_73 rfl hl (by decide) (lv' := [(2, .int (x2_10 + (1 : Int32))), (4, .int (r16 - r20)), (0, .ref (a0 0)), (1, .int p1), (3, .int x3_11)]) rfl (fun ls hl => ?_)
          refine lv_iinc hx hb dX9_looks_74 hl (k := 4) (x := x3_11) rfl (kinc_1 _) (by decide) (lv' := [(3, .int (x3_11 + (1 : Int32))), (2, .int (x2_10 + (1 : Int32))), (4, .int (r16 - r20)), (0, .ref (a0 0)), (1, .int p1)]) rfl (fun ls hl => ?_)
          refine lv_goto hx hb dX9_looks_77 (tgt := 4) rfl ?_
          exact ihn14 (x2_10 + (1 : Int32)) (x3_11 + (1 : Int32)) r28 ls H locs hf (lv_sub hl [3, 4, 1, 0] rfl) hP hD hS
  exact lpn14 10000 (0 : Int32) (0 : Int32) s0 ls H locs hf (lv_sub hl [2, 3, 1, 0] rfl) hP hD hS
theorem dX9_begin_0 : decode cX9_begin 0 = .ok (.aload_n 0, 1) := by decide +kernel
theorem dX9_begin_1 : decode cX9_begin 1 = .ok (.iconst 0, 1) := by decide +kernel
theorem dX9_begin_2 : decode cX9_begin 2 = .ok (.putfield 55, 3) := by decide +kernel
theorem dX9_begin_5 : decode cX9_begin 5 = .ok (.aload_n 0, 1) := by decide +kernel
theorem dX9_begin_6 : decode cX9_begin 6 = .ok (.getfield 218, 3) := by decide +kernel
theorem dX9_begin_9 : decode cX9_begin 9 = .ok (.ifCond .eq 12, 3) := by decide +kernel
theorem dX9_begin_12 : decode cX9_begin 12 = .ok (.iload_n 1, 1) := by decide +kernel
theorem dX9_begin_13 : decode cX9_begin 13 = .ok (.iconst 0, 1) := by decide +kernel
theorem dX9_begin_14 : decode cX9_begin 14 = .ok (.iconst 3, 1) := by decide +kernel
theorem dX9_begin_15 : decode cX9_begin 15 = .ok (.invokestatic 90, 3) := by decide +kernel
theorem dX9_begin_18 : decode cX9_begin 18 = .ok (.ifCond .ne 9, 3) := by decide +kernel
theorem dX9_begin_21 : decode cX9_begin 21 = .ok (.aload_n 0, 1) := by decide +kernel
theorem dX9_begin_22 : decode cX9_begin 22 = .ok (.iconst 1, 1) := by decide +kernel
theorem dX9_begin_23 : decode cX9_begin 23 = .ok (.invokevirtual 61, 3) := by decide +kernel
theorem dX9_begin_26 : decode cX9_begin 26 = .ok (.ireturn, 1) := by decide +kernel
theorem dX9_begin_27 : decode cX9_begin 27 = .ok (.iconst 0, 1) := by decide +kernel
theorem dX9_begin_28 : decode cX9_begin 28 = .ok (.istore_n 2, 1) := by decide +kernel
theorem dX9_begin_29 : decode cX9_begin 29 = .ok (.iload_n 2, 1) := by decide +kernel
theorem dX9_begin_30 : decode cX9_begin 30 = .ok (.sipush 1298, 3) := by decide +kernel
theorem dX9_begin_33 : decode cX9_begin 33 = .ok (.if_icmp .ge 20, 3) := by decide +kernel
theorem dX9_begin_36 : decode cX9_begin 36 = .ok (.aload_n 0, 1) := by decide +kernel
theorem dX9_begin_37 : decode cX9_begin 37 = .ok (.iconst 0, 1) := by decide +kernel
theorem dX9_begin_38 : decode cX9_begin 38 = .ok (.iload_n 1, 1) := by decide +kernel
theorem dX9_begin_39 : decode cX9_begin 39 = .ok (.iload_n 2, 1) := by decide +kernel
theorem dX9_begin_40 : decode cX9_begin 40 = .ok (.invokestatic 359, 3) := by decide +kernel
theorem dX9_begin_43 : decode cX9_begin 43 = .ok (.iconst 0, 1) := by decide +kernel
theorem dX9_begin_44 : decode cX9_begin 44 = .ok (.invokevirtual 68, 3) := by decide +kernel
theorem dX9_begin_47 : decode cX9_begin 47 = .ok (.iinc 2 1, 3) := by decide +kernel
theorem dX9_begin_50 : decode cX9_begin 50 = .ok (.goto (-21), 3) := by decide +kernel
theorem dX9_begin_53 : decode cX9_begin 53 = .ok (.aload_n 0, 1) := by decide +kernel
theorem dX9_begin_54 : decode cX9_begin 54 = .ok (.iconst 0, 1) := by decide +kernel
theorem dX9_begin_55 : decode cX9_begin 55 = .ok (.iload_n 1, 1) := by decide +kernel
theorem dX9_begin_56 : decode cX9_begin 56 = .ok (.iconst 0, 1) := by decide +kernel
theorem dX9_begin_57 : decode cX9_begin 57 = .ok (.invokestatic 359, 3) := by decide +kernel
theorem dX9_begin_60 : decode cX9_begin 60 = .ok (.iconst 1, 1) := by decide +kernel
theorem dX9_begin_61 : decode cX9_begin 61 = .ok (.invokevirtual 68, 3) := by decide +kernel
theorem dX9_begin_64 : decode cX9_begin 64 = .ok (.aload_n 0, 1) := by decide +kernel
theorem dX9_begin_65 : decode cX9_begin 65 = .ok (.iload_n 1, 1) := by decide +kernel
theorem dX9_begin_66 : decode cX9_begin 66 = .ok (.invokevirtual 365, 3) := by decide +kernel
theorem dX9_begin_69 : decode cX9_begin 69 = .ok (.istore_n 2, 1) := by decide +kernel
theorem dX9_begin_70 : decode cX9_begin 70 = .ok (.iconst 0, 1) := by decide +kernel
theorem dX9_begin_71 : decode cX9_begin 71 = .ok (.istore_n 3, 1) := by decide +kernel
theorem dX9_begin_72 : decode cX9_begin 72 = .ok (.iload_n 3, 1) := by decide +kernel
theorem dX9_begin_73 : decode cX9_begin 73 = .ok (.sipush 648, 3) := by decide +kernel
theorem dX9_begin_76 : decode cX9_begin 76 = .ok (.if_icmp .ge 24, 3) := by decide +kernel
theorem dX9_begin_79 : decode cX9_begin 79 = .ok (.aload_n 0, 1) := by decide +kernel
theorem dX9_begin_80 : decode cX9_begin 80 = .ok (.iconst 0, 1) := by decide +kernel
theorem dX9_begin_81 : decode cX9_begin 81 = .ok (.iload_n 1, 1) := by decide +kernel
theorem dX9_begin_82 : decode cX9_begin 82 = .ok (.sipush 650, 3) := by decide +kernel
theorem dX9_begin_85 : decode cX9_begin 85 = .ok (.iload_n 3, 1) := by decide +kernel
theorem dX9_begin_86 : decode cX9_begin 86 = .ok (.iadd, 1) := by decide +kernel
theorem dX9_begin_87 : decode cX9_begin 87 = .ok (.invokestatic 359, 3) := by decide +kernel
theorem dX9_begin_90 : decode cX9_begin 90 = .ok (.iconst 0, 1) := by decide +kernel
theorem dX9_begin_91 : decode cX9_begin 91 = .ok (.invokevirtual 68, 3) := by decide +kernel
theorem dX9_begin_94 : decode cX9_begin 94 = .ok (.iinc 3 1, 3) := by decide +kernel
theorem dX9_begin_97 : decode cX9_begin 97 = .ok (.goto (-25), 3) := by decide +kernel
theorem dX9_begin_100 : decode cX9_begin 100 = .ok (.aload_n 0, 1) := by decide +kernel
theorem dX9_begin_101 : decode cX9_begin 101 = .ok (.iload_n 2, 1) := by decide +kernel
theorem dX9_begin_102 : decode cX9_begin 102 = .ok (.invokevirtual 230, 3) := by decide +kernel
theorem dX9_begin_105 : decode cX9_begin 105 = .ok (.ireturn, 1) := by decide +kernel
def f_X9_begin_L72_21 (p1 : Int32) (K15 : (MoT → Option (Int32 × MoT))) : Nat → Int32 → MoT → Option (Int32 × MoT)
  | 0, _, _ => none
  | n22 + 1, x3_19, s0_20 => if (648 : Int32) ≤ x3_19 then K15 s0_20
  else (f_X9_subAt p1 ((650 : Int32) + x3_19)).bind fun r24 =>
  (f_X9_set s0_20 (0 : Int32) r24 (0 : Int32)).bind fun r26 =>
  f_X9_begin_L72_21 p1 K15 n22 (x3_19 + (1 : Int32)) r26
def f_X9_begin_L29_30 (p1 : Int32) (K7 : (MoT → Option (Int32 × MoT))) : Nat → Int32 → MoT → Option (Int32 × MoT)
  | 0, _, _ => none
  | n31 + 1, x2_28, s0_29 => if (1298 : Int32) ≤ x2_28 then K7 s0_29
  else (f_X9_subAt p1 x2_28).bind fun r33 =>
  (f_X9_set s0_29 (0 : Int32) r33 (0 : Int32)).bind fun r35 =>
  f_X9_begin_L29_30 p1 K7 n31 (x2_28 + (1 : Int32)) r35
def f_X9_begin (s0 : MoT) (p1 : Int32) : Option (Int32 × MoT) :=
  if (Mo_isThere s0) = 0 then (f_X9_refused (Mo_w_thrown s0 (0 : Int32)) (1 : Int32)).bind fun r2 =>
  some ((r2.1), (r2.2))
  else (f_X9_in p1 (0 : Int32) (3 : Int32)).bind fun r4 =>
  if r4 = 0 then (f_X9_refused (Mo_w_thrown s0 (0 : Int32)) (1 : Int32)).bind fun r37 =>
  some ((r37.1), (r37.2))
  else glt (fun (s0_8 : MoT) => (f_X9_subAt p1 (0 : Int32)).bind fun r9 =>
  (f_X9_set s0_8 (0 : Int32) r9 (1 : Int32)).bind fun r11 =>
  (f_X9_looks r11 p1).bind fun r13 =>
  glt (fun (s0_16 : MoT) => (f_X9_good s0_16 (r13.1)).bind fun r17 =>
  some ((r17.1), (r17.2))) fun K15 =>
  f_X9_begin_L72_21 p1 K15 10000 (0 : Int32) (r13.2)) fun K7 =>
  f_X9_begin_L29_30 p1 K7 10000 (0 : Int32) (Mo_w_thrown s0 (0 : Int32))
abbrev rm_X9_begin : Room := { frames := 8, cells := 0, slots := 0, locals := 191 }
set_option maxHeartbeats 4000000 in
set_option maxRecDepth 100000 in
theorem c_X9_begin (l : Launch) (g : GK) (a0 : Nat → Nat) (s0 : MoT) (p1 : Int32) (res : (Int32 × MoT)) (hf : f_X9_begin s0 p1 = some res) : gM l yX9_begin cX9_begin 4 (some .int) rm_X9_begin g [.ref (a0 0), .int p1] (Mo_c g a0 s0) (fun _ : Unit => (some (.int (res.1)))) (fun _ => (Mo_c g a0 (res.2))) 0 0 := by
  refine gM_introI RX9 (by decide) rfl (Nat.le_of_ble_eq_true rfl) (fun p e s m args below meth c Q H locs ls A hE hZ hA hP hD hS hq hl => ?_)
  have hl : lv_has ls 4 [(0, .ref (a0 0)), (1, .int p1)] := hl
  have hx := hE.1
  have hb := hE.2.1
  rw [f_X9_begin] at hf
  refine lv_aload_n hx hb dX9_begin_0 rfl (lv_at hl 0 rfl) ?_
  refine lv_iconst hx hb dX9_begin_1 kci_0 ?_
  refine g_put hE okX9 fl_X9_55 hP hD hS 0 rfl rfl rfl rfl (Nat.le_of_ble_eq_true rfl) (Mo_c g a0 (Mo_w_thrown s0 (0 : Int32))) rfl dX9_begin_2 (fun H locs hP hD hS => ?_)
  refine lv_aload_n hx hb dX9_begin_5 rfl (lv_at hl 0 rfl) ?_
  refine g_get hE okX9 fl_X9_218 hP 0 rfl (v := .int (Mo_isThere s0)) rfl dX9_begin_6 ?_
  refine lv_if_eq hx hb dX9_begin_9 (tgt := 21) rfl (fun h1 => ?_) (fun h1 => ?_)
  · have hf := gif_t h1 hf
    refine lv_aload_n hx hb dX9_begin_21 rfl (lv_at hl 0 rfl) ?_
    refine lv_iconst hx hb dX9_begin_22 kci_1 ?_
    obtain ⟨r2, hc3, hf⟩ := gbd hf
    refine gm_callV1 (As := [.int (1 : Int32)]) (rest := []) (st1 := fun _ => [.int (r2.1)]) (ws' := fun _ => (Mo_c g a0 (r2.2))) hE hl.1 ml_X9_61 (c_X9_refused l g a0 (Mo_w_thrown s0 (0 : Int32)) (1 : Int32) r2 hc3) hZ hP hD hS hA 0 14 rfl (fun _ => rfl) okX9 rfl rfl rfl (fun _ => rfl) ⟨rfl, rfl⟩ ⟨Nat.le_of_ble_eq_true rfl, Nat.le_of_ble_eq_true rfl⟩ ⟨Nat.le_refl _, Nat.le_refl _⟩ (Nat.le_of_ble_eq_true rfl) dX9_begin_23 (fun _ H locs hP hD hS => ?_)
    cases hf
    exact hq () rfl hP hD hS dX9_begin_26
  · have hf := gif_f h1 hf
    refine lv_iload_n hx hb dX9_begin_12 rfl (lv_at hl 1 rfl) ?_
    refine lv_iconst hx hb dX9_begin_13 kci_0 ?_
    refine lv_iconst hx hb dX9_begin_14 kci_3 ?_
    obtain ⟨r4, hc5, hf⟩ := gbd hf
    refine gr_callS (As := [.int p1, .int (0 : Int32), .int (3 : Int32)]) (rest := []) (st1 := [.int r4]) hE hl.1 ml_X9_90 (c_X9_in l g p1 (0 : Int32) (3 : Int32) r4 hc5) hZ hS hP [] rfl rfl rfl rfl ⟨rfl, rfl⟩ ⟨Nat.le_of_ble_eq_true rfl, Nat.le_of_ble_eq_true rfl⟩ ⟨Nat.le_refl _, Nat.le_refl _⟩ (Nat.le_of_ble_eq_true rfl) dX9_begin_15 ?_
    refine lv_if_ne hx hb dX9_begin_18 (tgt := 27) rfl (fun h6 => ?_) (fun h6 => ?_)
    · have hf := gif_f h6 hf
      refine lv_iconst hx hb dX9_begin_27 kci_0 ?_
      refine lv_istore_n hx hb dX9_begin_28 rfl hl (by decide) (lv' := [(2, .int (0 : Int32)), (0, .ref (a0 0)), (1, .int p1)]) rfl (fun ls hl => ?_)
      obtain ⟨K7, eK7, hf⟩ := gltd hf
      have kK7 : ∀ (s0_8 : MoT) (ls : Array Slot) (H : Heap) (locs : List Loc), K7 s0_8 = some res → lv_has ls 4 [(0, .ref (a0 0)), (1, .int p1)] → gP g (Mo_c g a0 s0_8) H → va_D A (Mo_c g a0 s0_8) → va_S A s.heap H locs → W p l e rm_X9_begin s m args below meth c H locs 0 0 Q (F0 m 53 ls []) := by
        intro s0_8 ls H locs hf hl hP hD hS
        rw [eK7] at hf
        refine lv_aload_n hx hb dX9_begin_53 rfl (lv_at hl 0 rfl) ?_
        refine lv_iconst hx hb dX9_begin_54 kci_0 ?_
        refine lv_iload_n hx hb dX9_begin_55 rfl (lv_at hl 1 rfl) ?_
        refine lv_iconst hx hb dX9_begin_56 kci_0 ?_
        obtain ⟨r9, hc10, hf⟩ := gbd hf
        refine gr_callS (As := [.int p1, .int (0 : Int32)]) (rest := [.int (0 : Int32), .ref (a0 0)]) (st1 := [.int r9, .int (0 : Int32), .ref (a0 0)]) hE hl.1 ml_X9_359 (c_X9_subAt l g p1 (0 : Int32) r9 hc10) hZ hS hP [] rfl rfl rfl rfl ⟨rfl, rfl⟩ ⟨Nat.le_of_ble_eq_true rfl, Nat.le_of_ble_eq_true rfl⟩ ⟨Nat.le_refl _, Nat.le_refl _⟩ (Nat.le_of_ble_eq_true rfl) dX9_begin_57 ?_
        refine lv_iconst hx hb dX9_begin_60 kci_1 ?_
        obtain ⟨r11, hc12, hf⟩ := gbd hf
        refine gm_callV1 (As := [.int (0 : Int32), .int r9, .int (1 : Int32)]) (rest := []) (st1 := fun _ => []) (ws' := fun _ => (Mo_c g a0 r11)) hE hl.1 ml_X9_68 (c_X9_set l g a0 s0_8 (0 : Int32) r9 (1 : Int32) r11 hc12) hZ hP hD hS hA 0 14 rfl (fun _ => rfl) okX9 rfl rfl rfl (fun _ => rfl) ⟨rfl, rfl⟩ ⟨Nat.le_of_ble_eq_true rfl, Nat.le_of_ble_eq_true rfl⟩ ⟨Nat.le_refl _, Nat.le_refl _⟩ (Nat.le_of_ble_eq_true rfl) dX9_begin_61 (fun _ H locs hP hD hS => ?_)
        refine lv_aload_n hx hb dX9_begin_64 rfl (lv_at hl 0 rfl) ?_
        refine lv_iload_n hx hb dX9_begin_65 rfl (lv_at hl 1 rfl) ?_
        obtain ⟨r13, hc14, hf⟩ := gbd hf
        refine gm_callV1 (As := [.int p1]) (rest := []) (st1 := fun _ => [.int (r13.1)]) (ws' := fun _ => (Mo_c g a0 (r13.2))) hE hl.1 ml_X9_365 (c_X9_looks l g a0 r11 p1 r13 hc14) hZ hP hD hS hA 0 14 rfl (fun _ => rfl) okX9 rfl rfl rfl (fun _ => rfl) ⟨rfl, rfl⟩ ⟨Nat.le_of_ble_eq_true rfl, Nat.le_of_ble_eq_true rfl⟩ ⟨Nat.le_refl _, Nat.le_refl _⟩ (Nat.le_of_ble_eq_true rfl) dX9_begin_66 (fun _ H locs hP hD hS => ?_)
        refine lv_istore_n hx hb dX9_begin_69 rfl hl (by decide) (lv' := [(2, .int (r13.1)), (0, .ref (a0 0)), (1, .int p1)]) rfl (fun ls hl => ?_)
        refine lv_iconst hx hb dX9_begin_70 kci_0 ?_
        refine lv_istore_n hx hb dX9_begin_71 rfl hl (by decide) (lv' := [(3, .int (0 : Int32)), (2, .int (r13.1)), (0, .ref (a0 0)), (1, .int p1)]) rfl (fun ls hl => ?_)
        obtain ⟨K15, eK15, hf⟩ := gltd hf
        have kK15 : ∀ (s0_16 : MoT) (ls : Array Slot) (H : Heap) (locs : List Loc), K15 s0_16 = some res → lv_has ls 4 [(0, .ref (a0 0)), (2, .int (r13.1))] → gP g (Mo_c g a0 s0_16) H → va_D A (Mo_c g a0 s0_16) → va_S A s.heap H locs → W p l e rm_X9_begin s m args below meth c H locs 0 0 Q (F0 m 100 ls []) := by
          intro s0_16 ls H locs hf hl hP hD hS
          rw [eK15] at hf
          refine lv_aload_n hx hb dX9_begin_100 rfl (lv_at hl 0 rfl) ?_
          refine lv_iload_n hx hb dX9_begin_101 rfl (lv_at hl 1 rfl) ?_
          obtain ⟨r17, hc18, hf⟩ := gbd hf
          refine gm_callV1 (As := [.int (r13.1)]) (rest := []) (st1 := fun _ => [.int (r17.1)]) (ws' := fun _ => (Mo_c g a0 (r17.2))) hE hl.1 ml_X9_230 (c_X9_good l g a0 s0_16 (r13.1) r17 hc18) hZ hP hD hS hA 0 14 rfl (fun _ => rfl) okX9 rfl rfl rfl (fun _ => rfl) ⟨rfl, rfl⟩ ⟨Nat.le_of_ble_eq_true rfl, Nat.le_of_ble_eq_true rfl⟩ ⟨Nat.le_refl _, Nat.le_refl _⟩ (Nat.le_of_ble_eq_true rfl) dX9_begin_102 (fun _ H locs hP hD hS => ?_)
          cases hf
          exact hq () rfl hP hD hS dX9_begin_105
        have lpn22 : ∀ (n22 : Nat) (x3_19 : Int32) (s0_20 : MoT) (ls : Array Slot) (H : Heap) (locs : List Loc), f_X9_begin_L72_21 p1 K15 n22 x3_19 s0_20 = some res → lv_has ls 4 [(0, .ref (a0 0)), (1, .int p1), (2, .int (r13.1)), (3, .int x3_19)] → gP g (Mo_c g a0 s0_20) H → va_D A (Mo_c g a0 s0_20) → va_S A s.heap H locs → W p l e rm_X9_begin s m args below meth c H locs 0 0 Q (F0 m 72 ls []) := by
          intro n22
          induction n22 with
          | zero => intro x3_19 s0_20 ls H locs hf hl hP hD hS; rw [f_X9_begin_L72_21] at hf; cases hf
          | succ n22 ihn22 =>
            intro x3_19 s0_20 ls H locs hf hl hP hD hS
            rw [f_X9_begin_L72_21] at hf
            refine lv_iload_n hx hb dX9_begin_72 rfl (lv_at hl 3 rfl) ?_
            refine lv_sipush hx hb dX9_begin_73 kcs_648 ?_
            refine lv_icmp_ge hx hb dX9_begin_76 (tgt := 100) rfl (fun h23 => ?_) (fun h23 => ?_)
            · have hf := gif_t h23 hf
              exact kK15 s0_20 ls H locs hf (lv_sub hl [0, 2] rfl) hP hD hS
            · have hf := gif_f h23 hf
              refine lv_aload_n hx hb dX9_begin_79 rfl (lv_at hl 0 rfl) ?_
              refine lv_iconst hx hb dX9_begin_80 kci_0 ?_
              refine lv_iload_n hx hb dX9_begin_81 rfl (lv_at hl 1 rfl) ?_
              refine lv_sipush hx hb dX9_begin_82 kcs_650 ?_
              refine lv_iload_n hx hb dX9_begin_85 rfl (lv_at hl 3 rfl) ?_
              refine lv_iadd hx hb dX9_begin_86 ?_
              obtain ⟨r24, hc25, hf⟩ := gbd hf
              refine gr_callS (As := [.int p1, .int ((650 : Int32) + x3_19)]) (rest := [.int (0 : Int32), .ref (a0 0)]) (st1 := [.int r24, .int (0 : Int32), .ref (a0 0)]) hE hl.1 ml_X9_359 (c_X9_subAt l g p1 ((650 : Int32) + x3_19) r24 hc25) hZ hS hP [] rfl rfl rfl rfl ⟨rfl, rfl⟩ ⟨Nat.le_of_ble_eq_true rfl, Nat.le_of_ble_eq_true rfl⟩ ⟨Nat.le_refl _, Nat.le_refl _⟩ (Nat.le_of_ble_eq_true rfl) dX9_begin_87 ?_
              refine lv_iconst hx hb dX9_begin_90 kci_0 ?_
              obtain ⟨r26, hc27, hf⟩ := gbd hf
              refine gm_callV1 (As := [.int (0 : Int32), .int r24, .int (0 : Int32)]) (rest := []) (st1 := fun _ => []) (ws' := fun _ => (Mo_c g a0 r26)) hE hl.1 ml_X9_68 (c_X9_set l g a0 s0_20 (0 : Int32) r24 (0 : Int32) r26 hc27) hZ hP hD hS hA 0 14 rfl (fun _ => rfl) okX9 rfl rfl rfl (fun _ => rfl) ⟨rfl, rfl⟩ ⟨Nat.le_of_ble_eq_true rfl, Nat.le_of_ble_eq_true rfl⟩ ⟨Nat.le_refl _, Nat.le_refl _⟩ (Nat.le_of_ble_eq_true rfl) dX9_begin_91 (fun _ H locs hP hD hS => ?_)
              refine lv_iinc hx hb dX9_begin_94 hl (k := 3) (x := x3_19) rfl (kinc_1 _) (by decide) (lv' := [(3, .int (x3_19 + (1 : Int32))), (0, .ref (a0 0)), (1, .int p1), (2, .int (r13.1))]) rfl (fun ls hl => ?_)
              refine lv_goto hx hb dX9_begin_97 (tgt := 72) rfl ?_
              exact ihn22 (x3_19 + (1 : Int32)) r26 ls H locs hf (lv_sub hl [1, 2, 3, 0] rfl) hP hD hS
        exact lpn22 10000 (0 : Int32) (r13.2) ls H locs hf (lv_sub hl [2, 3, 1, 0] rfl) hP hD hS
      have lpn31 : ∀ (n31 : Nat) (x2_28 : Int32) (s0_29 : MoT) (ls : Array Slot) (H : Heap) (locs : List Loc), f_X9_begin_L29_30 p1 K7 n31 x2_28 s0_29 = some res → lv_has ls 4 [(0, .ref (a0 0)), (1, .int p1), (2, .int x2_28)] → gP g (Mo_c g a0 s0_29) H → va_D A (Mo_c g a0 s0_29) → va_S A s.heap H locs → W p l e rm_X9_begin s m args below meth c H locs 0 0 Q (F0 m 29 ls []) := by
        intro n31
        induction n31 with
        | zero => intro x2_28 s0_29 ls H locs hf hl hP hD hS; rw [f_X9_begin_L29_30] at hf; cases hf
        | succ n31 ihn31 =>
          intro x2_28 s0_29 ls H locs hf hl hP hD hS
          rw [f_X9_begin_L29_30] at hf
          refine lv_iload_n hx hb dX9_begin_29 rfl (lv_at hl 2 rfl) ?_
          refine lv_sipush hx hb dX9_begin_30 kcs_1298 ?_
          refine lv_icmp_ge hx hb dX9_begin_33 (tgt := 53) rfl (fun h32 => ?_) (fun h32 => ?_)
          · have hf := gif_t h32 hf
            exact kK7 s0_29 ls H locs hf (lv_sub hl [0, 1] rfl) hP hD hS
          · have hf := gif_f h32 hf
            refine lv_aload_n hx hb dX9_begin_36 rfl (lv_at hl 0 rfl) ?_
            refine lv_iconst hx hb dX9_begin_37 kci_0 ?_
            refine lv_iload_n hx hb dX9_begin_38 rfl (lv_at hl 1 rfl) ?_
            refine lv_iload_n hx hb dX9_begin_39 rfl (lv_at hl 2 rfl) ?_
            obtain ⟨r33, hc34, hf⟩ := gbd hf
            refine gr_callS (As := [.int p1, .int x2_28]) (rest := [.int (0 : Int32), .ref (a0 0)]) (st1 := [.int r33, .int (0 : Int32), .ref (a0 0)]) hE hl.1 ml_X9_359 (c_X9_subAt l g p1 x2_28 r33 hc34) hZ hS hP [] rfl rfl rfl rfl ⟨rfl, rfl⟩ ⟨Nat.le_of_ble_eq_true rfl, Nat.le_of_ble_eq_true rfl⟩ ⟨Nat.le_refl _, Nat.le_refl _⟩ (Nat.le_of_ble_eq_true rfl) dX9_begin_40 ?_
            refine lv_iconst hx hb dX9_begin_43 kci_0 ?_
            obtain ⟨r35, hc36, hf⟩ := gbd hf
            refine gm_callV1 (As := [.int (0 : Int32), .int r33, .int (0 : Int32)]) (rest := []) (st1 := fun _ => []) (ws' := fun _ => (Mo_c g a0 r35)) hE hl.1 ml_X9_68 (c_X9_set l g a0 s0_29 (0 : Int32) r33 (0 : Int32) r35 hc36) hZ hP hD hS hA 0 14 rfl (fun _ => rfl) okX9 rfl rfl rfl (fun _ => rfl) ⟨rfl, rfl⟩ ⟨Nat.le_of_ble_eq_true rfl, Nat.le_of_ble_eq_true rfl⟩ ⟨Nat.le_refl _, Nat.le_refl _⟩ (Nat.le_of_ble_eq_true rfl) dX9_begin_44 (fun _ H locs hP hD hS => ?_)
            refine lv_iinc hx hb dX9_begin_47 hl (k := 2) (x := x2_28) rfl (kinc_1 _) (by decide) (lv' := [(2, .int (x2_28 + (1 : Int32))), (0, .ref (a0 0)), (1, .int p1)]) rfl (fun ls hl => ?_)
            refine lv_goto hx hb dX9_begin_50 (tgt := 29) rfl ?_
            exact ihn31 (x2_28 + (1 : Int32)) r35 ls H locs hf (lv_sub hl [1, 2, 0] rfl) hP hD hS
      exact lpn31 10000 (0 : Int32) (Mo_w_thrown s0 (0 : Int32)) ls H locs hf (lv_sub hl [1, 2, 0] rfl) hP hD hS
    · have hf := gif_t h6 hf
      refine lv_aload_n hx hb dX9_begin_21 rfl (lv_at hl 0 rfl) ?_
      refine lv_iconst hx hb dX9_begin_22 kci_1 ?_
      obtain ⟨r37, hc38, hf⟩ := gbd hf
      refine gm_callV1 (As := [.int (1 : Int32)]) (rest := []) (st1 := fun _ => [.int (r37.1)]) (ws' := fun _ => (Mo_c g a0 (r37.2))) hE hl.1 ml_X9_61 (c_X9_refused l g a0 (Mo_w_thrown s0 (0 : Int32)) (1 : Int32) r37 hc38) hZ hP hD hS hA 0 14 rfl (fun _ => rfl) okX9 rfl rfl rfl (fun _ => rfl) ⟨rfl, rfl⟩ ⟨Nat.le_of_ble_eq_true rfl, Nat.le_of_ble_eq_true rfl⟩ ⟨Nat.le_refl _, Nat.le_refl _⟩ (Nat.le_of_ble_eq_true rfl) dX9_begin_23 (fun _ H locs hP hD hS => ?_)
      cases hf
      exact hq () rfl hP hD hS dX9_begin_26
theorem dX9_pull_0 : decode cX9_pull 0 = .ok (.aload_n 0, 1) := by decide +kernel
theorem dX9_pull_1 : decode cX9_pull 1 = .ok (.iconst 0, 1) := by decide +kernel
theorem dX9_pull_2 : decode cX9_pull 2 = .ok (.putfield 55, 3) := by decide +kernel
theorem dX9_pull_5 : decode cX9_pull 5 = .ok (.aload_n 0, 1) := by decide +kernel
theorem dX9_pull_6 : decode cX9_pull 6 = .ok (.iload_n 1, 1) := by decide +kernel
theorem dX9_pull_7 : decode cX9_pull 7 = .ok (.invokevirtual 368, 3) := by decide +kernel
theorem dX9_pull_10 : decode cX9_pull 10 = .ok (.ifCond .eq 15, 3) := by decide +kernel
theorem dX9_pull_13 : decode cX9_pull 13 = .ok (.aload_n 0, 1) := by decide +kernel
theorem dX9_pull_14 : decode cX9_pull 14 = .ok (.aload_n 0, 1) := by decide +kernel
theorem dX9_pull_15 : decode cX9_pull 15 = .ok (.iload_n 1, 1) := by decide +kernel
theorem dX9_pull_16 : decode cX9_pull 16 = .ok (.invokevirtual 365, 3) := by decide +kernel
theorem dX9_pull_19 : decode cX9_pull 19 = .ok (.invokevirtual 230, 3) := by decide +kernel
theorem dX9_pull_22 : decode cX9_pull 22 = .ok (.goto 8, 3) := by decide +kernel
theorem dX9_pull_25 : decode cX9_pull 25 = .ok (.aload_n 0, 1) := by decide +kernel
theorem dX9_pull_26 : decode cX9_pull 26 = .ok (.iconst 1, 1) := by decide +kernel
theorem dX9_pull_27 : decode cX9_pull 27 = .ok (.invokevirtual 61, 3) := by decide +kernel
theorem dX9_pull_30 : decode cX9_pull 30 = .ok (.ireturn, 1) := by decide +kernel
def f_X9_pull (s0 : MoT) (p1 : Int32) : Option (Int32 × MoT) :=
  (f_X9_hasBegun (Mo_w_thrown s0 (0 : Int32)) p1).bind fun r1 =>
  if r1 = 0 then (f_X9_refused (Mo_w_thrown s0 (0 : Int32)) (1 : Int32)).bind fun r4 =>
  some ((r4.1), (r4.2))
  else (f_X9_looks (Mo_w_thrown s0 (0 : Int32)) p1).bind fun r6 =>
  (f_X9_good (r6.2) (r6.1)).bind fun r8 =>
  some ((r8.1), (r8.2))
abbrev rm_X9_pull : Room := { frames := 8, cells := 0, slots := 0, locals := 191 }
set_option maxHeartbeats 4000000 in
set_option maxRecDepth 100000 in
theorem c_X9_pull (l : Launch) (g : GK) (a0 : Nat → Nat) (s0 : MoT) (p1 : Int32) (res : (Int32 × MoT)) (hf : f_X9_pull s0 p1 = some res) : gM l yX9_pull cX9_pull 2 (some .int) rm_X9_pull g [.ref (a0 0), .int p1] (Mo_c g a0 s0) (fun _ : Unit => (some (.int (res.1)))) (fun _ => (Mo_c g a0 (res.2))) 0 0 := by
  refine gM_introI RX9 (by decide) rfl (Nat.le_of_ble_eq_true rfl) (fun p e s m args below meth c Q H locs ls A hE hZ hA hP hD hS hq hl => ?_)
  have hl : lv_has ls 2 [(0, .ref (a0 0)), (1, .int p1)] := hl
  have hx := hE.1
  have hb := hE.2.1
  rw [f_X9_pull] at hf
  refine lv_aload_n hx hb dX9_pull_0 rfl (lv_at hl 0 rfl) ?_
  refine lv_iconst hx hb dX9_pull_1 kci_0 ?_
  refine g_put hE okX9 fl_X9_55 hP hD hS 0 rfl rfl rfl rfl (Nat.le_of_ble_eq_true rfl) (Mo_c g a0 (Mo_w_thrown s0 (0 : Int32))) rfl dX9_pull_2 (fun H locs hP hD hS => ?_)
  refine lv_aload_n hx hb dX9_pull_5 rfl (lv_at hl 0 rfl) ?_
  refine lv_iload_n hx hb dX9_pull_6 rfl (lv_at hl 1 rfl) ?_
  obtain ⟨r1, hc2, hf⟩ := gbd hf
  refine gr_callV (As := [.int p1]) (rest := []) (st1 := [.int r1]) hE hl.1 ml_X9_368 (c_X9_hasBegun l g a0 (Mo_w_thrown s0 (0 : Int32)) p1 r1 hc2) hZ hS hP [(0, 14)] rfl okX9 rfl rfl rfl rfl ⟨rfl, rfl⟩ ⟨Nat.le_of_ble_eq_true rfl, Nat.le_of_ble_eq_true rfl⟩ ⟨Nat.le_refl _, Nat.le_refl _⟩ (Nat.le_of_ble_eq_true rfl) dX9_pull_7 ?_
  refine lv_if_eq hx hb dX9_pull_10 (tgt := 25) rfl (fun h3 => ?_) (fun h3 => ?_)
  · have hf := gif_t h3 hf
    refine lv_aload_n hx hb dX9_pull_25 rfl (lv_at hl 0 rfl) ?_
    refine lv_iconst hx hb dX9_pull_26 kci_1 ?_
    obtain ⟨r4, hc5, hf⟩ := gbd hf
    refine gm_callV1 (As := [.int (1 : Int32)]) (rest := []) (st1 := fun _ => [.int (r4.1)]) (ws' := fun _ => (Mo_c g a0 (r4.2))) hE hl.1 ml_X9_61 (c_X9_refused l g a0 (Mo_w_thrown s0 (0 : Int32)) (1 : Int32) r4 hc5) hZ hP hD hS hA 0 14 rfl (fun _ => rfl) okX9 rfl rfl rfl (fun _ => rfl) ⟨rfl, rfl⟩ ⟨Nat.le_of_ble_eq_true rfl, Nat.le_of_ble_eq_true rfl⟩ ⟨Nat.le_refl _, Nat.le_refl _⟩ (Nat.le_of_ble_eq_true rfl) dX9_pull_27 (fun _ H locs hP hD hS => ?_)
    cases hf
    exact hq () rfl hP hD hS dX9_pull_30
  · have hf := gif_f h3 hf
    refine lv_aload_n hx hb dX9_pull_13 rfl (lv_at hl 0 rfl) ?_
    refine lv_aload_n hx hb dX9_pull_14 rfl (lv_at hl 0 rfl) ?_
    refine lv_iload_n hx hb dX9_pull_15 rfl (lv_at hl 1 rfl) ?_
    obtain ⟨r6, hc7, hf⟩ := gbd hf
    refine gm_callV1 (As := [.int p1]) (rest := [.ref (a0 0)]) (st1 := fun _ => [.int (r6.1), .ref (a0 0)]) (ws' := fun _ => (Mo_c g a0 (r6.2))) hE hl.1 ml_X9_365 (c_X9_looks l g a0 (Mo_w_thrown s0 (0 : Int32)) p1 r6 hc7) hZ hP hD hS hA 0 14 rfl (fun _ => rfl) okX9 rfl rfl rfl (fun _ => rfl) ⟨rfl, rfl⟩ ⟨Nat.le_of_ble_eq_true rfl, Nat.le_of_ble_eq_true rfl⟩ ⟨Nat.le_refl _, Nat.le_refl _⟩ (Nat.le_of_ble_eq_true rfl) dX9_pull_16 (fun _ H locs hP hD hS => ?_)
    obtain ⟨r8, hc9, hf⟩ := gbd hf
    refine gm_callV1 (As := [.int (r6.1)]) (rest := []) (st1 := fun _ => [.int (r8.1)]) (ws' := fun _ => (Mo_c g a0 (r8.2))) hE hl.1 ml_X9_230 (c_X9_good l g a0 (r6.2) (r6.1) r8 hc9) hZ hP hD hS hA 0 14 rfl (fun _ => rfl) okX9 rfl rfl rfl (fun _ => rfl) ⟨rfl, rfl⟩ ⟨Nat.le_of_ble_eq_true rfl, Nat.le_of_ble_eq_true rfl⟩ ⟨Nat.le_refl _, Nat.le_refl _⟩ (Nat.le_of_ble_eq_true rfl) dX9_pull_19 (fun _ H locs hP hD hS => ?_)
    refine lv_goto hx hb dX9_pull_22 (tgt := 30) rfl ?_
    cases hf
    exact hq () rfl hP hD hS dX9_pull_30
theorem dX9_differences_0 : decode cX9_differences 0 = .ok (.iconst 0, 1) := by decide +kernel
theorem dX9_differences_1 : decode cX9_differences 1 = .ok (.istore_n 2, 1) := by decide +kernel
theorem dX9_differences_2 : decode cX9_differences 2 = .ok (.iconst 0, 1) := by decide +kernel
theorem dX9_differences_3 : decode cX9_differences 3 = .ok (.istore_n 3, 1) := by decide +kernel
theorem dX9_differences_4 : decode cX9_differences 4 = .ok (.iload_n 3, 1) := by decide +kernel
theorem dX9_differences_5 : decode cX9_differences 5 = .ok (.sipush 648, 3) := by decide +kernel
theorem dX9_differences_8 : decode cX9_differences 8 = .ok (.if_icmp .ge 34, 3) := by decide +kernel
theorem dX9_differences_11 : decode cX9_differences 11 = .ok (.iload_n 2, 1) := by decide +kernel
theorem dX9_differences_12 : decode cX9_differences 12 = .ok (.aload_n 0, 1) := by decide +kernel
theorem dX9_differences_13 : decode cX9_differences 13 = .ok (.iconst 0, 1) := by decide +kernel
theorem dX9_differences_14 : decode cX9_differences 14 = .ok (.iload_n 1, 1) := by decide +kernel
theorem dX9_differences_15 : decode cX9_differences 15 = .ok (.sipush 650, 3) := by decide +kernel
theorem dX9_differences_18 : decode cX9_differences 18 = .ok (.iload_n 3, 1) := by decide +kernel
theorem dX9_differences_19 : decode cX9_differences 19 = .ok (.iadd, 1) := by decide +kernel
theorem dX9_differences_20 : decode cX9_differences 20 = .ok (.invokestatic 359, 3) := by decide +kernel
theorem dX9_differences_23 : decode cX9_differences 23 = .ok (.invokevirtual 200, 3) := by decide +kernel
theorem dX9_differences_26 : decode cX9_differences 26 = .ok (.ifCond .eq 7, 3) := by decide +kernel
theorem dX9_differences_29 : decode cX9_differences 29 = .ok (.iconst 1, 1) := by decide +kernel
theorem dX9_differences_30 : decode cX9_differences 30 = .ok (.goto 4, 3) := by decide +kernel
theorem dX9_differences_33 : decode cX9_differences 33 = .ok (.iconst 0, 1) := by decide +kernel
theorem dX9_differences_34 : decode cX9_differences 34 = .ok (.iadd, 1) := by decide +kernel
theorem dX9_differences_35 : decode cX9_differences 35 = .ok (.istore_n 2, 1) := by decide +kernel
theorem dX9_differences_36 : decode cX9_differences 36 = .ok (.iinc 3 1, 3) := by decide +kernel
theorem dX9_differences_39 : decode cX9_differences 39 = .ok (.goto (-35), 3) := by decide +kernel
theorem dX9_differences_42 : decode cX9_differences 42 = .ok (.iload_n 2, 1) := by decide +kernel
theorem dX9_differences_43 : decode cX9_differences 43 = .ok (.ireturn, 1) := by decide +kernel
def f_X9_differences_L4_5 (s0 : MoT) (p1 : Int32) (K1 : (Int32 → Option (Int32))) : Nat → Int32 → Int32 → Option (Int32)
  | 0, _, _ => none
  | n6 + 1, x2_3, x3_4 => if (648 : Int32) ≤ x3_4 then K1 x2_3
  else (f_X9_subAt p1 ((650 : Int32) + x3_4)).bind fun r8 =>
  (f_X9_get s0 (0 : Int32) r8).bind fun r10 =>
  if r10 = 0 then f_X9_differences_L4_5 s0 p1 K1 n6 (x2_3 + (0 : Int32)) (x3_4 + (1 : Int32))
  else f_X9_differences_L4_5 s0 p1 K1 n6 (x2_3 + (1 : Int32)) (x3_4 + (1 : Int32))
def f_X9_differences (s0 : MoT) (p1 : Int32) : Option (Int32) :=
  glt (fun (x2_2 : Int32) => some (x2_2)) fun K1 =>
  f_X9_differences_L4_5 s0 p1 K1 10000 (0 : Int32) (0 : Int32)
abbrev rm_X9_differences : Room := { frames := 1, cells := 0, slots := 0, locals := 22 }
set_option maxHeartbeats 4000000 in
set_option maxRecDepth 100000 in
theorem c_X9_differences (l : Launch) (g : GK) (a0 : Nat → Nat) (s0 : MoT) (p1 : Int32) (res : (Int32)) (hf : f_X9_differences s0 p1 = some res) : gR l yX9_differences cX9_differences 4 (some .int) rm_X9_differences g [.ref (a0 0), .int p1] (Mo_c g a0 s0) (some (.int res)) := by
  refine gR_introI RX9 (by decide) rfl (Nat.le_of_ble_eq_true rfl) (fun p e s m args below meth c Q H locs ls hE hP hZ hS hq hl => ?_)
  have hl : lv_has ls 4 [(0, .ref (a0 0)), (1, .int p1)] := hl
  have hx := hE.1
  have hb := hE.2.1
  rw [f_X9_differences] at hf
  refine lv_iconst hx hb dX9_differences_0 kci_0 ?_
  refine lv_istore_n hx hb dX9_differences_1 rfl hl (by decide) (lv' := [(2, .int (0 : Int32)), (0, .ref (a0 0)), (1, .int p1)]) rfl (fun ls hl => ?_)
  refine lv_iconst hx hb dX9_differences_2 kci_0 ?_
  refine lv_istore_n hx hb dX9_differences_3 rfl hl (by decide) (lv' := [(3, .int (0 : Int32)), (2, .int (0 : Int32)), (0, .ref (a0 0)), (1, .int p1)]) rfl (fun ls hl => ?_)
  obtain ⟨K1, eK1, hf⟩ := gltd hf
  have kK1 : ∀ (x2_2 : Int32) (ls : Array Slot), K1 x2_2 = some res → lv_has ls 4 [(2, .int x2_2)] → W p l e rm_X9_differences s m args below meth c H locs 0 0 Q (F0 m 42 ls []) := by
    intro x2_2 ls hf hl
    rw [eK1] at hf
    refine lv_iload_n hx hb dX9_differences_42 rfl (lv_at hl 0 rfl) ?_
    cases hf
    exact hq rfl dX9_differences_43
  have lpn6 : ∀ (n6 : Nat) (x2_3 : Int32) (x3_4 : Int32) (ls : Array Slot), f_X9_differences_L4_5 s0 p1 K1 n6 x2_3 x3_4 = some res → lv_has ls 4 [(0, .ref (a0 0)), (1, .int p1), (2, .int x2_3), (3, .int x3_4)] → W p l e rm_X9_differences s m args below meth c H locs 0 0 Q (F0 m 4 ls []) := by
    intro n6
    induction n6 with
    | zero => intro x2_3 x3_4 ls hf hl; rw [f_X9_differences_L4_5] at hf; cases hf
    | succ n6 ihn6 =>
      intro x2_3 x3_4 ls hf hl
      rw [f_X9_differences_L4_5] at hf
      refine lv_iload_n hx hb dX9_differences_4 rfl (lv_at hl 3 rfl) ?_
      refine lv_sipush hx hb dX9_differences_5 kcs_648 ?_
      refine lv_icmp_ge hx hb dX9_differences_8 (tgt := 42) rfl (fun h7 => ?_) (fun h7 => ?_)
      · have hf := gif_t h7 hf
        exact kK1 x2_3 ls hf (lv_sub hl [2] rfl)
      · have hf := gif_f h7 hf
        refine lv_iload_n hx hb dX9_differences_11 rfl (lv_at hl 2 rfl) ?_
        refine lv_aload_n hx hb dX9_differences_12 rfl (lv_at hl 0 rfl) ?_
        refine lv_iconst hx hb dX9_differences_13 kci_0 ?_
        refine lv_iload_n hx hb dX9_differences_14 rfl (lv_at hl 1 rfl) ?_
        refine lv_sipush hx hb dX9_differences_15 kcs_650 ?_
        refine lv_iload_n hx hb dX9_differences_18 rfl (lv_at hl 3 rfl) ?_
        refine lv_iadd hx hb dX9_differences_19 ?_
        obtain ⟨r8, hc9, hf⟩ := gbd hf
        refine gr_callS (As := [.int p1, .int ((650 : Int32) + x3_4)]) (rest := [.int (0 : Int32), .ref (a0 0), .int x2_3]) (st1 := [.int r8, .int (0 : Int32), .ref (a0 0), .int x2_3]) hE hl.1 ml_X9_359 (c_X9_subAt l g p1 ((650 : Int32) + x3_4) r8 hc9) hZ hS hP [] rfl rfl rfl rfl ⟨rfl, rfl⟩ ⟨Nat.le_of_ble_eq_true rfl, Nat.le_of_ble_eq_true rfl⟩ ⟨Nat.le_refl _, Nat.le_refl _⟩ (Nat.le_of_ble_eq_true rfl) dX9_differences_20 ?_
        obtain ⟨r10, hc11, hf⟩ := gbd hf
        refine gr_callV (As := [.int (0 : Int32), .int r8]) (rest := [.int x2_3]) (st1 := [.int r10, .int x2_3]) hE hl.1 ml_X9_200 (c_X9_get l g a0 s0 (0 : Int32) r8 r10 hc11) hZ hS hP [(0, 14)] rfl okX9 rfl rfl rfl rfl ⟨rfl, rfl⟩ ⟨Nat.le_of_ble_eq_true rfl, Nat.le_of_ble_eq_true rfl⟩ ⟨Nat.le_refl _, Nat.le_refl _⟩ (Nat.le_of_ble_eq_true rfl) dX9_differences_23 ?_
        refine lv_if_eq hx hb dX9_differences_26 (tgt := 33) rfl (fun h12 => ?_) (fun h12 => ?_)
        · have hf := gif_t h12 hf
          refine lv_iconst hx hb dX9_differences_33 kci_0 ?_
          refine lv_iadd hx hb dX9_differences_34 ?_
          refine lv_istore_n hx hb dX9_differences_35 rfl hl (by decide) (lv' := [(2, .int (x2_3 + (0 : Int32))), (0, .ref (a0 0)), (1, .int p1), (3, .int x3_4)]) rfl (fun ls hl => ?_)
          refine lv_iinc hx hb dX9_differences_36 hl (k := 3) (x := x3_4) rfl (kinc_1 _) (by decide) (lv' := [(3, .int (x3_4 + (1 : Int32))), (2, .int (x2_3 + (0 : Int32))), (0, .ref (a0 0)), (1, .int p1)]) rfl (fun ls hl => ?_)
          refine lv_goto hx hb dX9_differences_39 (tgt := 4) rfl ?_
          exact ihn6 (x2_3 + (0 : Int32)) (x3_4 + (1 : Int32)) ls hf (lv_sub hl [2, 3, 1, 0] rfl)
        · have hf := gif_f h12 hf
          refine lv_iconst hx hb dX9_differences_29 kci_1 ?_
          refine lv_goto hx hb dX9_differences_30 (tgt := 34) rfl ?_
          refine lv_iadd hx hb dX9_differences_34 ?_
          refine lv_istore_n hx hb dX9_differences_35 rfl hl (by decide) (lv' := [(2, .int (x2_3 + (1 : Int32))), (0, .ref (a0 0)), (1, .int p1), (3, .int x3_4)]) rfl (fun ls hl => ?_)
          refine lv_iinc hx hb dX9_differences_36 hl (k := 3) (x := x3_4) rfl (kinc_1 _) (by decide) (lv' := [(3, .int (x3_4 + (1 : Int32))), (2, .int (x2_3 + (1 : Int32))), (0, .ref (a0 0)), (1, .int p1)]) rfl (fun ls hl => ?_)
          refine lv_goto hx hb dX9_differences_39 (tgt := 4) rfl ?_
          exact ihn6 (x2_3 + (1 : Int32)) (x3_4 + (1 : Int32)) ls hf (lv_sub hl [2, 3, 1, 0] rfl)
  exact lpn6 10000 (0 : Int32) (0 : Int32) ls hf (lv_sub hl [2, 3, 1, 0] rfl)
theorem dX9_pulled_0 : decode cX9_pulled 0 = .ok (.aload_n 0, 1) := by decide +kernel
theorem dX9_pulled_1 : decode cX9_pulled 1 = .ok (.iconst 0, 1) := by decide +kernel
theorem dX9_pulled_2 : decode cX9_pulled 2 = .ok (.putfield 55, 3) := by decide +kernel
theorem dX9_pulled_5 : decode cX9_pulled 5 = .ok (.aload_n 0, 1) := by decide +kernel
theorem dX9_pulled_6 : decode cX9_pulled 6 = .ok (.iload_n 1, 1) := by decide +kernel
theorem dX9_pulled_7 : decode cX9_pulled 7 = .ok (.invokevirtual 368, 3) := by decide +kernel
theorem dX9_pulled_10 : decode cX9_pulled 10 = .ok (.ifCond .eq 27, 3) := by decide +kernel
theorem dX9_pulled_13 : decode cX9_pulled 13 = .ok (.iload_n 3, 1) := by decide +kernel
theorem dX9_pulled_14 : decode cX9_pulled 14 = .ok (.iconst 0, 1) := by decide +kernel
theorem dX9_pulled_15 : decode cX9_pulled 15 = .ok (.iconst 3, 1) := by decide +kernel
theorem dX9_pulled_16 : decode cX9_pulled 16 = .ok (.invokestatic 90, 3) := by decide +kernel
theorem dX9_pulled_19 : decode cX9_pulled 19 = .ok (.ifCond .eq 18, 3) := by decide +kernel
theorem dX9_pulled_22 : decode cX9_pulled 22 = .ok (.iload_n 2, 1) := by decide +kernel
theorem dX9_pulled_23 : decode cX9_pulled 23 = .ok (.iconst 0, 1) := by decide +kernel
theorem dX9_pulled_24 : decode cX9_pulled 24 = .ok (.aload_n 0, 1) := by decide +kernel
theorem dX9_pulled_25 : decode cX9_pulled 25 = .ok (.iload_n 1, 1) := by decide +kernel
theorem dX9_pulled_26 : decode cX9_pulled 26 = .ok (.invokevirtual 371, 3) := by decide +kernel
theorem dX9_pulled_29 : decode cX9_pulled 29 = .ok (.iconst 1, 1) := by decide +kernel
theorem dX9_pulled_30 : decode cX9_pulled 30 = .ok (.isub, 1) := by decide +kernel
theorem dX9_pulled_31 : decode cX9_pulled 31 = .ok (.invokestatic 90, 3) := by decide +kernel
theorem dX9_pulled_34 : decode cX9_pulled 34 = .ok (.ifCond .ne 9, 3) := by decide +kernel
theorem dX9_pulled_37 : decode cX9_pulled 37 = .ok (.aload_n 0, 1) := by decide +kernel
theorem dX9_pulled_38 : decode cX9_pulled 38 = .ok (.iconst 1, 1) := by decide +kernel
theorem dX9_pulled_39 : decode cX9_pulled 39 = .ok (.invokevirtual 306, 3) := by decide +kernel
theorem dX9_pulled_42 : decode cX9_pulled 42 = .ok (.ireturn, 1) := by decide +kernel
theorem dX9_pulled_43 : decode cX9_pulled 43 = .ok (.iconst 0, 1) := by decide +kernel
theorem dX9_pulled_44 : decode cX9_pulled 44 = .ok (.istore 4, 2) := by decide +kernel
theorem dX9_pulled_46 : decode cX9_pulled 46 = .ok (.iload_n 2, 1) := by decide +kernel
theorem dX9_pulled_47 : decode cX9_pulled 47 = .ok (.istore 5, 2) := by decide +kernel
theorem dX9_pulled_49 : decode cX9_pulled 49 = .ok (.iload 5, 2) := by decide +kernel
theorem dX9_pulled_51 : decode cX9_pulled 51 = .ok (.ifCond .gt 21, 3) := by decide +kernel
theorem dX9_pulled_54 : decode cX9_pulled 54 = .ok (.aload_n 0, 1) := by decide +kernel
theorem dX9_pulled_55 : decode cX9_pulled 55 = .ok (.iconst 0, 1) := by decide +kernel
theorem dX9_pulled_56 : decode cX9_pulled 56 = .ok (.iload_n 1, 1) := by decide +kernel
theorem dX9_pulled_57 : decode cX9_pulled 57 = .ok (.sipush 650, 3) := by decide +kernel
theorem dX9_pulled_60 : decode cX9_pulled 60 = .ok (.iload 4, 2) := by decide +kernel
theorem dX9_pulled_62 : decode cX9_pulled 62 = .ok (.iadd, 1) := by decide +kernel
theorem dX9_pulled_63 : decode cX9_pulled 63 = .ok (.invokestatic 359, 3) := by decide +kernel
theorem dX9_pulled_66 : decode cX9_pulled 66 = .ok (.invokevirtual 200, 3) := by decide +kernel
theorem dX9_pulled_69 : decode cX9_pulled 69 = .ok (.ifCond .ne 37, 3) := by decide +kernel
theorem dX9_pulled_72 : decode cX9_pulled 72 = .ok (.iload 5, 2) := by decide +kernel
theorem dX9_pulled_74 : decode cX9_pulled 74 = .ok (.aload_n 0, 1) := by decide +kernel
theorem dX9_pulled_75 : decode cX9_pulled 75 = .ok (.iconst 0, 1) := by decide +kernel
theorem dX9_pulled_76 : decode cX9_pulled 76 = .ok (.iload_n 1, 1) := by decide +kernel
theorem dX9_pulled_77 : decode cX9_pulled 77 = .ok (.sipush 650, 3) := by decide +kernel
theorem dX9_pulled_80 : decode cX9_pulled 80 = .ok (.iload 4, 2) := by decide +kernel
theorem dX9_pulled_82 : decode cX9_pulled 82 = .ok (.iadd, 1) := by decide +kernel
theorem dX9_pulled_83 : decode cX9_pulled 83 = .ok (.invokestatic 359, 3) := by decide +kernel
theorem dX9_pulled_86 : decode cX9_pulled 86 = .ok (.invokevirtual 200, 3) := by decide +kernel
theorem dX9_pulled_89 : decode cX9_pulled 89 = .ok (.ifCond .eq 7, 3) := by decide +kernel
theorem dX9_pulled_92 : decode cX9_pulled 92 = .ok (.iconst 1, 1) := by decide +kernel
theorem dX9_pulled_93 : decode cX9_pulled 93 = .ok (.goto 4, 3) := by decide +kernel
theorem dX9_pulled_96 : decode cX9_pulled 96 = .ok (.iconst 0, 1) := by decide +kernel
theorem dX9_pulled_97 : decode cX9_pulled 97 = .ok (.isub, 1) := by decide +kernel
theorem dX9_pulled_98 : decode cX9_pulled 98 = .ok (.istore 5, 2) := by decide +kernel
theorem dX9_pulled_100 : decode cX9_pulled 100 = .ok (.iinc 4 1, 3) := by decide +kernel
theorem dX9_pulled_103 : decode cX9_pulled 103 = .ok (.goto (-54), 3) := by decide +kernel
theorem dX9_pulled_106 : decode cX9_pulled 106 = .ok (.iload_n 3, 1) := by decide +kernel
theorem dX9_pulled_107 : decode cX9_pulled 107 = .ok (.tableswitch 64 0 2 #[25, 35, 51], 25) := by decide +kernel
theorem dX9_pulled_132 : decode cX9_pulled 132 = .ok (.aload_n 0, 1) := by decide +kernel
theorem dX9_pulled_133 : decode cX9_pulled 133 = .ok (.iload 4, 2) := by decide +kernel
theorem dX9_pulled_135 : decode cX9_pulled 135 = .ok (.bipush 81, 2) := by decide +kernel
theorem dX9_pulled_137 : decode cX9_pulled 137 = .ok (.idiv, 1) := by decide +kernel
theorem dX9_pulled_138 : decode cX9_pulled 138 = .ok (.invokevirtual 230, 3) := by decide +kernel
theorem dX9_pulled_141 : decode cX9_pulled 141 = .ok (.ireturn, 1) := by decide +kernel
theorem dX9_pulled_142 : decode cX9_pulled 142 = .ok (.aload_n 0, 1) := by decide +kernel
theorem dX9_pulled_143 : decode cX9_pulled 143 = .ok (.iload 4, 2) := by decide +kernel
theorem dX9_pulled_145 : decode cX9_pulled 145 = .ok (.bipush 9, 2) := by decide +kernel
theorem dX9_pulled_147 : decode cX9_pulled 147 = .ok (.idiv, 1) := by decide +kernel
theorem dX9_pulled_148 : decode cX9_pulled 148 = .ok (.bipush 9, 2) := by decide +kernel
theorem dX9_pulled_150 : decode cX9_pulled 150 = .ok (.irem, 1) := by decide +kernel
theorem dX9_pulled_151 : decode cX9_pulled 151 = .ok (.invokestatic 336, 3) := by decide +kernel
theorem dX9_pulled_154 : decode cX9_pulled 154 = .ok (.invokevirtual 230, 3) := by decide +kernel
theorem dX9_pulled_157 : decode cX9_pulled 157 = .ok (.ireturn, 1) := by decide +kernel
theorem dX9_pulled_158 : decode cX9_pulled 158 = .ok (.aload_n 0, 1) := by decide +kernel
theorem dX9_pulled_159 : decode cX9_pulled 159 = .ok (.iload 4, 2) := by decide +kernel
theorem dX9_pulled_161 : decode cX9_pulled 161 = .ok (.bipush 9, 2) := by decide +kernel
theorem dX9_pulled_163 : decode cX9_pulled 163 = .ok (.irem, 1) := by decide +kernel
theorem dX9_pulled_164 : decode cX9_pulled 164 = .ok (.invokestatic 336, 3) := by decide +kernel
theorem dX9_pulled_167 : decode cX9_pulled 167 = .ok (.invokevirtual 230, 3) := by decide +kernel
theorem dX9_pulled_170 : decode cX9_pulled 170 = .ok (.ireturn, 1) := by decide +kernel
theorem dX9_pulled_171 : decode cX9_pulled 171 = .ok (.aload_n 0, 1) := by decide +kernel
theorem dX9_pulled_172 : decode cX9_pulled 172 = .ok (.aload_n 0, 1) := by decide +kernel
theorem dX9_pulled_173 : decode cX9_pulled 173 = .ok (.iconst 0, 1) := by decide +kernel
theorem dX9_pulled_174 : decode cX9_pulled 174 = .ok (.iload_n 1, 1) := by decide +kernel
theorem dX9_pulled_175 : decode cX9_pulled 175 = .ok (.sipush 650, 3) := by decide +kernel
theorem dX9_pulled_178 : decode cX9_pulled 178 = .ok (.iload 4, 2) := by decide +kernel
theorem dX9_pulled_180 : decode cX9_pulled 180 = .ok (.iadd, 1) := by decide +kernel
theorem dX9_pulled_181 : decode cX9_pulled 181 = .ok (.invokestatic 359, 3) := by decide +kernel
theorem dX9_pulled_184 : decode cX9_pulled 184 = .ok (.invokevirtual 200, 3) := by decide +kernel
theorem dX9_pulled_187 : decode cX9_pulled 187 = .ok (.invokevirtual 230, 3) := by decide +kernel
theorem dX9_pulled_190 : decode cX9_pulled 190 = .ok (.ireturn, 1) := by decide +kernel
def f_X9_pulled_L49_39 (s0 : MoT) (p1 : Int32) (K16 : (Int32 → Option (Int32 × MoT))) : Nat → Int32 → Int32 → Option (Int32 × MoT)
  | 0, _, _ => none
  | n40 + 1, x4_37, x5_38 => glt (fun (_ : Unit) => (f_X9_subAt p1 ((650 : Int32) + x4_37)).bind fun r42 =>
  (f_X9_get (Mo_w_thrown s0 (0 : Int32)) (0 : Int32) r42).bind fun r44 =>
  if r44 = 0 then f_X9_pulled_L49_39 s0 p1 K16 n40 (x4_37 + (1 : Int32)) (x5_38 - (0 : Int32))
  else f_X9_pulled_L49_39 s0 p1 K16 n40 (x4_37 + (1 : Int32)) (x5_38 - (1 : Int32))) fun J41 =>
  if 0 < x5_38 then J41 ()
  else (f_X9_subAt p1 ((650 : Int32) + x4_37)).bind fun r48 =>
  (f_X9_get (Mo_w_thrown s0 (0 : Int32)) (0 : Int32) r48).bind fun r50 =>
  if r50 = 0 then J41 ()
  else K16 x4_37
def f_X9_pulled (s0 : MoT) (p1 : Int32) (p2 : Int32) (p3 : Int32) : Option (Int32 × MoT) :=
  (f_X9_hasBegun (Mo_w_thrown s0 (0 : Int32)) p1).bind fun r1 =>
  if r1 = 0 then (f_X9_refusedLow (Mo_w_thrown s0 (0 : Int32)) (1 : Int32)).bind fun r4 =>
  some ((r4.1), (r4.2))
  else (f_X9_in p3 (0 : Int32) (3 : Int32)).bind fun r6 =>
  if r6 = 0 then (f_X9_refusedLow (Mo_w_thrown s0 (0 : Int32)) (1 : Int32)).bind fun r9 =>
  some ((r9.1), (r9.2))
  else (f_X9_differences (Mo_w_thrown s0 (0 : Int32)) p1).bind fun r11 =>
  (f_X9_in p2 (0 : Int32) (r11 - (1 : Int32))).bind fun r13 =>
  if r13 = 0 then (f_X9_refusedLow (Mo_w_thrown s0 (0 : Int32)) (1 : Int32)).bind fun r53 =>
  some ((r53.1), (r53.2))
  else glt (fun (x4_17 : Int32) => if p3 = (0 : Int32) then (f_X9_good (Mo_w_thrown s0 (0 : Int32)) (x4_17 / (81 : Int32))).bind fun r19 =>
  some ((r19.1), (r19.2))
  else if p3 = (1 : Int32) then (f_X9_told (irem (x4_17 / (9 : Int32)) (9 : Int32))).bind fun r22 =>
  (f_X9_good (Mo_w_thrown s0 (0 : Int32)) r22).bind fun r24 =>
  some ((r24.1), (r24.2))
  else if p3 = (2 : Int32) then (f_X9_told (irem x4_17 (9 : Int32))).bind fun r27 =>
  (f_X9_good (Mo_w_thrown s0 (0 : Int32)) r27).bind fun r29 =>
  some ((r29.1), (r29.2))
  else (f_X9_subAt p1 ((650 : Int32) + x4_17)).bind fun r31 =>
  (f_X9_get (Mo_w_thrown s0 (0 : Int32)) (0 : Int32) r31).bind fun r33 =>
  (f_X9_good (Mo_w_thrown s0 (0 : Int32)) r33).bind fun r35 =>
  some ((r35.1), (r35.2))) fun K16 =>
  f_X9_pulled_L49_39 s0 p1 K16 10000 (0 : Int32) p2
abbrev rm_X9_pulled : Room := { frames := 2, cells := 0, slots := 0, locals := 45 }
set_option maxHeartbeats 4000000 in
set_option maxRecDepth 100000 in
theorem c_X9_pulled (l : Launch) (g : GK) (a0 : Nat → Nat) (s0 : MoT) (p1 : Int32) (p2 : Int32) (p3 : Int32) (res : (Int32 × MoT)) (hf : f_X9_pulled s0 p1 p2 p3 = some res) : gM l yX9_pulled cX9_pulled 6 (some .int) rm_X9_pulled g [.ref (a0 0), .int p1, .int p2, .int p3] (Mo_c g a0 s0) (fun _ : Unit => (some (.int (res.1)))) (fun _ => (Mo_c g a0 (res.2))) 0 0 := by
  refine gM_introI RX9 (by decide) rfl (Nat.le_of_ble_eq_true rfl) (fun p e s m args below meth c Q H locs ls A hE hZ hA hP hD hS hq hl => ?_)
  have hl : lv_has ls 6 [(0, .ref (a0 0)), (1, .int p1), (2, .int p2), (3, .int p3)] := hl
  have hx := hE.1
  have hb := hE.2.1
  rw [f_X9_pulled] at hf
  refine lv_aload_n hx hb dX9_pulled_0 rfl (lv_at hl 0 rfl) ?_
  refine lv_iconst hx hb dX9_pulled_1 kci_0 ?_
  refine g_put hE okX9 fl_X9_55 hP hD hS 0 rfl rfl rfl rfl (Nat.le_of_ble_eq_true rfl) (Mo_c g a0 (Mo_w_thrown s0 (0 : Int32))) rfl dX9_pulled_2 (fun H locs hP hD hS => ?_)
  refine lv_aload_n hx hb dX9_pulled_5 rfl (lv_at hl 0 rfl) ?_
  refine lv_iload_n hx hb dX9_pulled_6 rfl (lv_at hl 1 rfl) ?_
  obtain ⟨r1, hc2, hf⟩ := gbd hf
  refine gr_callV (As := [.int p1]) (rest := []) (st1 := [.int r1]) hE hl.1 ml_X9_368 (c_X9_hasBegun l g a0 (Mo_w_thrown s0 (0 : Int32)) p1 r1 hc2) hZ hS hP [(0, 14)] rfl okX9 rfl rfl rfl rfl ⟨rfl, rfl⟩ ⟨Nat.le_of_ble_eq_true rfl, Nat.le_of_ble_eq_true rfl⟩ ⟨Nat.le_refl _, Nat.le_refl _⟩ (Nat.le_of_ble_eq_true rfl) dX9_pulled_7 ?_
  refine lv_if_eq hx hb dX9_pulled_10 (tgt := 37) rfl (fun h3 => ?_) (fun h3 => ?_)
  · have hf := gif_t h3 hf
    refine lv_aload_n hx hb dX9_pulled_37 rfl (lv_at hl 0 rfl) ?_
    refine lv_iconst hx hb dX9_pulled_38 kci_1 ?_
    obtain ⟨r4, hc5, hf⟩ := gbd hf
    refine gm_callV1 (As := [.int (1 : Int32)]) (rest := []) (st1 := fun _ => [.int (r4.1)]) (ws' := fun _ => (Mo_c g a0 (r4.2))) hE hl.1 ml_X9_306 (c_X9_refusedLow l g a0 (Mo_w_thrown s0 (0 : Int32)) (1 : Int32) r4 hc5) hZ hP hD hS hA 0 14 rfl (fun _ => rfl) okX9 rfl rfl rfl (fun _ => rfl) ⟨rfl, rfl⟩ ⟨Nat.le_of_ble_eq_true rfl, Nat.le_of_ble_eq_true rfl⟩ ⟨Nat.le_refl _, Nat.le_refl _⟩ (Nat.le_of_ble_eq_true rfl) dX9_pulled_39 (fun _ H locs hP hD hS => ?_)
    cases hf
    exact hq () rfl hP hD hS dX9_pulled_42
  · have hf := gif_f h3 hf
    refine lv_iload_n hx hb dX9_pulled_13 rfl (lv_at hl 3 rfl) ?_
    refine lv_iconst hx hb dX9_pulled_14 kci_0 ?_
    refine lv_iconst hx hb dX9_pulled_15 kci_3 ?_
    obtain ⟨r6, hc7, hf⟩ := gbd hf
    refine gr_callS (As := [.int p3, .int (0 : Int32), .int (3 : Int32)]) (rest := []) (st1 := [.int r6]) hE hl.1 ml_X9_90 (c_X9_in l g p3 (0 : Int32) (3 : Int32) r6 hc7) hZ hS hP [] rfl rfl rfl rfl ⟨rfl, rfl⟩ ⟨Nat.le_of_ble_eq_true rfl, Nat.le_of_ble_eq_true rfl⟩ ⟨Nat.le_refl _, Nat.le_refl _⟩ (Nat.le_of_ble_eq_true rfl) dX9_pulled_16 ?_
    refine lv_if_eq hx hb dX9_pulled_19 (tgt := 37) rfl (fun h8 => ?_) (fun h8 => ?_)
    · have hf := gif_t h8 hf
      refine lv_aload_n hx hb dX9_pulled_37 rfl (lv_at hl 0 rfl) ?_
      refine lv_iconst hx hb dX9_pulled_38 kci_1 ?_
      obtain ⟨r9, hc10, hf⟩ := gbd hf
      refine gm_callV1 (As := [.int (1 : Int32)]) (rest := []) (st1 := fun _ => [.int (r9.1)]) (ws' := fun _ => (Mo_c g a0 (r9.2))) hE hl.1 ml_X9_306 (c_X9_refusedLow l g a0 (Mo_w_thrown s0 (0 : Int32)) (1 : Int32) r9 hc10) hZ hP hD hS hA 0 14 rfl (fun _ => rfl) okX9 rfl rfl rfl (fun _ => rfl) ⟨rfl, rfl⟩ ⟨Nat.le_of_ble_eq_true rfl, Nat.le_of_ble_eq_true rfl⟩ ⟨Nat.le_refl _, Nat.le_refl _⟩ (Nat.le_of_ble_eq_true rfl) dX9_pulled_39 (fun _ H locs hP hD hS => ?_)
      cases hf
      exact hq () rfl hP hD hS dX9_pulled_42
    · have hf := gif_f h8 hf
      refine lv_iload_n hx hb dX9_pulled_22 rfl (lv_at hl 2 rfl) ?_
      refine lv_iconst hx hb dX9_pulled_23 kci_0 ?_
      refine lv_aload_n hx hb dX9_pulled_24 rfl (lv_at hl 0 rfl) ?_
      refine lv_iload_n hx hb dX9_pulled_25 rfl (lv_at hl 1 rfl) ?_
      obtain ⟨r11, hc12, hf⟩ := gbd hf
      refine gr_callV (As := [.int p1]) (rest := [.int (0 : Int32), .int p2]) (st1 := [.int r11, .int (0 : Int32), .int p2]) hE hl.1 ml_X9_371 (c_X9_differences l g a0 (Mo_w_thrown s0 (0 : Int32)) p1 r11 hc12) hZ hS hP [(0, 14)] rfl okX9 rfl rfl rfl rfl ⟨rfl, rfl⟩ ⟨Nat.le_of_ble_eq_true rfl, Nat.le_of_ble_eq_true rfl⟩ ⟨Nat.le_refl _, Nat.le_refl _⟩ (Nat.le_of_ble_eq_true rfl) dX9_pulled_26 ?_
      refine lv_iconst hx hb dX9_pulled_29 kci_1 ?_
      refine lv_isub hx hb dX9_pulled_30 ?_
      obtain ⟨r13, hc14, hf⟩ := gbd hf
      refine gr_callS (As := [.int p2, .int (0 : Int32), .int (r11 - (1 : Int32))]) (rest := []) (st1 := [.int r13]) hE hl.1 ml_X9_90 (c_X9_in l g p2 (0 : Int32) (r11 - (1 : Int32)) r13 hc14) hZ hS hP [] rfl rfl rfl rfl ⟨rfl, rfl⟩ ⟨Nat.le_of_ble_eq_true rfl, Nat.le_of_ble_eq_true rfl⟩ ⟨Nat.le_refl _, Nat.le_refl _⟩ (Nat.le_of_ble_eq_true rfl) dX9_pulled_31 ?_
      refine lv_if_ne hx hb dX9_pulled_34 (tgt := 43) rfl (fun h15 => ?_) (fun h15 => ?_)
      · have hf := gif_f h15 hf
        refine lv_iconst hx hb dX9_pulled_43 kci_0 ?_
        refine lv_istore hx hb dX9_pulled_44 hl (by decide) (lv' := [(4, .int (0 : Int32)), (0, .ref (a0 0)), (1, .int p1), (2, .int p2), (3, .int p3)]) rfl (fun ls hl => ?_)
        refine lv_iload_n hx hb dX9_pulled_46 rfl (lv_at hl 3 rfl) ?_
        refine lv_istore hx hb dX9_pulled_47 hl (by decide) (lv' := [(5, .int p2), (4, .int (0 : Int32)), (0, .ref (a0 0)), (1, .int p1), (2, .int p2), (3, .int p3)]) rfl (fun ls hl => ?_)
        obtain ⟨K16, eK16, hf⟩ := gltd hf
        have kK16 : ∀ (x4_17 : Int32) (ls : Array Slot) (H : Heap) (locs : List Loc), K16 x4_17 = some res → lv_has ls 6 [(0, .ref (a0 0)), (1, .int p1), (3, .int p3), (4, .int x4_17)] → gP g (Mo_c g a0 (Mo_w_thrown s0 (0 : Int32))) H → va_D A (Mo_c g a0 (Mo_w_thrown s0 (0 : Int32))) → va_S A s.heap H locs → W p l e rm_X9_pulled s m args below meth c H locs 0 0 Q (F0 m 106 ls []) := by
          intro x4_17 ls H locs hf hl hP hD hS
          rw [eK16] at hf
          refine lv_iload_n hx hb dX9_pulled_106 rfl (lv_at hl 2 rfl) ?_
          by_cases h18 : p3 = (0 : Int32)
          · have hf := gif_t h18 hf
            refine g_swIn hE h18 dX9_pulled_107 (0) ⟨by decide, by decide⟩ (by decide) (off := 25) rfl (tgt := 132) rfl ?_
            refine lv_aload_n hx hb dX9_pulled_132 rfl (lv_at hl 0 rfl) ?_
            refine lv_iload hx hb dX9_pulled_133 (lv_at hl 3 rfl) ?_
            refine lv_bipush hx hb dX9_pulled_135 kcb_81 ?_
            refine lv_idiv hx hb dX9_pulled_137 kne_81 ?_
            obtain ⟨r19, hc20, hf⟩ := gbd hf
            refine gm_callV1 (As := [.int (x4_17 / (81 : Int32))]) (rest := []) (st1 := fun _ => [.int (r19.1)]) (ws' := fun _ => (Mo_c g a0 (r19.2))) hE hl.1 ml_X9_230 (c_X9_good l g a0 (Mo_w_thrown s0 (0 : Int32)) (x4_17 / (81 : Int32)) r19 hc20) hZ hP hD hS hA 0 14 rfl (fun _ => rfl) okX9 rfl rfl rfl (fun _ => rfl) ⟨rfl, rfl⟩ ⟨Nat.le_of_ble_eq_true rfl, Nat.le_of_ble_eq_true rfl⟩ ⟨Nat.le_refl _, Nat.le_refl _⟩ (Nat.le_of_ble_eq_true rfl) dX9_pulled_138 (fun _ H locs hP hD hS => ?_)
            cases hf
            exact hq () rfl hP hD hS dX9_pulled_141
          have hf := gif_f h18 hf
          by_cases h21 : p3 = (1 : Int32)
          · have hf := gif_t h21 hf
            refine g_swIn hE h21 dX9_pulled_107 (1) ⟨by decide, by decide⟩ (by decide) (off := 35) rfl (tgt := 142) rfl ?_
            refine lv_aload_n hx hb dX9_pulled_142 rfl (lv_at hl 0 rfl) ?_
            refine lv_iload hx hb dX9_pulled_143 (lv_at hl 3 rfl) ?_
            refine lv_bipush hx hb dX9_pulled_145 kcb_9 ?_
            refine lv_idiv hx hb dX9_pulled_147 kne_9 ?_
            refine lv_bipush hx hb dX9_pulled_148 kcb_9 ?_
            refine lv_irem hx hb dX9_pulled_150 kne_9 ?_
            obtain ⟨r22, hc23, hf⟩ := gbd hf
            refine gr_callS (As := [.int (irem (x4_17 / (9 : Int32)) (9 : Int32))]) (rest := [.ref (a0 0)]) (st1 := [.int r22, .ref (a0 0)]) hE hl.1 ml_X9_336 (c_X9_told l g (irem (x4_17 / (9 : Int32)) (9 : Int32)) r22 hc23) hZ hS hP [] rfl rfl rfl rfl ⟨rfl, rfl⟩ ⟨Nat.le_of_ble_eq_true rfl, Nat.le_of_ble_eq_true rfl⟩ ⟨Nat.le_refl _, Nat.le_refl _⟩ (Nat.le_of_ble_eq_true rfl) dX9_pulled_151 ?_
            obtain ⟨r24, hc25, hf⟩ := gbd hf
            refine gm_callV1 (As := [.int r22]) (rest := []) (st1 := fun _ => [.int (r24.1)]) (ws' := fun _ => (Mo_c g a0 (r24.2))) hE hl.1 ml_X9_230 (c_X9_good l g a0 (Mo_w_thrown s0 (0 : Int32)) r22 r24 hc25) hZ hP hD hS hA 0 14 rfl (fun _ => rfl) okX9 rfl rfl rfl (fun _ => rfl) ⟨rfl, rfl⟩ ⟨Nat.le_of_ble_eq_true rfl, Nat.le_of_ble_eq_true rfl⟩ ⟨Nat.le_refl _, Nat.le_refl _⟩ (Nat.le_of_ble_eq_true rfl) dX9_pulled_154 (fun _ H locs hP hD hS => ?_)
            cases hf
            exact hq () rfl hP hD hS dX9_pulled_157
          have hf := gif_f h21 hf
          by_cases h26 : p3 = (2 : Int32)
          · have hf := gif_t h26 hf
            refine g_swIn hE h26 dX9_pulled_107 (2) ⟨by decide, by decide⟩ (by decide) (off := 51) rfl (tgt := 158) rfl ?_
            refine lv_aload_n hx hb dX9_pulled_158 rfl (lv_at hl 0 rfl) ?_
            refine lv_iload hx hb dX9_pulled_159 (lv_at hl 3 rfl) ?_
            refine lv_bipush hx hb dX9_pulled_161 kcb_9 ?_
            refine lv_irem hx hb dX9_pulled_163 kne_9 ?_
            obtain ⟨r27, hc28, hf⟩ := gbd hf
            refine gr_callS (As := [.int (irem x4_17 (9 : Int32))]) (rest := [.ref (a0 0)]) (st1 := [.int r27, .ref (a0 0)]) hE hl.1 ml_X9_336 (c_X9_told l g (irem x4_17 (9 : Int32)) r27 hc28) hZ hS hP [] rfl rfl rfl rfl ⟨rfl, rfl⟩ ⟨Nat.le_of_ble_eq_true rfl, Nat.le_of_ble_eq_true rfl⟩ ⟨Nat.le_refl _, Nat.le_refl _⟩ (Nat.le_of_ble_eq_true rfl) dX9_pulled_164 ?_
            obtain ⟨r29, hc30, hf⟩ := gbd hf
            refine gm_callV1 (As := [.int r27]) (rest := []) (st1 := fun _ => [.int (r29.1)]) (ws' := fun _ => (Mo_c g a0 (r29.2))) hE hl.1 ml_X9_230 (c_X9_good l g a0 (Mo_w_thrown s0 (0 : Int32)) r27 r29 hc30) hZ hP hD hS hA 0 14 rfl (fun _ => rfl) okX9 rfl rfl rfl (fun _ => rfl) ⟨rfl, rfl⟩ ⟨Nat.le_of_ble_eq_true rfl, Nat.le_of_ble_eq_true rfl⟩ ⟨Nat.le_refl _, Nat.le_refl _⟩ (Nat.le_of_ble_eq_true rfl) dX9_pulled_167 (fun _ H locs hP hD hS => ?_)
            cases hf
            exact hq () rfl hP hD hS dX9_pulled_170
          have hf := gif_f h26 hf
          refine lv_tableOut hx hb dX9_pulled_107 (by have := nti h18 (k := 0) (by decide); have := nti h21 (k := 1) (by decide); have := nti h26 (k := 2) (by decide); omega) (tgt := 171) rfl ?_
          refine lv_aload_n hx hb dX9_pulled_171 rfl (lv_at hl 0 rfl) ?_
          refine lv_aload_n hx hb dX9_pulled_172 rfl (lv_at hl 0 rfl) ?_
          refine lv_iconst hx hb dX9_pulled_173 kci_0 ?_
          refine lv_iload_n hx hb dX9_pulled_174 rfl (lv_at hl 1 rfl) ?_
          refine lv_sipush hx hb dX9_pulled_175 kcs_650 ?_
          refine lv_iload hx hb dX9_pulled_178 (lv_at hl 3 rfl) ?_
          refine lv_iadd hx hb dX9_pulled_180 ?_
          obtain ⟨r31, hc32, hf⟩ := gbd hf
          refine gr_callS (As := [.int p1, .int ((650 : Int32) + x4_17)]) (rest := [.int (0 : Int32), .ref (a0 0), .ref (a0 0)]) (st1 := [.int r31, .int (0 : Int32), .ref (a0 0), .ref (a0 0)]) hE hl.1 ml_X9_359 (c_X9_subAt l g p1 ((650 : Int32) + x4_17) r31 hc32) hZ hS hP [] rfl rfl rfl rfl ⟨rfl, rfl⟩ ⟨Nat.le_of_ble_eq_true rfl, Nat.le_of_ble_eq_true rfl⟩ ⟨Nat.le_refl _, Nat.le_refl _⟩ (Nat.le_of_ble_eq_true rfl) dX9_pulled_181 ?_
          obtain ⟨r33, hc34, hf⟩ := gbd hf
          refine gr_callV (As := [.int (0 : Int32), .int r31]) (rest := [.ref (a0 0)]) (st1 := [.int r33, .ref (a0 0)]) hE hl.1 ml_X9_200 (c_X9_get l g a0 (Mo_w_thrown s0 (0 : Int32)) (0 : Int32) r31 r33 hc34) hZ hS hP [(0, 14)] rfl okX9 rfl rfl rfl rfl ⟨rfl, rfl⟩ ⟨Nat.le_of_ble_eq_true rfl, Nat.le_of_ble_eq_true rfl⟩ ⟨Nat.le_refl _, Nat.le_refl _⟩ (Nat.le_of_ble_eq_true rfl) dX9_pulled_184 ?_
          obtain ⟨r35, hc36, hf⟩ := gbd hf
          refine gm_callV1 (As := [.int r33]) (rest := []) (st1 := fun _ => [.int (r35.1)]) (ws' := fun _ => (Mo_c g a0 (r35.2))) hE hl.1 ml_X9_230 (c_X9_good l g a0 (Mo_w_thrown s0 (0 : Int32)) r33 r35 hc36) hZ hP hD hS hA 0 14 rfl (fun _ => rfl) okX9 rfl rfl rfl (fun _ => rfl) ⟨rfl, rfl⟩ ⟨Nat.le_of_ble_eq_true rfl, Nat.le_of_ble_eq_true rfl⟩ ⟨Nat.le_refl _, Nat.le_refl _⟩ (Nat.le_of_ble_eq_true rfl) dX9_pulled_187 (fun _ H locs hP hD hS => ?_)
          cases hf
          exact hq () rfl hP hD hS dX9_pulled_190
        have lpn40 : ∀ (n40 : Nat) (x4_37 : Int32) (x5_38 : Int32) (ls : Array Slot) (H : Heap) (locs : List Loc), f_X9_pulled_L49_39 s0 p1 K16 n40 x4_37 x5_38 = some res → lv_has ls 6 [(0, .ref (a0 0)), (1, .int p1), (3, .int p3), (4, .int x4_37), (5, .int x5_38)] → gP g (Mo_c g a0 (Mo_w_thrown s0 (0 : Int32))) H → va_D A (Mo_c g a0 (Mo_w_thrown s0 (0 : Int32))) → va_S A s.heap H locs → W p l e rm_X9_pulled s m args below meth c H locs 0 0 Q (F0 m 49 ls []) := by
          intro n40
          induction n40 with
          | zero => intro x4_37 x5_38 ls H locs hf hl hP hD hS; rw [f_X9_pulled_L49_39] at hf; cases hf
          | succ n40 ihn40 =>
            intro x4_37 x5_38 ls H locs hf hl hP hD hS
            rw [f_X9_pulled_L49_39] at hf
            refine lv_iload hx hb dX9_pulled_49 (lv_at hl 4 rfl) ?_
            obtain ⟨J41, eJ41, hf⟩ := gltd hf
            have kJ41 : ∀ (_ : Unit) (ls : Array Slot) (H : Heap) (locs : List Loc), J41 () = some res → lv_has ls 6 [(0, .ref (a0 0)), (1, .int p1), (3, .int p3), (4, .int x4_37), (5, .int x5_38)] → gP g (Mo_c g a0 (Mo_w_thrown s0 (0 : Int32))) H → va_D A (Mo_c g a0 (Mo_w_thrown s0 (0 : Int32))) → va_S A s.heap H locs → W p l e rm_X9_pulled s m args below meth c H locs 0 0 Q (F0 m 72 ls []) := by
              intro _ ls H locs hf hl hP hD hS
              rw [eJ41] at hf
              refine lv_iload hx hb dX9_pulled_72 (lv_at hl 4 rfl) ?_
              refine lv_aload_n hx hb dX9_pulled_74 rfl (lv_at hl 0 rfl) ?_
              refine lv_iconst hx hb dX9_pulled_75 kci_0 ?_
              refine lv_iload_n hx hb dX9_pulled_76 rfl (lv_at hl 1 rfl) ?_
              refine lv_sipush hx hb dX9_pulled_77 kcs_650 ?_
              refine lv_iload hx hb dX9_pulled_80 (lv_at hl 3 rfl) ?_
              refine lv_iadd hx hb dX9_pulled_82 ?_
              obtain ⟨r42, hc43, hf⟩ := gbd hf
              refine gr_callS (As := [.int p1, .int ((650 : Int32) + x4_37)]) (rest := [.int (0 : Int32), .ref (a0 0), .int x5_38]) (st1 := [.int r42, .int (0 : Int32), .ref (a0 0), .int x5_38]) hE hl.1 ml_X9_359 (c_X9_subAt l g p1 ((650 : Int32) + x4_37) r42 hc43) hZ hS hP [] rfl rfl rfl rfl ⟨rfl, rfl⟩ ⟨Nat.le_of_ble_eq_true rfl, Nat.le_of_ble_eq_true rfl⟩ ⟨Nat.le_refl _, Nat.le_refl _⟩ (Nat.le_of_ble_eq_true rfl) dX9_pulled_83 ?_
              obtain ⟨r44, hc45, hf⟩ := gbd hf
              refine gr_callV (As := [.int (0 : Int32), .int r42]) (rest := [.int x5_38]) (st1 := [.int r44, .int x5_38]) hE hl.1 ml_X9_200 (c_X9_get l g a0 (Mo_w_thrown s0 (0 : Int32)) (0 : Int32) r42 r44 hc45) hZ hS hP [(0, 14)] rfl okX9 rfl rfl rfl rfl ⟨rfl, rfl⟩ ⟨Nat.le_of_ble_eq_true rfl, Nat.le_of_ble_eq_true rfl⟩ ⟨Nat.le_refl _, Nat.le_refl _⟩ (Nat.le_of_ble_eq_true rfl) dX9_pulled_86 ?_
              refine lv_if_eq hx hb dX9_pulled_89 (tgt := 96) rfl (fun h46 => ?_) (fun h46 => ?_)
              · have hf := gif_t h46 hf
                refine lv_iconst hx hb dX9_pulled_96 kci_0 ?_
                refine lv_isub hx hb dX9_pulled_97 ?_
                refine lv_istore hx hb dX9_pulled_98 hl (by decide) (lv' := [(5, .int (x5_38 - (0 : Int32))), (0, .ref (a0 0)), (1, .int p1), (3, .int p3), (4, .int x4_37)]) rfl (fun ls hl => ?_)
                refine lv_iinc hx hb dX9_pulled_100 hl (k := 4) (x := x4_37) rfl (kinc_1 _) (by decide) (lv' := [(4, .int (x4_37 + (1 : Int32))), (5, .int (x5_38 - (0 : Int32))), (0, .ref (a0 0)), (1, .int p1), (3, .int p3)]) rfl (fun ls hl => ?_)
                refine lv_goto hx hb dX9_pulled_103 (tgt := 49) rfl ?_
                exact ihn40 (x4_37 + (1 : Int32)) (x5_38 - (0 : Int32)) ls H locs hf (lv_sub hl [2, 3, 4, 0, 1] rfl) hP hD hS
              · have hf := gif_f h46 hf
                refine lv_iconst hx hb dX9_pulled_92 kci_1 ?_
                refine lv_goto hx hb dX9_pulled_93 (tgt := 97) rfl ?_
                refine lv_isub hx hb dX9_pulled_97 ?_
                refine lv_istore hx hb dX9_pulled_98 hl (by decide) (lv' := [(5, .int (x5_38 - (1 : Int32))), (0, .ref (a0 0)), (1, .int p1), (3, .int p3), (4, .int x4_37)]) rfl (fun ls hl => ?_)
                refine lv_iinc hx hb dX9_pulled_100 hl (k := 4) (x := x4_37) rfl (kinc_1 _) (by decide) (lv' := [(4, .int (x4_37 + (1 : Int32))), (5, .int (x5_38 - (1 : Int32))), (0, .ref (a0 0)), (1, .int p1), (3, .int p3)]) rfl (fun ls hl => ?_)
                refine lv_goto hx hb dX9_pulled_103 (tgt := 49) rfl ?_
                exact ihn40 (x4_37 + (1 : Int32)) (x5_38 - (1 : Int32)) ls H locs hf (lv_sub hl [2, 3, 4, 0, 1] rfl) hP hD hS
            refine lv_if_gt hx hb dX9_pulled_51 (tgt := 72) rfl (fun h47 => ?_) (fun h47 => ?_)
            · have hf := gif_t h47 hf
              exact kJ41 () ls H locs hf (lv_sub hl [0, 1, 2, 3, 4] rfl) hP hD hS
            · have hf := gif_f h47 hf
              refine lv_aload_n hx hb dX9_pulled_54 rfl (lv_at hl 0 rfl) ?_
              refine lv_iconst hx hb dX9_pulled_55 kci_0 ?_
              refine lv_iload_n hx hb dX9_pulled_56 rfl (lv_at hl 1 rfl) ?_
              refine lv_sipush hx hb dX9_pulled_57 kcs_650 ?_
              refine lv_iload hx hb dX9_pulled_60 (lv_at hl 3 rfl) ?_
              refine lv_iadd hx hb dX9_pulled_62 ?_
              obtain ⟨r48, hc49, hf⟩ := gbd hf
              refine gr_callS (As := [.int p1, .int ((650 : Int32) + x4_37)]) (rest := [.int (0 : Int32), .ref (a0 0)]) (st1 := [.int r48, .int (0 : Int32), .ref (a0 0)]) hE hl.1 ml_X9_359 (c_X9_subAt l g p1 ((650 : Int32) + x4_37) r48 hc49) hZ hS hP [] rfl rfl rfl rfl ⟨rfl, rfl⟩ ⟨Nat.le_of_ble_eq_true rfl, Nat.le_of_ble_eq_true rfl⟩ ⟨Nat.le_refl _, Nat.le_refl _⟩ (Nat.le_of_ble_eq_true rfl) dX9_pulled_63 ?_
              obtain ⟨r50, hc51, hf⟩ := gbd hf
              refine gr_callV (As := [.int (0 : Int32), .int r48]) (rest := []) (st1 := [.int r50]) hE hl.1 ml_X9_200 (c_X9_get l g a0 (Mo_w_thrown s0 (0 : Int32)) (0 : Int32) r48 r50 hc51) hZ hS hP [(0, 14)] rfl okX9 rfl rfl rfl rfl ⟨rfl, rfl⟩ ⟨Nat.le_of_ble_eq_true rfl, Nat.le_of_ble_eq_true rfl⟩ ⟨Nat.le_refl _, Nat.le_refl _⟩ (Nat.le_of_ble_eq_true rfl) dX9_pulled_66 ?_
              refine lv_if_ne hx hb dX9_pulled_69 (tgt := 106) rfl (fun h52 => ?_) (fun h52 => ?_)
              · have hf := gif_f h52 hf
                exact kK16 x4_37 ls H locs hf (lv_sub hl [0, 1, 2, 3] rfl) hP hD hS
              · have hf := gif_t h52 hf
                exact kJ41 () ls H locs hf (lv_sub hl [0, 1, 2, 3, 4] rfl) hP hD hS
        exact lpn40 10000 (0 : Int32) p2 ls H locs hf (lv_sub hl [2, 3, 5, 1, 0] rfl) hP hD hS
      · have hf := gif_t h15 hf
        refine lv_aload_n hx hb dX9_pulled_37 rfl (lv_at hl 0 rfl) ?_
        refine lv_iconst hx hb dX9_pulled_38 kci_1 ?_
        obtain ⟨r53, hc54, hf⟩ := gbd hf
        refine gm_callV1 (As := [.int (1 : Int32)]) (rest := []) (st1 := fun _ => [.int (r53.1)]) (ws' := fun _ => (Mo_c g a0 (r53.2))) hE hl.1 ml_X9_306 (c_X9_refusedLow l g a0 (Mo_w_thrown s0 (0 : Int32)) (1 : Int32) r53 hc54) hZ hP hD hS hA 0 14 rfl (fun _ => rfl) okX9 rfl rfl rfl (fun _ => rfl) ⟨rfl, rfl⟩ ⟨Nat.le_of_ble_eq_true rfl, Nat.le_of_ble_eq_true rfl⟩ ⟨Nat.le_refl _, Nat.le_refl _⟩ (Nat.le_of_ble_eq_true rfl) dX9_pulled_39 (fun _ H locs hP hD hS => ?_)
        cases hf
        exact hq () rfl hP hD hS dX9_pulled_42
theorem dX9_held_0 : decode cX9_held 0 = .ok (.aload_n 0, 1) := by decide +kernel
theorem dX9_held_1 : decode cX9_held 1 = .ok (.iconst 0, 1) := by decide +kernel
theorem dX9_held_2 : decode cX9_held 2 = .ok (.putfield 55, 3) := by decide +kernel
theorem dX9_held_5 : decode cX9_held 5 = .ok (.aload_n 0, 1) := by decide +kernel
theorem dX9_held_6 : decode cX9_held 6 = .ok (.iload_n 1, 1) := by decide +kernel
theorem dX9_held_7 : decode cX9_held 7 = .ok (.invokevirtual 368, 3) := by decide +kernel
theorem dX9_held_10 : decode cX9_held 10 = .ok (.ifCond .eq 14, 3) := by decide +kernel
theorem dX9_held_13 : decode cX9_held 13 = .ok (.aload_n 0, 1) := by decide +kernel
theorem dX9_held_14 : decode cX9_held 14 = .ok (.iload_n 2, 1) := by decide +kernel
theorem dX9_held_15 : decode cX9_held 15 = .ok (.iload_n 3, 1) := by decide +kernel
theorem dX9_held_16 : decode cX9_held 16 = .ok (.iload 4, 2) := by decide +kernel
theorem dX9_held_18 : decode cX9_held 18 = .ok (.invokevirtual 309, 3) := by decide +kernel
theorem dX9_held_21 : decode cX9_held 21 = .ok (.ifCond .ne 9, 3) := by decide +kernel
theorem dX9_held_24 : decode cX9_held 24 = .ok (.aload_n 0, 1) := by decide +kernel
theorem dX9_held_25 : decode cX9_held 25 = .ok (.iconst 1, 1) := by decide +kernel
theorem dX9_held_26 : decode cX9_held 26 = .ok (.invokevirtual 306, 3) := by decide +kernel
theorem dX9_held_29 : decode cX9_held 29 = .ok (.ireturn, 1) := by decide +kernel
theorem dX9_held_30 : decode cX9_held 30 = .ok (.aload_n 0, 1) := by decide +kernel
theorem dX9_held_31 : decode cX9_held 31 = .ok (.aload_n 0, 1) := by decide +kernel
theorem dX9_held_32 : decode cX9_held 32 = .ok (.iconst 0, 1) := by decide +kernel
theorem dX9_held_33 : decode cX9_held 33 = .ok (.iload_n 1, 1) := by decide +kernel
theorem dX9_held_34 : decode cX9_held 34 = .ok (.iconst 2, 1) := by decide +kernel
theorem dX9_held_35 : decode cX9_held 35 = .ok (.iload_n 2, 1) := by decide +kernel
theorem dX9_held_36 : decode cX9_held 36 = .ok (.bipush 9, 2) := by decide +kernel
theorem dX9_held_38 : decode cX9_held 38 = .ok (.imul, 1) := by decide +kernel
theorem dX9_held_39 : decode cX9_held 39 = .ok (.iload_n 3, 1) := by decide +kernel
theorem dX9_held_40 : decode cX9_held 40 = .ok (.invokestatic 312, 3) := by decide +kernel
theorem dX9_held_43 : decode cX9_held 43 = .ok (.iadd, 1) := by decide +kernel
theorem dX9_held_44 : decode cX9_held 44 = .ok (.bipush 9, 2) := by decide +kernel
theorem dX9_held_46 : decode cX9_held 46 = .ok (.imul, 1) := by decide +kernel
theorem dX9_held_47 : decode cX9_held 47 = .ok (.iadd, 1) := by decide +kernel
theorem dX9_held_48 : decode cX9_held 48 = .ok (.iload 4, 2) := by decide +kernel
theorem dX9_held_50 : decode cX9_held 50 = .ok (.invokestatic 312, 3) := by decide +kernel
theorem dX9_held_53 : decode cX9_held 53 = .ok (.iadd, 1) := by decide +kernel
theorem dX9_held_54 : decode cX9_held 54 = .ok (.invokestatic 359, 3) := by decide +kernel
theorem dX9_held_57 : decode cX9_held 57 = .ok (.invokevirtual 200, 3) := by decide +kernel
theorem dX9_held_60 : decode cX9_held 60 = .ok (.invokevirtual 230, 3) := by decide +kernel
theorem dX9_held_63 : decode cX9_held 63 = .ok (.ireturn, 1) := by decide +kernel
def f_X9_held (s0 : MoT) (p1 : Int32) (p2 : Int32) (p3 : Int32) (p4 : Int32) : Option (Int32 × MoT) :=
  (f_X9_hasBegun (Mo_w_thrown s0 (0 : Int32)) p1).bind fun r1 =>
  if r1 = 0 then (f_X9_refusedLow (Mo_w_thrown s0 (0 : Int32)) (1 : Int32)).bind fun r4 =>
  some ((r4.1), (r4.2))
  else (f_X9_isRow (Mo_w_thrown s0 (0 : Int32)) p2 p3 p4).bind fun r6 =>
  if r6 = 0 then (f_X9_refusedLow (Mo_w_thrown s0 (0 : Int32)) (1 : Int32)).bind fun r19 =>
  some ((r19.1), (r19.2))
  else (f_X9_place p3).bind fun r9 =>
  (f_X9_place p4).bind fun r11 =>
  (f_X9_subAt p1 (((2 : Int32) + (((p2 * (9 : Int32)) + r9) * (9 : Int32))) + r11)).bind fun r13 =>
  (f_X9_get (Mo_w_thrown s0 (0 : Int32)) (0 : Int32) r13).bind fun r15 =>
  (f_X9_good (Mo_w_thrown s0 (0 : Int32)) r15).bind fun r17 =>
  some ((r17.1), (r17.2))
abbrev rm_X9_held : Room := { frames := 3, cells := 0, slots := 0, locals := 66 }
set_option maxHeartbeats 4000000 in
set_option maxRecDepth 100000 in
theorem c_X9_held (l : Launch) (g : GK) (a0 : Nat → Nat) (s0 : MoT) (p1 : Int32) (p2 : Int32) (p3 : Int32) (p4 : Int32) (res : (Int32 × MoT)) (hf : f_X9_held s0 p1 p2 p3 p4 = some res) : gM l yX9_held cX9_held 5 (some .int) rm_X9_held g [.ref (a0 0), .int p1, .int p2, .int p3, .int p4] (Mo_c g a0 s0) (fun _ : Unit => (some (.int (res.1)))) (fun _ => (Mo_c g a0 (res.2))) 0 0 := by
  refine gM_introI RX9 (by decide) rfl (Nat.le_of_ble_eq_true rfl) (fun p e s m args below meth c Q H locs ls A hE hZ hA hP hD hS hq hl => ?_)
  have hl : lv_has ls 5 [(0, .ref (a0 0)), (1, .int p1), (2, .int p2), (3, .int p3), (4, .int p4)] := hl
  have hx := hE.1
  have hb := hE.2.1
  rw [f_X9_held] at hf
  refine lv_aload_n hx hb dX9_held_0 rfl (lv_at hl 0 rfl) ?_
  refine lv_iconst hx hb dX9_held_1 kci_0 ?_
  refine g_put hE okX9 fl_X9_55 hP hD hS 0 rfl rfl rfl rfl (Nat.le_of_ble_eq_true rfl) (Mo_c g a0 (Mo_w_thrown s0 (0 : Int32))) rfl dX9_held_2 (fun H locs hP hD hS => ?_)
  refine lv_aload_n hx hb dX9_held_5 rfl (lv_at hl 0 rfl) ?_
  refine lv_iload_n hx hb dX9_held_6 rfl (lv_at hl 1 rfl) ?_
  obtain ⟨r1, hc2, hf⟩ := gbd hf
  refine gr_callV (As := [.int p1]) (rest := []) (st1 := [.int r1]) hE hl.1 ml_X9_368 (c_X9_hasBegun l g a0 (Mo_w_thrown s0 (0 : Int32)) p1 r1 hc2) hZ hS hP [(0, 14)] rfl okX9 rfl rfl rfl rfl ⟨rfl, rfl⟩ ⟨Nat.le_of_ble_eq_true rfl, Nat.le_of_ble_eq_true rfl⟩ ⟨Nat.le_refl _, Nat.le_refl _⟩ (Nat.le_of_ble_eq_true rfl) dX9_held_7 ?_
  refine lv_if_eq hx hb dX9_held_10 (tgt := 24) rfl (fun h3 => ?_) (fun h3 => ?_)
  · have hf := gif_t h3 hf
    refine lv_aload_n hx hb dX9_held_24 rfl (lv_at hl 0 rfl) ?_
    refine lv_iconst hx hb dX9_held_25 kci_1 ?_
    obtain ⟨r4, hc5, hf⟩ := gbd hf
    refine gm_callV1 (As := [.int (1 : Int32)]) (rest := []) (st1 := fun _ => [.int (r4.1)]) (ws' := fun _ => (Mo_c g a0 (r4.2))) hE hl.1 ml_X9_306 (c_X9_refusedLow l g a0 (Mo_w_thrown s0 (0 : Int32)) (1 : Int32) r4 hc5) hZ hP hD hS hA 0 14 rfl (fun _ => rfl) okX9 rfl rfl rfl (fun _ => rfl) ⟨rfl, rfl⟩ ⟨Nat.le_of_ble_eq_true rfl, Nat.le_of_ble_eq_true rfl⟩ ⟨Nat.le_refl _, Nat.le_refl _⟩ (Nat.le_of_ble_eq_true rfl) dX9_held_26 (fun _ H locs hP hD hS => ?_)
    cases hf
    exact hq () rfl hP hD hS dX9_held_29
  · have hf := gif_f h3 hf
    refine lv_aload_n hx hb dX9_held_13 rfl (lv_at hl 0 rfl) ?_
    refine lv_iload_n hx hb dX9_held_14 rfl (lv_at hl 2 rfl) ?_
    refine lv_iload_n hx hb dX9_held_15 rfl (lv_at hl 3 rfl) ?_
    refine lv_iload hx hb dX9_held_16 (lv_at hl 4 rfl) ?_
    obtain ⟨r6, hc7, hf⟩ := gbd hf
    refine gr_callV (As := [.int p2, .int p3, .int p4]) (rest := []) (st1 := [.int r6]) hE hl.1 ml_X9_309 (c_X9_isRow l g a0 (Mo_w_thrown s0 (0 : Int32)) p2 p3 p4 r6 hc7) hZ hS hP [(0, 14)] rfl okX9 rfl rfl rfl rfl ⟨rfl, rfl⟩ ⟨Nat.le_of_ble_eq_true rfl, Nat.le_of_ble_eq_true rfl⟩ ⟨Nat.le_refl _, Nat.le_refl _⟩ (Nat.le_of_ble_eq_true rfl) dX9_held_18 ?_
    refine lv_if_ne hx hb dX9_held_21 (tgt := 30) rfl (fun h8 => ?_) (fun h8 => ?_)
    · have hf := gif_f h8 hf
      refine lv_aload_n hx hb dX9_held_30 rfl (lv_at hl 0 rfl) ?_
      refine lv_aload_n hx hb dX9_held_31 rfl (lv_at hl 0 rfl) ?_
      refine lv_iconst hx hb dX9_held_32 kci_0 ?_
      refine lv_iload_n hx hb dX9_held_33 rfl (lv_at hl 1 rfl) ?_
      refine lv_iconst hx hb dX9_held_34 kci_2 ?_
      refine lv_iload_n hx hb dX9_held_35 rfl (lv_at hl 2 rfl) ?_
      refine lv_bipush hx hb dX9_held_36 kcb_9 ?_
      refine lv_imul hx hb dX9_held_38 ?_
      refine lv_iload_n hx hb dX9_held_39 rfl (lv_at hl 3 rfl) ?_
      obtain ⟨r9, hc10, hf⟩ := gbd hf
      refine gr_callS (As := [.int p3]) (rest := [.int (p2 * (9 : Int32)), .int (2 : Int32), .int p1, .int (0 : Int32), .ref (a0 0), .ref (a0 0)]) (st1 := [.int r9, .int (p2 * (9 : Int32)), .int (2 : Int32), .int p1, .int (0 : Int32), .ref (a0 0), .ref (a0 0)]) hE hl.1 ml_X9_312 (c_X9_place l g p3 r9 hc10) hZ hS hP [] rfl rfl rfl rfl ⟨rfl, rfl⟩ ⟨Nat.le_of_ble_eq_true rfl, Nat.le_of_ble_eq_true rfl⟩ ⟨Nat.le_refl _, Nat.le_refl _⟩ (Nat.le_of_ble_eq_true rfl) dX9_held_40 ?_
      refine lv_iadd hx hb dX9_held_43 ?_
      refine lv_bipush hx hb dX9_held_44 kcb_9 ?_
      refine lv_imul hx hb dX9_held_46 ?_
      refine lv_iadd hx hb dX9_held_47 ?_
      refine lv_iload hx hb dX9_held_48 (lv_at hl 4 rfl) ?_
      obtain ⟨r11, hc12, hf⟩ := gbd hf
      refine gr_callS (As := [.int p4]) (rest := [.int ((2 : Int32) + (((p2 * (9 : Int32)) + r9) * (9 : Int32))), .int p1, .int (0 : Int32), .ref (a0 0), .ref (a0 0)]) (st1 := [.int r11, .int ((2 : Int32) + (((p2 * (9 : Int32)) + r9) * (9 : Int32))), .int p1, .int (0 : Int32), .ref (a0 0), .ref (a0 0)]) hE hl.1 ml_X9_312 (c_X9_place l g p4 r11 hc12) hZ hS hP [] rfl rfl rfl rfl ⟨rfl, rfl⟩ ⟨Nat.le_of_ble_eq_true rfl, Nat.le_of_ble_eq_true rfl⟩ ⟨Nat.le_refl _, Nat.le_refl _⟩ (Nat.le_of_ble_eq_true rfl) dX9_held_50 ?_
      refine lv_iadd hx hb dX9_held_53 ?_
      obtain ⟨r13, hc14, hf⟩ := gbd hf
      refine gr_callS (As := [.int p1, .int (((2 : Int32) + (((p2 * (9 : Int32)) + r9) * (9 : Int32))) + r11)]) (rest := [.int (0 : Int32), .ref (a0 0), .ref (a0 0)]) (st1 := [.int r13, .int (0 : Int32), .ref (a0 0), .ref (a0 0)]) hE hl.1 ml_X9_359 (c_X9_subAt l g p1 (((2 : Int32) + (((p2 * (9 : Int32)) + r9) * (9 : Int32))) + r11) r13 hc14) hZ hS hP [] rfl rfl rfl rfl ⟨rfl, rfl⟩ ⟨Nat.le_of_ble_eq_true rfl, Nat.le_of_ble_eq_true rfl⟩ ⟨Nat.le_refl _, Nat.le_refl _⟩ (Nat.le_of_ble_eq_true rfl) dX9_held_54 ?_
      obtain ⟨r15, hc16, hf⟩ := gbd hf
      refine gr_callV (As := [.int (0 : Int32), .int r13]) (rest := [.ref (a0 0)]) (st1 := [.int r15, .ref (a0 0)]) hE hl.1 ml_X9_200 (c_X9_get l g a0 (Mo_w_thrown s0 (0 : Int32)) (0 : Int32) r13 r15 hc16) hZ hS hP [(0, 14)] rfl okX9 rfl rfl rfl rfl ⟨rfl, rfl⟩ ⟨Nat.le_of_ble_eq_true rfl, Nat.le_of_ble_eq_true rfl⟩ ⟨Nat.le_refl _, Nat.le_refl _⟩ (Nat.le_of_ble_eq_true rfl) dX9_held_57 ?_
      obtain ⟨r17, hc18, hf⟩ := gbd hf
      refine gm_callV1 (As := [.int r15]) (rest := []) (st1 := fun _ => [.int (r17.1)]) (ws' := fun _ => (Mo_c g a0 (r17.2))) hE hl.1 ml_X9_230 (c_X9_good l g a0 (Mo_w_thrown s0 (0 : Int32)) r15 r17 hc18) hZ hP hD hS hA 0 14 rfl (fun _ => rfl) okX9 rfl rfl rfl (fun _ => rfl) ⟨rfl, rfl⟩ ⟨Nat.le_of_ble_eq_true rfl, Nat.le_of_ble_eq_true rfl⟩ ⟨Nat.le_refl _, Nat.le_refl _⟩ (Nat.le_of_ble_eq_true rfl) dX9_held_60 (fun _ H locs hP hD hS => ?_)
      cases hf
      exact hq () rfl hP hD hS dX9_held_63
    · have hf := gif_t h8 hf
      refine lv_aload_n hx hb dX9_held_24 rfl (lv_at hl 0 rfl) ?_
      refine lv_iconst hx hb dX9_held_25 kci_1 ?_
      obtain ⟨r19, hc20, hf⟩ := gbd hf
      refine gm_callV1 (As := [.int (1 : Int32)]) (rest := []) (st1 := fun _ => [.int (r19.1)]) (ws' := fun _ => (Mo_c g a0 (r19.2))) hE hl.1 ml_X9_306 (c_X9_refusedLow l g a0 (Mo_w_thrown s0 (0 : Int32)) (1 : Int32) r19 hc20) hZ hP hD hS hA 0 14 rfl (fun _ => rfl) okX9 rfl rfl rfl (fun _ => rfl) ⟨rfl, rfl⟩ ⟨Nat.le_of_ble_eq_true rfl, Nat.le_of_ble_eq_true rfl⟩ ⟨Nat.le_refl _, Nat.le_refl _⟩ (Nat.le_of_ble_eq_true rfl) dX9_held_26 (fun _ H locs hP hD hS => ?_)
      cases hf
      exact hq () rfl hP hD hS dX9_held_29
theorem dX9_otherwise_0 : decode cX9_otherwise 0 = .ok (.iconst 0, 1) := by decide +kernel
theorem dX9_otherwise_1 : decode cX9_otherwise 1 = .ok (.istore_n 2, 1) := by decide +kernel
theorem dX9_otherwise_2 : decode cX9_otherwise 2 = .ok (.iconst 0, 1) := by decide +kernel
theorem dX9_otherwise_3 : decode cX9_otherwise 3 = .ok (.istore_n 3, 1) := by decide +kernel
theorem dX9_otherwise_4 : decode cX9_otherwise 4 = .ok (.iload_n 3, 1) := by decide +kernel
theorem dX9_otherwise_5 : decode cX9_otherwise 5 = .ok (.sipush 648, 3) := by decide +kernel
theorem dX9_otherwise_8 : decode cX9_otherwise 8 = .ok (.if_icmp .ge 37, 3) := by decide +kernel
theorem dX9_otherwise_11 : decode cX9_otherwise 11 = .ok (.iload_n 2, 1) := by decide +kernel
theorem dX9_otherwise_12 : decode cX9_otherwise 12 = .ok (.aload_n 0, 1) := by decide +kernel
theorem dX9_otherwise_13 : decode cX9_otherwise 13 = .ok (.iload_n 3, 1) := by decide +kernel
theorem dX9_otherwise_14 : decode cX9_otherwise 14 = .ok (.invokevirtual 362, 3) := by decide +kernel
theorem dX9_otherwise_17 : decode cX9_otherwise 17 = .ok (.aload_n 0, 1) := by decide +kernel
theorem dX9_otherwise_18 : decode cX9_otherwise 18 = .ok (.iconst 0, 1) := by decide +kernel
theorem dX9_otherwise_19 : decode cX9_otherwise 19 = .ok (.iload_n 1, 1) := by decide +kernel
theorem dX9_otherwise_20 : decode cX9_otherwise 20 = .ok (.iconst 2, 1) := by decide +kernel
theorem dX9_otherwise_21 : decode cX9_otherwise 21 = .ok (.iload_n 3, 1) := by decide +kernel
theorem dX9_otherwise_22 : decode cX9_otherwise 22 = .ok (.iadd, 1) := by decide +kernel
theorem dX9_otherwise_23 : decode cX9_otherwise 23 = .ok (.invokestatic 359, 3) := by decide +kernel
theorem dX9_otherwise_26 : decode cX9_otherwise 26 = .ok (.invokevirtual 200, 3) := by decide +kernel
theorem dX9_otherwise_29 : decode cX9_otherwise 29 = .ok (.if_icmp .eq 7, 3) := by decide +kernel
theorem dX9_otherwise_32 : decode cX9_otherwise 32 = .ok (.iconst 1, 1) := by decide +kernel
theorem dX9_otherwise_33 : decode cX9_otherwise 33 = .ok (.goto 4, 3) := by decide +kernel
theorem dX9_otherwise_36 : decode cX9_otherwise 36 = .ok (.iconst 0, 1) := by decide +kernel
theorem dX9_otherwise_37 : decode cX9_otherwise 37 = .ok (.iadd, 1) := by decide +kernel
theorem dX9_otherwise_38 : decode cX9_otherwise 38 = .ok (.istore_n 2, 1) := by decide +kernel
theorem dX9_otherwise_39 : decode cX9_otherwise 39 = .ok (.iinc 3 1, 3) := by decide +kernel
theorem dX9_otherwise_42 : decode cX9_otherwise 42 = .ok (.goto (-38), 3) := by decide +kernel
theorem dX9_otherwise_45 : decode cX9_otherwise 45 = .ok (.iload_n 2, 1) := by decide +kernel
theorem dX9_otherwise_46 : decode cX9_otherwise 46 = .ok (.ireturn, 1) := by decide +kernel
def f_X9_otherwise_L4_5 (s0 : MoT) (p1 : Int32) (K1 : (Int32 → Option (Int32))) : Nat → Int32 → Int32 → Option (Int32)
  | 0, _, _ => none
  | n6 + 1, x2_3, x3_4 => if (648 : Int32) ≤ x3_4 then K1 x2_3
  else (f_X9_sentAt s0 x3_4).bind fun r8 =>
  (f_X9_subAt p1 ((2 : Int32) + x3_4)).bind fun r10 =>
  (f_X9_get s0 (0 : Int32) r10).bind fun r12 =>
  if r8 = r12 then f_X9_otherwise_L4_5 s0 p1 K1 n6 (x2_3 + (0 : Int32)) (x3_4 + (1 : Int32))
  else f_X9_otherwise_L4_5 s0 p1 K1 n6 (x2_3 + (1 : Int32)) (x3_4 + (1 : Int32))
def f_X9_otherwise (s0 : MoT) (p1 : Int32) : Option (Int32) :=
  glt (fun (x2_2 : Int32) => some (x2_2)) fun K1 =>
  f_X9_otherwise_L4_5 s0 p1 K1 10000 (0 : Int32) (0 : Int32)
abbrev rm_X9_otherwise : Room := { frames := 7, cells := 0, slots := 0, locals := 167 }
set_option maxHeartbeats 4000000 in
set_option maxRecDepth 100000 in
theorem c_X9_otherwise (l : Launch) (g : GK) (a0 : Nat → Nat) (s0 : MoT) (p1 : Int32) (res : (Int32)) (hf : f_X9_otherwise s0 p1 = some res) : gR l yX9_otherwise cX9_otherwise 4 (some .int) rm_X9_otherwise g [.ref (a0 0), .int p1] (Mo_c g a0 s0) (some (.int res)) := by
  refine gR_introI RX9 (by decide) rfl (Nat.le_of_ble_eq_true rfl) (fun p e s m args below meth c Q H locs ls hE hP hZ hS hq hl => ?_)
  have hl : lv_has ls 4 [(0, .ref (a0 0)), (1, .int p1)] := hl
  have hx := hE.1
  have hb := hE.2.1
  rw [f_X9_otherwise] at hf
  refine lv_iconst hx hb dX9_otherwise_0 kci_0 ?_
  refine lv_istore_n hx hb dX9_otherwise_1 rfl hl (by decide) (lv' := [(2, .int (0 : Int32)), (0, .ref (a0 0)), (1, .int p1)]) rfl (fun ls hl => ?_)
  refine lv_iconst hx hb dX9_otherwise_2 kci_0 ?_
  refine lv_istore_n hx hb dX9_otherwise_3 rfl hl (by decide) (lv' := [(3, .int (0 : Int32)), (2, .int (0 : Int32)), (0, .ref (a0 0)), (1, .int p1)]) rfl (fun ls hl => ?_)
  obtain ⟨K1, eK1, hf⟩ := gltd hf
  have kK1 : ∀ (x2_2 : Int32) (ls : Array Slot), K1 x2_2 = some res → lv_has ls 4 [(2, .int x2_2)] → W p l e rm_X9_otherwise s m args below meth c H locs 0 0 Q (F0 m 45 ls []) := by
    intro x2_2 ls hf hl
    rw [eK1] at hf
    refine lv_iload_n hx hb dX9_otherwise_45 rfl (lv_at hl 0 rfl) ?_
    cases hf
    exact hq rfl dX9_otherwise_46
  have lpn6 : ∀ (n6 : Nat) (x2_3 : Int32) (x3_4 : Int32) (ls : Array Slot), f_X9_otherwise_L4_5 s0 p1 K1 n6 x2_3 x3_4 = some res → lv_has ls 4 [(0, .ref (a0 0)), (1, .int p1), (2, .int x2_3), (3, .int x3_4)] → W p l e rm_X9_otherwise s m args below meth c H locs 0 0 Q (F0 m 4 ls []) := by
    intro n6
    induction n6 with
    | zero => intro x2_3 x3_4 ls hf hl; rw [f_X9_otherwise_L4_5] at hf; cases hf
    | succ n6 ihn6 =>
      intro x2_3 x3_4 ls hf hl
      rw [f_X9_otherwise_L4_5] at hf
      refine lv_iload_n hx hb dX9_otherwise_4 rfl (lv_at hl 3 rfl) ?_
      refine lv_sipush hx hb dX9_otherwise_5 kcs_648 ?_
      refine lv_icmp_ge hx hb dX9_otherwise_8 (tgt := 45) rfl (fun h7 => ?_) (fun h7 => ?_)
      · have hf := gif_t h7 hf
        exact kK1 x2_3 ls hf (lv_sub hl [2] rfl)
      · have hf := gif_f h7 hf
        refine lv_iload_n hx hb dX9_otherwise_11 rfl (lv_at hl 2 rfl) ?_
        refine lv_aload_n hx hb dX9_otherwise_12 rfl (lv_at hl 0 rfl) ?_
        refine lv_iload_n hx hb dX9_otherwise_13 rfl (lv_at hl 3 rfl) ?_
        obtain ⟨r8, hc9, hf⟩ := gbd hf
        refine gr_callV (As := [.int x3_4]) (rest := [.int x2_3]) (st1 := [.int r8, .int x2_3]) hE hl.1 ml_X9_362 (c_X9_sentAt l g a0 s0 x3_4 r8 hc9) hZ hS hP [(0, 14)] rfl okX9 rfl rfl rfl rfl ⟨rfl, rfl⟩ ⟨Nat.le_of_ble_eq_true rfl, Nat.le_of_ble_eq_true rfl⟩ ⟨Nat.le_refl _, Nat.le_refl _⟩ (Nat.le_of_ble_eq_true rfl) dX9_otherwise_14 ?_
        refine lv_aload_n hx hb dX9_otherwise_17 rfl (lv_at hl 0 rfl) ?_
        refine lv_iconst hx hb dX9_otherwise_18 kci_0 ?_
        refine lv_iload_n hx hb dX9_otherwise_19 rfl (lv_at hl 1 rfl) ?_
        refine lv_iconst hx hb dX9_otherwise_20 kci_2 ?_
        refine lv_iload_n hx hb dX9_otherwise_21 rfl (lv_at hl 3 rfl) ?_
        refine lv_iadd hx hb dX9_otherwise_22 ?_
        obtain ⟨r10, hc11, hf⟩ := gbd hf
        refine gr_callS (As := [.int p1, .int ((2 : Int32) + x3_4)]) (rest := [.int (0 : Int32), .ref (a0 0), .int r8, .int x2_3]) (st1 := [.int r10, .int (0 : Int32), .ref (a0 0), .int r8, .int x2_3]) hE hl.1 ml_X9_359 (c_X9_subAt l g p1 ((2 : Int32) + x3_4) r10 hc11) hZ hS hP [] rfl rfl rfl rfl ⟨rfl, rfl⟩ ⟨Nat.le_of_ble_eq_true rfl, Nat.le_of_ble_eq_true rfl⟩ ⟨Nat.le_refl _, Nat.le_refl _⟩ (Nat.le_of_ble_eq_true rfl) dX9_otherwise_23 ?_
        obtain ⟨r12, hc13, hf⟩ := gbd hf
        refine gr_callV (As := [.int (0 : Int32), .int r10]) (rest := [.int r8, .int x2_3]) (st1 := [.int r12, .int r8, .int x2_3]) hE hl.1 ml_X9_200 (c_X9_get l g a0 s0 (0 : Int32) r10 r12 hc13) hZ hS hP [(0, 14)] rfl okX9 rfl rfl rfl rfl ⟨rfl, rfl⟩ ⟨Nat.le_of_ble_eq_true rfl, Nat.le_of_ble_eq_true rfl⟩ ⟨Nat.le_refl _, Nat.le_refl _⟩ (Nat.le_of_ble_eq_true rfl) dX9_otherwise_26 ?_
        refine lv_icmp_eq hx hb dX9_otherwise_29 (tgt := 36) rfl (fun h14 => ?_) (fun h14 => ?_)
        · have hf := gif_t h14 hf
          refine lv_iconst hx hb dX9_otherwise_36 kci_0 ?_
          refine lv_iadd hx hb dX9_otherwise_37 ?_
          refine lv_istore_n hx hb dX9_otherwise_38 rfl hl (by decide) (lv' := [(2, .int (x2_3 + (0 : Int32))), (0, .ref (a0 0)), (1, .int p1), (3, .int x3_4)]) rfl (fun ls hl => ?_)
          refine lv_iinc hx hb dX9_otherwise_39 hl (k := 3) (x := x3_4) rfl (kinc_1 _) (by decide) (lv' := [(3, .int (x3_4 + (1 : Int32))), (2, .int (x2_3 + (0 : Int32))), (0, .ref (a0 0)), (1, .int p1)]) rfl (fun ls hl => ?_)
          refine lv_goto hx hb dX9_otherwise_42 (tgt := 4) rfl ?_
          exact ihn6 (x2_3 + (0 : Int32)) (x3_4 + (1 : Int32)) ls hf (lv_sub hl [2, 3, 1, 0] rfl)
        · have hf := gif_f h14 hf
          refine lv_iconst hx hb dX9_otherwise_32 kci_1 ?_
          refine lv_goto hx hb dX9_otherwise_33 (tgt := 37) rfl ?_
          refine lv_iadd hx hb dX9_otherwise_37 ?_
          refine lv_istore_n hx hb dX9_otherwise_38 rfl hl (by decide) (lv' := [(2, .int (x2_3 + (1 : Int32))), (0, .ref (a0 0)), (1, .int p1), (3, .int x3_4)]) rfl (fun ls hl => ?_)
          refine lv_iinc hx hb dX9_otherwise_39 hl (k := 3) (x := x3_4) rfl (kinc_1 _) (by decide) (lv' := [(3, .int (x3_4 + (1 : Int32))), (2, .int (x2_3 + (1 : Int32))), (0, .ref (a0 0)), (1, .int p1)]) rfl (fun ls hl => ?_)
          refine lv_goto hx hb dX9_otherwise_42 (tgt := 4) rfl ?_
          exact ihn6 (x2_3 + (1 : Int32)) (x3_4 + (1 : Int32)) ls hf (lv_sub hl [2, 3, 1, 0] rfl)
  exact lpn6 10000 (0 : Int32) (0 : Int32) ls hf (lv_sub hl [2, 3, 1, 0] rfl)
theorem dX9_lag_0 : decode cX9_lag 0 = .ok (.aload_n 0, 1) := by decide +kernel
theorem dX9_lag_1 : decode cX9_lag 1 = .ok (.iconst 0, 1) := by decide +kernel
theorem dX9_lag_2 : decode cX9_lag 2 = .ok (.putfield 55, 3) := by decide +kernel
theorem dX9_lag_5 : decode cX9_lag 5 = .ok (.aload_n 0, 1) := by decide +kernel
theorem dX9_lag_6 : decode cX9_lag 6 = .ok (.iload_n 1, 1) := by decide +kernel
theorem dX9_lag_7 : decode cX9_lag 7 = .ok (.invokevirtual 368, 3) := by decide +kernel
theorem dX9_lag_10 : decode cX9_lag 10 = .ok (.ifCond .ne 9, 3) := by decide +kernel
theorem dX9_lag_13 : decode cX9_lag 13 = .ok (.aload_n 0, 1) := by decide +kernel
theorem dX9_lag_14 : decode cX9_lag 14 = .ok (.iconst 1, 1) := by decide +kernel
theorem dX9_lag_15 : decode cX9_lag 15 = .ok (.invokevirtual 61, 3) := by decide +kernel
theorem dX9_lag_18 : decode cX9_lag 18 = .ok (.ireturn, 1) := by decide +kernel
theorem dX9_lag_19 : decode cX9_lag 19 = .ok (.aload_n 0, 1) := by decide +kernel
theorem dX9_lag_20 : decode cX9_lag 20 = .ok (.iconst 0, 1) := by decide +kernel
theorem dX9_lag_21 : decode cX9_lag 21 = .ok (.bipush 11, 2) := by decide +kernel
theorem dX9_lag_23 : decode cX9_lag 23 = .ok (.invokevirtual 200, 3) := by decide +kernel
theorem dX9_lag_26 : decode cX9_lag 26 = .ok (.aload_n 0, 1) := by decide +kernel
theorem dX9_lag_27 : decode cX9_lag 27 = .ok (.iconst 0, 1) := by decide +kernel
theorem dX9_lag_28 : decode cX9_lag 28 = .ok (.iload_n 1, 1) := by decide +kernel
theorem dX9_lag_29 : decode cX9_lag 29 = .ok (.iconst 1, 1) := by decide +kernel
theorem dX9_lag_30 : decode cX9_lag 30 = .ok (.invokestatic 359, 3) := by decide +kernel
theorem dX9_lag_33 : decode cX9_lag 33 = .ok (.invokevirtual 200, 3) := by decide +kernel
theorem dX9_lag_36 : decode cX9_lag 36 = .ok (.isub, 1) := by decide +kernel
theorem dX9_lag_37 : decode cX9_lag 37 = .ok (.istore_n 3, 1) := by decide +kernel
theorem dX9_lag_38 : decode cX9_lag 38 = .ok (.iload_n 2, 1) := by decide +kernel
theorem dX9_lag_39 : decode cX9_lag 39 = .ok (.tableswitch 71 0 3 #[29, 35, 51, 61], 29) := by decide +kernel
theorem dX9_lag_68 : decode cX9_lag 68 = .ok (.aload_n 0, 1) := by decide +kernel
theorem dX9_lag_69 : decode cX9_lag 69 = .ok (.iload_n 3, 1) := by decide +kernel
theorem dX9_lag_70 : decode cX9_lag 70 = .ok (.invokevirtual 230, 3) := by decide +kernel
theorem dX9_lag_73 : decode cX9_lag 73 = .ok (.ireturn, 1) := by decide +kernel
theorem dX9_lag_74 : decode cX9_lag 74 = .ok (.aload_n 0, 1) := by decide +kernel
theorem dX9_lag_75 : decode cX9_lag 75 = .ok (.iload_n 3, 1) := by decide +kernel
theorem dX9_lag_76 : decode cX9_lag 76 = .ok (.bipush 60, 2) := by decide +kernel
theorem dX9_lag_78 : decode cX9_lag 78 = .ok (.if_icmp .gt 7, 3) := by decide +kernel
theorem dX9_lag_81 : decode cX9_lag 81 = .ok (.iconst 1, 1) := by decide +kernel
theorem dX9_lag_82 : decode cX9_lag 82 = .ok (.goto 4, 3) := by decide +kernel
theorem dX9_lag_85 : decode cX9_lag 85 = .ok (.iconst 0, 1) := by decide +kernel
theorem dX9_lag_86 : decode cX9_lag 86 = .ok (.invokevirtual 230, 3) := by decide +kernel
theorem dX9_lag_89 : decode cX9_lag 89 = .ok (.ireturn, 1) := by decide +kernel
theorem dX9_lag_90 : decode cX9_lag 90 = .ok (.aload_n 0, 1) := by decide +kernel
theorem dX9_lag_91 : decode cX9_lag 91 = .ok (.aload_n 0, 1) := by decide +kernel
theorem dX9_lag_92 : decode cX9_lag 92 = .ok (.iload_n 1, 1) := by decide +kernel
theorem dX9_lag_93 : decode cX9_lag 93 = .ok (.invokevirtual 374, 3) := by decide +kernel
theorem dX9_lag_96 : decode cX9_lag 96 = .ok (.invokevirtual 230, 3) := by decide +kernel
theorem dX9_lag_99 : decode cX9_lag 99 = .ok (.ireturn, 1) := by decide +kernel
theorem dX9_lag_100 : decode cX9_lag 100 = .ok (.aload_n 0, 1) := by decide +kernel
theorem dX9_lag_101 : decode cX9_lag 101 = .ok (.aload_n 0, 1) := by decide +kernel
theorem dX9_lag_102 : decode cX9_lag 102 = .ok (.iload_n 1, 1) := by decide +kernel
theorem dX9_lag_103 : decode cX9_lag 103 = .ok (.invokevirtual 371, 3) := by decide +kernel
theorem dX9_lag_106 : decode cX9_lag 106 = .ok (.invokevirtual 230, 3) := by decide +kernel
theorem dX9_lag_109 : decode cX9_lag 109 = .ok (.ireturn, 1) := by decide +kernel
theorem dX9_lag_110 : decode cX9_lag 110 = .ok (.aload_n 0, 1) := by decide +kernel
theorem dX9_lag_111 : decode cX9_lag 111 = .ok (.iconst 1, 1) := by decide +kernel
theorem dX9_lag_112 : decode cX9_lag 112 = .ok (.invokevirtual 61, 3) := by decide +kernel
theorem dX9_lag_115 : decode cX9_lag 115 = .ok (.ireturn, 1) := by decide +kernel
def f_X9_lag (s0 : MoT) (p1 : Int32) (p2 : Int32) : Option (Int32 × MoT) :=
  (f_X9_hasBegun (Mo_w_thrown s0 (0 : Int32)) p1).bind fun r1 =>
  if r1 = 0 then (f_X9_refused (Mo_w_thrown s0 (0 : Int32)) (1 : Int32)).bind fun r31 =>
  some ((r31.1), (r31.2))
  else (f_X9_get (Mo_w_thrown s0 (0 : Int32)) (0 : Int32) (11 : Int32)).bind fun r4 =>
  (f_X9_subAt p1 (1 : Int32)).bind fun r6 =>
  (f_X9_get (Mo_w_thrown s0 (0 : Int32)) (0 : Int32) r6).bind fun r8 =>
  if p2 = (0 : Int32) then (f_X9_good (Mo_w_thrown s0 (0 : Int32)) (r4 - r8)).bind fun r11 =>
  some ((r11.1), (r11.2))
  else if p2 = (1 : Int32) then if (60 : Int32) < (r4 - r8) then (f_X9_good (Mo_w_thrown s0 (0 : Int32)) (0 : Int32)).bind fun r15 =>
  some ((r15.1), (r15.2))
  else (f_X9_good (Mo_w_thrown s0 (0 : Int32)) (1 : Int32)).bind fun r17 =>
  some ((r17.1), (r17.2))
  else if p2 = (2 : Int32) then (f_X9_otherwise (Mo_w_thrown s0 (0 : Int32)) p1).bind fun r20 =>
  (f_X9_good (Mo_w_thrown s0 (0 : Int32)) r20).bind fun r22 =>
  some ((r22.1), (r22.2))
  else if p2 = (3 : Int32) then (f_X9_differences (Mo_w_thrown s0 (0 : Int32)) p1).bind fun r25 =>
  (f_X9_good (Mo_w_thrown s0 (0 : Int32)) r25).bind fun r27 =>
  some ((r27.1), (r27.2))
  else (f_X9_refused (Mo_w_thrown s0 (0 : Int32)) (1 : Int32)).bind fun r29 =>
  some ((r29.1), (r29.2))
abbrev rm_X9_lag : Room := { frames := 8, cells := 0, slots := 0, locals := 190 }
set_option maxHeartbeats 4000000 in
set_option maxRecDepth 100000 in
theorem c_X9_lag (l : Launch) (g : GK) (a0 : Nat → Nat) (s0 : MoT) (p1 : Int32) (p2 : Int32) (res : (Int32 × MoT)) (hf : f_X9_lag s0 p1 p2 = some res) : gM l yX9_lag cX9_lag 4 (some .int) rm_X9_lag g [.ref (a0 0), .int p1, .int p2] (Mo_c g a0 s0) (fun _ : Unit => (some (.int (res.1)))) (fun _ => (Mo_c g a0 (res.2))) 0 0 := by
  refine gM_introI RX9 (by decide) rfl (Nat.le_of_ble_eq_true rfl) (fun p e s m args below meth c Q H locs ls A hE hZ hA hP hD hS hq hl => ?_)
  have hl : lv_has ls 4 [(0, .ref (a0 0)), (1, .int p1), (2, .int p2)] := hl
  have hx := hE.1
  have hb := hE.2.1
  rw [f_X9_lag] at hf
  refine lv_aload_n hx hb dX9_lag_0 rfl (lv_at hl 0 rfl) ?_
  refine lv_iconst hx hb dX9_lag_1 kci_0 ?_
  refine g_put hE okX9 fl_X9_55 hP hD hS 0 rfl rfl rfl rfl (Nat.le_of_ble_eq_true rfl) (Mo_c g a0 (Mo_w_thrown s0 (0 : Int32))) rfl dX9_lag_2 (fun H locs hP hD hS => ?_)
  refine lv_aload_n hx hb dX9_lag_5 rfl (lv_at hl 0 rfl) ?_
  refine lv_iload_n hx hb dX9_lag_6 rfl (lv_at hl 1 rfl) ?_
  obtain ⟨r1, hc2, hf⟩ := gbd hf
  refine gr_callV (As := [.int p1]) (rest := []) (st1 := [.int r1]) hE hl.1 ml_X9_368 (c_X9_hasBegun l g a0 (Mo_w_thrown s0 (0 : Int32)) p1 r1 hc2) hZ hS hP [(0, 14)] rfl okX9 rfl rfl rfl rfl ⟨rfl, rfl⟩ ⟨Nat.le_of_ble_eq_true rfl, Nat.le_of_ble_eq_true rfl⟩ ⟨Nat.le_refl _, Nat.le_refl _⟩ (Nat.le_of_ble_eq_true rfl) dX9_lag_7 ?_
  refine lv_if_ne hx hb dX9_lag_10 (tgt := 19) rfl (fun h3 => ?_) (fun h3 => ?_)
  · have hf := gif_f h3 hf
    refine lv_aload_n hx hb dX9_lag_19 rfl (lv_at hl 0 rfl) ?_
    refine lv_iconst hx hb dX9_lag_20 kci_0 ?_
    refine lv_bipush hx hb dX9_lag_21 kcb_11 ?_
    obtain ⟨r4, hc5, hf⟩ := gbd hf
    refine gr_callV (As := [.int (0 : Int32), .int (11 : Int32)]) (rest := []) (st1 := [.int r4]) hE hl.1 ml_X9_200 (c_X9_get l g a0 (Mo_w_thrown s0 (0 : Int32)) (0 : Int32) (11 : Int32) r4 hc5) hZ hS hP [(0, 14)] rfl okX9 rfl rfl rfl rfl ⟨rfl, rfl⟩ ⟨Nat.le_of_ble_eq_true rfl, Nat.le_of_ble_eq_true rfl⟩ ⟨Nat.le_refl _, Nat.le_refl _⟩ (Nat.le_of_ble_eq_true rfl) dX9_lag_23 ?_
    refine lv_aload_n hx hb dX9_lag_26 rfl (lv_at hl 0 rfl) ?_
    refine lv_iconst hx hb dX9_lag_27 kci_0 ?_
    refine lv_iload_n hx hb dX9_lag_28 rfl (lv_at hl 1 rfl) ?_
    refine lv_iconst hx hb dX9_lag_29 kci_1 ?_
    obtain ⟨r6, hc7, hf⟩ := gbd hf
    refine gr_callS (As := [.int p1, .int (1 : Int32)]) (rest := [.int (0 : Int32), .ref (a0 0), .int r4]) (st1 := [.int r6, .int (0 : Int32), .ref (a0 0), .int r4]) hE hl.1 ml_X9_359 (c_X9_subAt l g p1 (1 : Int32) r6 hc7) hZ hS hP [] rfl rfl rfl rfl ⟨rfl, rfl⟩ ⟨Nat.le_of_ble_eq_true rfl, Nat.le_of_ble_eq_true rfl⟩ ⟨Nat.le_refl _, Nat.le_refl _⟩ (Nat.le_of_ble_eq_true rfl) dX9_lag_30 ?_
    obtain ⟨r8, hc9, hf⟩ := gbd hf
    refine gr_callV (As := [.int (0 : Int32), .int r6]) (rest := [.int r4]) (st1 := [.int r8, .int r4]) hE hl.1 ml_X9_200 (c_X9_get l g a0 (Mo_w_thrown s0 (0 : Int32)) (0 : Int32) r6 r8 hc9) hZ hS hP [(0, 14)] rfl okX9 rfl rfl rfl rfl ⟨rfl, rfl⟩ ⟨Nat.le_of_ble_eq_true rfl, Nat.le_of_ble_eq_true rfl⟩ ⟨Nat.le_refl _, Nat.le_refl _⟩ (Nat.le_of_ble_eq_true rfl) dX9_lag_33 ?_
    refine lv_isub hx hb dX9_lag_36 ?_
    refine lv_istore_n hx hb dX9_lag_37 rfl hl (by decide) (lv' := [(3, .int (r4 - r8)), (0, .ref (a0 0)), (1, .int p1), (2, .int p2)]) rfl (fun ls hl => ?_)
    refine lv_iload_n hx hb dX9_lag_38 rfl (lv_at hl 3 rfl) ?_
    by_cases h10 : p2 = (0 : Int32)
    · have hf := gif_t h10 hf
      refine g_swIn hE h10 dX9_lag_39 (0) ⟨by decide, by decide⟩ (by decide) (off := 29) rfl (tgt := 68) rfl ?_
      refine lv_aload_n hx hb dX9_lag_68 rfl (lv_at hl 1 rfl) ?_
      refine lv_iload_n hx hb dX9_lag_69 rfl (lv_at hl 0 rfl) ?_
      obtain ⟨r11, hc12, hf⟩ := gbd hf
      refine gm_callV1 (As := [.int (r4 - r8)]) (rest := []) (st1 := fun _ => [.int (r11.1)]) (ws' := fun _ => (Mo_c g a0 (r11.2))) hE hl.1 ml_X9_230 (c_X9_good l g a0 (Mo_w_thrown s0 (0 : Int32)) (r4 - r8) r11 hc12) hZ hP hD hS hA 0 14 rfl (fun _ => rfl) okX9 rfl rfl rfl (fun _ => rfl) ⟨rfl, rfl⟩ ⟨Nat.le_of_ble_eq_true rfl, Nat.le_of_ble_eq_true rfl⟩ ⟨Nat.le_refl _, Nat.le_refl _⟩ (Nat.le_of_ble_eq_true rfl) dX9_lag_70 (fun _ H locs hP hD hS => ?_)
      cases hf
      exact hq () rfl hP hD hS dX9_lag_73
    have hf := gif_f h10 hf
    by_cases h13 : p2 = (1 : Int32)
    · have hf := gif_t h13 hf
      refine g_swIn hE h13 dX9_lag_39 (1) ⟨by decide, by decide⟩ (by decide) (off := 35) rfl (tgt := 74) rfl ?_
      refine lv_aload_n hx hb dX9_lag_74 rfl (lv_at hl 1 rfl) ?_
      refine lv_iload_n hx hb dX9_lag_75 rfl (lv_at hl 0 rfl) ?_
      refine lv_bipush hx hb dX9_lag_76 kcb_60 ?_
      refine lv_icmp_gt hx hb dX9_lag_78 (tgt := 85) rfl (fun h14 => ?_) (fun h14 => ?_)
      · have hf := gif_t h14 hf
        refine lv_iconst hx hb dX9_lag_85 kci_0 ?_
        obtain ⟨r15, hc16, hf⟩ := gbd hf
        refine gm_callV1 (As := [.int (0 : Int32)]) (rest := []) (st1 := fun _ => [.int (r15.1)]) (ws' := fun _ => (Mo_c g a0 (r15.2))) hE hl.1 ml_X9_230 (c_X9_good l g a0 (Mo_w_thrown s0 (0 : Int32)) (0 : Int32) r15 hc16) hZ hP hD hS hA 0 14 rfl (fun _ => rfl) okX9 rfl rfl rfl (fun _ => rfl) ⟨rfl, rfl⟩ ⟨Nat.le_of_ble_eq_true rfl, Nat.le_of_ble_eq_true rfl⟩ ⟨Nat.le_refl _, Nat.le_refl _⟩ (Nat.le_of_ble_eq_true rfl) dX9_lag_86 (fun _ H locs hP hD hS => ?_)
        cases hf
        exact hq () rfl hP hD hS dX9_lag_89
      · have hf := gif_f h14 hf
        refine lv_iconst hx hb dX9_lag_81 kci_1 ?_
        refine lv_goto hx hb dX9_lag_82 (tgt := 86) rfl ?_
        obtain ⟨r17, hc18, hf⟩ := gbd hf
        refine gm_callV1 (As := [.int (1 : Int32)]) (rest := []) (st1 := fun _ => [.int (r17.1)]) (ws' := fun _ => (Mo_c g a0 (r17.2))) hE hl.1 ml_X9_230 (c_X9_good l g a0 (Mo_w_thrown s0 (0 : Int32)) (1 : Int32) r17 hc18) hZ hP hD hS hA 0 14 rfl (fun _ => rfl) okX9 rfl rfl rfl (fun _ => rfl) ⟨rfl, rfl⟩ ⟨Nat.le_of_ble_eq_true rfl, Nat.le_of_ble_eq_true rfl⟩ ⟨Nat.le_refl _, Nat.le_refl _⟩ (Nat.le_of_ble_eq_true rfl) dX9_lag_86 (fun _ H locs hP hD hS => ?_)
        cases hf
        exact hq () rfl hP hD hS dX9_lag_89
    have hf := gif_f h13 hf
    by_cases h19 : p2 = (2 : Int32)
    · have hf := gif_t h19 hf
      refine g_swIn hE h19 dX9_lag_39 (2) ⟨by decide, by decide⟩ (by decide) (off := 51) rfl (tgt := 90) rfl ?_
      refine lv_aload_n hx hb dX9_lag_90 rfl (lv_at hl 1 rfl) ?_
      refine lv_aload_n hx hb dX9_lag_91 rfl (lv_at hl 1 rfl) ?_
      refine lv_iload_n hx hb dX9_lag_92 rfl (lv_at hl 2 rfl) ?_
      obtain ⟨r20, hc21, hf⟩ := gbd hf
      refine gr_callV (As := [.int p1]) (rest := [.ref (a0 0)]) (st1 := [.int r20, .ref (a0 0)]) hE hl.1 ml_X9_374 (c_X9_otherwise l g a0 (Mo_w_thrown s0 (0 : Int32)) p1 r20 hc21) hZ hS hP [(0, 14)] rfl okX9 rfl rfl rfl rfl ⟨rfl, rfl⟩ ⟨Nat.le_of_ble_eq_true rfl, Nat.le_of_ble_eq_true rfl⟩ ⟨Nat.le_refl _, Nat.le_refl _⟩ (Nat.le_of_ble_eq_true rfl) dX9_lag_93 ?_
      obtain ⟨r22, hc23, hf⟩ := gbd hf
      refine gm_callV1 (As := [.int r20]) (rest := []) (st1 := fun _ => [.int (r22.1)]) (ws' := fun _ => (Mo_c g a0 (r22.2))) hE hl.1 ml_X9_230 (c_X9_good l g a0 (Mo_w_thrown s0 (0 : Int32)) r20 r22 hc23) hZ hP hD hS hA 0 14 rfl (fun _ => rfl) okX9 rfl rfl rfl (fun _ => rfl) ⟨rfl, rfl⟩ ⟨Nat.le_of_ble_eq_true rfl, Nat.le_of_ble_eq_true rfl⟩ ⟨Nat.le_refl _, Nat.le_refl _⟩ (Nat.le_of_ble_eq_true rfl) dX9_lag_96 (fun _ H locs hP hD hS => ?_)
      cases hf
      exact hq () rfl hP hD hS dX9_lag_99
    have hf := gif_f h19 hf
    by_cases h24 : p2 = (3 : Int32)
    · have hf := gif_t h24 hf
      refine g_swIn hE h24 dX9_lag_39 (3) ⟨by decide, by decide⟩ (by decide) (off := 61) rfl (tgt := 100) rfl ?_
      refine lv_aload_n hx hb dX9_lag_100 rfl (lv_at hl 1 rfl) ?_
      refine lv_aload_n hx hb dX9_lag_101 rfl (lv_at hl 1 rfl) ?_
      refine lv_iload_n hx hb dX9_lag_102 rfl (lv_at hl 2 rfl) ?_
      obtain ⟨r25, hc26, hf⟩ := gbd hf
      refine gr_callV (As := [.int p1]) (rest := [.ref (a0 0)]) (st1 := [.int r25, .ref (a0 0)]) hE hl.1 ml_X9_371 (c_X9_differences l g a0 (Mo_w_thrown s0 (0 : Int32)) p1 r25 hc26) hZ hS hP [(0, 14)] rfl okX9 rfl rfl rfl rfl ⟨rfl, rfl⟩ ⟨Nat.le_of_ble_eq_true rfl, Nat.le_of_ble_eq_true rfl⟩ ⟨Nat.le_refl _, Nat.le_refl _⟩ (Nat.le_of_ble_eq_true rfl) dX9_lag_103 ?_
      obtain ⟨r27, hc28, hf⟩ := gbd hf
      refine gm_callV1 (As := [.int r25]) (rest := []) (st1 := fun _ => [.int (r27.1)]) (ws' := fun _ => (Mo_c g a0 (r27.2))) hE hl.1 ml_X9_230 (c_X9_good l g a0 (Mo_w_thrown s0 (0 : Int32)) r25 r27 hc28) hZ hP hD hS hA 0 14 rfl (fun _ => rfl) okX9 rfl rfl rfl (fun _ => rfl) ⟨rfl, rfl⟩ ⟨Nat.le_of_ble_eq_true rfl, Nat.le_of_ble_eq_true rfl⟩ ⟨Nat.le_refl _, Nat.le_refl _⟩ (Nat.le_of_ble_eq_true rfl) dX9_lag_106 (fun _ H locs hP hD hS => ?_)
      cases hf
      exact hq () rfl hP hD hS dX9_lag_109
    have hf := gif_f h24 hf
    refine lv_tableOut hx hb dX9_lag_39 (by have := nti h10 (k := 0) (by decide); have := nti h13 (k := 1) (by decide); have := nti h19 (k := 2) (by decide); have := nti h24 (k := 3) (by decide); omega) (tgt := 110) rfl ?_
    refine lv_aload_n hx hb dX9_lag_110 rfl (lv_at hl 1 rfl) ?_
    refine lv_iconst hx hb dX9_lag_111 kci_1 ?_
    obtain ⟨r29, hc30, hf⟩ := gbd hf
    refine gm_callV1 (As := [.int (1 : Int32)]) (rest := []) (st1 := fun _ => [.int (r29.1)]) (ws' := fun _ => (Mo_c g a0 (r29.2))) hE hl.1 ml_X9_61 (c_X9_refused l g a0 (Mo_w_thrown s0 (0 : Int32)) (1 : Int32) r29 hc30) hZ hP hD hS hA 0 14 rfl (fun _ => rfl) okX9 rfl rfl rfl (fun _ => rfl) ⟨rfl, rfl⟩ ⟨Nat.le_of_ble_eq_true rfl, Nat.le_of_ble_eq_true rfl⟩ ⟨Nat.le_refl _, Nat.le_refl _⟩ (Nat.le_of_ble_eq_true rfl) dX9_lag_112 (fun _ H locs hP hD hS => ?_)
    cases hf
    exact hq () rfl hP hD hS dX9_lag_115
  · have hf := gif_t h3 hf
    refine lv_aload_n hx hb dX9_lag_13 rfl (lv_at hl 0 rfl) ?_
    refine lv_iconst hx hb dX9_lag_14 kci_1 ?_
    obtain ⟨r31, hc32, hf⟩ := gbd hf
    refine gm_callV1 (As := [.int (1 : Int32)]) (rest := []) (st1 := fun _ => [.int (r31.1)]) (ws' := fun _ => (Mo_c g a0 (r31.2))) hE hl.1 ml_X9_61 (c_X9_refused l g a0 (Mo_w_thrown s0 (0 : Int32)) (1 : Int32) r31 hc32) hZ hP hD hS hA 0 14 rfl (fun _ => rfl) okX9 rfl rfl rfl (fun _ => rfl) ⟨rfl, rfl⟩ ⟨Nat.le_of_ble_eq_true rfl, Nat.le_of_ble_eq_true rfl⟩ ⟨Nat.le_refl _, Nat.le_refl _⟩ (Nat.le_of_ble_eq_true rfl) dX9_lag_15 (fun _ H locs hP hD hS => ?_)
    cases hf
    exact hq () rfl hP hD hS dX9_lag_18
theorem dX9_begun_0 : decode cX9_begun 0 = .ok (.iconst 0, 1) := by decide +kernel
theorem dX9_begun_1 : decode cX9_begun 1 = .ok (.istore_n 1, 1) := by decide +kernel
theorem dX9_begun_2 : decode cX9_begun 2 = .ok (.iconst 0, 1) := by decide +kernel
theorem dX9_begun_3 : decode cX9_begun 3 = .ok (.istore_n 2, 1) := by decide +kernel
theorem dX9_begun_4 : decode cX9_begun 4 = .ok (.iload_n 2, 1) := by decide +kernel
theorem dX9_begun_5 : decode cX9_begun 5 = .ok (.iconst 4, 1) := by decide +kernel
theorem dX9_begun_6 : decode cX9_begun 6 = .ok (.if_icmp .ge 25, 3) := by decide +kernel
theorem dX9_begun_9 : decode cX9_begun 9 = .ok (.iload_n 1, 1) := by decide +kernel
theorem dX9_begun_10 : decode cX9_begun 10 = .ok (.aload_n 0, 1) := by decide +kernel
theorem dX9_begun_11 : decode cX9_begun 11 = .ok (.iload_n 2, 1) := by decide +kernel
theorem dX9_begun_12 : decode cX9_begun 12 = .ok (.invokevirtual 368, 3) := by decide +kernel
theorem dX9_begun_15 : decode cX9_begun 15 = .ok (.ifCond .eq 7, 3) := by decide +kernel
theorem dX9_begun_18 : decode cX9_begun 18 = .ok (.iconst 1, 1) := by decide +kernel
theorem dX9_begun_19 : decode cX9_begun 19 = .ok (.goto 4, 3) := by decide +kernel
theorem dX9_begun_22 : decode cX9_begun 22 = .ok (.iconst 0, 1) := by decide +kernel
theorem dX9_begun_23 : decode cX9_begun 23 = .ok (.iadd, 1) := by decide +kernel
theorem dX9_begun_24 : decode cX9_begun 24 = .ok (.istore_n 1, 1) := by decide +kernel
theorem dX9_begun_25 : decode cX9_begun 25 = .ok (.iinc 2 1, 3) := by decide +kernel
theorem dX9_begun_28 : decode cX9_begun 28 = .ok (.goto (-24), 3) := by decide +kernel
theorem dX9_begun_31 : decode cX9_begun 31 = .ok (.iload_n 1, 1) := by decide +kernel
theorem dX9_begun_32 : decode cX9_begun 32 = .ok (.ireturn, 1) := by decide +kernel
def f_X9_begun_L4_5 (s0 : MoT) (K1 : (Int32 → Option (Int32))) : Nat → Int32 → Int32 → Option (Int32)
  | 0, _, _ => none
  | n6 + 1, x1_3, x2_4 => if (4 : Int32) ≤ x2_4 then K1 x1_3
  else (f_X9_hasBegun s0 x2_4).bind fun r8 =>
  if r8 = 0 then f_X9_begun_L4_5 s0 K1 n6 (x1_3 + (0 : Int32)) (x2_4 + (1 : Int32))
  else f_X9_begun_L4_5 s0 K1 n6 (x1_3 + (1 : Int32)) (x2_4 + (1 : Int32))
def f_X9_begun (s0 : MoT) : Option (Int32) :=
  glt (fun (x1_2 : Int32) => some (x1_2)) fun K1 =>
  f_X9_begun_L4_5 s0 K1 10000 (0 : Int32) (0 : Int32)
abbrev rm_X9_begun : Room := { frames := 2, cells := 0, slots := 0, locals := 43 }
set_option maxHeartbeats 4000000 in
set_option maxRecDepth 100000 in
theorem c_X9_begun (l : Launch) (g : GK) (a0 : Nat → Nat) (s0 : MoT) (res : (Int32)) (hf : f_X9_begun s0 = some res) : gR l yX9_begun cX9_begun 3 (some .int) rm_X9_begun g [.ref (a0 0)] (Mo_c g a0 s0) (some (.int res)) := by
  refine gR_introI RX9 (by decide) rfl (Nat.le_of_ble_eq_true rfl) (fun p e s m args below meth c Q H locs ls hE hP hZ hS hq hl => ?_)
  have hl : lv_has ls 3 [(0, .ref (a0 0))] := hl
  have hx := hE.1
  have hb := hE.2.1
  rw [f_X9_begun] at hf
  refine lv_iconst hx hb dX9_begun_0 kci_0 ?_
  refine lv_istore_n hx hb dX9_begun_1 rfl hl (by decide) (lv' := [(1, .int (0 : Int32)), (0, .ref (a0 0))]) rfl (fun ls hl => ?_)
  refine lv_iconst hx hb dX9_begun_2 kci_0 ?_
  refine lv_istore_n hx hb dX9_begun_3 rfl hl (by decide) (lv' := [(2, .int (0 : Int32)), (1, .int (0 : Int32)), (0, .ref (a0 0))]) rfl (fun ls hl => ?_)
  obtain ⟨K1, eK1, hf⟩ := gltd hf
  have kK1 : ∀ (x1_2 : Int32) (ls : Array Slot), K1 x1_2 = some res → lv_has ls 3 [(1, .int x1_2)] → W p l e rm_X9_begun s m args below meth c H locs 0 0 Q (F0 m 31 ls []) := by
    intro x1_2 ls hf hl
    rw [eK1] at hf
    refine lv_iload_n hx hb dX9_begun_31 rfl (lv_at hl 0 rfl) ?_
    cases hf
    exact hq rfl dX9_begun_32
  have lpn6 : ∀ (n6 : Nat) (x1_3 : Int32) (x2_4 : Int32) (ls : Array Slot), f_X9_begun_L4_5 s0 K1 n6 x1_3 x2_4 = some res → lv_has ls 3 [(0, .ref (a0 0)), (1, .int x1_3), (2, .int x2_4)] → W p l e rm_X9_begun s m args below meth c H locs 0 0 Q (F0 m 4 ls []) := by
    intro n6
    induction n6 with
    | zero => intro x1_3 x2_4 ls hf hl; rw [f_X9_begun_L4_5] at hf; cases hf
    | succ n6 ihn6 =>
      intro x1_3 x2_4 ls hf hl
      rw [f_X9_begun_L4_5] at hf
      refine lv_iload_n hx hb dX9_begun_4 rfl (lv_at hl 2 rfl) ?_
      refine lv_iconst hx hb dX9_begun_5 kci_4 ?_
      refine lv_icmp_ge hx hb dX9_begun_6 (tgt := 31) rfl (fun h7 => ?_) (fun h7 => ?_)
      · have hf := gif_t h7 hf
        exact kK1 x1_3 ls hf (lv_sub hl [1] rfl)
      · have hf := gif_f h7 hf
        refine lv_iload_n hx hb dX9_begun_9 rfl (lv_at hl 1 rfl) ?_
        refine lv_aload_n hx hb dX9_begun_10 rfl (lv_at hl 0 rfl) ?_
        refine lv_iload_n hx hb dX9_begun_11 rfl (lv_at hl 2 rfl) ?_
        obtain ⟨r8, hc9, hf⟩ := gbd hf
        refine gr_callV (As := [.int x2_4]) (rest := [.int x1_3]) (st1 := [.int r8, .int x1_3]) hE hl.1 ml_X9_368 (c_X9_hasBegun l g a0 s0 x2_4 r8 hc9) hZ hS hP [(0, 14)] rfl okX9 rfl rfl rfl rfl ⟨rfl, rfl⟩ ⟨Nat.le_of_ble_eq_true rfl, Nat.le_of_ble_eq_true rfl⟩ ⟨Nat.le_refl _, Nat.le_refl _⟩ (Nat.le_of_ble_eq_true rfl) dX9_begun_12 ?_
        refine lv_if_eq hx hb dX9_begun_15 (tgt := 22) rfl (fun h10 => ?_) (fun h10 => ?_)
        · have hf := gif_t h10 hf
          refine lv_iconst hx hb dX9_begun_22 kci_0 ?_
          refine lv_iadd hx hb dX9_begun_23 ?_
          refine lv_istore_n hx hb dX9_begun_24 rfl hl (by decide) (lv' := [(1, .int (x1_3 + (0 : Int32))), (0, .ref (a0 0)), (2, .int x2_4)]) rfl (fun ls hl => ?_)
          refine lv_iinc hx hb dX9_begun_25 hl (k := 2) (x := x2_4) rfl (kinc_1 _) (by decide) (lv' := [(2, .int (x2_4 + (1 : Int32))), (1, .int (x1_3 + (0 : Int32))), (0, .ref (a0 0))]) rfl (fun ls hl => ?_)
          refine lv_goto hx hb dX9_begun_28 (tgt := 4) rfl ?_
          exact ihn6 (x1_3 + (0 : Int32)) (x2_4 + (1 : Int32)) ls hf (lv_sub hl [2, 1, 0] rfl)
        · have hf := gif_f h10 hf
          refine lv_iconst hx hb dX9_begun_18 kci_1 ?_
          refine lv_goto hx hb dX9_begun_19 (tgt := 23) rfl ?_
          refine lv_iadd hx hb dX9_begun_23 ?_
          refine lv_istore_n hx hb dX9_begun_24 rfl hl (by decide) (lv' := [(1, .int (x1_3 + (1 : Int32))), (0, .ref (a0 0)), (2, .int x2_4)]) rfl (fun ls hl => ?_)
          refine lv_iinc hx hb dX9_begun_25 hl (k := 2) (x := x2_4) rfl (kinc_1 _) (by decide) (lv' := [(2, .int (x2_4 + (1 : Int32))), (1, .int (x1_3 + (1 : Int32))), (0, .ref (a0 0))]) rfl (fun ls hl => ?_)
          refine lv_goto hx hb dX9_begun_28 (tgt := 4) rfl ?_
          exact ihn6 (x1_3 + (1 : Int32)) (x2_4 + (1 : Int32)) ls hf (lv_sub hl [2, 1, 0] rfl)
  exact lpn6 10000 (0 : Int32) (0 : Int32) ls hf (lv_sub hl [2, 1, 0] rfl)
theorem dX9_refusesEvent_0 : decode cX9_refusesEvent 0 = .ok (.iload_n 1, 1) := by decide +kernel
theorem dX9_refusesEvent_1 : decode cX9_refusesEvent 1 = .ok (.invokestatic 303, 3) := by decide +kernel
theorem dX9_refusesEvent_4 : decode cX9_refusesEvent 4 = .ok (.ifCond .eq 19, 3) := by decide +kernel
theorem dX9_refusesEvent_7 : decode cX9_refusesEvent 7 = .ok (.aload_n 0, 1) := by decide +kernel
theorem dX9_refusesEvent_8 : decode cX9_refusesEvent 8 = .ok (.iload_n 2, 1) := by decide +kernel
theorem dX9_refusesEvent_9 : decode cX9_refusesEvent 9 = .ok (.invokevirtual 293, 3) := by decide +kernel
theorem dX9_refusesEvent_12 : decode cX9_refusesEvent 12 = .ok (.ifCond .eq 11, 3) := by decide +kernel
theorem dX9_refusesEvent_15 : decode cX9_refusesEvent 15 = .ok (.aload_n 0, 1) := by decide +kernel
theorem dX9_refusesEvent_16 : decode cX9_refusesEvent 16 = .ok (.iload_n 3, 1) := by decide +kernel
theorem dX9_refusesEvent_17 : decode cX9_refusesEvent 17 = .ok (.invokevirtual 297, 3) := by decide +kernel
theorem dX9_refusesEvent_20 : decode cX9_refusesEvent 20 = .ok (.ifCond .ne 5, 3) := by decide +kernel
theorem dX9_refusesEvent_23 : decode cX9_refusesEvent 23 = .ok (.iconst 1, 1) := by decide +kernel
theorem dX9_refusesEvent_24 : decode cX9_refusesEvent 24 = .ok (.ireturn, 1) := by decide +kernel
theorem dX9_refusesEvent_25 : decode cX9_refusesEvent 25 = .ok (.iload 4, 2) := by decide +kernel
theorem dX9_refusesEvent_27 : decode cX9_refusesEvent 27 = .ok (.ifCond .eq 27, 3) := by decide +kernel
theorem dX9_refusesEvent_30 : decode cX9_refusesEvent 30 = .ok (.iload 4, 2) := by decide +kernel
theorem dX9_refusesEvent_32 : decode cX9_refusesEvent 32 = .ok (.bipush (-9), 2) := by decide +kernel
theorem dX9_refusesEvent_34 : decode cX9_refusesEvent 34 = .ok (.bipush 9, 2) := by decide +kernel
theorem dX9_refusesEvent_36 : decode cX9_refusesEvent 36 = .ok (.invokestatic 90, 3) := by decide +kernel
theorem dX9_refusesEvent_39 : decode cX9_refusesEvent 39 = .ok (.ifCond .eq 15, 3) := by decide +kernel
theorem dX9_refusesEvent_42 : decode cX9_refusesEvent 42 = .ok (.iload 5, 2) := by decide +kernel
theorem dX9_refusesEvent_44 : decode cX9_refusesEvent 44 = .ok (.iconst 0, 1) := by decide +kernel
theorem dX9_refusesEvent_45 : decode cX9_refusesEvent 45 = .ok (.sipush 9999, 3) := by decide +kernel
theorem dX9_refusesEvent_48 : decode cX9_refusesEvent 48 = .ok (.invokestatic 90, 3) := by decide +kernel
theorem dX9_refusesEvent_51 : decode cX9_refusesEvent 51 = .ok (.ifCond .ne 7, 3) := by decide +kernel
theorem dX9_refusesEvent_54 : decode cX9_refusesEvent 54 = .ok (.iconst 2, 1) := by decide +kernel
theorem dX9_refusesEvent_55 : decode cX9_refusesEvent 55 = .ok (.goto 4, 3) := by decide +kernel
theorem dX9_refusesEvent_58 : decode cX9_refusesEvent 58 = .ok (.iconst 0, 1) := by decide +kernel
theorem dX9_refusesEvent_59 : decode cX9_refusesEvent 59 = .ok (.ireturn, 1) := by decide +kernel
def f_X9_refusesEvent (s0 : MoT) (p1 : Int32) (p2 : Int32) (p3 : Int32) (p4 : Int32) (p5 : Int32) : Option (Int32) :=
  (f_X9_isSide p1).bind fun r1 =>
  if r1 = 0 then some ((1 : Int32))
  else (f_X9_isKey s0 p2).bind fun r4 =>
  if r4 = 0 then some ((1 : Int32))
  else (f_X9_isValue s0 p3).bind fun r7 =>
  if r7 = 0 then some ((1 : Int32))
  else if p4 = 0 then some ((2 : Int32))
  else (f_X9_in p4 (-9 : Int32) (9 : Int32)).bind fun r11 =>
  if r11 = 0 then some ((2 : Int32))
  else (f_X9_in p5 (0 : Int32) (9999 : Int32)).bind fun r14 =>
  if r14 = 0 then some ((2 : Int32))
  else some ((0 : Int32))
abbrev rm_X9_refusesEvent : Room := { frames := 2, cells := 0, slots := 0, locals := 43 }
set_option maxHeartbeats 4000000 in
set_option maxRecDepth 100000 in
theorem c_X9_refusesEvent (l : Launch) (g : GK) (a0 : Nat → Nat) (s0 : MoT) (p1 : Int32) (p2 : Int32) (p3 : Int32) (p4 : Int32) (p5 : Int32) (res : (Int32)) (hf : f_X9_refusesEvent s0 p1 p2 p3 p4 p5 = some res) : gR l yX9_refusesEvent cX9_refusesEvent 6 (some .int) rm_X9_refusesEvent g [.ref (a0 0), .int p1, .int p2, .int p3, .int p4, .int p5] (Mo_c g a0 s0) (some (.int res)) := by
  refine gR_introI RX9 (by decide) rfl (Nat.le_of_ble_eq_true rfl) (fun p e s m args below meth c Q H locs ls hE hP hZ hS hq hl => ?_)
  have hl : lv_has ls 6 [(0, .ref (a0 0)), (1, .int p1), (2, .int p2), (3, .int p3), (4, .int p4), (5, .int p5)] := hl
  have hx := hE.1
  have hb := hE.2.1
  rw [f_X9_refusesEvent] at hf
  refine lv_iload_n hx hb dX9_refusesEvent_0 rfl (lv_at hl 1 rfl) ?_
  obtain ⟨r1, hc2, hf⟩ := gbd hf
  refine gr_callS (As := [.int p1]) (rest := []) (st1 := [.int r1]) hE hl.1 ml_X9_303 (c_X9_isSide l g p1 r1 hc2) hZ hS hP [] rfl rfl rfl rfl ⟨rfl, rfl⟩ ⟨Nat.le_of_ble_eq_true rfl, Nat.le_of_ble_eq_true rfl⟩ ⟨Nat.le_refl _, Nat.le_refl _⟩ (Nat.le_of_ble_eq_true rfl) dX9_refusesEvent_1 ?_
  refine lv_if_eq hx hb dX9_refusesEvent_4 (tgt := 23) rfl (fun h3 => ?_) (fun h3 => ?_)
  · have hf := gif_t h3 hf
    refine lv_iconst hx hb dX9_refusesEvent_23 kci_1 ?_
    cases hf
    exact hq rfl dX9_refusesEvent_24
  · have hf := gif_f h3 hf
    refine lv_aload_n hx hb dX9_refusesEvent_7 rfl (lv_at hl 0 rfl) ?_
    refine lv_iload_n hx hb dX9_refusesEvent_8 rfl (lv_at hl 2 rfl) ?_
    obtain ⟨r4, hc5, hf⟩ := gbd hf
    refine gr_callV (As := [.int p2]) (rest := []) (st1 := [.int r4]) hE hl.1 ml_X9_293 (c_X9_isKey l g a0 s0 p2 r4 hc5) hZ hS hP [(0, 14)] rfl okX9 rfl rfl rfl rfl ⟨rfl, rfl⟩ ⟨Nat.le_of_ble_eq_true rfl, Nat.le_of_ble_eq_true rfl⟩ ⟨Nat.le_refl _, Nat.le_refl _⟩ (Nat.le_of_ble_eq_true rfl) dX9_refusesEvent_9 ?_
    refine lv_if_eq hx hb dX9_refusesEvent_12 (tgt := 23) rfl (fun h6 => ?_) (fun h6 => ?_)
    · have hf := gif_t h6 hf
      refine lv_iconst hx hb dX9_refusesEvent_23 kci_1 ?_
      cases hf
      exact hq rfl dX9_refusesEvent_24
    · have hf := gif_f h6 hf
      refine lv_aload_n hx hb dX9_refusesEvent_15 rfl (lv_at hl 0 rfl) ?_
      refine lv_iload_n hx hb dX9_refusesEvent_16 rfl (lv_at hl 3 rfl) ?_
      obtain ⟨r7, hc8, hf⟩ := gbd hf
      refine gr_callV (As := [.int p3]) (rest := []) (st1 := [.int r7]) hE hl.1 ml_X9_297 (c_X9_isValue l g a0 s0 p3 r7 hc8) hZ hS hP [(0, 14)] rfl okX9 rfl rfl rfl rfl ⟨rfl, rfl⟩ ⟨Nat.le_of_ble_eq_true rfl, Nat.le_of_ble_eq_true rfl⟩ ⟨Nat.le_refl _, Nat.le_refl _⟩ (Nat.le_of_ble_eq_true rfl) dX9_refusesEvent_17 ?_
      refine lv_if_ne hx hb dX9_refusesEvent_20 (tgt := 25) rfl (fun h9 => ?_) (fun h9 => ?_)
      · have hf := gif_f h9 hf
        refine lv_iload hx hb dX9_refusesEvent_25 (lv_at hl 4 rfl) ?_
        refine lv_if_eq hx hb dX9_refusesEvent_27 (tgt := 54) rfl (fun h10 => ?_) (fun h10 => ?_)
        · have hf := gif_t h10 hf
          refine lv_iconst hx hb dX9_refusesEvent_54 kci_2 ?_
          refine lv_goto hx hb dX9_refusesEvent_55 (tgt := 59) rfl ?_
          cases hf
          exact hq rfl dX9_refusesEvent_59
        · have hf := gif_f h10 hf
          refine lv_iload hx hb dX9_refusesEvent_30 (lv_at hl 4 rfl) ?_
          refine lv_bipush hx hb dX9_refusesEvent_32 kcb_m9 ?_
          refine lv_bipush hx hb dX9_refusesEvent_34 kcb_9 ?_
          obtain ⟨r11, hc12, hf⟩ := gbd hf
          refine gr_callS (As := [.int p4, .int (-9 : Int32), .int (9 : Int32)]) (rest := []) (st1 := [.int r11]) hE hl.1 ml_X9_90 (c_X9_in l g p4 (-9 : Int32) (9 : Int32) r11 hc12) hZ hS hP [] rfl rfl rfl rfl ⟨rfl, rfl⟩ ⟨Nat.le_of_ble_eq_true rfl, Nat.le_of_ble_eq_true rfl⟩ ⟨Nat.le_refl _, Nat.le_refl _⟩ (Nat.le_of_ble_eq_true rfl) dX9_refusesEvent_36 ?_
          refine lv_if_eq hx hb dX9_refusesEvent_39 (tgt := 54) rfl (fun h13 => ?_) (fun h13 => ?_)
          · have hf := gif_t h13 hf
            refine lv_iconst hx hb dX9_refusesEvent_54 kci_2 ?_
            refine lv_goto hx hb dX9_refusesEvent_55 (tgt := 59) rfl ?_
            cases hf
            exact hq rfl dX9_refusesEvent_59
          · have hf := gif_f h13 hf
            refine lv_iload hx hb dX9_refusesEvent_42 (lv_at hl 5 rfl) ?_
            refine lv_iconst hx hb dX9_refusesEvent_44 kci_0 ?_
            refine lv_sipush hx hb dX9_refusesEvent_45 kcs_9999 ?_
            obtain ⟨r14, hc15, hf⟩ := gbd hf
            refine gr_callS (As := [.int p5, .int (0 : Int32), .int (9999 : Int32)]) (rest := []) (st1 := [.int r14]) hE hl.1 ml_X9_90 (c_X9_in l g p5 (0 : Int32) (9999 : Int32) r14 hc15) hZ hS hP [] rfl rfl rfl rfl ⟨rfl, rfl⟩ ⟨Nat.le_of_ble_eq_true rfl, Nat.le_of_ble_eq_true rfl⟩ ⟨Nat.le_refl _, Nat.le_refl _⟩ (Nat.le_of_ble_eq_true rfl) dX9_refusesEvent_48 ?_
            refine lv_if_ne hx hb dX9_refusesEvent_51 (tgt := 58) rfl (fun h16 => ?_) (fun h16 => ?_)
            · have hf := gif_f h16 hf
              refine lv_iconst hx hb dX9_refusesEvent_58 kci_0 ?_
              cases hf
              exact hq rfl dX9_refusesEvent_59
            · have hf := gif_t h16 hf
              refine lv_iconst hx hb dX9_refusesEvent_54 kci_2 ?_
              refine lv_goto hx hb dX9_refusesEvent_55 (tgt := 59) rfl ?_
              cases hf
              exact hq rfl dX9_refusesEvent_59
      · have hf := gif_t h9 hf
        refine lv_iconst hx hb dX9_refusesEvent_23 kci_1 ?_
        cases hf
        exact hq rfl dX9_refusesEvent_24
theorem dX9_would_0 : decode cX9_would 0 = .ok (.aload_n 0, 1) := by decide +kernel
theorem dX9_would_1 : decode cX9_would 1 = .ok (.iconst 0, 1) := by decide +kernel
theorem dX9_would_2 : decode cX9_would 2 = .ok (.putfield 55, 3) := by decide +kernel
theorem dX9_would_5 : decode cX9_would 5 = .ok (.aload_n 0, 1) := by decide +kernel
theorem dX9_would_6 : decode cX9_would 6 = .ok (.iload_n 1, 1) := by decide +kernel
theorem dX9_would_7 : decode cX9_would 7 = .ok (.iload_n 2, 1) := by decide +kernel
theorem dX9_would_8 : decode cX9_would 8 = .ok (.iload_n 3, 1) := by decide +kernel
theorem dX9_would_9 : decode cX9_would 9 = .ok (.iload 4, 2) := by decide +kernel
theorem dX9_would_11 : decode cX9_would 11 = .ok (.iload 5, 2) := by decide +kernel
theorem dX9_would_13 : decode cX9_would 13 = .ok (.invokevirtual 377, 3) := by decide +kernel
theorem dX9_would_16 : decode cX9_would 16 = .ok (.istore 6, 2) := by decide +kernel
theorem dX9_would_18 : decode cX9_would 18 = .ok (.iload 6, 2) := by decide +kernel
theorem dX9_would_20 : decode cX9_would 20 = .ok (.ifCond .le 10, 3) := by decide +kernel
theorem dX9_would_23 : decode cX9_would 23 = .ok (.aload_n 0, 1) := by decide +kernel
theorem dX9_would_24 : decode cX9_would 24 = .ok (.iload 6, 2) := by decide +kernel
theorem dX9_would_26 : decode cX9_would 26 = .ok (.invokevirtual 61, 3) := by decide +kernel
theorem dX9_would_29 : decode cX9_would 29 = .ok (.ireturn, 1) := by decide +kernel
theorem dX9_would_30 : decode cX9_would 30 = .ok (.aload_n 0, 1) := by decide +kernel
theorem dX9_would_31 : decode cX9_would 31 = .ok (.iconst 1, 1) := by decide +kernel
theorem dX9_would_32 : decode cX9_would 32 = .ok (.iconst 0, 1) := by decide +kernel
theorem dX9_would_33 : decode cX9_would 33 = .ok (.invokevirtual 381, 3) := by decide +kernel
theorem dX9_would_36 : decode cX9_would 36 = .ok (.aload_n 0, 1) := by decide +kernel
theorem dX9_would_37 : decode cX9_would 37 = .ok (.aload_n 0, 1) := by decide +kernel
theorem dX9_would_38 : decode cX9_would 38 = .ok (.iconst 1, 1) := by decide +kernel
theorem dX9_would_39 : decode cX9_would 39 = .ok (.iload_n 1, 1) := by decide +kernel
theorem dX9_would_40 : decode cX9_would 40 = .ok (.iload_n 2, 1) := by decide +kernel
theorem dX9_would_41 : decode cX9_would 41 = .ok (.iload_n 3, 1) := by decide +kernel
theorem dX9_would_42 : decode cX9_would 42 = .ok (.iload 4, 2) := by decide +kernel
theorem dX9_would_44 : decode cX9_would 44 = .ok (.iload 5, 2) := by decide +kernel
theorem dX9_would_46 : decode cX9_would 46 = .ok (.invokevirtual 210, 3) := by decide +kernel
theorem dX9_would_49 : decode cX9_would 49 = .ok (.invokevirtual 230, 3) := by decide +kernel
theorem dX9_would_52 : decode cX9_would 52 = .ok (.ireturn, 1) := by decide +kernel
def f_X9_would (s0 : MoT) (p1 : Int32) (p2 : Int32) (p3 : Int32) (p4 : Int32) (p5 : Int32) : Option (Int32 × MoT) :=
  (f_X9_refusesEvent (Mo_w_thrown s0 (0 : Int32)) p1 p2 p3 p4 p5).bind fun r1 =>
  if r1 ≤ 0 then (f_X9_copies (Mo_w_thrown s0 (0 : Int32)) (1 : Int32) (0 : Int32)).bind fun r4 =>
  (f_X9_does r4 (1 : Int32) p1 p2 p3 p4 p5).bind fun r6 =>
  (f_X9_good (r6.2) (r6.1)).bind fun r8 =>
  some ((r8.1), (r8.2))
  else (f_X9_refused (Mo_w_thrown s0 (0 : Int32)) r1).bind fun r10 =>
  some ((r10.1), (r10.2))
abbrev rm_X9_would : Room := { frames := 9, cells := 0, slots := 0, locals := 218 }
set_option maxHeartbeats 4000000 in
set_option maxRecDepth 100000 in
theorem c_X9_would (l : Launch) (g : GK) (a0 : Nat → Nat) (s0 : MoT) (p1 : Int32) (p2 : Int32) (p3 : Int32) (p4 : Int32) (p5 : Int32) (res : (Int32 × MoT)) (hf : f_X9_would s0 p1 p2 p3 p4 p5 = some res) : gM l yX9_would cX9_would 7 (some .int) rm_X9_would g [.ref (a0 0), .int p1, .int p2, .int p3, .int p4, .int p5] (Mo_c g a0 s0) (fun _ : Unit => (some (.int (res.1)))) (fun _ => (Mo_c g a0 (res.2))) 0 0 := by
  refine gM_introI RX9 (by decide) rfl (Nat.le_of_ble_eq_true rfl) (fun p e s m args below meth c Q H locs ls A hE hZ hA hP hD hS hq hl => ?_)
  have hl : lv_has ls 7 [(0, .ref (a0 0)), (1, .int p1), (2, .int p2), (3, .int p3), (4, .int p4), (5, .int p5)] := hl
  have hx := hE.1
  have hb := hE.2.1
  rw [f_X9_would] at hf
  refine lv_aload_n hx hb dX9_would_0 rfl (lv_at hl 0 rfl) ?_
  refine lv_iconst hx hb dX9_would_1 kci_0 ?_
  refine g_put hE okX9 fl_X9_55 hP hD hS 0 rfl rfl rfl rfl (Nat.le_of_ble_eq_true rfl) (Mo_c g a0 (Mo_w_thrown s0 (0 : Int32))) rfl dX9_would_2 (fun H locs hP hD hS => ?_)
  refine lv_aload_n hx hb dX9_would_5 rfl (lv_at hl 0 rfl) ?_
  refine lv_iload_n hx hb dX9_would_6 rfl (lv_at hl 1 rfl) ?_
  refine lv_iload_n hx hb dX9_would_7 rfl (lv_at hl 2 rfl) ?_
  refine lv_iload_n hx hb dX9_would_8 rfl (lv_at hl 3 rfl) ?_
  refine lv_iload hx hb dX9_would_9 (lv_at hl 4 rfl) ?_
  refine lv_iload hx hb dX9_would_11 (lv_at hl 5 rfl) ?_
  obtain ⟨r1, hc2, hf⟩ := gbd hf
  refine gr_callV (As := [.int p1, .int p2, .int p3, .int p4, .int p5]) (rest := []) (st1 := [.int r1]) hE hl.1 ml_X9_377 (c_X9_refusesEvent l g a0 (Mo_w_thrown s0 (0 : Int32)) p1 p2 p3 p4 p5 r1 hc2) hZ hS hP [(0, 14)] rfl okX9 rfl rfl rfl rfl ⟨rfl, rfl⟩ ⟨Nat.le_of_ble_eq_true rfl, Nat.le_of_ble_eq_true rfl⟩ ⟨Nat.le_refl _, Nat.le_refl _⟩ (Nat.le_of_ble_eq_true rfl) dX9_would_13 ?_
  refine lv_istore hx hb dX9_would_16 hl (by decide) (lv' := [(6, .int r1), (0, .ref (a0 0)), (1, .int p1), (2, .int p2), (3, .int p3), (4, .int p4), (5, .int p5)]) rfl (fun ls hl => ?_)
  refine lv_iload hx hb dX9_would_18 (lv_at hl 0 rfl) ?_
  refine lv_if_le hx hb dX9_would_20 (tgt := 30) rfl (fun h3 => ?_) (fun h3 => ?_)
  · have hf := gif_t h3 hf
    refine lv_aload_n hx hb dX9_would_30 rfl (lv_at hl 1 rfl) ?_
    refine lv_iconst hx hb dX9_would_31 kci_1 ?_
    refine lv_iconst hx hb dX9_would_32 kci_0 ?_
    obtain ⟨r4, hc5, hf⟩ := gbd hf
    refine gm_callV1 (As := [.int (1 : Int32), .int (0 : Int32)]) (rest := []) (st1 := fun _ => []) (ws' := fun _ => (Mo_c g a0 r4)) hE hl.1 ml_X9_381 (c_X9_copies l g a0 (Mo_w_thrown s0 (0 : Int32)) (1 : Int32) (0 : Int32) r4 hc5) hZ hP hD hS hA 0 14 rfl (fun _ => rfl) okX9 rfl rfl rfl (fun _ => rfl) ⟨rfl, rfl⟩ ⟨Nat.le_of_ble_eq_true rfl, Nat.le_of_ble_eq_true rfl⟩ ⟨Nat.le_refl _, Nat.le_refl _⟩ (Nat.le_of_ble_eq_true rfl) dX9_would_33 (fun _ H locs hP hD hS => ?_)
    refine lv_aload_n hx hb dX9_would_36 rfl (lv_at hl 1 rfl) ?_
    refine lv_aload_n hx hb dX9_would_37 rfl (lv_at hl 1 rfl) ?_
    refine lv_iconst hx hb dX9_would_38 kci_1 ?_
    refine lv_iload_n hx hb dX9_would_39 rfl (lv_at hl 2 rfl) ?_
    refine lv_iload_n hx hb dX9_would_40 rfl (lv_at hl 3 rfl) ?_
    refine lv_iload_n hx hb dX9_would_41 rfl (lv_at hl 4 rfl) ?_
    refine lv_iload hx hb dX9_would_42 (lv_at hl 5 rfl) ?_
    refine lv_iload hx hb dX9_would_44 (lv_at hl 6 rfl) ?_
    obtain ⟨r6, hc7, hf⟩ := gbd hf
    refine gm_callV1 (As := [.int (1 : Int32), .int p1, .int p2, .int p3, .int p4, .int p5]) (rest := [.ref (a0 0)]) (st1 := fun _ => [.int (r6.1), .ref (a0 0)]) (ws' := fun _ => (Mo_c g a0 (r6.2))) hE hl.1 ml_X9_210 (c_X9_does l g a0 r4 (1 : Int32) p1 p2 p3 p4 p5 r6 hc7) hZ hP hD hS hA 0 14 rfl (fun _ => rfl) okX9 rfl rfl rfl (fun _ => rfl) ⟨rfl, rfl⟩ ⟨Nat.le_of_ble_eq_true rfl, Nat.le_of_ble_eq_true rfl⟩ ⟨Nat.le_refl _, Nat.le_refl _⟩ (Nat.le_of_ble_eq_true rfl) dX9_would_46 (fun _ H locs hP hD hS => ?_)
    obtain ⟨r8, hc9, hf⟩ := gbd hf
    refine gm_callV1 (As := [.int (r6.1)]) (rest := []) (st1 := fun _ => [.int (r8.1)]) (ws' := fun _ => (Mo_c g a0 (r8.2))) hE hl.1 ml_X9_230 (c_X9_good l g a0 (r6.2) (r6.1) r8 hc9) hZ hP hD hS hA 0 14 rfl (fun _ => rfl) okX9 rfl rfl rfl (fun _ => rfl) ⟨rfl, rfl⟩ ⟨Nat.le_of_ble_eq_true rfl, Nat.le_of_ble_eq_true rfl⟩ ⟨Nat.le_refl _, Nat.le_refl _⟩ (Nat.le_of_ble_eq_true rfl) dX9_would_49 (fun _ H locs hP hD hS => ?_)
    cases hf
    exact hq () rfl hP hD hS dX9_would_52
  · have hf := gif_f h3 hf
    refine lv_aload_n hx hb dX9_would_23 rfl (lv_at hl 1 rfl) ?_
    refine lv_iload hx hb dX9_would_24 (lv_at hl 0 rfl) ?_
    obtain ⟨r10, hc11, hf⟩ := gbd hf
    refine gm_callV1 (As := [.int r1]) (rest := []) (st1 := fun _ => [.int (r10.1)]) (ws' := fun _ => (Mo_c g a0 (r10.2))) hE hl.1 ml_X9_61 (c_X9_refused l g a0 (Mo_w_thrown s0 (0 : Int32)) r1 r10 hc11) hZ hP hD hS hA 0 14 rfl (fun _ => rfl) okX9 rfl rfl rfl (fun _ => rfl) ⟨rfl, rfl⟩ ⟨Nat.le_of_ble_eq_true rfl, Nat.le_of_ble_eq_true rfl⟩ ⟨Nat.le_refl _, Nat.le_refl _⟩ (Nat.le_of_ble_eq_true rfl) dX9_would_26 (fun _ H locs hP hD hS => ?_)
    cases hf
    exact hq () rfl hP hD hS dX9_would_29
theorem dX9_nextLapse_0 : decode cX9_nextLapse 0 = .ok (.aload_n 0, 1) := by decide +kernel
theorem dX9_nextLapse_1 : decode cX9_nextLapse 1 = .ok (.iconst 0, 1) := by decide +kernel
theorem dX9_nextLapse_2 : decode cX9_nextLapse 2 = .ok (.putfield 55, 3) := by decide +kernel
theorem dX9_nextLapse_5 : decode cX9_nextLapse 5 = .ok (.aload_n 0, 1) := by decide +kernel
theorem dX9_nextLapse_6 : decode cX9_nextLapse 6 = .ok (.getfield 218, 3) := by decide +kernel
theorem dX9_nextLapse_9 : decode cX9_nextLapse 9 = .ok (.ifCond .ne 9, 3) := by decide +kernel
theorem dX9_nextLapse_12 : decode cX9_nextLapse 12 = .ok (.aload_n 0, 1) := by decide +kernel
theorem dX9_nextLapse_13 : decode cX9_nextLapse 13 = .ok (.iconst 1, 1) := by decide +kernel
theorem dX9_nextLapse_14 : decode cX9_nextLapse 14 = .ok (.invokevirtual 61, 3) := by decide +kernel
theorem dX9_nextLapse_17 : decode cX9_nextLapse 17 = .ok (.ireturn, 1) := by decide +kernel
theorem dX9_nextLapse_18 : decode cX9_nextLapse 18 = .ok (.bipush (-2), 2) := by decide +kernel
theorem dX9_nextLapse_20 : decode cX9_nextLapse 20 = .ok (.istore_n 1, 1) := by decide +kernel
theorem dX9_nextLapse_21 : decode cX9_nextLapse 21 = .ok (.iconst 0, 1) := by decide +kernel
theorem dX9_nextLapse_22 : decode cX9_nextLapse 22 = .ok (.istore_n 2, 1) := by decide +kernel
theorem dX9_nextLapse_23 : decode cX9_nextLapse 23 = .ok (.iload_n 2, 1) := by decide +kernel
theorem dX9_nextLapse_24 : decode cX9_nextLapse 24 = .ok (.bipush 8, 2) := by decide +kernel
theorem dX9_nextLapse_26 : decode cX9_nextLapse 26 = .ok (.if_icmp .ge 49, 3) := by decide +kernel
theorem dX9_nextLapse_29 : decode cX9_nextLapse 29 = .ok (.aload_n 0, 1) := by decide +kernel
theorem dX9_nextLapse_30 : decode cX9_nextLapse 30 = .ok (.iconst 0, 1) := by decide +kernel
theorem dX9_nextLapse_31 : decode cX9_nextLapse 31 = .ok (.iload_n 2, 1) := by decide +kernel
theorem dX9_nextLapse_32 : decode cX9_nextLapse 32 = .ok (.invokevirtual 270, 3) := by decide +kernel
theorem dX9_nextLapse_35 : decode cX9_nextLapse 35 = .ok (.ifCond .eq 34, 3) := by decide +kernel
theorem dX9_nextLapse_38 : decode cX9_nextLapse 38 = .ok (.iload_n 1, 1) := by decide +kernel
theorem dX9_nextLapse_39 : decode cX9_nextLapse 39 = .ok (.bipush (-2), 2) := by decide +kernel
theorem dX9_nextLapse_41 : decode cX9_nextLapse 41 = .ok (.if_icmp .eq 26, 3) := by decide +kernel
theorem dX9_nextLapse_44 : decode cX9_nextLapse 44 = .ok (.aload_n 0, 1) := by decide +kernel
theorem dX9_nextLapse_45 : decode cX9_nextLapse 45 = .ok (.iconst 0, 1) := by decide +kernel
theorem dX9_nextLapse_46 : decode cX9_nextLapse 46 = .ok (.sipush 151, 3) := by decide +kernel
theorem dX9_nextLapse_49 : decode cX9_nextLapse 49 = .ok (.iload_n 2, 1) := by decide +kernel
theorem dX9_nextLapse_50 : decode cX9_nextLapse 50 = .ok (.iadd, 1) := by decide +kernel
theorem dX9_nextLapse_51 : decode cX9_nextLapse 51 = .ok (.invokevirtual 200, 3) := by decide +kernel
theorem dX9_nextLapse_54 : decode cX9_nextLapse 54 = .ok (.aload_n 0, 1) := by decide +kernel
theorem dX9_nextLapse_55 : decode cX9_nextLapse 55 = .ok (.iconst 0, 1) := by decide +kernel
theorem dX9_nextLapse_56 : decode cX9_nextLapse 56 = .ok (.sipush 151, 3) := by decide +kernel
theorem dX9_nextLapse_59 : decode cX9_nextLapse 59 = .ok (.iload_n 1, 1) := by decide +kernel
theorem dX9_nextLapse_60 : decode cX9_nextLapse 60 = .ok (.iadd, 1) := by decide +kernel
theorem dX9_nextLapse_61 : decode cX9_nextLapse 61 = .ok (.invokevirtual 200, 3) := by decide +kernel
theorem dX9_nextLapse_64 : decode cX9_nextLapse 64 = .ok (.if_icmp .ge 5, 3) := by decide +kernel
theorem dX9_nextLapse_67 : decode cX9_nextLapse 67 = .ok (.iload_n 2, 1) := by decide +kernel
theorem dX9_nextLapse_68 : decode cX9_nextLapse 68 = .ok (.istore_n 1, 1) := by decide +kernel
theorem dX9_nextLapse_69 : decode cX9_nextLapse 69 = .ok (.iinc 2 1, 3) := by decide +kernel
theorem dX9_nextLapse_72 : decode cX9_nextLapse 72 = .ok (.goto (-49), 3) := by decide +kernel
theorem dX9_nextLapse_75 : decode cX9_nextLapse 75 = .ok (.aload_n 0, 1) := by decide +kernel
theorem dX9_nextLapse_76 : decode cX9_nextLapse 76 = .ok (.iload_n 1, 1) := by decide +kernel
theorem dX9_nextLapse_77 : decode cX9_nextLapse 77 = .ok (.invokevirtual 230, 3) := by decide +kernel
theorem dX9_nextLapse_80 : decode cX9_nextLapse 80 = .ok (.ireturn, 1) := by decide +kernel
def f_X9_nextLapse_L23_8 (s0 : MoT) (K2 : (Int32 → Option (Int32 × MoT))) : Nat → Int32 → Int32 → Option (Int32 × MoT)
  | 0, _, _ => none
  | n9 + 1, x1_6, x2_7 => if (8 : Int32) ≤ x2_7 then K2 x1_6
  else (f_X9_lives (Mo_w_thrown s0 (0 : Int32)) (0 : Int32) x2_7).bind fun r11 =>
  if r11 = 0 then f_X9_nextLapse_L23_8 s0 K2 n9 x1_6 (x2_7 + (1 : Int32))
  else if x1_6 = (-2 : Int32) then f_X9_nextLapse_L23_8 s0 K2 n9 x2_7 (x2_7 + (1 : Int32))
  else (f_X9_get (Mo_w_thrown s0 (0 : Int32)) (0 : Int32) ((151 : Int32) + x2_7)).bind fun r15 =>
  (f_X9_get (Mo_w_thrown s0 (0 : Int32)) (0 : Int32) ((151 : Int32) + x1_6)).bind fun r17 =>
  if r17 ≤ r15 then f_X9_nextLapse_L23_8 s0 K2 n9 x1_6 (x2_7 + (1 : Int32))
  else f_X9_nextLapse_L23_8 s0 K2 n9 x2_7 (x2_7 + (1 : Int32))
def f_X9_nextLapse (s0 : MoT) : Option (Int32 × MoT) :=
  if (Mo_isThere s0) = 0 then (f_X9_refused (Mo_w_thrown s0 (0 : Int32)) (1 : Int32)).bind fun r20 =>
  some ((r20.1), (r20.2))
  else glt (fun (x1_3 : Int32) => (f_X9_good (Mo_w_thrown s0 (0 : Int32)) x1_3).bind fun r4 =>
  some ((r4.1), (r4.2))) fun K2 =>
  f_X9_nextLapse_L23_8 s0 K2 10000 (-2 : Int32) (0 : Int32)
abbrev rm_X9_nextLapse : Room := { frames := 2, cells := 0, slots := 0, locals := 44 }
set_option maxHeartbeats 4000000 in
set_option maxRecDepth 100000 in
theorem c_X9_nextLapse (l : Launch) (g : GK) (a0 : Nat → Nat) (s0 : MoT) (res : (Int32 × MoT)) (hf : f_X9_nextLapse s0 = some res) : gM l yX9_nextLapse cX9_nextLapse 3 (some .int) rm_X9_nextLapse g [.ref (a0 0)] (Mo_c g a0 s0) (fun _ : Unit => (some (.int (res.1)))) (fun _ => (Mo_c g a0 (res.2))) 0 0 := by
  refine gM_introI RX9 (by decide) rfl (Nat.le_of_ble_eq_true rfl) (fun p e s m args below meth c Q H locs ls A hE hZ hA hP hD hS hq hl => ?_)
  have hl : lv_has ls 3 [(0, .ref (a0 0))] := hl
  have hx := hE.1
  have hb := hE.2.1
  rw [f_X9_nextLapse] at hf
  refine lv_aload_n hx hb dX9_nextLapse_0 rfl (lv_at hl 0 rfl) ?_
  refine lv_iconst hx hb dX9_nextLapse_1 kci_0 ?_
  refine g_put hE okX9 fl_X9_55 hP hD hS 0 rfl rfl rfl rfl (Nat.le_of_ble_eq_true rfl) (Mo_c g a0 (Mo_w_thrown s0 (0 : Int32))) rfl dX9_nextLapse_2 (fun H locs hP hD hS => ?_)
  refine lv_aload_n hx hb dX9_nextLapse_5 rfl (lv_at hl 0 rfl) ?_
  refine g_get hE okX9 fl_X9_218 hP 0 rfl (v := .int (Mo_isThere s0)) rfl dX9_nextLapse_6 ?_
  refine lv_if_ne hx hb dX9_nextLapse_9 (tgt := 18) rfl (fun h1 => ?_) (fun h1 => ?_)
  · have hf := gif_f h1 hf
    refine lv_bipush hx hb dX9_nextLapse_18 kcb_m2 ?_
    refine lv_istore_n hx hb dX9_nextLapse_20 rfl hl (by decide) (lv' := [(1, .int (-2 : Int32)), (0, .ref (a0 0))]) rfl (fun ls hl => ?_)
    refine lv_iconst hx hb dX9_nextLapse_21 kci_0 ?_
    refine lv_istore_n hx hb dX9_nextLapse_22 rfl hl (by decide) (lv' := [(2, .int (0 : Int32)), (1, .int (-2 : Int32)), (0, .ref (a0 0))]) rfl (fun ls hl => ?_)
    obtain ⟨K2, eK2, hf⟩ := gltd hf
    have kK2 : ∀ (x1_3 : Int32) (ls : Array Slot) (H : Heap) (locs : List Loc), K2 x1_3 = some res → lv_has ls 3 [(0, .ref (a0 0)), (1, .int x1_3)] → gP g (Mo_c g a0 (Mo_w_thrown s0 (0 : Int32))) H → va_D A (Mo_c g a0 (Mo_w_thrown s0 (0 : Int32))) → va_S A s.heap H locs → W p l e rm_X9_nextLapse s m args below meth c H locs 0 0 Q (F0 m 75 ls []) := by
      intro x1_3 ls H locs hf hl hP hD hS
      rw [eK2] at hf
      refine lv_aload_n hx hb dX9_nextLapse_75 rfl (lv_at hl 0 rfl) ?_
      refine lv_iload_n hx hb dX9_nextLapse_76 rfl (lv_at hl 1 rfl) ?_
      obtain ⟨r4, hc5, hf⟩ := gbd hf
      refine gm_callV1 (As := [.int x1_3]) (rest := []) (st1 := fun _ => [.int (r4.1)]) (ws' := fun _ => (Mo_c g a0 (r4.2))) hE hl.1 ml_X9_230 (c_X9_good l g a0 (Mo_w_thrown s0 (0 : Int32)) x1_3 r4 hc5) hZ hP hD hS hA 0 14 rfl (fun _ => rfl) okX9 rfl rfl rfl (fun _ => rfl) ⟨rfl, rfl⟩ ⟨Nat.le_of_ble_eq_true rfl, Nat.le_of_ble_eq_true rfl⟩ ⟨Nat.le_refl _, Nat.le_refl _⟩ (Nat.le_of_ble_eq_true rfl) dX9_nextLapse_77 (fun _ H locs hP hD hS => ?_)
      cases hf
      exact hq () rfl hP hD hS dX9_nextLapse_80
    have lpn9 : ∀ (n9 : Nat) (x1_6 : Int32) (x2_7 : Int32) (ls : Array Slot) (H : Heap) (locs : List Loc), f_X9_nextLapse_L23_8 s0 K2 n9 x1_6 x2_7 = some res → lv_has ls 3 [(0, .ref (a0 0)), (1, .int x1_6), (2, .int x2_7)] → gP g (Mo_c g a0 (Mo_w_thrown s0 (0 : Int32))) H → va_D A (Mo_c g a0 (Mo_w_thrown s0 (0 : Int32))) → va_S A s.heap H locs → W p l e rm_X9_nextLapse s m args below meth c H locs 0 0 Q (F0 m 23 ls []) := by
      intro n9
      induction n9 with
      | zero => intro x1_6 x2_7 ls H locs hf hl hP hD hS; rw [f_X9_nextLapse_L23_8] at hf; cases hf
      | succ n9 ihn9 =>
        intro x1_6 x2_7 ls H locs hf hl hP hD hS
        rw [f_X9_nextLapse_L23_8] at hf
        refine lv_iload_n hx hb dX9_nextLapse_23 rfl (lv_at hl 2 rfl) ?_
        refine lv_bipush hx hb dX9_nextLapse_24 kcb_8 ?_
        refine lv_icmp_ge hx hb dX9_nextLapse_26 (tgt := 75) rfl (fun h10 => ?_) (fun h10 => ?_)
        · have hf := gif_t h10 hf
          exact kK2 x1_6 ls H locs hf (lv_sub hl [0, 1] rfl) hP hD hS
        · have hf := gif_f h10 hf
          refine lv_aload_n hx hb dX9_nextLapse_29 rfl (lv_at hl 0 rfl) ?_
          refine lv_iconst hx hb dX9_nextLapse_30 kci_0 ?_
          refine lv_iload_n hx hb dX9_nextLapse_31 rfl (lv_at hl 2 rfl) ?_
          obtain ⟨r11, hc12, hf⟩ := gbd hf
          refine gr_callV (As := [.int (0 : Int32), .int x2_7]) (rest := []) (st1 := [.int r11]) hE hl.1 ml_X9_270 (c_X9_lives l g a0 (Mo_w_thrown s0 (0 : Int32)) (0 : Int32) x2_7 r11 hc12) hZ hS hP [(0, 14)] rfl okX9 rfl rfl rfl rfl ⟨rfl, rfl⟩ ⟨Nat.le_of_ble_eq_true rfl, Nat.le_of_ble_eq_true rfl⟩ ⟨Nat.le_refl _, Nat.le_refl _⟩ (Nat.le_of_ble_eq_true rfl) dX9_nextLapse_32 ?_
          refine lv_if_eq hx hb dX9_nextLapse_35 (tgt := 69) rfl (fun h13 => ?_) (fun h13 => ?_)
          · have hf := gif_t h13 hf
            refine lv_iinc hx hb dX9_nextLapse_69 hl (k := 2) (x := x2_7) rfl (kinc_1 _) (by decide) (lv' := [(2, .int (x2_7 + (1 : Int32))), (0, .ref (a0 0)), (1, .int x1_6)]) rfl (fun ls hl => ?_)
            refine lv_goto hx hb dX9_nextLapse_72 (tgt := 23) rfl ?_
            exact ihn9 x1_6 (x2_7 + (1 : Int32)) ls H locs hf (lv_sub hl [1, 2, 0] rfl) hP hD hS
          · have hf := gif_f h13 hf
            refine lv_iload_n hx hb dX9_nextLapse_38 rfl (lv_at hl 1 rfl) ?_
            refine lv_bipush hx hb dX9_nextLapse_39 kcb_m2 ?_
            refine lv_icmp_eq hx hb dX9_nextLapse_41 (tgt := 67) rfl (fun h14 => ?_) (fun h14 => ?_)
            · have hf := gif_t h14 hf
              refine lv_iload_n hx hb dX9_nextLapse_67 rfl (lv_at hl 2 rfl) ?_
              refine lv_istore_n hx hb dX9_nextLapse_68 rfl hl (by decide) (lv' := [(1, .int x2_7), (0, .ref (a0 0)), (2, .int x2_7)]) rfl (fun ls hl => ?_)
              refine lv_iinc hx hb dX9_nextLapse_69 hl (k := 2) (x := x2_7) rfl (kinc_1 _) (by decide) (lv' := [(2, .int (x2_7 + (1 : Int32))), (1, .int x2_7), (0, .ref (a0 0))]) rfl (fun ls hl => ?_)
              refine lv_goto hx hb dX9_nextLapse_72 (tgt := 23) rfl ?_
              exact ihn9 x2_7 (x2_7 + (1 : Int32)) ls H locs hf (lv_sub hl [2, 1, 0] rfl) hP hD hS
            · have hf := gif_f h14 hf
              refine lv_aload_n hx hb dX9_nextLapse_44 rfl (lv_at hl 0 rfl) ?_
              refine lv_iconst hx hb dX9_nextLapse_45 kci_0 ?_
              refine lv_sipush hx hb dX9_nextLapse_46 kcs_151 ?_
              refine lv_iload_n hx hb dX9_nextLapse_49 rfl (lv_at hl 2 rfl) ?_
              refine lv_iadd hx hb dX9_nextLapse_50 ?_
              obtain ⟨r15, hc16, hf⟩ := gbd hf
              refine gr_callV (As := [.int (0 : Int32), .int ((151 : Int32) + x2_7)]) (rest := []) (st1 := [.int r15]) hE hl.1 ml_X9_200 (c_X9_get l g a0 (Mo_w_thrown s0 (0 : Int32)) (0 : Int32) ((151 : Int32) + x2_7) r15 hc16) hZ hS hP [(0, 14)] rfl okX9 rfl rfl rfl rfl ⟨rfl, rfl⟩ ⟨Nat.le_of_ble_eq_true rfl, Nat.le_of_ble_eq_true rfl⟩ ⟨Nat.le_refl _, Nat.le_refl _⟩ (Nat.le_of_ble_eq_true rfl) dX9_nextLapse_51 ?_
              refine lv_aload_n hx hb dX9_nextLapse_54 rfl (lv_at hl 0 rfl) ?_
              refine lv_iconst hx hb dX9_nextLapse_55 kci_0 ?_
              refine lv_sipush hx hb dX9_nextLapse_56 kcs_151 ?_
              refine lv_iload_n hx hb dX9_nextLapse_59 rfl (lv_at hl 1 rfl) ?_
              refine lv_iadd hx hb dX9_nextLapse_60 ?_
              obtain ⟨r17, hc18, hf⟩ := gbd hf
              refine gr_callV (As := [.int (0 : Int32), .int ((151 : Int32) + x1_6)]) (rest := [.int r15]) (st1 := [.int r17, .int r15]) hE hl.1 ml_X9_200 (c_X9_get l g a0 (Mo_w_thrown s0 (0 : Int32)) (0 : Int32) ((151 : Int32) + x1_6) r17 hc18) hZ hS hP [(0, 14)] rfl okX9 rfl rfl rfl rfl ⟨rfl, rfl⟩ ⟨Nat.le_of_ble_eq_true rfl, Nat.le_of_ble_eq_true rfl⟩ ⟨Nat.le_refl _, Nat.le_refl _⟩ (Nat.le_of_ble_eq_true rfl) dX9_nextLapse_61 ?_
              refine lv_icmp_ge hx hb dX9_nextLapse_64 (tgt := 69) rfl (fun h19 => ?_) (fun h19 => ?_)
              · have hf := gif_t h19 hf
                refine lv_iinc hx hb dX9_nextLapse_69 hl (k := 2) (x := x2_7) rfl (kinc_1 _) (by decide) (lv' := [(2, .int (x2_7 + (1 : Int32))), (0, .ref (a0 0)), (1, .int x1_6)]) rfl (fun ls hl => ?_)
                refine lv_goto hx hb dX9_nextLapse_72 (tgt := 23) rfl ?_
                exact ihn9 x1_6 (x2_7 + (1 : Int32)) ls H locs hf (lv_sub hl [1, 2, 0] rfl) hP hD hS
              · have hf := gif_f h19 hf
                refine lv_iload_n hx hb dX9_nextLapse_67 rfl (lv_at hl 2 rfl) ?_
                refine lv_istore_n hx hb dX9_nextLapse_68 rfl hl (by decide) (lv' := [(1, .int x2_7), (0, .ref (a0 0)), (2, .int x2_7)]) rfl (fun ls hl => ?_)
                refine lv_iinc hx hb dX9_nextLapse_69 hl (k := 2) (x := x2_7) rfl (kinc_1 _) (by decide) (lv' := [(2, .int (x2_7 + (1 : Int32))), (1, .int x2_7), (0, .ref (a0 0))]) rfl (fun ls hl => ?_)
                refine lv_goto hx hb dX9_nextLapse_72 (tgt := 23) rfl ?_
                exact ihn9 x2_7 (x2_7 + (1 : Int32)) ls H locs hf (lv_sub hl [2, 1, 0] rfl) hP hD hS
    exact lpn9 10000 (-2 : Int32) (0 : Int32) ls H locs hf (lv_sub hl [2, 1, 0] rfl) hP hD hS
  · have hf := gif_t h1 hf
    refine lv_aload_n hx hb dX9_nextLapse_12 rfl (lv_at hl 0 rfl) ?_
    refine lv_iconst hx hb dX9_nextLapse_13 kci_1 ?_
    obtain ⟨r20, hc21, hf⟩ := gbd hf
    refine gm_callV1 (As := [.int (1 : Int32)]) (rest := []) (st1 := fun _ => [.int (r20.1)]) (ws' := fun _ => (Mo_c g a0 (r20.2))) hE hl.1 ml_X9_61 (c_X9_refused l g a0 (Mo_w_thrown s0 (0 : Int32)) (1 : Int32) r20 hc21) hZ hP hD hS hA 0 14 rfl (fun _ => rfl) okX9 rfl rfl rfl (fun _ => rfl) ⟨rfl, rfl⟩ ⟨Nat.le_of_ble_eq_true rfl, Nat.le_of_ble_eq_true rfl⟩ ⟨Nat.le_refl _, Nat.le_refl _⟩ (Nat.le_of_ble_eq_true rfl) dX9_nextLapse_14 (fun _ H locs hP hD hS => ?_)
    cases hf
    exact hq () rfl hP hD hS dX9_nextLapse_17
theorem dX9_replays_0 : decode cX9_replays 0 = .ok (.aload_n 0, 1) := by decide +kernel
theorem dX9_replays_1 : decode cX9_replays 1 = .ok (.iconst 1, 1) := by decide +kernel
theorem dX9_replays_2 : decode cX9_replays 2 = .ok (.iload_n 1, 1) := by decide +kernel
theorem dX9_replays_3 : decode cX9_replays 3 = .ok (.sipush 999, 3) := by decide +kernel
theorem dX9_replays_6 : decode cX9_replays 6 = .ok (.sipush 999, 3) := by decide +kernel
theorem dX9_replays_9 : decode cX9_replays 9 = .ok (.invokevirtual 224, 3) := by decide +kernel
theorem dX9_replays_12 : decode cX9_replays 12 = .ok (.iconst 0, 1) := by decide +kernel
theorem dX9_replays_13 : decode cX9_replays 13 = .ok (.istore_n 2, 1) := by decide +kernel
theorem dX9_replays_14 : decode cX9_replays 14 = .ok (.iload_n 2, 1) := by decide +kernel
theorem dX9_replays_15 : decode cX9_replays 15 = .ok (.aload_n 0, 1) := by decide +kernel
theorem dX9_replays_16 : decode cX9_replays 16 = .ok (.iconst 0, 1) := by decide +kernel
theorem dX9_replays_17 : decode cX9_replays 17 = .ok (.bipush 13, 2) := by decide +kernel
theorem dX9_replays_19 : decode cX9_replays 19 = .ok (.invokevirtual 200, 3) := by decide +kernel
theorem dX9_replays_22 : decode cX9_replays 22 = .ok (.if_icmp .ge 57, 3) := by decide +kernel
theorem dX9_replays_25 : decode cX9_replays 25 = .ok (.sipush 1123, 3) := by decide +kernel
theorem dX9_replays_28 : decode cX9_replays 28 = .ok (.iconst 4, 1) := by decide +kernel
theorem dX9_replays_29 : decode cX9_replays 29 = .ok (.aload_n 0, 1) := by decide +kernel
theorem dX9_replays_30 : decode cX9_replays 30 = .ok (.getfield 52, 3) := by decide +kernel
theorem dX9_replays_33 : decode cX9_replays 33 = .ok (.iload_n 2, 1) := by decide +kernel
theorem dX9_replays_34 : decode cX9_replays 34 = .ok (.iaload, 1) := by decide +kernel
theorem dX9_replays_35 : decode cX9_replays 35 = .ok (.imul, 1) := by decide +kernel
theorem dX9_replays_36 : decode cX9_replays 36 = .ok (.iadd, 1) := by decide +kernel
theorem dX9_replays_37 : decode cX9_replays 37 = .ok (.istore_n 3, 1) := by decide +kernel
theorem dX9_replays_38 : decode cX9_replays 38 = .ok (.aload_n 0, 1) := by decide +kernel
theorem dX9_replays_39 : decode cX9_replays 39 = .ok (.iconst 1, 1) := by decide +kernel
theorem dX9_replays_40 : decode cX9_replays 40 = .ok (.aload_n 0, 1) := by decide +kernel
theorem dX9_replays_41 : decode cX9_replays 41 = .ok (.iconst 0, 1) := by decide +kernel
theorem dX9_replays_42 : decode cX9_replays 42 = .ok (.iload_n 3, 1) := by decide +kernel
theorem dX9_replays_43 : decode cX9_replays 43 = .ok (.invokevirtual 200, 3) := by decide +kernel
theorem dX9_replays_46 : decode cX9_replays 46 = .ok (.aload_n 0, 1) := by decide +kernel
theorem dX9_replays_47 : decode cX9_replays 47 = .ok (.iconst 0, 1) := by decide +kernel
theorem dX9_replays_48 : decode cX9_replays 48 = .ok (.iload_n 3, 1) := by decide +kernel
theorem dX9_replays_49 : decode cX9_replays 49 = .ok (.iconst 1, 1) := by decide +kernel
theorem dX9_replays_50 : decode cX9_replays 50 = .ok (.iadd, 1) := by decide +kernel
theorem dX9_replays_51 : decode cX9_replays 51 = .ok (.invokevirtual 200, 3) := by decide +kernel
theorem dX9_replays_54 : decode cX9_replays 54 = .ok (.aload_n 0, 1) := by decide +kernel
theorem dX9_replays_55 : decode cX9_replays 55 = .ok (.iconst 0, 1) := by decide +kernel
theorem dX9_replays_56 : decode cX9_replays 56 = .ok (.iload_n 3, 1) := by decide +kernel
theorem dX9_replays_57 : decode cX9_replays 57 = .ok (.iconst 2, 1) := by decide +kernel
theorem dX9_replays_58 : decode cX9_replays 58 = .ok (.iadd, 1) := by decide +kernel
theorem dX9_replays_59 : decode cX9_replays 59 = .ok (.invokevirtual 200, 3) := by decide +kernel
theorem dX9_replays_62 : decode cX9_replays 62 = .ok (.aload_n 0, 1) := by decide +kernel
theorem dX9_replays_63 : decode cX9_replays 63 = .ok (.iconst 0, 1) := by decide +kernel
theorem dX9_replays_64 : decode cX9_replays 64 = .ok (.iload_n 3, 1) := by decide +kernel
theorem dX9_replays_65 : decode cX9_replays 65 = .ok (.iconst 3, 1) := by decide +kernel
theorem dX9_replays_66 : decode cX9_replays 66 = .ok (.iadd, 1) := by decide +kernel
theorem dX9_replays_67 : decode cX9_replays 67 = .ok (.invokevirtual 200, 3) := by decide +kernel
theorem dX9_replays_70 : decode cX9_replays 70 = .ok (.invokevirtual 279, 3) := by decide +kernel
theorem dX9_replays_73 : decode cX9_replays 73 = .ok (.iinc 2 1, 3) := by decide +kernel
theorem dX9_replays_76 : decode cX9_replays 76 = .ok (.goto (-62), 3) := by decide +kernel
theorem dX9_replays_79 : decode cX9_replays 79 = .ok (.return_, 1) := by decide +kernel
def f_X9_replays_L14_7 (K3 : (MoT → Option (MoT))) : Nat → Int32 → MoT → Option (MoT)
  | 0, _, _ => none
  | n8 + 1, x2_5, s0_6 => (f_X9_get s0_6 (0 : Int32) (13 : Int32)).bind fun r9 =>
  if r9 ≤ x2_5 then K3 s0_6
  else if inb x2_5 60 then (f_X9_get s0_6 (0 : Int32) ((1123 : Int32) + ((4 : Int32) * ((Mo_order s0_6) (ix x2_5))))).bind fun r13 =>
  (f_X9_get s0_6 (0 : Int32) (((1123 : Int32) + ((4 : Int32) * ((Mo_order s0_6) (ix x2_5)))) + (1 : Int32))).bind fun r15 =>
  (f_X9_get s0_6 (0 : Int32) (((1123 : Int32) + ((4 : Int32) * ((Mo_order s0_6) (ix x2_5)))) + (2 : Int32))).bind fun r17 =>
  (f_X9_get s0_6 (0 : Int32) (((1123 : Int32) + ((4 : Int32) * ((Mo_order s0_6) (ix x2_5)))) + (3 : Int32))).bind fun r19 =>
  (f_X9_changes s0_6 (1 : Int32) r13 r15 r17 r19).bind fun r21 =>
  f_X9_replays_L14_7 K3 n8 (x2_5 + (1 : Int32)) r21 else none
def f_X9_replays (s0 : MoT) (p1 : Int32) : Option (MoT) :=
  (f_X9_begins s0 (1 : Int32) p1 (999 : Int32) (999 : Int32)).bind fun r1 =>
  glt (fun (s0_4 : MoT) => some (s0_4)) fun K3 =>
  f_X9_replays_L14_7 K3 10000 (0 : Int32) r1
abbrev rm_X9_replays : Room := { frames := 5, cells := 0, slots := 0, locals := 132 }
set_option maxHeartbeats 4000000 in
set_option maxRecDepth 100000 in
theorem c_X9_replays (l : Launch) (g : GK) (a0 : Nat → Nat) (s0 : MoT) (p1 : Int32) (res : (MoT)) (hf : f_X9_replays s0 p1 = some res) : gM l yX9_replays cX9_replays 4 none rm_X9_replays g [.ref (a0 0), .int p1] (Mo_c g a0 s0) (fun _ : Unit => none) (fun _ => (Mo_c g a0 res)) 0 0 := by
  refine gM_introV RX9 (by decide) rfl (Nat.le_of_ble_eq_true rfl) (fun p e s m args below meth c Q H locs ls A hE hnm hZ hA hP hD hS hq hl => ?_)
  have hl : lv_has ls 4 [(0, .ref (a0 0)), (1, .int p1)] := hl
  have hx := hE.1
  have hb := hE.2.1
  rw [f_X9_replays] at hf
  refine lv_aload_n hx hb dX9_replays_0 rfl (lv_at hl 0 rfl) ?_
  refine lv_iconst hx hb dX9_replays_1 kci_1 ?_
  refine lv_iload_n hx hb dX9_replays_2 rfl (lv_at hl 1 rfl) ?_
  refine lv_sipush hx hb dX9_replays_3 kcs_999 ?_
  refine lv_sipush hx hb dX9_replays_6 kcs_999 ?_
  obtain ⟨r1, hc2, hf⟩ := gbd hf
  refine gm_callV1 (As := [.int (1 : Int32), .int p1, .int (999 : Int32), .int (999 : Int32)]) (rest := []) (st1 := fun _ => []) (ws' := fun _ => (Mo_c g a0 r1)) hE hl.1 ml_X9_224 (c_X9_begins l g a0 s0 (1 : Int32) p1 (999 : Int32) (999 : Int32) r1 hc2) hZ hP hD hS hA 0 14 rfl (fun _ => rfl) okX9 rfl rfl rfl (fun _ => rfl) ⟨rfl, rfl⟩ ⟨Nat.le_of_ble_eq_true rfl, Nat.le_of_ble_eq_true rfl⟩ ⟨Nat.le_refl _, Nat.le_refl _⟩ (Nat.le_of_ble_eq_true rfl) dX9_replays_9 (fun _ H locs hP hD hS => ?_)
  refine lv_iconst hx hb dX9_replays_12 kci_0 ?_
  refine lv_istore_n hx hb dX9_replays_13 rfl hl (by decide) (lv' := [(2, .int (0 : Int32)), (0, .ref (a0 0)), (1, .int p1)]) rfl (fun ls hl => ?_)
  obtain ⟨K3, eK3, hf⟩ := gltd hf
  have kK3 : ∀ (s0_4 : MoT) (ls : Array Slot) (H : Heap) (locs : List Loc), K3 s0_4 = some res → lv_has ls 4 [] → gP g (Mo_c g a0 s0_4) H → va_D A (Mo_c g a0 s0_4) → va_S A s.heap H locs → W p l e rm_X9_replays s m args below meth c H locs 0 0 Q (F0 m 79 ls []) := by
    intro s0_4 ls H locs hf hl hP hD hS
    rw [eK3] at hf
    cases hf
    exact hq () rfl hP hD hS dX9_replays_79
  have lpn8 : ∀ (n8 : Nat) (x2_5 : Int32) (s0_6 : MoT) (ls : Array Slot) (H : Heap) (locs : List Loc), f_X9_replays_L14_7 K3 n8 x2_5 s0_6 = some res → lv_has ls 4 [(0, .ref (a0 0)), (2, .int x2_5)] → gP g (Mo_c g a0 s0_6) H → va_D A (Mo_c g a0 s0_6) → va_S A s.heap H locs → W p l e rm_X9_replays s m args below meth c H locs 0 0 Q (F0 m 14 ls []) := by
    intro n8
    induction n8 with
    | zero => intro x2_5 s0_6 ls H locs hf hl hP hD hS; rw [f_X9_replays_L14_7] at hf; cases hf
    | succ n8 ihn8 =>
      intro x2_5 s0_6 ls H locs hf hl hP hD hS
      rw [f_X9_replays_L14_7] at hf
      refine lv_iload_n hx hb dX9_replays_14 rfl (lv_at hl 1 rfl) ?_
      refine lv_aload_n hx hb dX9_replays_15 rfl (lv_at hl 0 rfl) ?_
      refine lv_iconst hx hb dX9_replays_16 kci_0 ?_
      refine lv_bipush hx hb dX9_replays_17 kcb_13 ?_
      obtain ⟨r9, hc10, hf⟩ := gbd hf
      refine gr_callV (As := [.int (0 : Int32), .int (13 : Int32)]) (rest := [.int x2_5]) (st1 := [.int r9, .int x2_5]) hE hl.1 ml_X9_200 (c_X9_get l g a0 s0_6 (0 : Int32) (13 : Int32) r9 hc10) hZ hS hP [(0, 14)] rfl okX9 rfl rfl rfl rfl ⟨rfl, rfl⟩ ⟨Nat.le_of_ble_eq_true rfl, Nat.le_of_ble_eq_true rfl⟩ ⟨Nat.le_refl _, Nat.le_refl _⟩ (Nat.le_of_ble_eq_true rfl) dX9_replays_19 ?_
      refine lv_icmp_ge hx hb dX9_replays_22 (tgt := 79) rfl (fun h11 => ?_) (fun h11 => ?_)
      · have hf := gif_t h11 hf
        exact kK3 s0_6 ls H locs hf (lv_sub hl [] rfl) hP hD hS
      · have hf := gif_f h11 hf
        refine lv_sipush hx hb dX9_replays_25 kcs_1123 ?_
        refine lv_iconst hx hb dX9_replays_28 kci_4 ?_
        refine lv_aload_n hx hb dX9_replays_29 rfl (lv_at hl 0 rfl) ?_
        refine g_get hE okX9 fl_X9_52 hP 0 rfl (v := .ref (a0 13)) rfl dX9_replays_30 ?_
        refine lv_iload_n hx hb dX9_replays_33 rfl (lv_at hl 1 rfl) ?_
        obtain ⟨hg12, hf⟩ := ggd hf
        refine g_iald hE hP 13 (f := (Mo_order s0_6)) rfl hg12 dX9_replays_34 ?_
        refine lv_imul hx hb dX9_replays_35 ?_
        refine lv_iadd hx hb dX9_replays_36 ?_
        refine lv_istore_n hx hb dX9_replays_37 rfl hl (by decide) (lv' := [(3, .int ((1123 : Int32) + ((4 : Int32) * ((Mo_order s0_6) (ix x2_5))))), (0, .ref (a0 0)), (2, .int x2_5)]) rfl (fun ls hl => ?_)
        refine lv_aload_n hx hb dX9_replays_38 rfl (lv_at hl 1 rfl) ?_
        refine lv_iconst hx hb dX9_replays_39 kci_1 ?_
        refine lv_aload_n hx hb dX9_replays_40 rfl (lv_at hl 1 rfl) ?_
        refine lv_iconst hx hb dX9_replays_41 kci_0 ?_
        refine lv_iload_n hx hb dX9_replays_42 rfl (lv_at hl 0 rfl) ?_
        obtain ⟨r13, hc14, hf⟩ := gbd hf
        refine gr_callV (As := [.int (0 : Int32), .int ((1123 : Int32) + ((4 : Int32) * ((Mo_order s0_6) (ix x2_5))))]) (rest := [.int (1 : Int32), .ref (a0 0)]) (st1 := [.int r13, .int (1 : Int32), .ref (a0 0)]) hE hl.1 ml_X9_200 (c_X9_get l g a0 s0_6 (0 : Int32) ((1123 : Int32) + ((4 : Int32) * ((Mo_order s0_6) (ix x2_5)))) r13 hc14) hZ hS hP [(0, 14)] rfl okX9 rfl rfl rfl rfl ⟨rfl, rfl⟩ ⟨Nat.le_of_ble_eq_true rfl, Nat.le_of_ble_eq_true rfl⟩ ⟨Nat.le_refl _, Nat.le_refl _⟩ (Nat.le_of_ble_eq_true rfl) dX9_replays_43 ?_
        refine lv_aload_n hx hb dX9_replays_46 rfl (lv_at hl 1 rfl) ?_
        refine lv_iconst hx hb dX9_replays_47 kci_0 ?_
        refine lv_iload_n hx hb dX9_replays_48 rfl (lv_at hl 0 rfl) ?_
        refine lv_iconst hx hb dX9_replays_49 kci_1 ?_
        refine lv_iadd hx hb dX9_replays_50 ?_
        obtain ⟨r15, hc16, hf⟩ := gbd hf
        refine gr_callV (As := [.int (0 : Int32), .int (((1123 : Int32) + ((4 : Int32) * ((Mo_order s0_6) (ix x2_5)))) + (1 : Int32))]) (rest := [.int r13, .int (1 : Int32), .ref (a0 0)]) (st1 := [.int r15, .int r13, .int (1 : Int32), .ref (a0 0)]) hE hl.1 ml_X9_200 (c_X9_get l g a0 s0_6 (0 : Int32) (((1123 : Int32) + ((4 : Int32) * ((Mo_order s0_6) (ix x2_5)))) + (1 : Int32)) r15 hc16) hZ hS hP [(0, 14)] rfl okX9 rfl rfl rfl rfl ⟨rfl, rfl⟩ ⟨Nat.le_of_ble_eq_true rfl, Nat.le_of_ble_eq_true rfl⟩ ⟨Nat.le_refl _, Nat.le_refl _⟩ (Nat.le_of_ble_eq_true rfl) dX9_replays_51 ?_
        refine lv_aload_n hx hb dX9_replays_54 rfl (lv_at hl 1 rfl) ?_
        refine lv_iconst hx hb dX9_replays_55 kci_0 ?_
        refine lv_iload_n hx hb dX9_replays_56 rfl (lv_at hl 0 rfl) ?_
        refine lv_iconst hx hb dX9_replays_57 kci_2 ?_
        refine lv_iadd hx hb dX9_replays_58 ?_
        obtain ⟨r17, hc18, hf⟩ := gbd hf
        refine gr_callV (As := [.int (0 : Int32), .int (((1123 : Int32) + ((4 : Int32) * ((Mo_order s0_6) (ix x2_5)))) + (2 : Int32))]) (rest := [.int r15, .int r13, .int (1 : Int32), .ref (a0 0)]) (st1 := [.int r17, .int r15, .int r13, .int (1 : Int32), .ref (a0 0)]) hE hl.1 ml_X9_200 (c_X9_get l g a0 s0_6 (0 : Int32) (((1123 : Int32) + ((4 : Int32) * ((Mo_order s0_6) (ix x2_5)))) + (2 : Int32)) r17 hc18) hZ hS hP [(0, 14)] rfl okX9 rfl rfl rfl rfl ⟨rfl, rfl⟩ ⟨Nat.le_of_ble_eq_true rfl, Nat.le_of_ble_eq_true rfl⟩ ⟨Nat.le_refl _, Nat.le_refl _⟩ (Nat.le_of_ble_eq_true rfl) dX9_replays_59 ?_
        refine lv_aload_n hx hb dX9_replays_62 rfl (lv_at hl 1 rfl) ?_
        refine lv_iconst hx hb dX9_replays_63 kci_0 ?_
        refine lv_iload_n hx hb dX9_replays_64 rfl (lv_at hl 0 rfl) ?_
        refine lv_iconst hx hb dX9_replays_65 kci_3 ?_
        refine lv_iadd hx hb dX9_replays_66 ?_
        obtain ⟨r19, hc20, hf⟩ := gbd hf
        refine gr_callV (As := [.int (0 : Int32), .int (((1123 : Int32) + ((4 : Int32) * ((Mo_order s0_6) (ix x2_5)))) + (3 : Int32))]) (rest := [.int r17, .int r15, .int r13, .int (1 : Int32), .ref (a0 0)]) (st1 := [.int r19, .int r17, .int r15, .int r13, .int (1 : Int32), .ref (a0 0)]) hE hl.1 ml_X9_200 (c_X9_get l g a0 s0_6 (0 : Int32) (((1123 : Int32) + ((4 : Int32) * ((Mo_order s0_6) (ix x2_5)))) + (3 : Int32)) r19 hc20) hZ hS hP [(0, 14)] rfl okX9 rfl rfl rfl rfl ⟨rfl, rfl⟩ ⟨Nat.le_of_ble_eq_true rfl, Nat.le_of_ble_eq_true rfl⟩ ⟨Nat.le_refl _, Nat.le_refl _⟩ (Nat.le_of_ble_eq_true rfl) dX9_replays_67 ?_
        obtain ⟨r21, hc22, hf⟩ := gbd hf
        refine gm_callV1 (As := [.int (1 : Int32), .int r13, .int r15, .int r17, .int r19]) (rest := []) (st1 := fun _ => []) (ws' := fun _ => (Mo_c g a0 r21)) hE hl.1 ml_X9_279 (c_X9_changes l g a0 s0_6 (1 : Int32) r13 r15 r17 r19 r21 hc22) hZ hP hD hS hA 0 14 rfl (fun _ => rfl) okX9 rfl rfl rfl (fun _ => rfl) ⟨rfl, rfl⟩ ⟨Nat.le_of_ble_eq_true rfl, Nat.le_of_ble_eq_true rfl⟩ ⟨Nat.le_refl _, Nat.le_refl _⟩ (Nat.le_of_ble_eq_true rfl) dX9_replays_70 (fun _ H locs hP hD hS => ?_)
        refine lv_iinc hx hb dX9_replays_73 hl (k := 2) (x := x2_5) rfl (kinc_1 _) (by decide) (lv' := [(2, .int (x2_5 + (1 : Int32))), (3, .int ((1123 : Int32) + ((4 : Int32) * ((Mo_order s0_6) (ix x2_5))))), (0, .ref (a0 0))]) rfl (fun ls hl => ?_)
        refine lv_goto hx hb dX9_replays_76 (tgt := 14) rfl ?_
        exact ihn8 (x2_5 + (1 : Int32)) r21 ls H locs hf (lv_sub hl [2, 0] rfl) hP hD hS
  exact lpn8 10000 (0 : Int32) r1 ls H locs hf (lv_sub hl [1, 0] rfl) hP hD hS
theorem dX9_replay_0 : decode cX9_replay 0 = .ok (.aload_n 0, 1) := by decide +kernel
theorem dX9_replay_1 : decode cX9_replay 1 = .ok (.iconst 0, 1) := by decide +kernel
theorem dX9_replay_2 : decode cX9_replay 2 = .ok (.putfield 55, 3) := by decide +kernel
theorem dX9_replay_5 : decode cX9_replay 5 = .ok (.aload_n 0, 1) := by decide +kernel
theorem dX9_replay_6 : decode cX9_replay 6 = .ok (.getfield 218, 3) := by decide +kernel
theorem dX9_replay_9 : decode cX9_replay 9 = .ok (.ifCond .eq 12, 3) := by decide +kernel
theorem dX9_replay_12 : decode cX9_replay 12 = .ok (.iload_n 2, 1) := by decide +kernel
theorem dX9_replay_13 : decode cX9_replay 13 = .ok (.iconst 0, 1) := by decide +kernel
theorem dX9_replay_14 : decode cX9_replay 14 = .ok (.iconst 2, 1) := by decide +kernel
theorem dX9_replay_15 : decode cX9_replay 15 = .ok (.invokestatic 90, 3) := by decide +kernel
theorem dX9_replay_18 : decode cX9_replay 18 = .ok (.ifCond .ne 9, 3) := by decide +kernel
theorem dX9_replay_21 : decode cX9_replay 21 = .ok (.aload_n 0, 1) := by decide +kernel
theorem dX9_replay_22 : decode cX9_replay 22 = .ok (.iconst 1, 1) := by decide +kernel
theorem dX9_replay_23 : decode cX9_replay 23 = .ok (.invokevirtual 306, 3) := by decide +kernel
theorem dX9_replay_26 : decode cX9_replay 26 = .ok (.ireturn, 1) := by decide +kernel
theorem dX9_replay_27 : decode cX9_replay 27 = .ok (.iload_n 1, 1) := by decide +kernel
theorem dX9_replay_28 : decode cX9_replay 28 = .ok (.iconst 0, 1) := by decide +kernel
theorem dX9_replay_29 : decode cX9_replay 29 = .ok (.ldc_w 384, 3) := by decide +kernel
theorem dX9_replay_32 : decode cX9_replay 32 = .ok (.invokestatic 90, 3) := by decide +kernel
theorem dX9_replay_35 : decode cX9_replay 35 = .ok (.ifCond .ne 9, 3) := by decide +kernel
theorem dX9_replay_38 : decode cX9_replay 38 = .ok (.aload_n 0, 1) := by decide +kernel
theorem dX9_replay_39 : decode cX9_replay 39 = .ok (.iconst 2, 1) := by decide +kernel
theorem dX9_replay_40 : decode cX9_replay 40 = .ok (.invokevirtual 306, 3) := by decide +kernel
theorem dX9_replay_43 : decode cX9_replay 43 = .ok (.ireturn, 1) := by decide +kernel
theorem dX9_replay_44 : decode cX9_replay 44 = .ok (.aload_n 0, 1) := by decide +kernel
theorem dX9_replay_45 : decode cX9_replay 45 = .ok (.iconst 0, 1) := by decide +kernel
theorem dX9_replay_46 : decode cX9_replay 46 = .ok (.bipush 13, 2) := by decide +kernel
theorem dX9_replay_48 : decode cX9_replay 48 = .ok (.invokevirtual 200, 3) := by decide +kernel
theorem dX9_replay_51 : decode cX9_replay 51 = .ok (.istore_n 3, 1) := by decide +kernel
theorem dX9_replay_52 : decode cX9_replay 52 = .ok (.iconst 0, 1) := by decide +kernel
theorem dX9_replay_53 : decode cX9_replay 53 = .ok (.istore 4, 2) := by decide +kernel
theorem dX9_replay_55 : decode cX9_replay 55 = .ok (.iload 4, 2) := by decide +kernel
theorem dX9_replay_57 : decode cX9_replay 57 = .ok (.iload_n 3, 1) := by decide +kernel
theorem dX9_replay_58 : decode cX9_replay 58 = .ok (.if_icmp .ge 18, 3) := by decide +kernel
theorem dX9_replay_61 : decode cX9_replay 61 = .ok (.aload_n 0, 1) := by decide +kernel
theorem dX9_replay_62 : decode cX9_replay 62 = .ok (.getfield 52, 3) := by decide +kernel
theorem dX9_replay_65 : decode cX9_replay 65 = .ok (.iload 4, 2) := by decide +kernel
theorem dX9_replay_67 : decode cX9_replay 67 = .ok (.iload 4, 2) := by decide +kernel
theorem dX9_replay_69 : decode cX9_replay 69 = .ok (.iastore, 1) := by decide +kernel
theorem dX9_replay_70 : decode cX9_replay 70 = .ok (.iinc 4 1, 3) := by decide +kernel
theorem dX9_replay_73 : decode cX9_replay 73 = .ok (.goto (-18), 3) := by decide +kernel
theorem dX9_replay_76 : decode cX9_replay 76 = .ok (.iload_n 1, 1) := by decide +kernel
theorem dX9_replay_77 : decode cX9_replay 77 = .ok (.istore 4, 2) := by decide +kernel
theorem dX9_replay_79 : decode cX9_replay 79 = .ok (.iload_n 3, 1) := by decide +kernel
theorem dX9_replay_80 : decode cX9_replay 80 = .ok (.iconst 1, 1) := by decide +kernel
theorem dX9_replay_81 : decode cX9_replay 81 = .ok (.isub, 1) := by decide +kernel
theorem dX9_replay_82 : decode cX9_replay 82 = .ok (.istore 5, 2) := by decide +kernel
theorem dX9_replay_84 : decode cX9_replay 84 = .ok (.iload 5, 2) := by decide +kernel
theorem dX9_replay_86 : decode cX9_replay 86 = .ok (.ifCond .le 64, 3) := by decide +kernel
theorem dX9_replay_89 : decode cX9_replay 89 = .ok (.bipush 75, 2) := by decide +kernel
theorem dX9_replay_91 : decode cX9_replay 91 = .ok (.iload 4, 2) := by decide +kernel
theorem dX9_replay_93 : decode cX9_replay 93 = .ok (.imul, 1) := by decide +kernel
theorem dX9_replay_94 : decode cX9_replay 94 = .ok (.bipush 74, 2) := by decide +kernel
theorem dX9_replay_96 : decode cX9_replay 96 = .ok (.iadd, 1) := by decide +kernel
theorem dX9_replay_97 : decode cX9_replay 97 = .ok (.ldc_w 385, 3) := by decide +kernel
theorem dX9_replay_100 : decode cX9_replay 100 = .ok (.irem, 1) := by decide +kernel
theorem dX9_replay_101 : decode cX9_replay 101 = .ok (.istore 4, 2) := by decide +kernel
theorem dX9_replay_103 : decode cX9_replay 103 = .ok (.iload 4, 2) := by decide +kernel
theorem dX9_replay_105 : decode cX9_replay 105 = .ok (.iload 5, 2) := by decide +kernel
theorem dX9_replay_107 : decode cX9_replay 107 = .ok (.iconst 1, 1) := by decide +kernel
theorem dX9_replay_108 : decode cX9_replay 108 = .ok (.iadd, 1) := by decide +kernel
theorem dX9_replay_109 : decode cX9_replay 109 = .ok (.irem, 1) := by decide +kernel
theorem dX9_replay_110 : decode cX9_replay 110 = .ok (.istore 6, 2) := by decide +kernel
theorem dX9_replay_112 : decode cX9_replay 112 = .ok (.aload_n 0, 1) := by decide +kernel
theorem dX9_replay_113 : decode cX9_replay 113 = .ok (.getfield 52, 3) := by decide +kernel
theorem dX9_replay_116 : decode cX9_replay 116 = .ok (.iload 5, 2) := by decide +kernel
theorem dX9_replay_118 : decode cX9_replay 118 = .ok (.iaload, 1) := by decide +kernel
theorem dX9_replay_119 : decode cX9_replay 119 = .ok (.istore 7, 2) := by decide +kernel
theorem dX9_replay_121 : decode cX9_replay 121 = .ok (.aload_n 0, 1) := by decide +kernel
theorem dX9_replay_122 : decode cX9_replay 122 = .ok (.getfield 52, 3) := by decide +kernel
theorem dX9_replay_125 : decode cX9_replay 125 = .ok (.iload 5, 2) := by decide +kernel
theorem dX9_replay_127 : decode cX9_replay 127 = .ok (.aload_n 0, 1) := by decide +kernel
theorem dX9_replay_128 : decode cX9_replay 128 = .ok (.getfield 52, 3) := by decide +kernel
theorem dX9_replay_131 : decode cX9_replay 131 = .ok (.iload 6, 2) := by decide +kernel
theorem dX9_replay_133 : decode cX9_replay 133 = .ok (.iaload, 1) := by decide +kernel
theorem dX9_replay_134 : decode cX9_replay 134 = .ok (.iastore, 1) := by decide +kernel
theorem dX9_replay_135 : decode cX9_replay 135 = .ok (.aload_n 0, 1) := by decide +kernel
theorem dX9_replay_136 : decode cX9_replay 136 = .ok (.getfield 52, 3) := by decide +kernel
theorem dX9_replay_139 : decode cX9_replay 139 = .ok (.iload 6, 2) := by decide +kernel
theorem dX9_replay_141 : decode cX9_replay 141 = .ok (.iload 7, 2) := by decide +kernel
theorem dX9_replay_143 : decode cX9_replay 143 = .ok (.iastore, 1) := by decide +kernel
theorem dX9_replay_144 : decode cX9_replay 144 = .ok (.iinc 5 (-1), 3) := by decide +kernel
theorem dX9_replay_147 : decode cX9_replay 147 = .ok (.goto (-63), 3) := by decide +kernel
theorem dX9_replay_150 : decode cX9_replay 150 = .ok (.aload_n 0, 1) := by decide +kernel
theorem dX9_replay_151 : decode cX9_replay 151 = .ok (.aload_n 0, 1) := by decide +kernel
theorem dX9_replay_152 : decode cX9_replay 152 = .ok (.iconst 0, 1) := by decide +kernel
theorem dX9_replay_153 : decode cX9_replay 153 = .ok (.iconst 0, 1) := by decide +kernel
theorem dX9_replay_154 : decode cX9_replay 154 = .ok (.invokevirtual 200, 3) := by decide +kernel
theorem dX9_replay_157 : decode cX9_replay 157 = .ok (.invokevirtual 386, 3) := by decide +kernel
theorem dX9_replay_160 : decode cX9_replay 160 = .ok (.aload_n 0, 1) := by decide +kernel
theorem dX9_replay_161 : decode cX9_replay 161 = .ok (.iconst 1, 1) := by decide +kernel
theorem dX9_replay_162 : decode cX9_replay 162 = .ok (.iconst (-1), 1) := by decide +kernel
theorem dX9_replay_163 : decode cX9_replay 163 = .ok (.invokevirtual 330, 3) := by decide +kernel
theorem dX9_replay_166 : decode cX9_replay 166 = .ok (.istore 5, 2) := by decide +kernel
theorem dX9_replay_168 : decode cX9_replay 168 = .ok (.aload_n 0, 1) := by decide +kernel
theorem dX9_replay_169 : decode cX9_replay 169 = .ok (.iload_n 2, 1) := by decide +kernel
theorem dX9_replay_170 : decode cX9_replay 170 = .ok (.ifCond .ne 13, 3) := by decide +kernel
theorem dX9_replay_173 : decode cX9_replay 173 = .ok (.aload_n 0, 1) := by decide +kernel
theorem dX9_replay_174 : decode cX9_replay 174 = .ok (.iconst 1, 1) := by decide +kernel
theorem dX9_replay_175 : decode cX9_replay 175 = .ok (.bipush 11, 2) := by decide +kernel
theorem dX9_replay_177 : decode cX9_replay 177 = .ok (.invokevirtual 200, 3) := by decide +kernel
theorem dX9_replay_180 : decode cX9_replay 180 = .ok (.goto 17, 3) := by decide +kernel
theorem dX9_replay_183 : decode cX9_replay 183 = .ok (.iload_n 2, 1) := by decide +kernel
theorem dX9_replay_184 : decode cX9_replay 184 = .ok (.iconst 1, 1) := by decide +kernel
theorem dX9_replay_185 : decode cX9_replay 185 = .ok (.if_icmp .ne 8, 3) := by decide +kernel
theorem dX9_replay_188 : decode cX9_replay 188 = .ok (.iload 5, 2) := by decide +kernel
theorem dX9_replay_190 : decode cX9_replay 190 = .ok (.goto 7, 3) := by decide +kernel
theorem dX9_replay_193 : decode cX9_replay 193 = .ok (.aload_n 0, 1) := by decide +kernel
theorem dX9_replay_194 : decode cX9_replay 194 = .ok (.getfield 318, 3) := by decide +kernel
theorem dX9_replay_197 : decode cX9_replay 197 = .ok (.invokevirtual 230, 3) := by decide +kernel
theorem dX9_replay_200 : decode cX9_replay 200 = .ok (.ireturn, 1) := by decide +kernel
def f_X9_replay_L84_35 (K14 : (MoT → Option (Int32 × MoT))) : Nat → Int32 → Int32 → MoT → Option (Int32 × MoT)
  | 0, _, _, _ => none
  | n36 + 1, x4_32, x5_33, s0_34 => if x5_33 ≤ 0 then K14 s0_34
  else if ¬ (x5_33 + (1 : Int32)) = 0 then if inb x5_33 60 then if inb (irem (irem (((75 : Int32) * x4_32) + (74 : Int32)) (65537 : Int32)) (x5_33 + (1 : Int32))) 60 then if inb x5_33 60 then if inb (irem (irem (((75 : Int32) * x4_32) + (74 : Int32)) (65537 : Int32)) (x5_33 + (1 : Int32))) 60 then f_X9_replay_L84_35 K14 n36 (irem (((75 : Int32) * x4_32) + (74 : Int32)) (65537 : Int32)) (x5_33 + (-1 : Int32)) (Mo_w_order s0_34 (upd (upd (Mo_order s0_34) (ix x5_33) ((Mo_order s0_34) (ix (irem (irem (((75 : Int32) * x4_32) + (74 : Int32)) (65537 : Int32)) (x5_33 + (1 : Int32)))))) (ix (irem (irem (((75 : Int32) * x4_32) + (74 : Int32)) (65537 : Int32)) (x5_33 + (1 : Int32)))) ((Mo_order s0_34) (ix x5_33)))) else none else none else none else none else none
def f_X9_replay_L55_45 (r10 : (Int32)) (K12 : (MoT → Option (Int32 × MoT))) : Nat → Int32 → MoT → Option (Int32 × MoT)
  | 0, _, _ => none
  | n46 + 1, x4_43, s0_44 => if r10 ≤ x4_43 then K12 s0_44
  else if inb x4_43 60 then f_X9_replay_L55_45 r10 K12 n46 (x4_43 + (1 : Int32)) (Mo_w_order s0_44 (upd (Mo_order s0_44) (ix x4_43) x4_43)) else none
def f_X9_replay (s0 : MoT) (p1 : Int32) (p2 : Int32) : Option (Int32 × MoT) :=
  if (Mo_isThere s0) = 0 then (f_X9_refusedLow (Mo_w_thrown s0 (0 : Int32)) (1 : Int32)).bind fun r2 =>
  some ((r2.1), (r2.2))
  else (f_X9_in p2 (0 : Int32) (2 : Int32)).bind fun r4 =>
  if r4 = 0 then (f_X9_refusedLow (Mo_w_thrown s0 (0 : Int32)) (1 : Int32)).bind fun r51 =>
  some ((r51.1), (r51.2))
  else (f_X9_in p1 (0 : Int32) (65536 : Int32)).bind fun r7 =>
  if r7 = 0 then (f_X9_refusedLow (Mo_w_thrown s0 (0 : Int32)) (2 : Int32)).bind fun r49 =>
  some ((r49.1), (r49.2))
  else (f_X9_get (Mo_w_thrown s0 (0 : Int32)) (0 : Int32) (13 : Int32)).bind fun r10 =>
  glt (fun (s0_13 : MoT) => glt (fun (s0_15 : MoT) => (f_X9_get s0_15 (0 : Int32) (0 : Int32)).bind fun r16 =>
  (f_X9_replays s0_15 r16).bind fun r18 =>
  (f_X9_finds r18 (1 : Int32) (-1 : Int32)).bind fun r20 =>
  if p2 = 0 then (f_X9_get (r20.2) (1 : Int32) (11 : Int32)).bind fun r28 =>
  (f_X9_good (r20.2) r28).bind fun r30 =>
  some ((r30.1), (r30.2))
  else if p2 = (1 : Int32) then (f_X9_good (r20.2) (r20.1)).bind fun r26 =>
  some ((r26.1), (r26.2))
  else (f_X9_good (r20.2) (Mo_sumSent (r20.2))).bind fun r24 =>
  some ((r24.1), (r24.2))) fun K14 =>
  f_X9_replay_L84_35 K14 10000 p1 (r10 - (1 : Int32)) s0_13) fun K12 =>
  f_X9_replay_L55_45 r10 K12 10000 (0 : Int32) (Mo_w_thrown s0 (0 : Int32))
abbrev rm_X9_replay : Room := { frames := 7, cells := 0, slots := 0, locals := 171 }
set_option maxHeartbeats 4000000 in
set_option maxRecDepth 100000 in
theorem c_X9_replay (l : Launch) (g : GK) (a0 : Nat → Nat) (s0 : MoT) (p1 : Int32) (p2 : Int32) (res : (Int32 × MoT)) (hf : f_X9_replay s0 p1 p2 = some res) : gM l yX9_replay cX9_replay 8 (some .int) rm_X9_replay g [.ref (a0 0), .int p1, .int p2] (Mo_c g a0 s0) (fun _ : Unit => (some (.int (res.1)))) (fun _ => (Mo_c g a0 (res.2))) 0 0 := by
  refine gM_introI RX9 (by decide) rfl (Nat.le_of_ble_eq_true rfl) (fun p e s m args below meth c Q H locs ls A hE hZ hA hP hD hS hq hl => ?_)
  have hl : lv_has ls 8 [(0, .ref (a0 0)), (1, .int p1), (2, .int p2)] := hl
  have hx := hE.1
  have hb := hE.2.1
  rw [f_X9_replay] at hf
  refine lv_aload_n hx hb dX9_replay_0 rfl (lv_at hl 0 rfl) ?_
  refine lv_iconst hx hb dX9_replay_1 kci_0 ?_
  refine g_put hE okX9 fl_X9_55 hP hD hS 0 rfl rfl rfl rfl (Nat.le_of_ble_eq_true rfl) (Mo_c g a0 (Mo_w_thrown s0 (0 : Int32))) rfl dX9_replay_2 (fun H locs hP hD hS => ?_)
  refine lv_aload_n hx hb dX9_replay_5 rfl (lv_at hl 0 rfl) ?_
  refine g_get hE okX9 fl_X9_218 hP 0 rfl (v := .int (Mo_isThere s0)) rfl dX9_replay_6 ?_
  refine lv_if_eq hx hb dX9_replay_9 (tgt := 21) rfl (fun h1 => ?_) (fun h1 => ?_)
  · have hf := gif_t h1 hf
    refine lv_aload_n hx hb dX9_replay_21 rfl (lv_at hl 0 rfl) ?_
    refine lv_iconst hx hb dX9_replay_22 kci_1 ?_
    obtain ⟨r2, hc3, hf⟩ := gbd hf
    refine gm_callV1 (As := [.int (1 : Int32)]) (rest := []) (st1 := fun _ => [.int (r2.1)]) (ws' := fun _ => (Mo_c g a0 (r2.2))) hE hl.1 ml_X9_306 (c_X9_refusedLow l g a0 (Mo_w_thrown s0 (0 : Int32)) (1 : Int32) r2 hc3) hZ hP hD hS hA 0 14 rfl (fun _ => rfl) okX9 rfl rfl rfl (fun _ => rfl) ⟨rfl, rfl⟩ ⟨Nat.le_of_ble_eq_true rfl, Nat.le_of_ble_eq_true rfl⟩ ⟨Nat.le_refl _, Nat.le_refl _⟩ (Nat.le_of_ble_eq_true rfl) dX9_replay_23 (fun _ H locs hP hD hS => ?_)
    cases hf
    exact hq () rfl hP hD hS dX9_replay_26
  · have hf := gif_f h1 hf
    refine lv_iload_n hx hb dX9_replay_12 rfl (lv_at hl 2 rfl) ?_
    refine lv_iconst hx hb dX9_replay_13 kci_0 ?_
    refine lv_iconst hx hb dX9_replay_14 kci_2 ?_
    obtain ⟨r4, hc5, hf⟩ := gbd hf
    refine gr_callS (As := [.int p2, .int (0 : Int32), .int (2 : Int32)]) (rest := []) (st1 := [.int r4]) hE hl.1 ml_X9_90 (c_X9_in l g p2 (0 : Int32) (2 : Int32) r4 hc5) hZ hS hP [] rfl rfl rfl rfl ⟨rfl, rfl⟩ ⟨Nat.le_of_ble_eq_true rfl, Nat.le_of_ble_eq_true rfl⟩ ⟨Nat.le_refl _, Nat.le_refl _⟩ (Nat.le_of_ble_eq_true rfl) dX9_replay_15 ?_
    refine lv_if_ne hx hb dX9_replay_18 (tgt := 27) rfl (fun h6 => ?_) (fun h6 => ?_)
    · have hf := gif_f h6 hf
      refine lv_iload_n hx hb dX9_replay_27 rfl (lv_at hl 1 rfl) ?_
      refine lv_iconst hx hb dX9_replay_28 kci_0 ?_
      refine g_ldcw hE kd_X9_384 dX9_replay_29 ?_
      obtain ⟨r7, hc8, hf⟩ := gbd hf
      refine gr_callS (As := [.int p1, .int (0 : Int32), .int (65536 : Int32)]) (rest := []) (st1 := [.int r7]) hE hl.1 ml_X9_90 (c_X9_in l g p1 (0 : Int32) (65536 : Int32) r7 hc8) hZ hS hP [] rfl rfl rfl rfl ⟨rfl, rfl⟩ ⟨Nat.le_of_ble_eq_true rfl, Nat.le_of_ble_eq_true rfl⟩ ⟨Nat.le_refl _, Nat.le_refl _⟩ (Nat.le_of_ble_eq_true rfl) dX9_replay_32 ?_
      refine lv_if_ne hx hb dX9_replay_35 (tgt := 44) rfl (fun h9 => ?_) (fun h9 => ?_)
      · have hf := gif_f h9 hf
        refine lv_aload_n hx hb dX9_replay_44 rfl (lv_at hl 0 rfl) ?_
        refine lv_iconst hx hb dX9_replay_45 kci_0 ?_
        refine lv_bipush hx hb dX9_replay_46 kcb_13 ?_
        obtain ⟨r10, hc11, hf⟩ := gbd hf
        refine gr_callV (As := [.int (0 : Int32), .int (13 : Int32)]) (rest := []) (st1 := [.int r10]) hE hl.1 ml_X9_200 (c_X9_get l g a0 (Mo_w_thrown s0 (0 : Int32)) (0 : Int32) (13 : Int32) r10 hc11) hZ hS hP [(0, 14)] rfl okX9 rfl rfl rfl rfl ⟨rfl, rfl⟩ ⟨Nat.le_of_ble_eq_true rfl, Nat.le_of_ble_eq_true rfl⟩ ⟨Nat.le_refl _, Nat.le_refl _⟩ (Nat.le_of_ble_eq_true rfl) dX9_replay_48 ?_
        refine lv_istore_n hx hb dX9_replay_51 rfl hl (by decide) (lv' := [(3, .int r10), (0, .ref (a0 0)), (1, .int p1), (2, .int p2)]) rfl (fun ls hl => ?_)
        refine lv_iconst hx hb dX9_replay_52 kci_0 ?_
        refine lv_istore hx hb dX9_replay_53 hl (by decide) (lv' := [(4, .int (0 : Int32)), (3, .int r10), (0, .ref (a0 0)), (1, .int p1), (2, .int p2)]) rfl (fun ls hl => ?_)
        obtain ⟨K12, eK12, hf⟩ := gltd hf
        have kK12 : ∀ (s0_13 : MoT) (ls : Array Slot) (H : Heap) (locs : List Loc), K12 s0_13 = some res → lv_has ls 8 [(0, .ref (a0 0)), (1, .int p1), (2, .int p2), (3, .int r10)] → gP g (Mo_c g a0 s0_13) H → va_D A (Mo_c g a0 s0_13) → va_S A s.heap H locs → W p l e rm_X9_replay s m args below meth c H locs 0 0 Q (F0 m 76 ls []) := by
          intro s0_13 ls H locs hf hl hP hD hS
          rw [eK12] at hf
          refine lv_iload_n hx hb dX9_replay_76 rfl (lv_at hl 1 rfl) ?_
          refine lv_istore hx hb dX9_replay_77 hl (by decide) (lv' := [(4, .int p1), (0, .ref (a0 0)), (1, .int p1), (2, .int p2), (3, .int r10)]) rfl (fun ls hl => ?_)
          refine lv_iload_n hx hb dX9_replay_79 rfl (lv_at hl 4 rfl) ?_
          refine lv_iconst hx hb dX9_replay_80 kci_1 ?_
          refine lv_isub hx hb dX9_replay_81 ?_
          refine lv_istore hx hb dX9_replay_82 hl (by decide) (lv' := [(5, .int (r10 - (1 : Int32))), (4, .int p1), (0, .ref (a0 0)), (1, .int p1), (2, .int p2), (3, .int r10)]) rfl (fun ls hl => ?_)
          obtain ⟨K14, eK14, hf⟩ := gltd hf
          have kK14 : ∀ (s0_15 : MoT) (ls : Array Slot) (H : Heap) (locs : List Loc), K14 s0_15 = some res → lv_has ls 8 [(0, .ref (a0 0)), (2, .int p2)] → gP g (Mo_c g a0 s0_15) H → va_D A (Mo_c g a0 s0_15) → va_S A s.heap H locs → W p l e rm_X9_replay s m args below meth c H locs 0 0 Q (F0 m 150 ls []) := by
            intro s0_15 ls H locs hf hl hP hD hS
            rw [eK14] at hf
            refine lv_aload_n hx hb dX9_replay_150 rfl (lv_at hl 0 rfl) ?_
            refine lv_aload_n hx hb dX9_replay_151 rfl (lv_at hl 0 rfl) ?_
            refine lv_iconst hx hb dX9_replay_152 kci_0 ?_
            refine lv_iconst hx hb dX9_replay_153 kci_0 ?_
            obtain ⟨r16, hc17, hf⟩ := gbd hf
            refine gr_callV (As := [.int (0 : Int32), .int (0 : Int32)]) (rest := [.ref (a0 0)]) (st1 := [.int r16, .ref (a0 0)]) hE hl.1 ml_X9_200 (c_X9_get l g a0 s0_15 (0 : Int32) (0 : Int32) r16 hc17) hZ hS hP [(0, 14)] rfl okX9 rfl rfl rfl rfl ⟨rfl, rfl⟩ ⟨Nat.le_of_ble_eq_true rfl, Nat.le_of_ble_eq_true rfl⟩ ⟨Nat.le_refl _, Nat.le_refl _⟩ (Nat.le_of_ble_eq_true rfl) dX9_replay_154 ?_
            obtain ⟨r18, hc19, hf⟩ := gbd hf
            refine gm_callV1 (As := [.int r16]) (rest := []) (st1 := fun _ => []) (ws' := fun _ => (Mo_c g a0 r18)) hE hl.1 ml_X9_386 (c_X9_replays l g a0 s0_15 r16 r18 hc19) hZ hP hD hS hA 0 14 rfl (fun _ => rfl) okX9 rfl rfl rfl (fun _ => rfl) ⟨rfl, rfl⟩ ⟨Nat.le_of_ble_eq_true rfl, Nat.le_of_ble_eq_true rfl⟩ ⟨Nat.le_refl _, Nat.le_refl _⟩ (Nat.le_of_ble_eq_true rfl) dX9_replay_157 (fun _ H locs hP hD hS => ?_)
            refine lv_aload_n hx hb dX9_replay_160 rfl (lv_at hl 0 rfl) ?_
            refine lv_iconst hx hb dX9_replay_161 kci_1 ?_
            refine lv_iconst hx hb dX9_replay_162 kci_m1 ?_
            obtain ⟨r20, hc21, hf⟩ := gbd hf
            refine gm_callV1 (As := [.int (1 : Int32), .int (-1 : Int32)]) (rest := []) (st1 := fun _ => [.int (r20.1)]) (ws' := fun _ => (Mo_c g a0 (r20.2))) hE hl.1 ml_X9_330 (c_X9_finds l g a0 r18 (1 : Int32) (-1 : Int32) r20 hc21) hZ hP hD hS hA 0 14 rfl (fun _ => rfl) okX9 rfl rfl rfl (fun _ => rfl) ⟨rfl, rfl⟩ ⟨Nat.le_of_ble_eq_true rfl, Nat.le_of_ble_eq_true rfl⟩ ⟨Nat.le_refl _, Nat.le_refl _⟩ (Nat.le_of_ble_eq_true rfl) dX9_replay_163 (fun _ H locs hP hD hS => ?_)
            refine lv_istore hx hb dX9_replay_166 hl (by decide) (lv' := [(5, .int (r20.1)), (0, .ref (a0 0)), (2, .int p2)]) rfl (fun ls hl => ?_)
            refine lv_aload_n hx hb dX9_replay_168 rfl (lv_at hl 1 rfl) ?_
            refine lv_iload_n hx hb dX9_replay_169 rfl (lv_at hl 2 rfl) ?_
            refine lv_if_ne hx hb dX9_replay_170 (tgt := 183) rfl (fun h22 => ?_) (fun h22 => ?_)
            · have hf := gif_f h22 hf
              refine lv_iload_n hx hb dX9_replay_183 rfl (lv_at hl 2 rfl) ?_
              refine lv_iconst hx hb dX9_replay_184 kci_1 ?_
              refine lv_icmp_ne hx hb dX9_replay_185 (tgt := 193) rfl (fun h23 => ?_) (fun h23 => ?_)
              · have hf := gif_f h23 hf
                refine lv_aload_n hx hb dX9_replay_193 rfl (lv_at hl 1 rfl) ?_
                refine g_get hE okX9 fl_X9_318 hP 0 rfl (v := .int (Mo_sumSent (r20.2))) rfl dX9_replay_194 ?_
                obtain ⟨r24, hc25, hf⟩ := gbd hf
                refine gm_callV1 (As := [.int (Mo_sumSent (r20.2))]) (rest := []) (st1 := fun _ => [.int (r24.1)]) (ws' := fun _ => (Mo_c g a0 (r24.2))) hE hl.1 ml_X9_230 (c_X9_good l g a0 (r20.2) (Mo_sumSent (r20.2)) r24 hc25) hZ hP hD hS hA 0 14 rfl (fun _ => rfl) okX9 rfl rfl rfl (fun _ => rfl) ⟨rfl, rfl⟩ ⟨Nat.le_of_ble_eq_true rfl, Nat.le_of_ble_eq_true rfl⟩ ⟨Nat.le_refl _, Nat.le_refl _⟩ (Nat.le_of_ble_eq_true rfl) dX9_replay_197 (fun _ H locs hP hD hS => ?_)
                cases hf
                exact hq () rfl hP hD hS dX9_replay_200
              · have hf := gif_t h23 hf
                refine lv_iload hx hb dX9_replay_188 (lv_at hl 0 rfl) ?_
                refine lv_goto hx hb dX9_replay_190 (tgt := 197) rfl ?_
                obtain ⟨r26, hc27, hf⟩ := gbd hf
                refine gm_callV1 (As := [.int (r20.1)]) (rest := []) (st1 := fun _ => [.int (r26.1)]) (ws' := fun _ => (Mo_c g a0 (r26.2))) hE hl.1 ml_X9_230 (c_X9_good l g a0 (r20.2) (r20.1) r26 hc27) hZ hP hD hS hA 0 14 rfl (fun _ => rfl) okX9 rfl rfl rfl (fun _ => rfl) ⟨rfl, rfl⟩ ⟨Nat.le_of_ble_eq_true rfl, Nat.le_of_ble_eq_true rfl⟩ ⟨Nat.le_refl _, Nat.le_refl _⟩ (Nat.le_of_ble_eq_true rfl) dX9_replay_197 (fun _ H locs hP hD hS => ?_)
                cases hf
                exact hq () rfl hP hD hS dX9_replay_200
            · have hf := gif_t h22 hf
              refine lv_aload_n hx hb dX9_replay_173 rfl (lv_at hl 1 rfl) ?_
              refine lv_iconst hx hb dX9_replay_174 kci_1 ?_
              refine lv_bipush hx hb dX9_replay_175 kcb_11 ?_
              obtain ⟨r28, hc29, hf⟩ := gbd hf
              refine gr_callV (As := [.int (1 : Int32), .int (11 : Int32)]) (rest := [.ref (a0 0)]) (st1 := [.int r28, .ref (a0 0)]) hE hl.1 ml_X9_200 (c_X9_get l g a0 (r20.2) (1 : Int32) (11 : Int32) r28 hc29) hZ hS hP [(0, 14)] rfl okX9 rfl rfl rfl rfl ⟨rfl, rfl⟩ ⟨Nat.le_of_ble_eq_true rfl, Nat.le_of_ble_eq_true rfl⟩ ⟨Nat.le_refl _, Nat.le_refl _⟩ (Nat.le_of_ble_eq_true rfl) dX9_replay_177 ?_
              refine lv_goto hx hb dX9_replay_180 (tgt := 197) rfl ?_
              obtain ⟨r30, hc31, hf⟩ := gbd hf
              refine gm_callV1 (As := [.int r28]) (rest := []) (st1 := fun _ => [.int (r30.1)]) (ws' := fun _ => (Mo_c g a0 (r30.2))) hE hl.1 ml_X9_230 (c_X9_good l g a0 (r20.2) r28 r30 hc31) hZ hP hD hS hA 0 14 rfl (fun _ => rfl) okX9 rfl rfl rfl (fun _ => rfl) ⟨rfl, rfl⟩ ⟨Nat.le_of_ble_eq_true rfl, Nat.le_of_ble_eq_true rfl⟩ ⟨Nat.le_refl _, Nat.le_refl _⟩ (Nat.le_of_ble_eq_true rfl) dX9_replay_197 (fun _ H locs hP hD hS => ?_)
              cases hf
              exact hq () rfl hP hD hS dX9_replay_200
          have lpn36 : ∀ (n36 : Nat) (x4_32 : Int32) (x5_33 : Int32) (s0_34 : MoT) (ls : Array Slot) (H : Heap) (locs : List Loc), f_X9_replay_L84_35 K14 n36 x4_32 x5_33 s0_34 = some res → lv_has ls 8 [(0, .ref (a0 0)), (2, .int p2), (4, .int x4_32), (5, .int x5_33)] → gP g (Mo_c g a0 s0_34) H → va_D A (Mo_c g a0 s0_34) → va_S A s.heap H locs → W p l e rm_X9_replay s m args below meth c H locs 0 0 Q (F0 m 84 ls []) := by
            intro n36
            induction n36 with
            | zero => intro x4_32 x5_33 s0_34 ls H locs hf hl hP hD hS; rw [f_X9_replay_L84_35] at hf; cases hf
            | succ n36 ihn36 =>
              intro x4_32 x5_33 s0_34 ls H locs hf hl hP hD hS
              rw [f_X9_replay_L84_35] at hf
              refine lv_iload hx hb dX9_replay_84 (lv_at hl 3 rfl) ?_
              refine lv_if_le hx hb dX9_replay_86 (tgt := 150) rfl (fun h37 => ?_) (fun h37 => ?_)
              · have hf := gif_t h37 hf
                exact kK14 s0_34 ls H locs hf (lv_sub hl [0, 1] rfl) hP hD hS
              · have hf := gif_f h37 hf
                refine lv_bipush hx hb dX9_replay_89 kcb_75 ?_
                refine lv_iload hx hb dX9_replay_91 (lv_at hl 2 rfl) ?_
                refine lv_imul hx hb dX9_replay_93 ?_
                refine lv_bipush hx hb dX9_replay_94 kcb_74 ?_
                refine lv_iadd hx hb dX9_replay_96 ?_
                refine g_ldcw hE kd_X9_385 dX9_replay_97 ?_
                refine lv_irem hx hb dX9_replay_100 kne_65537 ?_
                refine lv_istore hx hb dX9_replay_101 hl (by decide) (lv' := [(4, .int (irem (((75 : Int32) * x4_32) + (74 : Int32)) (65537 : Int32))), (0, .ref (a0 0)), (2, .int p2), (5, .int x5_33)]) rfl (fun ls hl => ?_)
                refine lv_iload hx hb dX9_replay_103 (lv_at hl 0 rfl) ?_
                refine lv_iload hx hb dX9_replay_105 (lv_at hl 3 rfl) ?_
                refine lv_iconst hx hb dX9_replay_107 kci_1 ?_
                refine lv_iadd hx hb dX9_replay_108 ?_
                obtain ⟨hg38, hf⟩ := ggd hf
                refine lv_irem hx hb dX9_replay_109 hg38 ?_
                refine lv_istore hx hb dX9_replay_110 hl (by decide) (lv' := [(6, .int (irem (irem (((75 : Int32) * x4_32) + (74 : Int32)) (65537 : Int32)) (x5_33 + (1 : Int32)))), (4, .int (irem (((75 : Int32) * x4_32) + (74 : Int32)) (65537 : Int32))), (0, .ref (a0 0)), (2, .int p2), (5, .int x5_33)]) rfl (fun ls hl => ?_)
                refine lv_aload_n hx hb dX9_replay_112 rfl (lv_at hl 2 rfl) ?_
                refine g_get hE okX9 fl_X9_52 hP 0 rfl (v := .ref (a0 13)) rfl dX9_replay_113 ?_
                refine lv_iload hx hb dX9_replay_116 (lv_at hl 4 rfl) ?_
                obtain ⟨hg39, hf⟩ := ggd hf
                refine g_iald hE hP 13 (f := (Mo_order s0_34)) rfl hg39 dX9_replay_118 ?_
                refine lv_istore hx hb dX9_replay_119 hl (by decide) (lv' := [(7, .int ((Mo_order s0_34) (ix x5_33))), (6, .int (irem (irem (((75 : Int32) * x4_32) + (74 : Int32)) (65537 : Int32)) (x5_33 + (1 : Int32)))), (4, .int (irem (((75 : Int32) * x4_32) + (74 : Int32)) (65537 : Int32))), (0, .ref (a0 0)), (2, .int p2), (5, .int x5_33)]) rfl (fun ls hl => ?_)
                refine lv_aload_n hx hb dX9_replay_121 rfl (lv_at hl 3 rfl) ?_
                refine g_get hE okX9 fl_X9_52 hP 0 rfl (v := .ref (a0 13)) rfl dX9_replay_122 ?_
                refine lv_iload hx hb dX9_replay_125 (lv_at hl 5 rfl) ?_
                refine lv_aload_n hx hb dX9_replay_127 rfl (lv_at hl 3 rfl) ?_
                refine g_get hE okX9 fl_X9_52 hP 0 rfl (v := .ref (a0 13)) rfl dX9_replay_128 ?_
                refine lv_iload hx hb dX9_replay_131 (lv_at hl 1 rfl) ?_
                obtain ⟨hg40, hf⟩ := ggd hf
                refine g_iald hE hP 13 (f := (Mo_order s0_34)) rfl hg40 dX9_replay_133 ?_
                obtain ⟨hg41, hf⟩ := ggd hf
                refine g_iast hE hP hD hS 13 (f := (Mo_order s0_34)) rfl hg41 (Mo_c g a0 (Mo_w_order s0_34 (upd (Mo_order s0_34) (ix x5_33) ((Mo_order s0_34) (ix (irem (irem (((75 : Int32) * x4_32) + (74 : Int32)) (65537 : Int32)) (x5_33 + (1 : Int32)))))))) rfl dX9_replay_134 (fun H locs hP hD hS => ?_)
                refine lv_aload_n hx hb dX9_replay_135 rfl (lv_at hl 3 rfl) ?_
                refine g_get hE okX9 fl_X9_52 hP 0 rfl (v := .ref (a0 13)) rfl dX9_replay_136 ?_
                refine lv_iload hx hb dX9_replay_139 (lv_at hl 1 rfl) ?_
                refine lv_iload hx hb dX9_replay_141 (lv_at hl 0 rfl) ?_
                obtain ⟨hg42, hf⟩ := ggd hf
                refine g_iast hE hP hD hS 13 (f := (upd (Mo_order s0_34) (ix x5_33) ((Mo_order s0_34) (ix (irem (irem (((75 : Int32) * x4_32) + (74 : Int32)) (65537 : Int32)) (x5_33 + (1 : Int32))))))) rfl hg42 (Mo_c g a0 (Mo_w_order s0_34 (upd (upd (Mo_order s0_34) (ix x5_33) ((Mo_order s0_34) (ix (irem (irem (((75 : Int32) * x4_32) + (74 : Int32)) (65537 : Int32)) (x5_33 + (1 : Int32)))))) (ix (irem (irem (((75 : Int32) * x4_32) + (74 : Int32)) (65537 : Int32)) (x5_33 + (1 : Int32)))) ((Mo_order s0_34) (ix x5_33))))) rfl dX9_replay_143 (fun H locs hP hD hS => ?_)
                refine lv_iinc hx hb dX9_replay_144 hl (k := 5) (x := x5_33) rfl (kinc_m1 _) (by decide) (lv' := [(5, .int (x5_33 + (-1 : Int32))), (7, .int ((Mo_order s0_34) (ix x5_33))), (6, .int (irem (irem (((75 : Int32) * x4_32) + (74 : Int32)) (65537 : Int32)) (x5_33 + (1 : Int32)))), (4, .int (irem (((75 : Int32) * x4_32) + (74 : Int32)) (65537 : Int32))), (0, .ref (a0 0)), (2, .int p2)]) rfl (fun ls hl => ?_)
                refine lv_goto hx hb dX9_replay_147 (tgt := 84) rfl ?_
                exact ihn36 (irem (((75 : Int32) * x4_32) + (74 : Int32)) (65537 : Int32)) (x5_33 + (-1 : Int32)) (Mo_w_order s0_34 (upd (upd (Mo_order s0_34) (ix x5_33) ((Mo_order s0_34) (ix (irem (irem (((75 : Int32) * x4_32) + (74 : Int32)) (65537 : Int32)) (x5_33 + (1 : Int32)))))) (ix (irem (irem (((75 : Int32) * x4_32) + (74 : Int32)) (65537 : Int32)) (x5_33 + (1 : Int32)))) ((Mo_order s0_34) (ix x5_33)))) ls H locs hf (lv_sub hl [4, 5, 3, 0] rfl) hP hD hS
          exact lpn36 10000 p1 (r10 - (1 : Int32)) s0_13 ls H locs hf (lv_sub hl [2, 4, 1, 0] rfl) hP hD hS
        have lpn46 : ∀ (n46 : Nat) (x4_43 : Int32) (s0_44 : MoT) (ls : Array Slot) (H : Heap) (locs : List Loc), f_X9_replay_L55_45 r10 K12 n46 x4_43 s0_44 = some res → lv_has ls 8 [(0, .ref (a0 0)), (1, .int p1), (2, .int p2), (3, .int r10), (4, .int x4_43)] → gP g (Mo_c g a0 s0_44) H → va_D A (Mo_c g a0 s0_44) → va_S A s.heap H locs → W p l e rm_X9_replay s m args below meth c H locs 0 0 Q (F0 m 55 ls []) := by
          intro n46
          induction n46 with
          | zero => intro x4_43 s0_44 ls H locs hf hl hP hD hS; rw [f_X9_replay_L55_45] at hf; cases hf
          | succ n46 ihn46 =>
            intro x4_43 s0_44 ls H locs hf hl hP hD hS
            rw [f_X9_replay_L55_45] at hf
            refine lv_iload hx hb dX9_replay_55 (lv_at hl 4 rfl) ?_
            refine lv_iload_n hx hb dX9_replay_57 rfl (lv_at hl 3 rfl) ?_
            refine lv_icmp_ge hx hb dX9_replay_58 (tgt := 76) rfl (fun h47 => ?_) (fun h47 => ?_)
            · have hf := gif_t h47 hf
              exact kK12 s0_44 ls H locs hf (lv_sub hl [0, 1, 2, 3] rfl) hP hD hS
            · have hf := gif_f h47 hf
              refine lv_aload_n hx hb dX9_replay_61 rfl (lv_at hl 0 rfl) ?_
              refine g_get hE okX9 fl_X9_52 hP 0 rfl (v := .ref (a0 13)) rfl dX9_replay_62 ?_
              refine lv_iload hx hb dX9_replay_65 (lv_at hl 4 rfl) ?_
              refine lv_iload hx hb dX9_replay_67 (lv_at hl 4 rfl) ?_
              obtain ⟨hg48, hf⟩ := ggd hf
              refine g_iast hE hP hD hS 13 (f := (Mo_order s0_44)) rfl hg48 (Mo_c g a0 (Mo_w_order s0_44 (upd (Mo_order s0_44) (ix x4_43) x4_43))) rfl dX9_replay_69 (fun H locs hP hD hS => ?_)
              refine lv_iinc hx hb dX9_replay_70 hl (k := 4) (x := x4_43) rfl (kinc_1 _) (by decide) (lv' := [(4, .int (x4_43 + (1 : Int32))), (0, .ref (a0 0)), (1, .int p1), (2, .int p2), (3, .int r10)]) rfl (fun ls hl => ?_)
              refine lv_goto hx hb dX9_replay_73 (tgt := 55) rfl ?_
              exact ihn46 (x4_43 + (1 : Int32)) (Mo_w_order s0_44 (upd (Mo_order s0_44) (ix x4_43) x4_43)) ls H locs hf (lv_sub hl [1, 2, 3, 4, 0] rfl) hP hD hS
        exact lpn46 10000 (0 : Int32) (Mo_w_thrown s0 (0 : Int32)) ls H locs hf (lv_sub hl [2, 3, 4, 1, 0] rfl) hP hD hS
      · have hf := gif_t h9 hf
        refine lv_aload_n hx hb dX9_replay_38 rfl (lv_at hl 0 rfl) ?_
        refine lv_iconst hx hb dX9_replay_39 kci_2 ?_
        obtain ⟨r49, hc50, hf⟩ := gbd hf
        refine gm_callV1 (As := [.int (2 : Int32)]) (rest := []) (st1 := fun _ => [.int (r49.1)]) (ws' := fun _ => (Mo_c g a0 (r49.2))) hE hl.1 ml_X9_306 (c_X9_refusedLow l g a0 (Mo_w_thrown s0 (0 : Int32)) (2 : Int32) r49 hc50) hZ hP hD hS hA 0 14 rfl (fun _ => rfl) okX9 rfl rfl rfl (fun _ => rfl) ⟨rfl, rfl⟩ ⟨Nat.le_of_ble_eq_true rfl, Nat.le_of_ble_eq_true rfl⟩ ⟨Nat.le_refl _, Nat.le_refl _⟩ (Nat.le_of_ble_eq_true rfl) dX9_replay_40 (fun _ H locs hP hD hS => ?_)
        cases hf
        exact hq () rfl hP hD hS dX9_replay_43
    · have hf := gif_t h6 hf
      refine lv_aload_n hx hb dX9_replay_21 rfl (lv_at hl 0 rfl) ?_
      refine lv_iconst hx hb dX9_replay_22 kci_1 ?_
      obtain ⟨r51, hc52, hf⟩ := gbd hf
      refine gm_callV1 (As := [.int (1 : Int32)]) (rest := []) (st1 := fun _ => [.int (r51.1)]) (ws' := fun _ => (Mo_c g a0 (r51.2))) hE hl.1 ml_X9_306 (c_X9_refusedLow l g a0 (Mo_w_thrown s0 (0 : Int32)) (1 : Int32) r51 hc52) hZ hP hD hS hA 0 14 rfl (fun _ => rfl) okX9 rfl rfl rfl (fun _ => rfl) ⟨rfl, rfl⟩ ⟨Nat.le_of_ble_eq_true rfl, Nat.le_of_ble_eq_true rfl⟩ ⟨Nat.le_refl _, Nat.le_refl _⟩ (Nat.le_of_ble_eq_true rfl) dX9_replay_23 (fun _ H locs hP hD hS => ?_)
      cases hf
      exact hq () rfl hP hD hS dX9_replay_26
theorem dX9_cost_0 : decode cX9_cost 0 = .ok (.aload_n 0, 1) := by decide +kernel
theorem dX9_cost_1 : decode cX9_cost 1 = .ok (.iconst 0, 1) := by decide +kernel
theorem dX9_cost_2 : decode cX9_cost 2 = .ok (.putfield 55, 3) := by decide +kernel
theorem dX9_cost_5 : decode cX9_cost 5 = .ok (.aload_n 0, 1) := by decide +kernel
theorem dX9_cost_6 : decode cX9_cost 6 = .ok (.getfield 218, 3) := by decide +kernel
theorem dX9_cost_9 : decode cX9_cost 9 = .ok (.ifCond .ne 9, 3) := by decide +kernel
theorem dX9_cost_12 : decode cX9_cost 12 = .ok (.aload_n 0, 1) := by decide +kernel
theorem dX9_cost_13 : decode cX9_cost 13 = .ok (.iconst 1, 1) := by decide +kernel
theorem dX9_cost_14 : decode cX9_cost 14 = .ok (.invokevirtual 61, 3) := by decide +kernel
theorem dX9_cost_17 : decode cX9_cost 17 = .ok (.ireturn, 1) := by decide +kernel
theorem dX9_cost_18 : decode cX9_cost 18 = .ok (.iload_n 1, 1) := by decide +kernel
theorem dX9_cost_19 : decode cX9_cost 19 = .ok (.iconst 0, 1) := by decide +kernel
theorem dX9_cost_20 : decode cX9_cost 20 = .ok (.iconst 3, 1) := by decide +kernel
theorem dX9_cost_21 : decode cX9_cost 21 = .ok (.invokestatic 90, 3) := by decide +kernel
theorem dX9_cost_24 : decode cX9_cost 24 = .ok (.ifCond .ne 9, 3) := by decide +kernel
theorem dX9_cost_27 : decode cX9_cost 27 = .ok (.aload_n 0, 1) := by decide +kernel
theorem dX9_cost_28 : decode cX9_cost 28 = .ok (.iconst 2, 1) := by decide +kernel
theorem dX9_cost_29 : decode cX9_cost 29 = .ok (.invokevirtual 61, 3) := by decide +kernel
theorem dX9_cost_32 : decode cX9_cost 32 = .ok (.ireturn, 1) := by decide +kernel
theorem dX9_cost_33 : decode cX9_cost 33 = .ok (.iconst 0, 1) := by decide +kernel
theorem dX9_cost_34 : decode cX9_cost 34 = .ok (.istore_n 2, 1) := by decide +kernel
theorem dX9_cost_35 : decode cX9_cost 35 = .ok (.iload_n 2, 1) := by decide +kernel
theorem dX9_cost_36 : decode cX9_cost 36 = .ok (.bipush 60, 2) := by decide +kernel
theorem dX9_cost_38 : decode cX9_cost 38 = .ok (.if_icmp .ge 16, 3) := by decide +kernel
theorem dX9_cost_41 : decode cX9_cost 41 = .ok (.aload_n 0, 1) := by decide +kernel
theorem dX9_cost_42 : decode cX9_cost 42 = .ok (.getfield 52, 3) := by decide +kernel
theorem dX9_cost_45 : decode cX9_cost 45 = .ok (.iload_n 2, 1) := by decide +kernel
theorem dX9_cost_46 : decode cX9_cost 46 = .ok (.iload_n 2, 1) := by decide +kernel
theorem dX9_cost_47 : decode cX9_cost 47 = .ok (.iastore, 1) := by decide +kernel
theorem dX9_cost_48 : decode cX9_cost 48 = .ok (.iinc 2 1, 3) := by decide +kernel
theorem dX9_cost_51 : decode cX9_cost 51 = .ok (.goto (-16), 3) := by decide +kernel
theorem dX9_cost_54 : decode cX9_cost 54 = .ok (.aload_n 0, 1) := by decide +kernel
theorem dX9_cost_55 : decode cX9_cost 55 = .ok (.iload_n 1, 1) := by decide +kernel
theorem dX9_cost_56 : decode cX9_cost 56 = .ok (.invokevirtual 386, 3) := by decide +kernel
theorem dX9_cost_59 : decode cX9_cost 59 = .ok (.aload_n 0, 1) := by decide +kernel
theorem dX9_cost_60 : decode cX9_cost 60 = .ok (.aload_n 0, 1) := by decide +kernel
theorem dX9_cost_61 : decode cX9_cost 61 = .ok (.iconst 1, 1) := by decide +kernel
theorem dX9_cost_62 : decode cX9_cost 62 = .ok (.bipush 11, 2) := by decide +kernel
theorem dX9_cost_64 : decode cX9_cost 64 = .ok (.invokevirtual 200, 3) := by decide +kernel
theorem dX9_cost_67 : decode cX9_cost 67 = .ok (.invokevirtual 230, 3) := by decide +kernel
theorem dX9_cost_70 : decode cX9_cost 70 = .ok (.ireturn, 1) := by decide +kernel
def f_X9_cost_L35_15 (K5 : (MoT → Option (Int32 × MoT))) : Nat → Int32 → MoT → Option (Int32 × MoT)
  | 0, _, _ => none
  | n16 + 1, x2_13, s0_14 => if (60 : Int32) ≤ x2_13 then K5 s0_14
  else if inb x2_13 60 then f_X9_cost_L35_15 K5 n16 (x2_13 + (1 : Int32)) (Mo_w_order s0_14 (upd (Mo_order s0_14) (ix x2_13) x2_13)) else none
def f_X9_cost (s0 : MoT) (p1 : Int32) : Option (Int32 × MoT) :=
  if (Mo_isThere s0) = 0 then (f_X9_refused (Mo_w_thrown s0 (0 : Int32)) (1 : Int32)).bind fun r21 =>
  some ((r21.1), (r21.2))
  else (f_X9_in p1 (0 : Int32) (3 : Int32)).bind fun r2 =>
  if r2 = 0 then (f_X9_refused (Mo_w_thrown s0 (0 : Int32)) (2 : Int32)).bind fun r19 =>
  some ((r19.1), (r19.2))
  else glt (fun (s0_6 : MoT) => (f_X9_replays s0_6 p1).bind fun r7 =>
  (f_X9_get r7 (1 : Int32) (11 : Int32)).bind fun r9 =>
  (f_X9_good r7 r9).bind fun r11 =>
  some ((r11.1), (r11.2))) fun K5 =>
  f_X9_cost_L35_15 K5 10000 (0 : Int32) (Mo_w_thrown s0 (0 : Int32))
abbrev rm_X9_cost : Room := { frames := 6, cells := 0, slots := 0, locals := 155 }
set_option maxHeartbeats 4000000 in
set_option maxRecDepth 100000 in
theorem c_X9_cost (l : Launch) (g : GK) (a0 : Nat → Nat) (s0 : MoT) (p1 : Int32) (res : (Int32 × MoT)) (hf : f_X9_cost s0 p1 = some res) : gM l yX9_cost cX9_cost 3 (some .int) rm_X9_cost g [.ref (a0 0), .int p1] (Mo_c g a0 s0) (fun _ : Unit => (some (.int (res.1)))) (fun _ => (Mo_c g a0 (res.2))) 0 0 := by
  refine gM_introI RX9 (by decide) rfl (Nat.le_of_ble_eq_true rfl) (fun p e s m args below meth c Q H locs ls A hE hZ hA hP hD hS hq hl => ?_)
  have hl : lv_has ls 3 [(0, .ref (a0 0)), (1, .int p1)] := hl
  have hx := hE.1
  have hb := hE.2.1
  rw [f_X9_cost] at hf
  refine lv_aload_n hx hb dX9_cost_0 rfl (lv_at hl 0 rfl) ?_
  refine lv_iconst hx hb dX9_cost_1 kci_0 ?_
  refine g_put hE okX9 fl_X9_55 hP hD hS 0 rfl rfl rfl rfl (Nat.le_of_ble_eq_true rfl) (Mo_c g a0 (Mo_w_thrown s0 (0 : Int32))) rfl dX9_cost_2 (fun H locs hP hD hS => ?_)
  refine lv_aload_n hx hb dX9_cost_5 rfl (lv_at hl 0 rfl) ?_
  refine g_get hE okX9 fl_X9_218 hP 0 rfl (v := .int (Mo_isThere s0)) rfl dX9_cost_6 ?_
  refine lv_if_ne hx hb dX9_cost_9 (tgt := 18) rfl (fun h1 => ?_) (fun h1 => ?_)
  · have hf := gif_f h1 hf
    refine lv_iload_n hx hb dX9_cost_18 rfl (lv_at hl 1 rfl) ?_
    refine lv_iconst hx hb dX9_cost_19 kci_0 ?_
    refine lv_iconst hx hb dX9_cost_20 kci_3 ?_
    obtain ⟨r2, hc3, hf⟩ := gbd hf
    refine gr_callS (As := [.int p1, .int (0 : Int32), .int (3 : Int32)]) (rest := []) (st1 := [.int r2]) hE hl.1 ml_X9_90 (c_X9_in l g p1 (0 : Int32) (3 : Int32) r2 hc3) hZ hS hP [] rfl rfl rfl rfl ⟨rfl, rfl⟩ ⟨Nat.le_of_ble_eq_true rfl, Nat.le_of_ble_eq_true rfl⟩ ⟨Nat.le_refl _, Nat.le_refl _⟩ (Nat.le_of_ble_eq_true rfl) dX9_cost_21 ?_
    refine lv_if_ne hx hb dX9_cost_24 (tgt := 33) rfl (fun h4 => ?_) (fun h4 => ?_)
    · have hf := gif_f h4 hf
      refine lv_iconst hx hb dX9_cost_33 kci_0 ?_
      refine lv_istore_n hx hb dX9_cost_34 rfl hl (by decide) (lv' := [(2, .int (0 : Int32)), (0, .ref (a0 0)), (1, .int p1)]) rfl (fun ls hl => ?_)
      obtain ⟨K5, eK5, hf⟩ := gltd hf
      have kK5 : ∀ (s0_6 : MoT) (ls : Array Slot) (H : Heap) (locs : List Loc), K5 s0_6 = some res → lv_has ls 3 [(0, .ref (a0 0)), (1, .int p1)] → gP g (Mo_c g a0 s0_6) H → va_D A (Mo_c g a0 s0_6) → va_S A s.heap H locs → W p l e rm_X9_cost s m args below meth c H locs 0 0 Q (F0 m 54 ls []) := by
        intro s0_6 ls H locs hf hl hP hD hS
        rw [eK5] at hf
        refine lv_aload_n hx hb dX9_cost_54 rfl (lv_at hl 0 rfl) ?_
        refine lv_iload_n hx hb dX9_cost_55 rfl (lv_at hl 1 rfl) ?_
        obtain ⟨r7, hc8, hf⟩ := gbd hf
        refine gm_callV1 (As := [.int p1]) (rest := []) (st1 := fun _ => []) (ws' := fun _ => (Mo_c g a0 r7)) hE hl.1 ml_X9_386 (c_X9_replays l g a0 s0_6 p1 r7 hc8) hZ hP hD hS hA 0 14 rfl (fun _ => rfl) okX9 rfl rfl rfl (fun _ => rfl) ⟨rfl, rfl⟩ ⟨Nat.le_of_ble_eq_true rfl, Nat.le_of_ble_eq_true rfl⟩ ⟨Nat.le_refl _, Nat.le_refl _⟩ (Nat.le_of_ble_eq_true rfl) dX9_cost_56 (fun _ H locs hP hD hS => ?_)
        refine lv_aload_n hx hb dX9_cost_59 rfl (lv_at hl 0 rfl) ?_
        refine lv_aload_n hx hb dX9_cost_60 rfl (lv_at hl 0 rfl) ?_
        refine lv_iconst hx hb dX9_cost_61 kci_1 ?_
        refine lv_bipush hx hb dX9_cost_62 kcb_11 ?_
        obtain ⟨r9, hc10, hf⟩ := gbd hf
        refine gr_callV (As := [.int (1 : Int32), .int (11 : Int32)]) (rest := [.ref (a0 0)]) (st1 := [.int r9, .ref (a0 0)]) hE hl.1 ml_X9_200 (c_X9_get l g a0 r7 (1 : Int32) (11 : Int32) r9 hc10) hZ hS hP [(0, 14)] rfl okX9 rfl rfl rfl rfl ⟨rfl, rfl⟩ ⟨Nat.le_of_ble_eq_true rfl, Nat.le_of_ble_eq_true rfl⟩ ⟨Nat.le_refl _, Nat.le_refl _⟩ (Nat.le_of_ble_eq_true rfl) dX9_cost_64 ?_
        obtain ⟨r11, hc12, hf⟩ := gbd hf
        refine gm_callV1 (As := [.int r9]) (rest := []) (st1 := fun _ => [.int (r11.1)]) (ws' := fun _ => (Mo_c g a0 (r11.2))) hE hl.1 ml_X9_230 (c_X9_good l g a0 r7 r9 r11 hc12) hZ hP hD hS hA 0 14 rfl (fun _ => rfl) okX9 rfl rfl rfl (fun _ => rfl) ⟨rfl, rfl⟩ ⟨Nat.le_of_ble_eq_true rfl, Nat.le_of_ble_eq_true rfl⟩ ⟨Nat.le_refl _, Nat.le_refl _⟩ (Nat.le_of_ble_eq_true rfl) dX9_cost_67 (fun _ H locs hP hD hS => ?_)
        cases hf
        exact hq () rfl hP hD hS dX9_cost_70
      have lpn16 : ∀ (n16 : Nat) (x2_13 : Int32) (s0_14 : MoT) (ls : Array Slot) (H : Heap) (locs : List Loc), f_X9_cost_L35_15 K5 n16 x2_13 s0_14 = some res → lv_has ls 3 [(0, .ref (a0 0)), (1, .int p1), (2, .int x2_13)] → gP g (Mo_c g a0 s0_14) H → va_D A (Mo_c g a0 s0_14) → va_S A s.heap H locs → W p l e rm_X9_cost s m args below meth c H locs 0 0 Q (F0 m 35 ls []) := by
        intro n16
        induction n16 with
        | zero => intro x2_13 s0_14 ls H locs hf hl hP hD hS; rw [f_X9_cost_L35_15] at hf; cases hf
        | succ n16 ihn16 =>
          intro x2_13 s0_14 ls H locs hf hl hP hD hS
          rw [f_X9_cost_L35_15] at hf
          refine lv_iload_n hx hb dX9_cost_35 rfl (lv_at hl 2 rfl) ?_
          refine lv_bipush hx hb dX9_cost_36 kcb_60 ?_
          refine lv_icmp_ge hx hb dX9_cost_38 (tgt := 54) rfl (fun h17 => ?_) (fun h17 => ?_)
          · have hf := gif_t h17 hf
            exact kK5 s0_14 ls H locs hf (lv_sub hl [0, 1] rfl) hP hD hS
          · have hf := gif_f h17 hf
            refine lv_aload_n hx hb dX9_cost_41 rfl (lv_at hl 0 rfl) ?_
            refine g_get hE okX9 fl_X9_52 hP 0 rfl (v := .ref (a0 13)) rfl dX9_cost_42 ?_
            refine lv_iload_n hx hb dX9_cost_45 rfl (lv_at hl 2 rfl) ?_
            refine lv_iload_n hx hb dX9_cost_46 rfl (lv_at hl 2 rfl) ?_
            obtain ⟨hg18, hf⟩ := ggd hf
            refine g_iast hE hP hD hS 13 (f := (Mo_order s0_14)) rfl hg18 (Mo_c g a0 (Mo_w_order s0_14 (upd (Mo_order s0_14) (ix x2_13) x2_13))) rfl dX9_cost_47 (fun H locs hP hD hS => ?_)
            refine lv_iinc hx hb dX9_cost_48 hl (k := 2) (x := x2_13) rfl (kinc_1 _) (by decide) (lv' := [(2, .int (x2_13 + (1 : Int32))), (0, .ref (a0 0)), (1, .int p1)]) rfl (fun ls hl => ?_)
            refine lv_goto hx hb dX9_cost_51 (tgt := 35) rfl ?_
            exact ihn16 (x2_13 + (1 : Int32)) (Mo_w_order s0_14 (upd (Mo_order s0_14) (ix x2_13) x2_13)) ls H locs hf (lv_sub hl [1, 2, 0] rfl) hP hD hS
      exact lpn16 10000 (0 : Int32) (Mo_w_thrown s0 (0 : Int32)) ls H locs hf (lv_sub hl [1, 2, 0] rfl) hP hD hS
    · have hf := gif_t h4 hf
      refine lv_aload_n hx hb dX9_cost_27 rfl (lv_at hl 0 rfl) ?_
      refine lv_iconst hx hb dX9_cost_28 kci_2 ?_
      obtain ⟨r19, hc20, hf⟩ := gbd hf
      refine gm_callV1 (As := [.int (2 : Int32)]) (rest := []) (st1 := fun _ => [.int (r19.1)]) (ws' := fun _ => (Mo_c g a0 (r19.2))) hE hl.1 ml_X9_61 (c_X9_refused l g a0 (Mo_w_thrown s0 (0 : Int32)) (2 : Int32) r19 hc20) hZ hP hD hS hA 0 14 rfl (fun _ => rfl) okX9 rfl rfl rfl (fun _ => rfl) ⟨rfl, rfl⟩ ⟨Nat.le_of_ble_eq_true rfl, Nat.le_of_ble_eq_true rfl⟩ ⟨Nat.le_refl _, Nat.le_refl _⟩ (Nat.le_of_ble_eq_true rfl) dX9_cost_29 (fun _ H locs hP hD hS => ?_)
      cases hf
      exact hq () rfl hP hD hS dX9_cost_32
  · have hf := gif_t h1 hf
    refine lv_aload_n hx hb dX9_cost_12 rfl (lv_at hl 0 rfl) ?_
    refine lv_iconst hx hb dX9_cost_13 kci_1 ?_
    obtain ⟨r21, hc22, hf⟩ := gbd hf
    refine gm_callV1 (As := [.int (1 : Int32)]) (rest := []) (st1 := fun _ => [.int (r21.1)]) (ws' := fun _ => (Mo_c g a0 (r21.2))) hE hl.1 ml_X9_61 (c_X9_refused l g a0 (Mo_w_thrown s0 (0 : Int32)) (1 : Int32) r21 hc22) hZ hP hD hS hA 0 14 rfl (fun _ => rfl) okX9 rfl rfl rfl (fun _ => rfl) ⟨rfl, rfl⟩ ⟨Nat.le_of_ble_eq_true rfl, Nat.le_of_ble_eq_true rfl⟩ ⟨Nat.le_refl _, Nat.le_refl _⟩ (Nat.le_of_ble_eq_true rfl) dX9_cost_14 (fun _ H locs hP hD hS => ?_)
    cases hf
    exact hq () rfl hP hD hS dX9_cost_17
theorem dX9_event_0 : decode cX9_event 0 = .ok (.aload_n 0, 1) := by decide +kernel
theorem dX9_event_1 : decode cX9_event 1 = .ok (.iconst 0, 1) := by decide +kernel
theorem dX9_event_2 : decode cX9_event 2 = .ok (.putfield 55, 3) := by decide +kernel
theorem dX9_event_5 : decode cX9_event 5 = .ok (.aload_n 0, 1) := by decide +kernel
theorem dX9_event_6 : decode cX9_event 6 = .ok (.iload_n 1, 1) := by decide +kernel
theorem dX9_event_7 : decode cX9_event 7 = .ok (.iload_n 2, 1) := by decide +kernel
theorem dX9_event_8 : decode cX9_event 8 = .ok (.iload_n 3, 1) := by decide +kernel
theorem dX9_event_9 : decode cX9_event 9 = .ok (.iload 4, 2) := by decide +kernel
theorem dX9_event_11 : decode cX9_event 11 = .ok (.iload 5, 2) := by decide +kernel
theorem dX9_event_13 : decode cX9_event 13 = .ok (.invokevirtual 377, 3) := by decide +kernel
theorem dX9_event_16 : decode cX9_event 16 = .ok (.istore 6, 2) := by decide +kernel
theorem dX9_event_18 : decode cX9_event 18 = .ok (.iload 6, 2) := by decide +kernel
theorem dX9_event_20 : decode cX9_event 20 = .ok (.ifCond .le 12, 3) := by decide +kernel
theorem dX9_event_23 : decode cX9_event 23 = .ok (.aload_n 0, 1) := by decide +kernel
theorem dX9_event_24 : decode cX9_event 24 = .ok (.iload 6, 2) := by decide +kernel
theorem dX9_event_26 : decode cX9_event 26 = .ok (.invokevirtual 61, 3) := by decide +kernel
theorem dX9_event_29 : decode cX9_event 29 = .ok (.goto 19, 3) := by decide +kernel
theorem dX9_event_32 : decode cX9_event 32 = .ok (.aload_n 0, 1) := by decide +kernel
theorem dX9_event_33 : decode cX9_event 33 = .ok (.aload_n 0, 1) := by decide +kernel
theorem dX9_event_34 : decode cX9_event 34 = .ok (.iconst 0, 1) := by decide +kernel
theorem dX9_event_35 : decode cX9_event 35 = .ok (.iload_n 1, 1) := by decide +kernel
theorem dX9_event_36 : decode cX9_event 36 = .ok (.iload_n 2, 1) := by decide +kernel
theorem dX9_event_37 : decode cX9_event 37 = .ok (.iload_n 3, 1) := by decide +kernel
theorem dX9_event_38 : decode cX9_event 38 = .ok (.iload 4, 2) := by decide +kernel
theorem dX9_event_40 : decode cX9_event 40 = .ok (.iload 5, 2) := by decide +kernel
theorem dX9_event_42 : decode cX9_event 42 = .ok (.invokevirtual 210, 3) := by decide +kernel
theorem dX9_event_45 : decode cX9_event 45 = .ok (.invokevirtual 230, 3) := by decide +kernel
theorem dX9_event_48 : decode cX9_event 48 = .ok (.ireturn, 1) := by decide +kernel
def f_X9_event (s0 : MoT) (p1 : Int32) (p2 : Int32) (p3 : Int32) (p4 : Int32) (p5 : Int32) : Option (Int32 × MoT) :=
  (f_X9_refusesEvent (Mo_w_thrown s0 (0 : Int32)) p1 p2 p3 p4 p5).bind fun r1 =>
  if r1 ≤ 0 then (f_X9_does (Mo_w_thrown s0 (0 : Int32)) (0 : Int32) p1 p2 p3 p4 p5).bind fun r4 =>
  (f_X9_good (r4.2) (r4.1)).bind fun r6 =>
  some ((r6.1), (r6.2))
  else (f_X9_refused (Mo_w_thrown s0 (0 : Int32)) r1).bind fun r8 =>
  some ((r8.1), (r8.2))
abbrev rm_X9_event : Room := { frames := 9, cells := 0, slots := 0, locals := 218 }
set_option maxHeartbeats 4000000 in
set_option maxRecDepth 100000 in
theorem c_X9_event (l : Launch) (g : GK) (a0 : Nat → Nat) (s0 : MoT) (p1 : Int32) (p2 : Int32) (p3 : Int32) (p4 : Int32) (p5 : Int32) (res : (Int32 × MoT)) (hf : f_X9_event s0 p1 p2 p3 p4 p5 = some res) : gM l yX9_event cX9_event 7 (some .int) rm_X9_event g [.ref (a0 0), .int p1, .int p2, .int p3, .int p4, .int p5] (Mo_c g a0 s0) (fun _ : Unit => (some (.int (res.1)))) (fun _ => (Mo_c g a0 (res.2))) 0 0 := by
  refine gM_introI RX9 (by decide) rfl (Nat.le_of_ble_eq_true rfl) (fun p e s m args below meth c Q H locs ls A hE hZ hA hP hD hS hq hl => ?_)
  have hl : lv_has ls 7 [(0, .ref (a0 0)), (1, .int p1), (2, .int p2), (3, .int p3), (4, .int p4), (5, .int p5)] := hl
  have hx := hE.1
  have hb := hE.2.1
  rw [f_X9_event] at hf
  refine lv_aload_n hx hb dX9_event_0 rfl (lv_at hl 0 rfl) ?_
  refine lv_iconst hx hb dX9_event_1 kci_0 ?_
  refine g_put hE okX9 fl_X9_55 hP hD hS 0 rfl rfl rfl rfl (Nat.le_of_ble_eq_true rfl) (Mo_c g a0 (Mo_w_thrown s0 (0 : Int32))) rfl dX9_event_2 (fun H locs hP hD hS => ?_)
  refine lv_aload_n hx hb dX9_event_5 rfl (lv_at hl 0 rfl) ?_
  refine lv_iload_n hx hb dX9_event_6 rfl (lv_at hl 1 rfl) ?_
  refine lv_iload_n hx hb dX9_event_7 rfl (lv_at hl 2 rfl) ?_
  refine lv_iload_n hx hb dX9_event_8 rfl (lv_at hl 3 rfl) ?_
  refine lv_iload hx hb dX9_event_9 (lv_at hl 4 rfl) ?_
  refine lv_iload hx hb dX9_event_11 (lv_at hl 5 rfl) ?_
  obtain ⟨r1, hc2, hf⟩ := gbd hf
  refine gr_callV (As := [.int p1, .int p2, .int p3, .int p4, .int p5]) (rest := []) (st1 := [.int r1]) hE hl.1 ml_X9_377 (c_X9_refusesEvent l g a0 (Mo_w_thrown s0 (0 : Int32)) p1 p2 p3 p4 p5 r1 hc2) hZ hS hP [(0, 14)] rfl okX9 rfl rfl rfl rfl ⟨rfl, rfl⟩ ⟨Nat.le_of_ble_eq_true rfl, Nat.le_of_ble_eq_true rfl⟩ ⟨Nat.le_refl _, Nat.le_refl _⟩ (Nat.le_of_ble_eq_true rfl) dX9_event_13 ?_
  refine lv_istore hx hb dX9_event_16 hl (by decide) (lv' := [(6, .int r1), (0, .ref (a0 0)), (1, .int p1), (2, .int p2), (3, .int p3), (4, .int p4), (5, .int p5)]) rfl (fun ls hl => ?_)
  refine lv_iload hx hb dX9_event_18 (lv_at hl 0 rfl) ?_
  refine lv_if_le hx hb dX9_event_20 (tgt := 32) rfl (fun h3 => ?_) (fun h3 => ?_)
  · have hf := gif_t h3 hf
    refine lv_aload_n hx hb dX9_event_32 rfl (lv_at hl 1 rfl) ?_
    refine lv_aload_n hx hb dX9_event_33 rfl (lv_at hl 1 rfl) ?_
    refine lv_iconst hx hb dX9_event_34 kci_0 ?_
    refine lv_iload_n hx hb dX9_event_35 rfl (lv_at hl 2 rfl) ?_
    refine lv_iload_n hx hb dX9_event_36 rfl (lv_at hl 3 rfl) ?_
    refine lv_iload_n hx hb dX9_event_37 rfl (lv_at hl 4 rfl) ?_
    refine lv_iload hx hb dX9_event_38 (lv_at hl 5 rfl) ?_
    refine lv_iload hx hb dX9_event_40 (lv_at hl 6 rfl) ?_
    obtain ⟨r4, hc5, hf⟩ := gbd hf
    refine gm_callV1 (As := [.int (0 : Int32), .int p1, .int p2, .int p3, .int p4, .int p5]) (rest := [.ref (a0 0)]) (st1 := fun _ => [.int (r4.1), .ref (a0 0)]) (ws' := fun _ => (Mo_c g a0 (r4.2))) hE hl.1 ml_X9_210 (c_X9_does l g a0 (Mo_w_thrown s0 (0 : Int32)) (0 : Int32) p1 p2 p3 p4 p5 r4 hc5) hZ hP hD hS hA 0 14 rfl (fun _ => rfl) okX9 rfl rfl rfl (fun _ => rfl) ⟨rfl, rfl⟩ ⟨Nat.le_of_ble_eq_true rfl, Nat.le_of_ble_eq_true rfl⟩ ⟨Nat.le_refl _, Nat.le_refl _⟩ (Nat.le_of_ble_eq_true rfl) dX9_event_42 (fun _ H locs hP hD hS => ?_)
    obtain ⟨r6, hc7, hf⟩ := gbd hf
    refine gm_callV1 (As := [.int (r4.1)]) (rest := []) (st1 := fun _ => [.int (r6.1)]) (ws' := fun _ => (Mo_c g a0 (r6.2))) hE hl.1 ml_X9_230 (c_X9_good l g a0 (r4.2) (r4.1) r6 hc7) hZ hP hD hS hA 0 14 rfl (fun _ => rfl) okX9 rfl rfl rfl (fun _ => rfl) ⟨rfl, rfl⟩ ⟨Nat.le_of_ble_eq_true rfl, Nat.le_of_ble_eq_true rfl⟩ ⟨Nat.le_refl _, Nat.le_refl _⟩ (Nat.le_of_ble_eq_true rfl) dX9_event_45 (fun _ H locs hP hD hS => ?_)
    cases hf
    exact hq () rfl hP hD hS dX9_event_48
  · have hf := gif_f h3 hf
    refine lv_aload_n hx hb dX9_event_23 rfl (lv_at hl 1 rfl) ?_
    refine lv_iload hx hb dX9_event_24 (lv_at hl 0 rfl) ?_
    obtain ⟨r8, hc9, hf⟩ := gbd hf
    refine gm_callV1 (As := [.int r1]) (rest := []) (st1 := fun _ => [.int (r8.1)]) (ws' := fun _ => (Mo_c g a0 (r8.2))) hE hl.1 ml_X9_61 (c_X9_refused l g a0 (Mo_w_thrown s0 (0 : Int32)) r1 r8 hc9) hZ hP hD hS hA 0 14 rfl (fun _ => rfl) okX9 rfl rfl rfl (fun _ => rfl) ⟨rfl, rfl⟩ ⟨Nat.le_of_ble_eq_true rfl, Nat.le_of_ble_eq_true rfl⟩ ⟨Nat.le_refl _, Nat.le_refl _⟩ (Nat.le_of_ble_eq_true rfl) dX9_event_26 (fun _ H locs hP hD hS => ?_)
    refine lv_goto hx hb dX9_event_29 (tgt := 48) rfl ?_
    cases hf
    exact hq () rfl hP hD hS dX9_event_48
theorem dX9_tick_0 : decode cX9_tick 0 = .ok (.aload_n 0, 1) := by decide +kernel
theorem dX9_tick_1 : decode cX9_tick 1 = .ok (.iconst 0, 1) := by decide +kernel
theorem dX9_tick_2 : decode cX9_tick 2 = .ok (.putfield 55, 3) := by decide +kernel
theorem dX9_tick_5 : decode cX9_tick 5 = .ok (.aload_n 0, 1) := by decide +kernel
theorem dX9_tick_6 : decode cX9_tick 6 = .ok (.getfield 218, 3) := by decide +kernel
theorem dX9_tick_9 : decode cX9_tick 9 = .ok (.ifCond .ne 9, 3) := by decide +kernel
theorem dX9_tick_12 : decode cX9_tick 12 = .ok (.aload_n 0, 1) := by decide +kernel
theorem dX9_tick_13 : decode cX9_tick 13 = .ok (.iconst 1, 1) := by decide +kernel
theorem dX9_tick_14 : decode cX9_tick 14 = .ok (.invokevirtual 61, 3) := by decide +kernel
theorem dX9_tick_17 : decode cX9_tick 17 = .ok (.ireturn, 1) := by decide +kernel
theorem dX9_tick_18 : decode cX9_tick 18 = .ok (.iload_n 1, 1) := by decide +kernel
theorem dX9_tick_19 : decode cX9_tick 19 = .ok (.iconst 0, 1) := by decide +kernel
theorem dX9_tick_20 : decode cX9_tick 20 = .ok (.sipush 9999, 3) := by decide +kernel
theorem dX9_tick_23 : decode cX9_tick 23 = .ok (.invokestatic 90, 3) := by decide +kernel
theorem dX9_tick_26 : decode cX9_tick 26 = .ok (.ifCond .eq 16, 3) := by decide +kernel
theorem dX9_tick_29 : decode cX9_tick 29 = .ok (.aload_n 0, 1) := by decide +kernel
theorem dX9_tick_30 : decode cX9_tick 30 = .ok (.aload_n 0, 1) := by decide +kernel
theorem dX9_tick_31 : decode cX9_tick 31 = .ok (.iconst 0, 1) := by decide +kernel
theorem dX9_tick_32 : decode cX9_tick 32 = .ok (.iload_n 1, 1) := by decide +kernel
theorem dX9_tick_33 : decode cX9_tick 33 = .ok (.invokevirtual 207, 3) := by decide +kernel
theorem dX9_tick_36 : decode cX9_tick 36 = .ok (.invokevirtual 230, 3) := by decide +kernel
theorem dX9_tick_39 : decode cX9_tick 39 = .ok (.goto 8, 3) := by decide +kernel
theorem dX9_tick_42 : decode cX9_tick 42 = .ok (.aload_n 0, 1) := by decide +kernel
theorem dX9_tick_43 : decode cX9_tick 43 = .ok (.iconst 2, 1) := by decide +kernel
theorem dX9_tick_44 : decode cX9_tick 44 = .ok (.invokevirtual 61, 3) := by decide +kernel
theorem dX9_tick_47 : decode cX9_tick 47 = .ok (.ireturn, 1) := by decide +kernel
def f_X9_tick (s0 : MoT) (p1 : Int32) : Option (Int32 × MoT) :=
  if (Mo_isThere s0) = 0 then (f_X9_refused (Mo_w_thrown s0 (0 : Int32)) (1 : Int32)).bind fun r11 =>
  some ((r11.1), (r11.2))
  else (f_X9_in p1 (0 : Int32) (9999 : Int32)).bind fun r2 =>
  if r2 = 0 then (f_X9_refused (Mo_w_thrown s0 (0 : Int32)) (2 : Int32)).bind fun r5 =>
  some ((r5.1), (r5.2))
  else (f_X9_ticks (Mo_w_thrown s0 (0 : Int32)) (0 : Int32) p1).bind fun r7 =>
  (f_X9_good (r7.2) (r7.1)).bind fun r9 =>
  some ((r9.1), (r9.2))
abbrev rm_X9_tick : Room := { frames := 8, cells := 0, slots := 0, locals := 191 }
set_option maxHeartbeats 4000000 in
set_option maxRecDepth 100000 in
theorem c_X9_tick (l : Launch) (g : GK) (a0 : Nat → Nat) (s0 : MoT) (p1 : Int32) (res : (Int32 × MoT)) (hf : f_X9_tick s0 p1 = some res) : gM l yX9_tick cX9_tick 2 (some .int) rm_X9_tick g [.ref (a0 0), .int p1] (Mo_c g a0 s0) (fun _ : Unit => (some (.int (res.1)))) (fun _ => (Mo_c g a0 (res.2))) 0 0 := by
  refine gM_introI RX9 (by decide) rfl (Nat.le_of_ble_eq_true rfl) (fun p e s m args below meth c Q H locs ls A hE hZ hA hP hD hS hq hl => ?_)
  have hl : lv_has ls 2 [(0, .ref (a0 0)), (1, .int p1)] := hl
  have hx := hE.1
  have hb := hE.2.1
  rw [f_X9_tick] at hf
  refine lv_aload_n hx hb dX9_tick_0 rfl (lv_at hl 0 rfl) ?_
  refine lv_iconst hx hb dX9_tick_1 kci_0 ?_
  refine g_put hE okX9 fl_X9_55 hP hD hS 0 rfl rfl rfl rfl (Nat.le_of_ble_eq_true rfl) (Mo_c g a0 (Mo_w_thrown s0 (0 : Int32))) rfl dX9_tick_2 (fun H locs hP hD hS => ?_)
  refine lv_aload_n hx hb dX9_tick_5 rfl (lv_at hl 0 rfl) ?_
  refine g_get hE okX9 fl_X9_218 hP 0 rfl (v := .int (Mo_isThere s0)) rfl dX9_tick_6 ?_
  refine lv_if_ne hx hb dX9_tick_9 (tgt := 18) rfl (fun h1 => ?_) (fun h1 => ?_)
  · have hf := gif_f h1 hf
    refine lv_iload_n hx hb dX9_tick_18 rfl (lv_at hl 1 rfl) ?_
    refine lv_iconst hx hb dX9_tick_19 kci_0 ?_
    refine lv_sipush hx hb dX9_tick_20 kcs_9999 ?_
    obtain ⟨r2, hc3, hf⟩ := gbd hf
    refine gr_callS (As := [.int p1, .int (0 : Int32), .int (9999 : Int32)]) (rest := []) (st1 := [.int r2]) hE hl.1 ml_X9_90 (c_X9_in l g p1 (0 : Int32) (9999 : Int32) r2 hc3) hZ hS hP [] rfl rfl rfl rfl ⟨rfl, rfl⟩ ⟨Nat.le_of_ble_eq_true rfl, Nat.le_of_ble_eq_true rfl⟩ ⟨Nat.le_refl _, Nat.le_refl _⟩ (Nat.le_of_ble_eq_true rfl) dX9_tick_23 ?_
    refine lv_if_eq hx hb dX9_tick_26 (tgt := 42) rfl (fun h4 => ?_) (fun h4 => ?_)
    · have hf := gif_t h4 hf
      refine lv_aload_n hx hb dX9_tick_42 rfl (lv_at hl 0 rfl) ?_
      refine lv_iconst hx hb dX9_tick_43 kci_2 ?_
      obtain ⟨r5, hc6, hf⟩ := gbd hf
      refine gm_callV1 (As := [.int (2 : Int32)]) (rest := []) (st1 := fun _ => [.int (r5.1)]) (ws' := fun _ => (Mo_c g a0 (r5.2))) hE hl.1 ml_X9_61 (c_X9_refused l g a0 (Mo_w_thrown s0 (0 : Int32)) (2 : Int32) r5 hc6) hZ hP hD hS hA 0 14 rfl (fun _ => rfl) okX9 rfl rfl rfl (fun _ => rfl) ⟨rfl, rfl⟩ ⟨Nat.le_of_ble_eq_true rfl, Nat.le_of_ble_eq_true rfl⟩ ⟨Nat.le_refl _, Nat.le_refl _⟩ (Nat.le_of_ble_eq_true rfl) dX9_tick_44 (fun _ H locs hP hD hS => ?_)
      cases hf
      exact hq () rfl hP hD hS dX9_tick_47
    · have hf := gif_f h4 hf
      refine lv_aload_n hx hb dX9_tick_29 rfl (lv_at hl 0 rfl) ?_
      refine lv_aload_n hx hb dX9_tick_30 rfl (lv_at hl 0 rfl) ?_
      refine lv_iconst hx hb dX9_tick_31 kci_0 ?_
      refine lv_iload_n hx hb dX9_tick_32 rfl (lv_at hl 1 rfl) ?_
      obtain ⟨r7, hc8, hf⟩ := gbd hf
      refine gm_callV1 (As := [.int (0 : Int32), .int p1]) (rest := [.ref (a0 0)]) (st1 := fun _ => [.int (r7.1), .ref (a0 0)]) (ws' := fun _ => (Mo_c g a0 (r7.2))) hE hl.1 ml_X9_207 (c_X9_ticks l g a0 (Mo_w_thrown s0 (0 : Int32)) (0 : Int32) p1 r7 hc8) hZ hP hD hS hA 0 14 rfl (fun _ => rfl) okX9 rfl rfl rfl (fun _ => rfl) ⟨rfl, rfl⟩ ⟨Nat.le_of_ble_eq_true rfl, Nat.le_of_ble_eq_true rfl⟩ ⟨Nat.le_refl _, Nat.le_refl _⟩ (Nat.le_of_ble_eq_true rfl) dX9_tick_33 (fun _ H locs hP hD hS => ?_)
      obtain ⟨r9, hc10, hf⟩ := gbd hf
      refine gm_callV1 (As := [.int (r7.1)]) (rest := []) (st1 := fun _ => [.int (r9.1)]) (ws' := fun _ => (Mo_c g a0 (r9.2))) hE hl.1 ml_X9_230 (c_X9_good l g a0 (r7.2) (r7.1) r9 hc10) hZ hP hD hS hA 0 14 rfl (fun _ => rfl) okX9 rfl rfl rfl (fun _ => rfl) ⟨rfl, rfl⟩ ⟨Nat.le_of_ble_eq_true rfl, Nat.le_of_ble_eq_true rfl⟩ ⟨Nat.le_refl _, Nat.le_refl _⟩ (Nat.le_of_ble_eq_true rfl) dX9_tick_36 (fun _ H locs hP hD hS => ?_)
      refine lv_goto hx hb dX9_tick_39 (tgt := 47) rfl ?_
      cases hf
      exact hq () rfl hP hD hS dX9_tick_47
  · have hf := gif_t h1 hf
    refine lv_aload_n hx hb dX9_tick_12 rfl (lv_at hl 0 rfl) ?_
    refine lv_iconst hx hb dX9_tick_13 kci_1 ?_
    obtain ⟨r11, hc12, hf⟩ := gbd hf
    refine gm_callV1 (As := [.int (1 : Int32)]) (rest := []) (st1 := fun _ => [.int (r11.1)]) (ws' := fun _ => (Mo_c g a0 (r11.2))) hE hl.1 ml_X9_61 (c_X9_refused l g a0 (Mo_w_thrown s0 (0 : Int32)) (1 : Int32) r11 hc12) hZ hP hD hS hA 0 14 rfl (fun _ => rfl) okX9 rfl rfl rfl (fun _ => rfl) ⟨rfl, rfl⟩ ⟨Nat.le_of_ble_eq_true rfl, Nat.le_of_ble_eq_true rfl⟩ ⟨Nat.le_refl _, Nat.le_refl _⟩ (Nat.le_of_ble_eq_true rfl) dX9_tick_14 (fun _ H locs hP hD hS => ?_)
    cases hf
    exact hq () rfl hP hD hS dX9_tick_17
theorem dX9_exchanges_0 : decode cX9_exchanges 0 = .ok (.iload_n 3, 1) := by decide +kernel
theorem dX9_exchanges_1 : decode cX9_exchanges 1 = .ok (.iload_n 2, 1) := by decide +kernel
theorem dX9_exchanges_2 : decode cX9_exchanges 2 = .ok (.invokestatic 244, 3) := by decide +kernel
theorem dX9_exchanges_5 : decode cX9_exchanges 5 = .ok (.ifCond .eq 33, 3) := by decide +kernel
theorem dX9_exchanges_8 : decode cX9_exchanges 8 = .ok (.iload 4, 2) := by decide +kernel
theorem dX9_exchanges_10 : decode cX9_exchanges 10 = .ok (.iload_n 2, 1) := by decide +kernel
theorem dX9_exchanges_11 : decode cX9_exchanges 11 = .ok (.invokestatic 244, 3) := by decide +kernel
theorem dX9_exchanges_14 : decode cX9_exchanges 14 = .ok (.ifCond .ne 24, 3) := by decide +kernel
theorem dX9_exchanges_17 : decode cX9_exchanges 17 = .ok (.aload_n 0, 1) := by decide +kernel
theorem dX9_exchanges_18 : decode cX9_exchanges 18 = .ok (.iconst 0, 1) := by decide +kernel
theorem dX9_exchanges_19 : decode cX9_exchanges 19 = .ok (.iconst 1, 1) := by decide +kernel
theorem dX9_exchanges_20 : decode cX9_exchanges 20 = .ok (.iload_n 2, 1) := by decide +kernel
theorem dX9_exchanges_21 : decode cX9_exchanges 21 = .ok (.isub, 1) := by decide +kernel
theorem dX9_exchanges_22 : decode cX9_exchanges 22 = .ok (.iload_n 1, 1) := by decide +kernel
theorem dX9_exchanges_23 : decode cX9_exchanges 23 = .ok (.invokevirtual 248, 3) := by decide +kernel
theorem dX9_exchanges_26 : decode cX9_exchanges 26 = .ok (.ifCond .ne 12, 3) := by decide +kernel
theorem dX9_exchanges_29 : decode cX9_exchanges 29 = .ok (.aload_n 0, 1) := by decide +kernel
theorem dX9_exchanges_30 : decode cX9_exchanges 30 = .ok (.iconst 0, 1) := by decide +kernel
theorem dX9_exchanges_31 : decode cX9_exchanges 31 = .ok (.iload_n 2, 1) := by decide +kernel
theorem dX9_exchanges_32 : decode cX9_exchanges 32 = .ok (.iload_n 1, 1) := by decide +kernel
theorem dX9_exchanges_33 : decode cX9_exchanges 33 = .ok (.iload 5, 2) := by decide +kernel
theorem dX9_exchanges_35 : decode cX9_exchanges 35 = .ok (.invokevirtual 267, 3) := by decide +kernel
theorem dX9_exchanges_38 : decode cX9_exchanges 38 = .ok (.return_, 1) := by decide +kernel
def f_X9_exchanges (s0 : MoT) (p1 : Int32) (p2 : Int32) (p3 : Int32) (p4 : Int32) (p5 : Int32) : Option (MoT) :=
  (f_X9_isOuter p3 p2).bind fun r1 =>
  if r1 = 0 then some (s0)
  else (f_X9_isOuter p4 p2).bind fun r4 =>
  if r4 = 0 then (f_X9_has s0 (0 : Int32) ((1 : Int32) - p2) p1).bind fun r7 =>
  if r7 = 0 then (f_X9_sendsOuter s0 (0 : Int32) p2 p1 p5).bind fun r10 =>
  some (r10)
  else some (s0)
  else some (s0)
abbrev rm_X9_exchanges : Room := { frames := 4, cells := 0, slots := 0, locals := 100 }
set_option maxHeartbeats 4000000 in
set_option maxRecDepth 100000 in
theorem c_X9_exchanges (l : Launch) (g : GK) (a0 : Nat → Nat) (s0 : MoT) (p1 : Int32) (p2 : Int32) (p3 : Int32) (p4 : Int32) (p5 : Int32) (res : (MoT)) (hf : f_X9_exchanges s0 p1 p2 p3 p4 p5 = some res) : gM l yX9_exchanges cX9_exchanges 6 none rm_X9_exchanges g [.ref (a0 0), .int p1, .int p2, .int p3, .int p4, .int p5] (Mo_c g a0 s0) (fun _ : Unit => none) (fun _ => (Mo_c g a0 res)) 0 0 := by
  refine gM_introV RX9 (by decide) rfl (Nat.le_of_ble_eq_true rfl) (fun p e s m args below meth c Q H locs ls A hE hnm hZ hA hP hD hS hq hl => ?_)
  have hl : lv_has ls 6 [(0, .ref (a0 0)), (1, .int p1), (2, .int p2), (3, .int p3), (4, .int p4), (5, .int p5)] := hl
  have hx := hE.1
  have hb := hE.2.1
  rw [f_X9_exchanges] at hf
  refine lv_iload_n hx hb dX9_exchanges_0 rfl (lv_at hl 3 rfl) ?_
  refine lv_iload_n hx hb dX9_exchanges_1 rfl (lv_at hl 2 rfl) ?_
  obtain ⟨r1, hc2, hf⟩ := gbd hf
  refine gr_callS (As := [.int p3, .int p2]) (rest := []) (st1 := [.int r1]) hE hl.1 ml_X9_244 (c_X9_isOuter l g p3 p2 r1 hc2) hZ hS hP [] rfl rfl rfl rfl ⟨rfl, rfl⟩ ⟨Nat.le_of_ble_eq_true rfl, Nat.le_of_ble_eq_true rfl⟩ ⟨Nat.le_refl _, Nat.le_refl _⟩ (Nat.le_of_ble_eq_true rfl) dX9_exchanges_2 ?_
  refine lv_if_eq hx hb dX9_exchanges_5 (tgt := 38) rfl (fun h3 => ?_) (fun h3 => ?_)
  · have hf := gif_t h3 hf
    cases hf
    exact hq () rfl hP hD hS dX9_exchanges_38
  · have hf := gif_f h3 hf
    refine lv_iload hx hb dX9_exchanges_8 (lv_at hl 4 rfl) ?_
    refine lv_iload_n hx hb dX9_exchanges_10 rfl (lv_at hl 2 rfl) ?_
    obtain ⟨r4, hc5, hf⟩ := gbd hf
    refine gr_callS (As := [.int p4, .int p2]) (rest := []) (st1 := [.int r4]) hE hl.1 ml_X9_244 (c_X9_isOuter l g p4 p2 r4 hc5) hZ hS hP [] rfl rfl rfl rfl ⟨rfl, rfl⟩ ⟨Nat.le_of_ble_eq_true rfl, Nat.le_of_ble_eq_true rfl⟩ ⟨Nat.le_refl _, Nat.le_refl _⟩ (Nat.le_of_ble_eq_true rfl) dX9_exchanges_11 ?_
    refine lv_if_ne hx hb dX9_exchanges_14 (tgt := 38) rfl (fun h6 => ?_) (fun h6 => ?_)
    · have hf := gif_f h6 hf
      cases hf
      exact hq () rfl hP hD hS dX9_exchanges_38
    · have hf := gif_t h6 hf
      refine lv_aload_n hx hb dX9_exchanges_17 rfl (lv_at hl 0 rfl) ?_
      refine lv_iconst hx hb dX9_exchanges_18 kci_0 ?_
      refine lv_iconst hx hb dX9_exchanges_19 kci_1 ?_
      refine lv_iload_n hx hb dX9_exchanges_20 rfl (lv_at hl 2 rfl) ?_
      refine lv_isub hx hb dX9_exchanges_21 ?_
      refine lv_iload_n hx hb dX9_exchanges_22 rfl (lv_at hl 1 rfl) ?_
      obtain ⟨r7, hc8, hf⟩ := gbd hf
      refine gr_callV (As := [.int (0 : Int32), .int ((1 : Int32) - p2), .int p1]) (rest := []) (st1 := [.int r7]) hE hl.1 ml_X9_248 (c_X9_has l g a0 s0 (0 : Int32) ((1 : Int32) - p2) p1 r7 hc8) hZ hS hP [(0, 14)] rfl okX9 rfl rfl rfl rfl ⟨rfl, rfl⟩ ⟨Nat.le_of_ble_eq_true rfl, Nat.le_of_ble_eq_true rfl⟩ ⟨Nat.le_refl _, Nat.le_refl _⟩ (Nat.le_of_ble_eq_true rfl) dX9_exchanges_23 ?_
      refine lv_if_ne hx hb dX9_exchanges_26 (tgt := 38) rfl (fun h9 => ?_) (fun h9 => ?_)
      · have hf := gif_f h9 hf
        cases hf
        exact hq () rfl hP hD hS dX9_exchanges_38
      · have hf := gif_t h9 hf
        refine lv_aload_n hx hb dX9_exchanges_29 rfl (lv_at hl 0 rfl) ?_
        refine lv_iconst hx hb dX9_exchanges_30 kci_0 ?_
        refine lv_iload_n hx hb dX9_exchanges_31 rfl (lv_at hl 2 rfl) ?_
        refine lv_iload_n hx hb dX9_exchanges_32 rfl (lv_at hl 1 rfl) ?_
        refine lv_iload hx hb dX9_exchanges_33 (lv_at hl 5 rfl) ?_
        obtain ⟨r10, hc11, hf⟩ := gbd hf
        refine gm_callV1 (As := [.int (0 : Int32), .int p2, .int p1, .int p5]) (rest := []) (st1 := fun _ => []) (ws' := fun _ => (Mo_c g a0 r10)) hE hl.1 ml_X9_267 (c_X9_sendsOuter l g a0 s0 (0 : Int32) p2 p1 p5 r10 hc11) hZ hP hD hS hA 0 14 rfl (fun _ => rfl) okX9 rfl rfl rfl (fun _ => rfl) ⟨rfl, rfl⟩ ⟨Nat.le_of_ble_eq_true rfl, Nat.le_of_ble_eq_true rfl⟩ ⟨Nat.le_refl _, Nat.le_refl _⟩ (Nat.le_of_ble_eq_true rfl) dX9_exchanges_35 (fun _ H locs hP hD hS => ?_)
        cases hf
        exact hq () rfl hP hD hS dX9_exchanges_38
theorem dX9_how_0 : decode cX9_how 0 = .ok (.aload_n 0, 1) := by decide +kernel
theorem dX9_how_1 : decode cX9_how 1 = .ok (.iconst 0, 1) := by decide +kernel
theorem dX9_how_2 : decode cX9_how 2 = .ok (.putfield 55, 3) := by decide +kernel
theorem dX9_how_5 : decode cX9_how 5 = .ok (.aload_n 0, 1) := by decide +kernel
theorem dX9_how_6 : decode cX9_how 6 = .ok (.getfield 218, 3) := by decide +kernel
theorem dX9_how_9 : decode cX9_how 9 = .ok (.ifCond .ne 9, 3) := by decide +kernel
theorem dX9_how_12 : decode cX9_how 12 = .ok (.aload_n 0, 1) := by decide +kernel
theorem dX9_how_13 : decode cX9_how 13 = .ok (.iconst 1, 1) := by decide +kernel
theorem dX9_how_14 : decode cX9_how 14 = .ok (.invokevirtual 61, 3) := by decide +kernel
theorem dX9_how_17 : decode cX9_how 17 = .ok (.ireturn, 1) := by decide +kernel
theorem dX9_how_18 : decode cX9_how 18 = .ok (.iload_n 1, 1) := by decide +kernel
theorem dX9_how_19 : decode cX9_how 19 = .ok (.iconst 0, 1) := by decide +kernel
theorem dX9_how_20 : decode cX9_how 20 = .ok (.iconst 3, 1) := by decide +kernel
theorem dX9_how_21 : decode cX9_how 21 = .ok (.invokestatic 90, 3) := by decide +kernel
theorem dX9_how_24 : decode cX9_how 24 = .ok (.ifCond .ne 9, 3) := by decide +kernel
theorem dX9_how_27 : decode cX9_how 27 = .ok (.aload_n 0, 1) := by decide +kernel
theorem dX9_how_28 : decode cX9_how 28 = .ok (.iconst 2, 1) := by decide +kernel
theorem dX9_how_29 : decode cX9_how 29 = .ok (.invokevirtual 61, 3) := by decide +kernel
theorem dX9_how_32 : decode cX9_how 32 = .ok (.ireturn, 1) := by decide +kernel
theorem dX9_how_33 : decode cX9_how 33 = .ok (.aload_n 0, 1) := by decide +kernel
theorem dX9_how_34 : decode cX9_how 34 = .ok (.iconst 0, 1) := by decide +kernel
theorem dX9_how_35 : decode cX9_how 35 = .ok (.iconst 0, 1) := by decide +kernel
theorem dX9_how_36 : decode cX9_how 36 = .ok (.invokevirtual 200, 3) := by decide +kernel
theorem dX9_how_39 : decode cX9_how 39 = .ok (.istore_n 2, 1) := by decide +kernel
theorem dX9_how_40 : decode cX9_how 40 = .ok (.aload_n 0, 1) := by decide +kernel
theorem dX9_how_41 : decode cX9_how 41 = .ok (.iconst 0, 1) := by decide +kernel
theorem dX9_how_42 : decode cX9_how 42 = .ok (.bipush 11, 2) := by decide +kernel
theorem dX9_how_44 : decode cX9_how 44 = .ok (.invokevirtual 200, 3) := by decide +kernel
theorem dX9_how_47 : decode cX9_how 47 = .ok (.istore_n 3, 1) := by decide +kernel
theorem dX9_how_48 : decode cX9_how 48 = .ok (.aload_n 0, 1) := by decide +kernel
theorem dX9_how_49 : decode cX9_how 49 = .ok (.iconst 0, 1) := by decide +kernel
theorem dX9_how_50 : decode cX9_how 50 = .ok (.bipush 6, 2) := by decide +kernel
theorem dX9_how_52 : decode cX9_how 52 = .ok (.iconst 1, 1) := by decide +kernel
theorem dX9_how_53 : decode cX9_how 53 = .ok (.invokevirtual 257, 3) := by decide +kernel
theorem dX9_how_56 : decode cX9_how 56 = .ok (.aload_n 0, 1) := by decide +kernel
theorem dX9_how_57 : decode cX9_how 57 = .ok (.iconst 0, 1) := by decide +kernel
theorem dX9_how_58 : decode cX9_how 58 = .ok (.iconst 0, 1) := by decide +kernel
theorem dX9_how_59 : decode cX9_how 59 = .ok (.iload_n 1, 1) := by decide +kernel
theorem dX9_how_60 : decode cX9_how 60 = .ok (.invokevirtual 68, 3) := by decide +kernel
theorem dX9_how_63 : decode cX9_how 63 = .ok (.iconst 0, 1) := by decide +kernel
theorem dX9_how_64 : decode cX9_how 64 = .ok (.istore 4, 2) := by decide +kernel
theorem dX9_how_66 : decode cX9_how 66 = .ok (.iload 4, 2) := by decide +kernel
theorem dX9_how_68 : decode cX9_how 68 = .ok (.bipush 8, 2) := by decide +kernel
theorem dX9_how_70 : decode cX9_how 70 = .ok (.if_icmp .ge 74, 3) := by decide +kernel
theorem dX9_how_73 : decode cX9_how 73 = .ok (.aload_n 0, 1) := by decide +kernel
theorem dX9_how_74 : decode cX9_how 74 = .ok (.iconst 0, 1) := by decide +kernel
theorem dX9_how_75 : decode cX9_how 75 = .ok (.iload 4, 2) := by decide +kernel
theorem dX9_how_77 : decode cX9_how 77 = .ok (.invokevirtual 270, 3) := by decide +kernel
theorem dX9_how_80 : decode cX9_how 80 = .ok (.ifCond .ne 6, 3) := by decide +kernel
theorem dX9_how_83 : decode cX9_how 83 = .ok (.goto 55, 3) := by decide +kernel
theorem dX9_how_86 : decode cX9_how 86 = .ok (.iconst 0, 1) := by decide +kernel
theorem dX9_how_87 : decode cX9_how 87 = .ok (.istore 5, 2) := by decide +kernel
theorem dX9_how_89 : decode cX9_how 89 = .ok (.iload 5, 2) := by decide +kernel
theorem dX9_how_91 : decode cX9_how 91 = .ok (.iconst 2, 1) := by decide +kernel
theorem dX9_how_92 : decode cX9_how 92 = .ok (.if_icmp .ge 20, 3) := by decide +kernel
theorem dX9_how_95 : decode cX9_how 95 = .ok (.aload_n 0, 1) := by decide +kernel
theorem dX9_how_96 : decode cX9_how 96 = .ok (.iload 4, 2) := by decide +kernel
theorem dX9_how_98 : decode cX9_how 98 = .ok (.iload 5, 2) := by decide +kernel
theorem dX9_how_100 : decode cX9_how 100 = .ok (.iload_n 2, 1) := by decide +kernel
theorem dX9_how_101 : decode cX9_how 101 = .ok (.iload_n 1, 1) := by decide +kernel
theorem dX9_how_102 : decode cX9_how 102 = .ok (.iconst (-1), 1) := by decide +kernel
theorem dX9_how_103 : decode cX9_how 103 = .ok (.invokevirtual 389, 3) := by decide +kernel
theorem dX9_how_106 : decode cX9_how 106 = .ok (.iinc 5 1, 3) := by decide +kernel
theorem dX9_how_109 : decode cX9_how 109 = .ok (.goto (-20), 3) := by decide +kernel
theorem dX9_how_112 : decode cX9_how 112 = .ok (.iconst 0, 1) := by decide +kernel
theorem dX9_how_113 : decode cX9_how 113 = .ok (.istore 5, 2) := by decide +kernel
theorem dX9_how_115 : decode cX9_how 115 = .ok (.iload 5, 2) := by decide +kernel
theorem dX9_how_117 : decode cX9_how 117 = .ok (.iconst 2, 1) := by decide +kernel
theorem dX9_how_118 : decode cX9_how 118 = .ok (.if_icmp .ge 20, 3) := by decide +kernel
theorem dX9_how_121 : decode cX9_how 121 = .ok (.aload_n 0, 1) := by decide +kernel
theorem dX9_how_122 : decode cX9_how 122 = .ok (.iload 4, 2) := by decide +kernel
theorem dX9_how_124 : decode cX9_how 124 = .ok (.iload 5, 2) := by decide +kernel
theorem dX9_how_126 : decode cX9_how 126 = .ok (.iload_n 1, 1) := by decide +kernel
theorem dX9_how_127 : decode cX9_how 127 = .ok (.iload_n 2, 1) := by decide +kernel
theorem dX9_how_128 : decode cX9_how 128 = .ok (.iconst 1, 1) := by decide +kernel
theorem dX9_how_129 : decode cX9_how 129 = .ok (.invokevirtual 389, 3) := by decide +kernel
theorem dX9_how_132 : decode cX9_how 132 = .ok (.iinc 5 1, 3) := by decide +kernel
theorem dX9_how_135 : decode cX9_how 135 = .ok (.goto (-20), 3) := by decide +kernel
theorem dX9_how_138 : decode cX9_how 138 = .ok (.iinc 4 1, 3) := by decide +kernel
theorem dX9_how_141 : decode cX9_how 141 = .ok (.goto (-75), 3) := by decide +kernel
theorem dX9_how_144 : decode cX9_how 144 = .ok (.aload_n 0, 1) := by decide +kernel
theorem dX9_how_145 : decode cX9_how 145 = .ok (.aload_n 0, 1) := by decide +kernel
theorem dX9_how_146 : decode cX9_how 146 = .ok (.iconst 0, 1) := by decide +kernel
theorem dX9_how_147 : decode cX9_how 147 = .ok (.iload_n 3, 1) := by decide +kernel
theorem dX9_how_148 : decode cX9_how 148 = .ok (.invokevirtual 282, 3) := by decide +kernel
theorem dX9_how_151 : decode cX9_how 151 = .ok (.invokevirtual 230, 3) := by decide +kernel
theorem dX9_how_154 : decode cX9_how 154 = .ok (.ireturn, 1) := by decide +kernel
def f_X9_how_L115_33 (p1 : Int32) (r5 : (Int32)) (x4_19 : Int32) (K29 : (MoT → Option (Int32 × MoT))) : Nat → Int32 → MoT → Option (Int32 × MoT)
  | 0, _, _ => none
  | n34 + 1, x5_31, s0_32 => if (2 : Int32) ≤ x5_31 then K29 s0_32
  else (f_X9_exchanges s0_32 x4_19 x5_31 p1 r5 (1 : Int32)).bind fun r36 =>
  f_X9_how_L115_33 p1 r5 x4_19 K29 n34 (x5_31 + (1 : Int32)) r36
def f_X9_how_L89_40 (p1 : Int32) (r5 : (Int32)) (x4_19 : Int32) (K27 : (MoT → Option (Int32 × MoT))) : Nat → Int32 → MoT → Option (Int32 × MoT)
  | 0, _, _ => none
  | n41 + 1, x5_38, s0_39 => if (2 : Int32) ≤ x5_38 then K27 s0_39
  else (f_X9_exchanges s0_39 x4_19 x5_38 r5 p1 (-1 : Int32)).bind fun r43 =>
  f_X9_how_L89_40 p1 r5 x4_19 K27 n41 (x5_38 + (1 : Int32)) r43
def f_X9_how_L66_21 (p1 : Int32) (r5 : (Int32)) (K13 : (MoT → Option (Int32 × MoT))) : Nat → Int32 → MoT → Option (Int32 × MoT)
  | 0, _, _ => none
  | n22 + 1, x4_19, s0_20 => if (8 : Int32) ≤ x4_19 then K13 s0_20
  else (f_X9_lives s0_20 (0 : Int32) x4_19).bind fun r24 =>
  if r24 = 0 then f_X9_how_L66_21 p1 r5 K13 n22 (x4_19 + (1 : Int32)) s0_20
  else glt (fun (s0_28 : MoT) => glt (fun (s0_30 : MoT) => f_X9_how_L66_21 p1 r5 K13 n22 (x4_19 + (1 : Int32)) s0_30) fun K29 =>
  f_X9_how_L115_33 p1 r5 x4_19 K29 10000 (0 : Int32) s0_28) fun K27 =>
  f_X9_how_L89_40 p1 r5 x4_19 K27 10000 (0 : Int32) s0_20
def f_X9_how (s0 : MoT) (p1 : Int32) : Option (Int32 × MoT) :=
  if (Mo_isThere s0) = 0 then (f_X9_refused (Mo_w_thrown s0 (0 : Int32)) (1 : Int32)).bind fun r47 =>
  some ((r47.1), (r47.2))
  else (f_X9_in p1 (0 : Int32) (3 : Int32)).bind fun r2 =>
  if r2 = 0 then (f_X9_refused (Mo_w_thrown s0 (0 : Int32)) (2 : Int32)).bind fun r45 =>
  some ((r45.1), (r45.2))
  else (f_X9_get (Mo_w_thrown s0 (0 : Int32)) (0 : Int32) (0 : Int32)).bind fun r5 =>
  (f_X9_get (Mo_w_thrown s0 (0 : Int32)) (0 : Int32) (11 : Int32)).bind fun r7 =>
  (f_X9_more (Mo_w_thrown s0 (0 : Int32)) (0 : Int32) (6 : Int32) (1 : Int32)).bind fun r9 =>
  (f_X9_set r9 (0 : Int32) (0 : Int32) p1).bind fun r11 =>
  glt (fun (s0_14 : MoT) => (f_X9_countsMost s0_14 (0 : Int32) r7).bind fun r15 =>
  (f_X9_good (r15.2) (r15.1)).bind fun r17 =>
  some ((r17.1), (r17.2))) fun K13 =>
  f_X9_how_L66_21 p1 r5 K13 10000 (0 : Int32) r11
abbrev rm_X9_how : Room := { frames := 5, cells := 0, slots := 0, locals := 125 }
set_option maxHeartbeats 4000000 in
set_option maxRecDepth 100000 in
theorem c_X9_how (l : Launch) (g : GK) (a0 : Nat → Nat) (s0 : MoT) (p1 : Int32) (res : (Int32 × MoT)) (hf : f_X9_how s0 p1 = some res) : gM l yX9_how cX9_how 6 (some .int) rm_X9_how g [.ref (a0 0), .int p1] (Mo_c g a0 s0) (fun _ : Unit => (some (.int (res.1)))) (fun _ => (Mo_c g a0 (res.2))) 0 0 := by
  refine gM_introI RX9 (by decide) rfl (Nat.le_of_ble_eq_true rfl) (fun p e s m args below meth c Q H locs ls A hE hZ hA hP hD hS hq hl => ?_)
  have hl : lv_has ls 6 [(0, .ref (a0 0)), (1, .int p1)] := hl
  have hx := hE.1
  have hb := hE.2.1
  rw [f_X9_how] at hf
  refine lv_aload_n hx hb dX9_how_0 rfl (lv_at hl 0 rfl) ?_
  refine lv_iconst hx hb dX9_how_1 kci_0 ?_
  refine g_put hE okX9 fl_X9_55 hP hD hS 0 rfl rfl rfl rfl (Nat.le_of_ble_eq_true rfl) (Mo_c g a0 (Mo_w_thrown s0 (0 : Int32))) rfl dX9_how_2 (fun H locs hP hD hS => ?_)
  refine lv_aload_n hx hb dX9_how_5 rfl (lv_at hl 0 rfl) ?_
  refine g_get hE okX9 fl_X9_218 hP 0 rfl (v := .int (Mo_isThere s0)) rfl dX9_how_6 ?_
  refine lv_if_ne hx hb dX9_how_9 (tgt := 18) rfl (fun h1 => ?_) (fun h1 => ?_)
  · have hf := gif_f h1 hf
    refine lv_iload_n hx hb dX9_how_18 rfl (lv_at hl 1 rfl) ?_
    refine lv_iconst hx hb dX9_how_19 kci_0 ?_
    refine lv_iconst hx hb dX9_how_20 kci_3 ?_
    obtain ⟨r2, hc3, hf⟩ := gbd hf
    refine gr_callS (As := [.int p1, .int (0 : Int32), .int (3 : Int32)]) (rest := []) (st1 := [.int r2]) hE hl.1 ml_X9_90 (c_X9_in l g p1 (0 : Int32) (3 : Int32) r2 hc3) hZ hS hP [] rfl rfl rfl rfl ⟨rfl, rfl⟩ ⟨Nat.le_of_ble_eq_true rfl, Nat.le_of_ble_eq_true rfl⟩ ⟨Nat.le_refl _, Nat.le_refl _⟩ (Nat.le_of_ble_eq_true rfl) dX9_how_21 ?_
    refine lv_if_ne hx hb dX9_how_24 (tgt := 33) rfl (fun h4 => ?_) (fun h4 => ?_)
    · have hf := gif_f h4 hf
      refine lv_aload_n hx hb dX9_how_33 rfl (lv_at hl 0 rfl) ?_
      refine lv_iconst hx hb dX9_how_34 kci_0 ?_
      refine lv_iconst hx hb dX9_how_35 kci_0 ?_
      obtain ⟨r5, hc6, hf⟩ := gbd hf
      refine gr_callV (As := [.int (0 : Int32), .int (0 : Int32)]) (rest := []) (st1 := [.int r5]) hE hl.1 ml_X9_200 (c_X9_get l g a0 (Mo_w_thrown s0 (0 : Int32)) (0 : Int32) (0 : Int32) r5 hc6) hZ hS hP [(0, 14)] rfl okX9 rfl rfl rfl rfl ⟨rfl, rfl⟩ ⟨Nat.le_of_ble_eq_true rfl, Nat.le_of_ble_eq_true rfl⟩ ⟨Nat.le_refl _, Nat.le_refl _⟩ (Nat.le_of_ble_eq_true rfl) dX9_how_36 ?_
      refine lv_istore_n hx hb dX9_how_39 rfl hl (by decide) (lv' := [(2, .int r5), (0, .ref (a0 0)), (1, .int p1)]) rfl (fun ls hl => ?_)
      refine lv_aload_n hx hb dX9_how_40 rfl (lv_at hl 1 rfl) ?_
      refine lv_iconst hx hb dX9_how_41 kci_0 ?_
      refine lv_bipush hx hb dX9_how_42 kcb_11 ?_
      obtain ⟨r7, hc8, hf⟩ := gbd hf
      refine gr_callV (As := [.int (0 : Int32), .int (11 : Int32)]) (rest := []) (st1 := [.int r7]) hE hl.1 ml_X9_200 (c_X9_get l g a0 (Mo_w_thrown s0 (0 : Int32)) (0 : Int32) (11 : Int32) r7 hc8) hZ hS hP [(0, 14)] rfl okX9 rfl rfl rfl rfl ⟨rfl, rfl⟩ ⟨Nat.le_of_ble_eq_true rfl, Nat.le_of_ble_eq_true rfl⟩ ⟨Nat.le_refl _, Nat.le_refl _⟩ (Nat.le_of_ble_eq_true rfl) dX9_how_44 ?_
      refine lv_istore_n hx hb dX9_how_47 rfl hl (by decide) (lv' := [(3, .int r7), (2, .int r5), (0, .ref (a0 0)), (1, .int p1)]) rfl (fun ls hl => ?_)
      refine lv_aload_n hx hb dX9_how_48 rfl (lv_at hl 2 rfl) ?_
      refine lv_iconst hx hb dX9_how_49 kci_0 ?_
      refine lv_bipush hx hb dX9_how_50 kcb_6 ?_
      refine lv_iconst hx hb dX9_how_52 kci_1 ?_
      obtain ⟨r9, hc10, hf⟩ := gbd hf
      refine gm_callV1 (As := [.int (0 : Int32), .int (6 : Int32), .int (1 : Int32)]) (rest := []) (st1 := fun _ => []) (ws' := fun _ => (Mo_c g a0 r9)) hE hl.1 ml_X9_257 (c_X9_more l g a0 (Mo_w_thrown s0 (0 : Int32)) (0 : Int32) (6 : Int32) (1 : Int32) r9 hc10) hZ hP hD hS hA 0 14 rfl (fun _ => rfl) okX9 rfl rfl rfl (fun _ => rfl) ⟨rfl, rfl⟩ ⟨Nat.le_of_ble_eq_true rfl, Nat.le_of_ble_eq_true rfl⟩ ⟨Nat.le_refl _, Nat.le_refl _⟩ (Nat.le_of_ble_eq_true rfl) dX9_how_53 (fun _ H locs hP hD hS => ?_)
      refine lv_aload_n hx hb dX9_how_56 rfl (lv_at hl 2 rfl) ?_
      refine lv_iconst hx hb dX9_how_57 kci_0 ?_
      refine lv_iconst hx hb dX9_how_58 kci_0 ?_
      refine lv_iload_n hx hb dX9_how_59 rfl (lv_at hl 3 rfl) ?_
      obtain ⟨r11, hc12, hf⟩ := gbd hf
      refine gm_callV1 (As := [.int (0 : Int32), .int (0 : Int32), .int p1]) (rest := []) (st1 := fun _ => []) (ws' := fun _ => (Mo_c g a0 r11)) hE hl.1 ml_X9_68 (c_X9_set l g a0 r9 (0 : Int32) (0 : Int32) p1 r11 hc12) hZ hP hD hS hA 0 14 rfl (fun _ => rfl) okX9 rfl rfl rfl (fun _ => rfl) ⟨rfl, rfl⟩ ⟨Nat.le_of_ble_eq_true rfl, Nat.le_of_ble_eq_true rfl⟩ ⟨Nat.le_refl _, Nat.le_refl _⟩ (Nat.le_of_ble_eq_true rfl) dX9_how_60 (fun _ H locs hP hD hS => ?_)
      refine lv_iconst hx hb dX9_how_63 kci_0 ?_
      refine lv_istore hx hb dX9_how_64 hl (by decide) (lv' := [(4, .int (0 : Int32)), (3, .int r7), (2, .int r5), (0, .ref (a0 0)), (1, .int p1)]) rfl (fun ls hl => ?_)
      obtain ⟨K13, eK13, hf⟩ := gltd hf
      have kK13 : ∀ (s0_14 : MoT) (ls : Array Slot) (H : Heap) (locs : List Loc), K13 s0_14 = some res → lv_has ls 6 [(0, .ref (a0 0)), (3, .int r7)] → gP g (Mo_c g a0 s0_14) H → va_D A (Mo_c g a0 s0_14) → va_S A s.heap H locs → W p l e rm_X9_how s m args below meth c H locs 0 0 Q (F0 m 144 ls []) := by
        intro s0_14 ls H locs hf hl hP hD hS
        rw [eK13] at hf
        refine lv_aload_n hx hb dX9_how_144 rfl (lv_at hl 0 rfl) ?_
        refine lv_aload_n hx hb dX9_how_145 rfl (lv_at hl 0 rfl) ?_
        refine lv_iconst hx hb dX9_how_146 kci_0 ?_
        refine lv_iload_n hx hb dX9_how_147 rfl (lv_at hl 1 rfl) ?_
        obtain ⟨r15, hc16, hf⟩ := gbd hf
        refine gm_callV1 (As := [.int (0 : Int32), .int r7]) (rest := [.ref (a0 0)]) (st1 := fun _ => [.int (r15.1), .ref (a0 0)]) (ws' := fun _ => (Mo_c g a0 (r15.2))) hE hl.1 ml_X9_282 (c_X9_countsMost l g a0 s0_14 (0 : Int32) r7 r15 hc16) hZ hP hD hS hA 0 14 rfl (fun _ => rfl) okX9 rfl rfl rfl (fun _ => rfl) ⟨rfl, rfl⟩ ⟨Nat.le_of_ble_eq_true rfl, Nat.le_of_ble_eq_true rfl⟩ ⟨Nat.le_refl _, Nat.le_refl _⟩ (Nat.le_of_ble_eq_true rfl) dX9_how_148 (fun _ H locs hP hD hS => ?_)
        obtain ⟨r17, hc18, hf⟩ := gbd hf
        refine gm_callV1 (As := [.int (r15.1)]) (rest := []) (st1 := fun _ => [.int (r17.1)]) (ws' := fun _ => (Mo_c g a0 (r17.2))) hE hl.1 ml_X9_230 (c_X9_good l g a0 (r15.2) (r15.1) r17 hc18) hZ hP hD hS hA 0 14 rfl (fun _ => rfl) okX9 rfl rfl rfl (fun _ => rfl) ⟨rfl, rfl⟩ ⟨Nat.le_of_ble_eq_true rfl, Nat.le_of_ble_eq_true rfl⟩ ⟨Nat.le_refl _, Nat.le_refl _⟩ (Nat.le_of_ble_eq_true rfl) dX9_how_151 (fun _ H locs hP hD hS => ?_)
        cases hf
        exact hq () rfl hP hD hS dX9_how_154
      have lpn22 : ∀ (n22 : Nat) (x4_19 : Int32) (s0_20 : MoT) (ls : Array Slot) (H : Heap) (locs : List Loc), f_X9_how_L66_21 p1 r5 K13 n22 x4_19 s0_20 = some res → lv_has ls 6 [(0, .ref (a0 0)), (1, .int p1), (2, .int r5), (3, .int r7), (4, .int x4_19)] → gP g (Mo_c g a0 s0_20) H → va_D A (Mo_c g a0 s0_20) → va_S A s.heap H locs → W p l e rm_X9_how s m args below meth c H locs 0 0 Q (F0 m 66 ls []) := by
        intro n22
        induction n22 with
        | zero => intro x4_19 s0_20 ls H locs hf hl hP hD hS; rw [f_X9_how_L66_21] at hf; cases hf
        | succ n22 ihn22 =>
          intro x4_19 s0_20 ls H locs hf hl hP hD hS
          rw [f_X9_how_L66_21] at hf
          refine lv_iload hx hb dX9_how_66 (lv_at hl 4 rfl) ?_
          refine lv_bipush hx hb dX9_how_68 kcb_8 ?_
          refine lv_icmp_ge hx hb dX9_how_70 (tgt := 144) rfl (fun h23 => ?_) (fun h23 => ?_)
          · have hf := gif_t h23 hf
            exact kK13 s0_20 ls H locs hf (lv_sub hl [0, 3] rfl) hP hD hS
          · have hf := gif_f h23 hf
            refine lv_aload_n hx hb dX9_how_73 rfl (lv_at hl 0 rfl) ?_
            refine lv_iconst hx hb dX9_how_74 kci_0 ?_
            refine lv_iload hx hb dX9_how_75 (lv_at hl 4 rfl) ?_
            obtain ⟨r24, hc25, hf⟩ := gbd hf
            refine gr_callV (As := [.int (0 : Int32), .int x4_19]) (rest := []) (st1 := [.int r24]) hE hl.1 ml_X9_270 (c_X9_lives l g a0 s0_20 (0 : Int32) x4_19 r24 hc25) hZ hS hP [(0, 14)] rfl okX9 rfl rfl rfl rfl ⟨rfl, rfl⟩ ⟨Nat.le_of_ble_eq_true rfl, Nat.le_of_ble_eq_true rfl⟩ ⟨Nat.le_refl _, Nat.le_refl _⟩ (Nat.le_of_ble_eq_true rfl) dX9_how_77 ?_
            refine lv_if_ne hx hb dX9_how_80 (tgt := 86) rfl (fun h26 => ?_) (fun h26 => ?_)
            · have hf := gif_f h26 hf
              refine lv_iconst hx hb dX9_how_86 kci_0 ?_
              refine lv_istore hx hb dX9_how_87 hl (by decide) (lv' := [(5, .int (0 : Int32)), (0, .ref (a0 0)), (1, .int p1), (2, .int r5), (3, .int r7), (4, .int x4_19)]) rfl (fun ls hl => ?_)
              obtain ⟨K27, eK27, hf⟩ := gltd hf
              have kK27 : ∀ (s0_28 : MoT) (ls : Array Slot) (H : Heap) (locs : List Loc), K27 s0_28 = some res → lv_has ls 6 [(0, .ref (a0 0)), (1, .int p1), (2, .int r5), (3, .int r7), (4, .int x4_19)] → gP g (Mo_c g a0 s0_28) H → va_D A (Mo_c g a0 s0_28) → va_S A s.heap H locs → W p l e rm_X9_how s m args below meth c H locs 0 0 Q (F0 m 112 ls []) := by
                intro s0_28 ls H locs hf hl hP hD hS
                rw [eK27] at hf
                refine lv_iconst hx hb dX9_how_112 kci_0 ?_
                refine lv_istore hx hb dX9_how_113 hl (by decide) (lv' := [(5, .int (0 : Int32)), (0, .ref (a0 0)), (1, .int p1), (2, .int r5), (3, .int r7), (4, .int x4_19)]) rfl (fun ls hl => ?_)
                obtain ⟨K29, eK29, hf⟩ := gltd hf
                have kK29 : ∀ (s0_30 : MoT) (ls : Array Slot) (H : Heap) (locs : List Loc), K29 s0_30 = some res → lv_has ls 6 [(0, .ref (a0 0)), (1, .int p1), (2, .int r5), (3, .int r7), (4, .int x4_19)] → gP g (Mo_c g a0 s0_30) H → va_D A (Mo_c g a0 s0_30) → va_S A s.heap H locs → W p l e rm_X9_how s m args below meth c H locs 0 0 Q (F0 m 138 ls []) := by
                  intro s0_30 ls H locs hf hl hP hD hS
                  rw [eK29] at hf
                  refine lv_iinc hx hb dX9_how_138 hl (k := 4) (x := x4_19) rfl (kinc_1 _) (by decide) (lv' := [(4, .int (x4_19 + (1 : Int32))), (0, .ref (a0 0)), (1, .int p1), (2, .int r5), (3, .int r7)]) rfl (fun ls hl => ?_)
                  refine lv_goto hx hb dX9_how_141 (tgt := 66) rfl ?_
                  exact ihn22 (x4_19 + (1 : Int32)) s0_30 ls H locs hf (lv_sub hl [1, 2, 3, 4, 0] rfl) hP hD hS
                have lpn34 : ∀ (n34 : Nat) (x5_31 : Int32) (s0_32 : MoT) (ls : Array Slot) (H : Heap) (locs : List Loc), f_X9_how_L115_33 p1 r5 x4_19 K29 n34 x5_31 s0_32 = some res → lv_has ls 6 [(0, .ref (a0 0)), (1, .int p1), (2, .int r5), (3, .int r7), (4, .int x4_19), (5, .int x5_31)] → gP g (Mo_c g a0 s0_32) H → va_D A (Mo_c g a0 s0_32) → va_S A s.heap H locs → W p l e rm_X9_how s m args below meth c H locs 0 0 Q (F0 m 115 ls []) := by
                  intro n34
                  induction n34 with
                  | zero => intro x5_31 s0_32 ls H locs hf hl hP hD hS; rw [f_X9_how_L115_33] at hf; cases hf
                  | succ n34 ihn34 =>
                    intro x5_31 s0_32 ls H locs hf hl hP hD hS
                    rw [f_X9_how_L115_33] at hf
                    refine lv_iload hx hb dX9_how_115 (lv_at hl 5 rfl) ?_
                    refine lv_iconst hx hb dX9_how_117 kci_2 ?_
                    refine lv_icmp_ge hx hb dX9_how_118 (tgt := 138) rfl (fun h35 => ?_) (fun h35 => ?_)
                    · have hf := gif_t h35 hf
                      exact kK29 s0_32 ls H locs hf (lv_sub hl [0, 1, 2, 3, 4] rfl) hP hD hS
                    · have hf := gif_f h35 hf
                      refine lv_aload_n hx hb dX9_how_121 rfl (lv_at hl 0 rfl) ?_
                      refine lv_iload hx hb dX9_how_122 (lv_at hl 4 rfl) ?_
                      refine lv_iload hx hb dX9_how_124 (lv_at hl 5 rfl) ?_
                      refine lv_iload_n hx hb dX9_how_126 rfl (lv_at hl 1 rfl) ?_
                      refine lv_iload_n hx hb dX9_how_127 rfl (lv_at hl 2 rfl) ?_
                      refine lv_iconst hx hb dX9_how_128 kci_1 ?_
                      obtain ⟨r36, hc37, hf⟩ := gbd hf
                      refine gm_callV1 (As := [.int x4_19, .int x5_31, .int p1, .int r5, .int (1 : Int32)]) (rest := []) (st1 := fun _ => []) (ws' := fun _ => (Mo_c g a0 r36)) hE hl.1 ml_X9_389 (c_X9_exchanges l g a0 s0_32 x4_19 x5_31 p1 r5 (1 : Int32) r36 hc37) hZ hP hD hS hA 0 14 rfl (fun _ => rfl) okX9 rfl rfl rfl (fun _ => rfl) ⟨rfl, rfl⟩ ⟨Nat.le_of_ble_eq_true rfl, Nat.le_of_ble_eq_true rfl⟩ ⟨Nat.le_refl _, Nat.le_refl _⟩ (Nat.le_of_ble_eq_true rfl) dX9_how_129 (fun _ H locs hP hD hS => ?_)
                      refine lv_iinc hx hb dX9_how_132 hl (k := 5) (x := x5_31) rfl (kinc_1 _) (by decide) (lv' := [(5, .int (x5_31 + (1 : Int32))), (0, .ref (a0 0)), (1, .int p1), (2, .int r5), (3, .int r7), (4, .int x4_19)]) rfl (fun ls hl => ?_)
                      refine lv_goto hx hb dX9_how_135 (tgt := 115) rfl ?_
                      exact ihn34 (x5_31 + (1 : Int32)) r36 ls H locs hf (lv_sub hl [1, 2, 3, 4, 5, 0] rfl) hP hD hS
                exact lpn34 10000 (0 : Int32) s0_28 ls H locs hf (lv_sub hl [1, 2, 3, 4, 5, 0] rfl) hP hD hS
              have lpn41 : ∀ (n41 : Nat) (x5_38 : Int32) (s0_39 : MoT) (ls : Array Slot) (H : Heap) (locs : List Loc), f_X9_how_L89_40 p1 r5 x4_19 K27 n41 x5_38 s0_39 = some res → lv_has ls 6 [(0, .ref (a0 0)), (1, .int p1), (2, .int r5), (3, .int r7), (4, .int x4_19), (5, .int x5_38)] → gP g (Mo_c g a0 s0_39) H → va_D A (Mo_c g a0 s0_39) → va_S A s.heap H locs → W p l e rm_X9_how s m args below meth c H locs 0 0 Q (F0 m 89 ls []) := by
                intro n41
                induction n41 with
                | zero => intro x5_38 s0_39 ls H locs hf hl hP hD hS; rw [f_X9_how_L89_40] at hf; cases hf
                | succ n41 ihn41 =>
                  intro x5_38 s0_39 ls H locs hf hl hP hD hS
                  rw [f_X9_how_L89_40] at hf
                  refine lv_iload hx hb dX9_how_89 (lv_at hl 5 rfl) ?_
                  refine lv_iconst hx hb dX9_how_91 kci_2 ?_
                  refine lv_icmp_ge hx hb dX9_how_92 (tgt := 112) rfl (fun h42 => ?_) (fun h42 => ?_)
                  · have hf := gif_t h42 hf
                    exact kK27 s0_39 ls H locs hf (lv_sub hl [0, 1, 2, 3, 4] rfl) hP hD hS
                  · have hf := gif_f h42 hf
                    refine lv_aload_n hx hb dX9_how_95 rfl (lv_at hl 0 rfl) ?_
                    refine lv_iload hx hb dX9_how_96 (lv_at hl 4 rfl) ?_
                    refine lv_iload hx hb dX9_how_98 (lv_at hl 5 rfl) ?_
                    refine lv_iload_n hx hb dX9_how_100 rfl (lv_at hl 2 rfl) ?_
                    refine lv_iload_n hx hb dX9_how_101 rfl (lv_at hl 1 rfl) ?_
                    refine lv_iconst hx hb dX9_how_102 kci_m1 ?_
                    obtain ⟨r43, hc44, hf⟩ := gbd hf
                    refine gm_callV1 (As := [.int x4_19, .int x5_38, .int r5, .int p1, .int (-1 : Int32)]) (rest := []) (st1 := fun _ => []) (ws' := fun _ => (Mo_c g a0 r43)) hE hl.1 ml_X9_389 (c_X9_exchanges l g a0 s0_39 x4_19 x5_38 r5 p1 (-1 : Int32) r43 hc44) hZ hP hD hS hA 0 14 rfl (fun _ => rfl) okX9 rfl rfl rfl (fun _ => rfl) ⟨rfl, rfl⟩ ⟨Nat.le_of_ble_eq_true rfl, Nat.le_of_ble_eq_true rfl⟩ ⟨Nat.le_refl _, Nat.le_refl _⟩ (Nat.le_of_ble_eq_true rfl) dX9_how_103 (fun _ H locs hP hD hS => ?_)
                    refine lv_iinc hx hb dX9_how_106 hl (k := 5) (x := x5_38) rfl (kinc_1 _) (by decide) (lv' := [(5, .int (x5_38 + (1 : Int32))), (0, .ref (a0 0)), (1, .int p1), (2, .int r5), (3, .int r7), (4, .int x4_19)]) rfl (fun ls hl => ?_)
                    refine lv_goto hx hb dX9_how_109 (tgt := 89) rfl ?_
                    exact ihn41 (x5_38 + (1 : Int32)) r43 ls H locs hf (lv_sub hl [1, 2, 3, 4, 5, 0] rfl) hP hD hS
              exact lpn41 10000 (0 : Int32) s0_20 ls H locs hf (lv_sub hl [1, 2, 3, 4, 5, 0] rfl) hP hD hS
            · have hf := gif_t h26 hf
              refine lv_goto hx hb dX9_how_83 (tgt := 138) rfl ?_
              refine lv_iinc hx hb dX9_how_138 hl (k := 4) (x := x4_19) rfl (kinc_1 _) (by decide) (lv' := [(4, .int (x4_19 + (1 : Int32))), (0, .ref (a0 0)), (1, .int p1), (2, .int r5), (3, .int r7)]) rfl (fun ls hl => ?_)
              refine lv_goto hx hb dX9_how_141 (tgt := 66) rfl ?_
              exact ihn22 (x4_19 + (1 : Int32)) s0_20 ls H locs hf (lv_sub hl [1, 2, 3, 4, 0] rfl) hP hD hS
      exact lpn22 10000 (0 : Int32) r11 ls H locs hf (lv_sub hl [3, 4, 2, 1, 0] rfl) hP hD hS
    · have hf := gif_t h4 hf
      refine lv_aload_n hx hb dX9_how_27 rfl (lv_at hl 0 rfl) ?_
      refine lv_iconst hx hb dX9_how_28 kci_2 ?_
      obtain ⟨r45, hc46, hf⟩ := gbd hf
      refine gm_callV1 (As := [.int (2 : Int32)]) (rest := []) (st1 := fun _ => [.int (r45.1)]) (ws' := fun _ => (Mo_c g a0 (r45.2))) hE hl.1 ml_X9_61 (c_X9_refused l g a0 (Mo_w_thrown s0 (0 : Int32)) (2 : Int32) r45 hc46) hZ hP hD hS hA 0 14 rfl (fun _ => rfl) okX9 rfl rfl rfl (fun _ => rfl) ⟨rfl, rfl⟩ ⟨Nat.le_of_ble_eq_true rfl, Nat.le_of_ble_eq_true rfl⟩ ⟨Nat.le_refl _, Nat.le_refl _⟩ (Nat.le_of_ble_eq_true rfl) dX9_how_29 (fun _ H locs hP hD hS => ?_)
      cases hf
      exact hq () rfl hP hD hS dX9_how_32
  · have hf := gif_t h1 hf
    refine lv_aload_n hx hb dX9_how_12 rfl (lv_at hl 0 rfl) ?_
    refine lv_iconst hx hb dX9_how_13 kci_1 ?_
    obtain ⟨r47, hc48, hf⟩ := gbd hf
    refine gm_callV1 (As := [.int (1 : Int32)]) (rest := []) (st1 := fun _ => [.int (r47.1)]) (ws' := fun _ => (Mo_c g a0 (r47.2))) hE hl.1 ml_X9_61 (c_X9_refused l g a0 (Mo_w_thrown s0 (0 : Int32)) (1 : Int32) r47 hc48) hZ hP hD hS hA 0 14 rfl (fun _ => rfl) okX9 rfl rfl rfl (fun _ => rfl) ⟨rfl, rfl⟩ ⟨Nat.le_of_ble_eq_true rfl, Nat.le_of_ble_eq_true rfl⟩ ⟨Nat.le_refl _, Nat.le_refl _⟩ (Nat.le_of_ble_eq_true rfl) dX9_how_14 (fun _ H locs hP hD hS => ?_)
    cases hf
    exact hq () rfl hP hD hS dX9_how_17
theorem dX9_bounds_0 : decode cX9_bounds 0 = .ok (.aload_n 0, 1) := by decide +kernel
theorem dX9_bounds_1 : decode cX9_bounds 1 = .ok (.iconst 0, 1) := by decide +kernel
theorem dX9_bounds_2 : decode cX9_bounds 2 = .ok (.putfield 55, 3) := by decide +kernel
theorem dX9_bounds_5 : decode cX9_bounds 5 = .ok (.aload_n 0, 1) := by decide +kernel
theorem dX9_bounds_6 : decode cX9_bounds 6 = .ok (.getfield 218, 3) := by decide +kernel
theorem dX9_bounds_9 : decode cX9_bounds 9 = .ok (.ifCond .ne 7, 3) := by decide +kernel
theorem dX9_bounds_12 : decode cX9_bounds 12 = .ok (.iconst 1, 1) := by decide +kernel
theorem dX9_bounds_13 : decode cX9_bounds 13 = .ok (.goto 30, 3) := by decide +kernel
theorem dX9_bounds_16 : decode cX9_bounds 16 = .ok (.iload_n 1, 1) := by decide +kernel
theorem dX9_bounds_17 : decode cX9_bounds 17 = .ok (.iconst 1, 1) := by decide +kernel
theorem dX9_bounds_18 : decode cX9_bounds 18 = .ok (.sipush 999, 3) := by decide +kernel
theorem dX9_bounds_21 : decode cX9_bounds 21 = .ok (.invokestatic 90, 3) := by decide +kernel
theorem dX9_bounds_24 : decode cX9_bounds 24 = .ok (.ifCond .eq 18, 3) := by decide +kernel
theorem dX9_bounds_27 : decode cX9_bounds 27 = .ok (.iload_n 2, 1) := by decide +kernel
theorem dX9_bounds_28 : decode cX9_bounds 28 = .ok (.iconst 0, 1) := by decide +kernel
theorem dX9_bounds_29 : decode cX9_bounds 29 = .ok (.sipush 999, 3) := by decide +kernel
theorem dX9_bounds_32 : decode cX9_bounds 32 = .ok (.invokestatic 90, 3) := by decide +kernel
theorem dX9_bounds_35 : decode cX9_bounds 35 = .ok (.ifCond .eq 7, 3) := by decide +kernel
theorem dX9_bounds_38 : decode cX9_bounds 38 = .ok (.iconst 0, 1) := by decide +kernel
theorem dX9_bounds_39 : decode cX9_bounds 39 = .ok (.goto 4, 3) := by decide +kernel
theorem dX9_bounds_42 : decode cX9_bounds 42 = .ok (.iconst 2, 1) := by decide +kernel
theorem dX9_bounds_43 : decode cX9_bounds 43 = .ok (.istore_n 3, 1) := by decide +kernel
theorem dX9_bounds_44 : decode cX9_bounds 44 = .ok (.iload_n 3, 1) := by decide +kernel
theorem dX9_bounds_45 : decode cX9_bounds 45 = .ok (.ifCond .le 11, 3) := by decide +kernel
theorem dX9_bounds_48 : decode cX9_bounds 48 = .ok (.aload_n 0, 1) := by decide +kernel
theorem dX9_bounds_49 : decode cX9_bounds 49 = .ok (.iload_n 3, 1) := by decide +kernel
theorem dX9_bounds_50 : decode cX9_bounds 50 = .ok (.invokevirtual 61, 3) := by decide +kernel
theorem dX9_bounds_53 : decode cX9_bounds 53 = .ok (.pop, 1) := by decide +kernel
theorem dX9_bounds_54 : decode cX9_bounds 54 = .ok (.iconst 0, 1) := by decide +kernel
theorem dX9_bounds_55 : decode cX9_bounds 55 = .ok (.ireturn, 1) := by decide +kernel
theorem dX9_bounds_56 : decode cX9_bounds 56 = .ok (.aload_n 0, 1) := by decide +kernel
theorem dX9_bounds_57 : decode cX9_bounds 57 = .ok (.iconst 0, 1) := by decide +kernel
theorem dX9_bounds_58 : decode cX9_bounds 58 = .ok (.iconst 1, 1) := by decide +kernel
theorem dX9_bounds_59 : decode cX9_bounds 59 = .ok (.iload_n 1, 1) := by decide +kernel
theorem dX9_bounds_60 : decode cX9_bounds 60 = .ok (.invokevirtual 68, 3) := by decide +kernel
theorem dX9_bounds_63 : decode cX9_bounds 63 = .ok (.aload_n 0, 1) := by decide +kernel
theorem dX9_bounds_64 : decode cX9_bounds 64 = .ok (.iconst 0, 1) := by decide +kernel
theorem dX9_bounds_65 : decode cX9_bounds 65 = .ok (.iconst 2, 1) := by decide +kernel
theorem dX9_bounds_66 : decode cX9_bounds 66 = .ok (.iload_n 2, 1) := by decide +kernel
theorem dX9_bounds_67 : decode cX9_bounds 67 = .ok (.invokevirtual 68, 3) := by decide +kernel
theorem dX9_bounds_70 : decode cX9_bounds 70 = .ok (.aload_n 0, 1) := by decide +kernel
theorem dX9_bounds_71 : decode cX9_bounds 71 = .ok (.iconst 0, 1) := by decide +kernel
theorem dX9_bounds_72 : decode cX9_bounds 72 = .ok (.invokevirtual 230, 3) := by decide +kernel
theorem dX9_bounds_75 : decode cX9_bounds 75 = .ok (.pop, 1) := by decide +kernel
theorem dX9_bounds_76 : decode cX9_bounds 76 = .ok (.iconst 1, 1) := by decide +kernel
theorem dX9_bounds_77 : decode cX9_bounds 77 = .ok (.ireturn, 1) := by decide +kernel
def f_X9_bounds (s0 : MoT) (p1 : Int32) (p2 : Int32) : Option (Int32 × MoT) :=
  glt (fun (y2 : Int32) => if y2 ≤ 0 then (f_X9_set (Mo_w_thrown s0 (0 : Int32)) (0 : Int32) (1 : Int32) p1).bind fun r4 =>
  (f_X9_set r4 (0 : Int32) (2 : Int32) p2).bind fun r6 =>
  (f_X9_good r6 (0 : Int32)).bind fun r8 =>
  some ((1 : Int32), (r8.2))
  else (f_X9_refused (Mo_w_thrown s0 (0 : Int32)) y2).bind fun r10 =>
  some ((0 : Int32), (r10.2))) fun J1 =>
  if (Mo_isThere s0) = 0 then J1 (1 : Int32)
  else (f_X9_in p1 (1 : Int32) (999 : Int32)).bind fun r13 =>
  if r13 = 0 then J1 (2 : Int32)
  else (f_X9_in p2 (0 : Int32) (999 : Int32)).bind fun r16 =>
  if r16 = 0 then J1 (2 : Int32)
  else J1 (0 : Int32)
abbrev rm_X9_bounds : Room := { frames := 1, cells := 0, slots := 0, locals := 23 }
set_option maxHeartbeats 4000000 in
set_option maxRecDepth 100000 in
theorem c_X9_bounds (l : Launch) (g : GK) (a0 : Nat → Nat) (s0 : MoT) (p1 : Int32) (p2 : Int32) (res : (Int32 × MoT)) (hf : f_X9_bounds s0 p1 p2 = some res) : gM l yX9_bounds cX9_bounds 4 (some .boolean) rm_X9_bounds g [.ref (a0 0), .int p1, .int p2] (Mo_c g a0 s0) (fun _ : Unit => (some (.int (res.1)))) (fun _ => (Mo_c g a0 (res.2))) 0 0 := by
  refine gM_introZ RX9 (by decide) rfl (Nat.le_of_ble_eq_true rfl) (fun p e s m args below meth c Q H locs ls A hE hZ hA hP hD hS hq hl => ?_)
  have hl : lv_has ls 4 [(0, .ref (a0 0)), (1, .int p1), (2, .int p2)] := hl
  have hx := hE.1
  have hb := hE.2.1
  rw [f_X9_bounds] at hf
  refine lv_aload_n hx hb dX9_bounds_0 rfl (lv_at hl 0 rfl) ?_
  refine lv_iconst hx hb dX9_bounds_1 kci_0 ?_
  refine g_put hE okX9 fl_X9_55 hP hD hS 0 rfl rfl rfl rfl (Nat.le_of_ble_eq_true rfl) (Mo_c g a0 (Mo_w_thrown s0 (0 : Int32))) rfl dX9_bounds_2 (fun H locs hP hD hS => ?_)
  refine lv_aload_n hx hb dX9_bounds_5 rfl (lv_at hl 0 rfl) ?_
  refine g_get hE okX9 fl_X9_218 hP 0 rfl (v := .int (Mo_isThere s0)) rfl dX9_bounds_6 ?_
  obtain ⟨J1, eJ1, hf⟩ := gltd hf
  have kJ1 : ∀ (y2 : Int32) (ls : Array Slot) (H : Heap) (locs : List Loc), J1 y2 = some res → lv_has ls 4 [(0, .ref (a0 0)), (1, .int p1), (2, .int p2)] → gP g (Mo_c g a0 (Mo_w_thrown s0 (0 : Int32))) H → va_D A (Mo_c g a0 (Mo_w_thrown s0 (0 : Int32))) → va_S A s.heap H locs → W p l e rm_X9_bounds s m args below meth c H locs 0 0 Q (F0 m 43 ls [.int y2]) := by
    intro y2 ls H locs hf hl hP hD hS
    rw [eJ1] at hf
    refine lv_istore_n hx hb dX9_bounds_43 rfl hl (by decide) (lv' := [(3, .int y2), (0, .ref (a0 0)), (1, .int p1), (2, .int p2)]) rfl (fun ls hl => ?_)
    refine lv_iload_n hx hb dX9_bounds_44 rfl (lv_at hl 0 rfl) ?_
    refine lv_if_le hx hb dX9_bounds_45 (tgt := 56) rfl (fun h3 => ?_) (fun h3 => ?_)
    · have hf := gif_t h3 hf
      refine lv_aload_n hx hb dX9_bounds_56 rfl (lv_at hl 1 rfl) ?_
      refine lv_iconst hx hb dX9_bounds_57 kci_0 ?_
      refine lv_iconst hx hb dX9_bounds_58 kci_1 ?_
      refine lv_iload_n hx hb dX9_bounds_59 rfl (lv_at hl 2 rfl) ?_
      obtain ⟨r4, hc5, hf⟩ := gbd hf
      refine gm_callV1 (As := [.int (0 : Int32), .int (1 : Int32), .int p1]) (rest := []) (st1 := fun _ => []) (ws' := fun _ => (Mo_c g a0 r4)) hE hl.1 ml_X9_68 (c_X9_set l g a0 (Mo_w_thrown s0 (0 : Int32)) (0 : Int32) (1 : Int32) p1 r4 hc5) hZ hP hD hS hA 0 14 rfl (fun _ => rfl) okX9 rfl rfl rfl (fun _ => rfl) ⟨rfl, rfl⟩ ⟨Nat.le_of_ble_eq_true rfl, Nat.le_of_ble_eq_true rfl⟩ ⟨Nat.le_refl _, Nat.le_refl _⟩ (Nat.le_of_ble_eq_true rfl) dX9_bounds_60 (fun _ H locs hP hD hS => ?_)
      refine lv_aload_n hx hb dX9_bounds_63 rfl (lv_at hl 1 rfl) ?_
      refine lv_iconst hx hb dX9_bounds_64 kci_0 ?_
      refine lv_iconst hx hb dX9_bounds_65 kci_2 ?_
      refine lv_iload_n hx hb dX9_bounds_66 rfl (lv_at hl 3 rfl) ?_
      obtain ⟨r6, hc7, hf⟩ := gbd hf
      refine gm_callV1 (As := [.int (0 : Int32), .int (2 : Int32), .int p2]) (rest := []) (st1 := fun _ => []) (ws' := fun _ => (Mo_c g a0 r6)) hE hl.1 ml_X9_68 (c_X9_set l g a0 r4 (0 : Int32) (2 : Int32) p2 r6 hc7) hZ hP hD hS hA 0 14 rfl (fun _ => rfl) okX9 rfl rfl rfl (fun _ => rfl) ⟨rfl, rfl⟩ ⟨Nat.le_of_ble_eq_true rfl, Nat.le_of_ble_eq_true rfl⟩ ⟨Nat.le_refl _, Nat.le_refl _⟩ (Nat.le_of_ble_eq_true rfl) dX9_bounds_67 (fun _ H locs hP hD hS => ?_)
      refine lv_aload_n hx hb dX9_bounds_70 rfl (lv_at hl 1 rfl) ?_
      refine lv_iconst hx hb dX9_bounds_71 kci_0 ?_
      obtain ⟨r8, hc9, hf⟩ := gbd hf
      refine gm_callV1 (As := [.int (0 : Int32)]) (rest := []) (st1 := fun _ => [.int (r8.1)]) (ws' := fun _ => (Mo_c g a0 (r8.2))) hE hl.1 ml_X9_230 (c_X9_good l g a0 r6 (0 : Int32) r8 hc9) hZ hP hD hS hA 0 14 rfl (fun _ => rfl) okX9 rfl rfl rfl (fun _ => rfl) ⟨rfl, rfl⟩ ⟨Nat.le_of_ble_eq_true rfl, Nat.le_of_ble_eq_true rfl⟩ ⟨Nat.le_refl _, Nat.le_refl _⟩ (Nat.le_of_ble_eq_true rfl) dX9_bounds_72 (fun _ H locs hP hD hS => ?_)
      refine lv_pop hx hb dX9_bounds_75 rfl ?_
      refine lv_iconst hx hb dX9_bounds_76 kci_1 ?_
      cases hf
      exact hq () (by decide) rfl hP hD hS dX9_bounds_77
    · have hf := gif_f h3 hf
      refine lv_aload_n hx hb dX9_bounds_48 rfl (lv_at hl 1 rfl) ?_
      refine lv_iload_n hx hb dX9_bounds_49 rfl (lv_at hl 0 rfl) ?_
      obtain ⟨r10, hc11, hf⟩ := gbd hf
      refine gm_callV1 (As := [.int y2]) (rest := []) (st1 := fun _ => [.int (r10.1)]) (ws' := fun _ => (Mo_c g a0 (r10.2))) hE hl.1 ml_X9_61 (c_X9_refused l g a0 (Mo_w_thrown s0 (0 : Int32)) y2 r10 hc11) hZ hP hD hS hA 0 14 rfl (fun _ => rfl) okX9 rfl rfl rfl (fun _ => rfl) ⟨rfl, rfl⟩ ⟨Nat.le_of_ble_eq_true rfl, Nat.le_of_ble_eq_true rfl⟩ ⟨Nat.le_refl _, Nat.le_refl _⟩ (Nat.le_of_ble_eq_true rfl) dX9_bounds_50 (fun _ H locs hP hD hS => ?_)
      refine lv_pop hx hb dX9_bounds_53 rfl ?_
      refine lv_iconst hx hb dX9_bounds_54 kci_0 ?_
      cases hf
      exact hq () (by decide) rfl hP hD hS dX9_bounds_55
  refine lv_if_ne hx hb dX9_bounds_9 (tgt := 16) rfl (fun h12 => ?_) (fun h12 => ?_)
  · have hf := gif_f h12 hf
    refine lv_iload_n hx hb dX9_bounds_16 rfl (lv_at hl 1 rfl) ?_
    refine lv_iconst hx hb dX9_bounds_17 kci_1 ?_
    refine lv_sipush hx hb dX9_bounds_18 kcs_999 ?_
    obtain ⟨r13, hc14, hf⟩ := gbd hf
    refine gr_callS (As := [.int p1, .int (1 : Int32), .int (999 : Int32)]) (rest := []) (st1 := [.int r13]) hE hl.1 ml_X9_90 (c_X9_in l g p1 (1 : Int32) (999 : Int32) r13 hc14) hZ hS hP [] rfl rfl rfl rfl ⟨rfl, rfl⟩ ⟨Nat.le_of_ble_eq_true rfl, Nat.le_of_ble_eq_true rfl⟩ ⟨Nat.le_refl _, Nat.le_refl _⟩ (Nat.le_of_ble_eq_true rfl) dX9_bounds_21 ?_
    refine lv_if_eq hx hb dX9_bounds_24 (tgt := 42) rfl (fun h15 => ?_) (fun h15 => ?_)
    · have hf := gif_t h15 hf
      refine lv_iconst hx hb dX9_bounds_42 kci_2 ?_
      exact kJ1 (2 : Int32) ls H locs hf (lv_sub hl [0, 1, 2] rfl) hP hD hS
    · have hf := gif_f h15 hf
      refine lv_iload_n hx hb dX9_bounds_27 rfl (lv_at hl 2 rfl) ?_
      refine lv_iconst hx hb dX9_bounds_28 kci_0 ?_
      refine lv_sipush hx hb dX9_bounds_29 kcs_999 ?_
      obtain ⟨r16, hc17, hf⟩ := gbd hf
      refine gr_callS (As := [.int p2, .int (0 : Int32), .int (999 : Int32)]) (rest := []) (st1 := [.int r16]) hE hl.1 ml_X9_90 (c_X9_in l g p2 (0 : Int32) (999 : Int32) r16 hc17) hZ hS hP [] rfl rfl rfl rfl ⟨rfl, rfl⟩ ⟨Nat.le_of_ble_eq_true rfl, Nat.le_of_ble_eq_true rfl⟩ ⟨Nat.le_refl _, Nat.le_refl _⟩ (Nat.le_of_ble_eq_true rfl) dX9_bounds_32 ?_
      refine lv_if_eq hx hb dX9_bounds_35 (tgt := 42) rfl (fun h18 => ?_) (fun h18 => ?_)
      · have hf := gif_t h18 hf
        refine lv_iconst hx hb dX9_bounds_42 kci_2 ?_
        exact kJ1 (2 : Int32) ls H locs hf (lv_sub hl [0, 1, 2] rfl) hP hD hS
      · have hf := gif_f h18 hf
        refine lv_iconst hx hb dX9_bounds_38 kci_0 ?_
        refine lv_goto hx hb dX9_bounds_39 (tgt := 43) rfl ?_
        exact kJ1 (0 : Int32) ls H locs hf (lv_sub hl [0, 1, 2] rfl) hP hD hS
  · have hf := gif_t h12 hf
    refine lv_iconst hx hb dX9_bounds_12 kci_1 ?_
    refine lv_goto hx hb dX9_bounds_13 (tgt := 43) rfl ?_
    exact kJ1 (1 : Int32) ls H locs hf (lv_sub hl [0, 1, 2] rfl) hP hD hS
theorem dX9_keep_0 : decode cX9_keep 0 = .ok (.aload_n 0, 1) := by decide +kernel
theorem dX9_keep_1 : decode cX9_keep 1 = .ok (.iconst 0, 1) := by decide +kernel
theorem dX9_keep_2 : decode cX9_keep 2 = .ok (.putfield 55, 3) := by decide +kernel
theorem dX9_keep_5 : decode cX9_keep 5 = .ok (.aload_n 0, 1) := by decide +kernel
theorem dX9_keep_6 : decode cX9_keep 6 = .ok (.getfield 218, 3) := by decide +kernel
theorem dX9_keep_9 : decode cX9_keep 9 = .ok (.ifCond .ne 11, 3) := by decide +kernel
theorem dX9_keep_12 : decode cX9_keep 12 = .ok (.aload_n 0, 1) := by decide +kernel
theorem dX9_keep_13 : decode cX9_keep 13 = .ok (.iconst 1, 1) := by decide +kernel
theorem dX9_keep_14 : decode cX9_keep 14 = .ok (.invokevirtual 61, 3) := by decide +kernel
theorem dX9_keep_17 : decode cX9_keep 17 = .ok (.pop, 1) := by decide +kernel
theorem dX9_keep_18 : decode cX9_keep 18 = .ok (.iconst 0, 1) := by decide +kernel
theorem dX9_keep_19 : decode cX9_keep 19 = .ok (.ireturn, 1) := by decide +kernel
theorem dX9_keep_20 : decode cX9_keep 20 = .ok (.aload_n 0, 1) := by decide +kernel
theorem dX9_keep_21 : decode cX9_keep 21 = .ok (.iconst 2, 1) := by decide +kernel
theorem dX9_keep_22 : decode cX9_keep 22 = .ok (.iconst 0, 1) := by decide +kernel
theorem dX9_keep_23 : decode cX9_keep 23 = .ok (.invokevirtual 381, 3) := by decide +kernel
theorem dX9_keep_26 : decode cX9_keep 26 = .ok (.aload_n 0, 1) := by decide +kernel
theorem dX9_keep_27 : decode cX9_keep 27 = .ok (.iconst 1, 1) := by decide +kernel
theorem dX9_keep_28 : decode cX9_keep 28 = .ok (.putfield 221, 3) := by decide +kernel
theorem dX9_keep_31 : decode cX9_keep 31 = .ok (.aload_n 0, 1) := by decide +kernel
theorem dX9_keep_32 : decode cX9_keep 32 = .ok (.iconst 0, 1) := by decide +kernel
theorem dX9_keep_33 : decode cX9_keep 33 = .ok (.invokevirtual 230, 3) := by decide +kernel
theorem dX9_keep_36 : decode cX9_keep 36 = .ok (.pop, 1) := by decide +kernel
theorem dX9_keep_37 : decode cX9_keep 37 = .ok (.iconst 1, 1) := by decide +kernel
theorem dX9_keep_38 : decode cX9_keep 38 = .ok (.ireturn, 1) := by decide +kernel
def f_X9_keep (s0 : MoT) : Option (Int32 × MoT) :=
  if (Mo_isThere s0) = 0 then (f_X9_refused (Mo_w_thrown s0 (0 : Int32)) (1 : Int32)).bind fun r6 =>
  some ((0 : Int32), (r6.2))
  else (f_X9_copies (Mo_w_thrown s0 (0 : Int32)) (2 : Int32) (0 : Int32)).bind fun r2 =>
  (f_X9_good (Mo_w_hasImage r2 (1 : Int32)) (0 : Int32)).bind fun r4 =>
  some ((1 : Int32), (r4.2))
abbrev rm_X9_keep : Room := { frames := 1, cells := 0, slots := 0, locals := 23 }
set_option maxHeartbeats 4000000 in
set_option maxRecDepth 100000 in
theorem c_X9_keep (l : Launch) (g : GK) (a0 : Nat → Nat) (s0 : MoT) (res : (Int32 × MoT)) (hf : f_X9_keep s0 = some res) : gM l yX9_keep cX9_keep 1 (some .boolean) rm_X9_keep g [.ref (a0 0)] (Mo_c g a0 s0) (fun _ : Unit => (some (.int (res.1)))) (fun _ => (Mo_c g a0 (res.2))) 0 0 := by
  refine gM_introZ RX9 (by decide) rfl (Nat.le_of_ble_eq_true rfl) (fun p e s m args below meth c Q H locs ls A hE hZ hA hP hD hS hq hl => ?_)
  have hl : lv_has ls 1 [(0, .ref (a0 0))] := hl
  have hx := hE.1
  have hb := hE.2.1
  rw [f_X9_keep] at hf
  refine lv_aload_n hx hb dX9_keep_0 rfl (lv_at hl 0 rfl) ?_
  refine lv_iconst hx hb dX9_keep_1 kci_0 ?_
  refine g_put hE okX9 fl_X9_55 hP hD hS 0 rfl rfl rfl rfl (Nat.le_of_ble_eq_true rfl) (Mo_c g a0 (Mo_w_thrown s0 (0 : Int32))) rfl dX9_keep_2 (fun H locs hP hD hS => ?_)
  refine lv_aload_n hx hb dX9_keep_5 rfl (lv_at hl 0 rfl) ?_
  refine g_get hE okX9 fl_X9_218 hP 0 rfl (v := .int (Mo_isThere s0)) rfl dX9_keep_6 ?_
  refine lv_if_ne hx hb dX9_keep_9 (tgt := 20) rfl (fun h1 => ?_) (fun h1 => ?_)
  · have hf := gif_f h1 hf
    refine lv_aload_n hx hb dX9_keep_20 rfl (lv_at hl 0 rfl) ?_
    refine lv_iconst hx hb dX9_keep_21 kci_2 ?_
    refine lv_iconst hx hb dX9_keep_22 kci_0 ?_
    obtain ⟨r2, hc3, hf⟩ := gbd hf
    refine gm_callV1 (As := [.int (2 : Int32), .int (0 : Int32)]) (rest := []) (st1 := fun _ => []) (ws' := fun _ => (Mo_c g a0 r2)) hE hl.1 ml_X9_381 (c_X9_copies l g a0 (Mo_w_thrown s0 (0 : Int32)) (2 : Int32) (0 : Int32) r2 hc3) hZ hP hD hS hA 0 14 rfl (fun _ => rfl) okX9 rfl rfl rfl (fun _ => rfl) ⟨rfl, rfl⟩ ⟨Nat.le_of_ble_eq_true rfl, Nat.le_of_ble_eq_true rfl⟩ ⟨Nat.le_refl _, Nat.le_refl _⟩ (Nat.le_of_ble_eq_true rfl) dX9_keep_23 (fun _ H locs hP hD hS => ?_)
    refine lv_aload_n hx hb dX9_keep_26 rfl (lv_at hl 0 rfl) ?_
    refine lv_iconst hx hb dX9_keep_27 kci_1 ?_
    refine g_put hE okX9 fl_X9_221 hP hD hS 0 rfl rfl rfl rfl (Nat.le_of_ble_eq_true rfl) (Mo_c g a0 (Mo_w_hasImage r2 (1 : Int32))) rfl dX9_keep_28 (fun H locs hP hD hS => ?_)
    refine lv_aload_n hx hb dX9_keep_31 rfl (lv_at hl 0 rfl) ?_
    refine lv_iconst hx hb dX9_keep_32 kci_0 ?_
    obtain ⟨r4, hc5, hf⟩ := gbd hf
    refine gm_callV1 (As := [.int (0 : Int32)]) (rest := []) (st1 := fun _ => [.int (r4.1)]) (ws' := fun _ => (Mo_c g a0 (r4.2))) hE hl.1 ml_X9_230 (c_X9_good l g a0 (Mo_w_hasImage r2 (1 : Int32)) (0 : Int32) r4 hc5) hZ hP hD hS hA 0 14 rfl (fun _ => rfl) okX9 rfl rfl rfl (fun _ => rfl) ⟨rfl, rfl⟩ ⟨Nat.le_of_ble_eq_true rfl, Nat.le_of_ble_eq_true rfl⟩ ⟨Nat.le_refl _, Nat.le_refl _⟩ (Nat.le_of_ble_eq_true rfl) dX9_keep_33 (fun _ H locs hP hD hS => ?_)
    refine lv_pop hx hb dX9_keep_36 rfl ?_
    refine lv_iconst hx hb dX9_keep_37 kci_1 ?_
    cases hf
    exact hq () (by decide) rfl hP hD hS dX9_keep_38
  · have hf := gif_t h1 hf
    refine lv_aload_n hx hb dX9_keep_12 rfl (lv_at hl 0 rfl) ?_
    refine lv_iconst hx hb dX9_keep_13 kci_1 ?_
    obtain ⟨r6, hc7, hf⟩ := gbd hf
    refine gm_callV1 (As := [.int (1 : Int32)]) (rest := []) (st1 := fun _ => [.int (r6.1)]) (ws' := fun _ => (Mo_c g a0 (r6.2))) hE hl.1 ml_X9_61 (c_X9_refused l g a0 (Mo_w_thrown s0 (0 : Int32)) (1 : Int32) r6 hc7) hZ hP hD hS hA 0 14 rfl (fun _ => rfl) okX9 rfl rfl rfl (fun _ => rfl) ⟨rfl, rfl⟩ ⟨Nat.le_of_ble_eq_true rfl, Nat.le_of_ble_eq_true rfl⟩ ⟨Nat.le_refl _, Nat.le_refl _⟩ (Nat.le_of_ble_eq_true rfl) dX9_keep_14 (fun _ H locs hP hD hS => ?_)
    refine lv_pop hx hb dX9_keep_17 rfl ?_
    refine lv_iconst hx hb dX9_keep_18 kci_0 ?_
    cases hf
    exact hq () (by decide) rfl hP hD hS dX9_keep_19
theorem dX9_back_0 : decode cX9_back 0 = .ok (.aload_n 0, 1) := by decide +kernel
theorem dX9_back_1 : decode cX9_back 1 = .ok (.iconst 0, 1) := by decide +kernel
theorem dX9_back_2 : decode cX9_back 2 = .ok (.putfield 55, 3) := by decide +kernel
theorem dX9_back_5 : decode cX9_back 5 = .ok (.aload_n 0, 1) := by decide +kernel
theorem dX9_back_6 : decode cX9_back 6 = .ok (.getfield 221, 3) := by decide +kernel
theorem dX9_back_9 : decode cX9_back 9 = .ok (.ifCond .ne 11, 3) := by decide +kernel
theorem dX9_back_12 : decode cX9_back 12 = .ok (.aload_n 0, 1) := by decide +kernel
theorem dX9_back_13 : decode cX9_back 13 = .ok (.iconst 1, 1) := by decide +kernel
theorem dX9_back_14 : decode cX9_back 14 = .ok (.invokevirtual 61, 3) := by decide +kernel
theorem dX9_back_17 : decode cX9_back 17 = .ok (.pop, 1) := by decide +kernel
theorem dX9_back_18 : decode cX9_back 18 = .ok (.iconst 0, 1) := by decide +kernel
theorem dX9_back_19 : decode cX9_back 19 = .ok (.ireturn, 1) := by decide +kernel
theorem dX9_back_20 : decode cX9_back 20 = .ok (.aload_n 0, 1) := by decide +kernel
theorem dX9_back_21 : decode cX9_back 21 = .ok (.iconst 0, 1) := by decide +kernel
theorem dX9_back_22 : decode cX9_back 22 = .ok (.iconst 2, 1) := by decide +kernel
theorem dX9_back_23 : decode cX9_back 23 = .ok (.invokevirtual 381, 3) := by decide +kernel
theorem dX9_back_26 : decode cX9_back 26 = .ok (.aload_n 0, 1) := by decide +kernel
theorem dX9_back_27 : decode cX9_back 27 = .ok (.iconst 0, 1) := by decide +kernel
theorem dX9_back_28 : decode cX9_back 28 = .ok (.invokevirtual 230, 3) := by decide +kernel
theorem dX9_back_31 : decode cX9_back 31 = .ok (.pop, 1) := by decide +kernel
theorem dX9_back_32 : decode cX9_back 32 = .ok (.iconst 1, 1) := by decide +kernel
theorem dX9_back_33 : decode cX9_back 33 = .ok (.ireturn, 1) := by decide +kernel
def f_X9_back (s0 : MoT) : Option (Int32 × MoT) :=
  if (Mo_hasImage s0) = 0 then (f_X9_refused (Mo_w_thrown s0 (0 : Int32)) (1 : Int32)).bind fun r6 =>
  some ((0 : Int32), (r6.2))
  else (f_X9_copies (Mo_w_thrown s0 (0 : Int32)) (0 : Int32) (2 : Int32)).bind fun r2 =>
  (f_X9_good r2 (0 : Int32)).bind fun r4 =>
  some ((1 : Int32), (r4.2))
abbrev rm_X9_back : Room := { frames := 1, cells := 0, slots := 0, locals := 23 }
set_option maxHeartbeats 4000000 in
set_option maxRecDepth 100000 in
theorem c_X9_back (l : Launch) (g : GK) (a0 : Nat → Nat) (s0 : MoT) (res : (Int32 × MoT)) (hf : f_X9_back s0 = some res) : gM l yX9_back cX9_back 1 (some .boolean) rm_X9_back g [.ref (a0 0)] (Mo_c g a0 s0) (fun _ : Unit => (some (.int (res.1)))) (fun _ => (Mo_c g a0 (res.2))) 0 0 := by
  refine gM_introZ RX9 (by decide) rfl (Nat.le_of_ble_eq_true rfl) (fun p e s m args below meth c Q H locs ls A hE hZ hA hP hD hS hq hl => ?_)
  have hl : lv_has ls 1 [(0, .ref (a0 0))] := hl
  have hx := hE.1
  have hb := hE.2.1
  rw [f_X9_back] at hf
  refine lv_aload_n hx hb dX9_back_0 rfl (lv_at hl 0 rfl) ?_
  refine lv_iconst hx hb dX9_back_1 kci_0 ?_
  refine g_put hE okX9 fl_X9_55 hP hD hS 0 rfl rfl rfl rfl (Nat.le_of_ble_eq_true rfl) (Mo_c g a0 (Mo_w_thrown s0 (0 : Int32))) rfl dX9_back_2 (fun H locs hP hD hS => ?_)
  refine lv_aload_n hx hb dX9_back_5 rfl (lv_at hl 0 rfl) ?_
  refine g_get hE okX9 fl_X9_221 hP 0 rfl (v := .int (Mo_hasImage s0)) rfl dX9_back_6 ?_
  refine lv_if_ne hx hb dX9_back_9 (tgt := 20) rfl (fun h1 => ?_) (fun h1 => ?_)
  · have hf := gif_f h1 hf
    refine lv_aload_n hx hb dX9_back_20 rfl (lv_at hl 0 rfl) ?_
    refine lv_iconst hx hb dX9_back_21 kci_0 ?_
    refine lv_iconst hx hb dX9_back_22 kci_2 ?_
    obtain ⟨r2, hc3, hf⟩ := gbd hf
    refine gm_callV1 (As := [.int (0 : Int32), .int (2 : Int32)]) (rest := []) (st1 := fun _ => []) (ws' := fun _ => (Mo_c g a0 r2)) hE hl.1 ml_X9_381 (c_X9_copies l g a0 (Mo_w_thrown s0 (0 : Int32)) (0 : Int32) (2 : Int32) r2 hc3) hZ hP hD hS hA 0 14 rfl (fun _ => rfl) okX9 rfl rfl rfl (fun _ => rfl) ⟨rfl, rfl⟩ ⟨Nat.le_of_ble_eq_true rfl, Nat.le_of_ble_eq_true rfl⟩ ⟨Nat.le_refl _, Nat.le_refl _⟩ (Nat.le_of_ble_eq_true rfl) dX9_back_23 (fun _ H locs hP hD hS => ?_)
    refine lv_aload_n hx hb dX9_back_26 rfl (lv_at hl 0 rfl) ?_
    refine lv_iconst hx hb dX9_back_27 kci_0 ?_
    obtain ⟨r4, hc5, hf⟩ := gbd hf
    refine gm_callV1 (As := [.int (0 : Int32)]) (rest := []) (st1 := fun _ => [.int (r4.1)]) (ws' := fun _ => (Mo_c g a0 (r4.2))) hE hl.1 ml_X9_230 (c_X9_good l g a0 r2 (0 : Int32) r4 hc5) hZ hP hD hS hA 0 14 rfl (fun _ => rfl) okX9 rfl rfl rfl (fun _ => rfl) ⟨rfl, rfl⟩ ⟨Nat.le_of_ble_eq_true rfl, Nat.le_of_ble_eq_true rfl⟩ ⟨Nat.le_refl _, Nat.le_refl _⟩ (Nat.le_of_ble_eq_true rfl) dX9_back_28 (fun _ H locs hP hD hS => ?_)
    refine lv_pop hx hb dX9_back_31 rfl ?_
    refine lv_iconst hx hb dX9_back_32 kci_1 ?_
    cases hf
    exact hq () (by decide) rfl hP hD hS dX9_back_33
  · have hf := gif_t h1 hf
    refine lv_aload_n hx hb dX9_back_12 rfl (lv_at hl 0 rfl) ?_
    refine lv_iconst hx hb dX9_back_13 kci_1 ?_
    obtain ⟨r6, hc7, hf⟩ := gbd hf
    refine gm_callV1 (As := [.int (1 : Int32)]) (rest := []) (st1 := fun _ => [.int (r6.1)]) (ws' := fun _ => (Mo_c g a0 (r6.2))) hE hl.1 ml_X9_61 (c_X9_refused l g a0 (Mo_w_thrown s0 (0 : Int32)) (1 : Int32) r6 hc7) hZ hP hD hS hA 0 14 rfl (fun _ => rfl) okX9 rfl rfl rfl (fun _ => rfl) ⟨rfl, rfl⟩ ⟨Nat.le_of_ble_eq_true rfl, Nat.le_of_ble_eq_true rfl⟩ ⟨Nat.le_refl _, Nat.le_refl _⟩ (Nat.le_of_ble_eq_true rfl) dX9_back_14 (fun _ H locs hP hD hS => ?_)
    refine lv_pop hx hb dX9_back_17 rfl ?_
    refine lv_iconst hx hb dX9_back_18 kci_0 ?_
    cases hf
    exact hq () (by decide) rfl hP hD hS dX9_back_19
theorem dX9_single_0 : decode cX9_single 0 = .ok (.aload_n 0, 1) := by decide +kernel
theorem dX9_single_1 : decode cX9_single 1 = .ok (.iconst 0, 1) := by decide +kernel
theorem dX9_single_2 : decode cX9_single 2 = .ok (.putfield 55, 3) := by decide +kernel
theorem dX9_single_5 : decode cX9_single 5 = .ok (.iconst 0, 1) := by decide +kernel
theorem dX9_single_6 : decode cX9_single 6 = .ok (.istore_n 2, 1) := by decide +kernel
theorem dX9_single_7 : decode cX9_single 7 = .ok (.iconst 0, 1) := by decide +kernel
theorem dX9_single_8 : decode cX9_single 8 = .ok (.istore_n 3, 1) := by decide +kernel
theorem dX9_single_9 : decode cX9_single 9 = .ok (.aload_n 0, 1) := by decide +kernel
theorem dX9_single_10 : decode cX9_single 10 = .ok (.getfield 218, 3) := by decide +kernel
theorem dX9_single_13 : decode cX9_single 13 = .ok (.ifCond .eq 54, 3) := by decide +kernel
theorem dX9_single_16 : decode cX9_single 16 = .ok (.iload_n 3, 1) := by decide +kernel
theorem dX9_single_17 : decode cX9_single 17 = .ok (.bipush 8, 2) := by decide +kernel
theorem dX9_single_19 : decode cX9_single 19 = .ok (.if_icmp .ge 48, 3) := by decide +kernel
theorem dX9_single_22 : decode cX9_single 22 = .ok (.aload_n 0, 1) := by decide +kernel
theorem dX9_single_23 : decode cX9_single 23 = .ok (.iconst 0, 1) := by decide +kernel
theorem dX9_single_24 : decode cX9_single 24 = .ok (.iload_n 3, 1) := by decide +kernel
theorem dX9_single_25 : decode cX9_single 25 = .ok (.invokevirtual 270, 3) := by decide +kernel
theorem dX9_single_28 : decode cX9_single 28 = .ok (.ifCond .eq 33, 3) := by decide +kernel
theorem dX9_single_31 : decode cX9_single 31 = .ok (.aload_n 0, 1) := by decide +kernel
theorem dX9_single_32 : decode cX9_single 32 = .ok (.iconst 0, 1) := by decide +kernel
theorem dX9_single_33 : decode cX9_single 33 = .ok (.iconst 0, 1) := by decide +kernel
theorem dX9_single_34 : decode cX9_single 34 = .ok (.iload_n 3, 1) := by decide +kernel
theorem dX9_single_35 : decode cX9_single 35 = .ok (.invokevirtual 248, 3) := by decide +kernel
theorem dX9_single_38 : decode cX9_single 38 = .ok (.aload_n 0, 1) := by decide +kernel
theorem dX9_single_39 : decode cX9_single 39 = .ok (.iconst 0, 1) := by decide +kernel
theorem dX9_single_40 : decode cX9_single 40 = .ok (.iconst 1, 1) := by decide +kernel
theorem dX9_single_41 : decode cX9_single 41 = .ok (.iload_n 3, 1) := by decide +kernel
theorem dX9_single_42 : decode cX9_single 42 = .ok (.invokevirtual 248, 3) := by decide +kernel
theorem dX9_single_45 : decode cX9_single 45 = .ok (.if_icmp .ne 6, 3) := by decide +kernel
theorem dX9_single_48 : decode cX9_single 48 = .ok (.goto 13, 3) := by decide +kernel
theorem dX9_single_51 : decode cX9_single 51 = .ok (.iload_n 2, 1) := by decide +kernel
theorem dX9_single_52 : decode cX9_single 52 = .ok (.iload_n 1, 1) := by decide +kernel
theorem dX9_single_53 : decode cX9_single 53 = .ok (.if_icmp .ne 5, 3) := by decide +kernel
theorem dX9_single_56 : decode cX9_single 56 = .ok (.iload_n 3, 1) := by decide +kernel
theorem dX9_single_57 : decode cX9_single 57 = .ok (.ireturn, 1) := by decide +kernel
theorem dX9_single_58 : decode cX9_single 58 = .ok (.iinc 2 1, 3) := by decide +kernel
theorem dX9_single_61 : decode cX9_single 61 = .ok (.iinc 3 1, 3) := by decide +kernel
theorem dX9_single_64 : decode cX9_single 64 = .ok (.goto (-55), 3) := by decide +kernel
theorem dX9_single_67 : decode cX9_single 67 = .ok (.aload_n 0, 1) := by decide +kernel
theorem dX9_single_68 : decode cX9_single 68 = .ok (.iconst 1, 1) := by decide +kernel
theorem dX9_single_69 : decode cX9_single 69 = .ok (.putfield 55, 3) := by decide +kernel
theorem dX9_single_72 : decode cX9_single 72 = .ok (.iconst 0, 1) := by decide +kernel
theorem dX9_single_73 : decode cX9_single 73 = .ok (.ireturn, 1) := by decide +kernel
def f_X9_single_L9_6 (s0 : MoT) (p1 : Int32) (K1 : (Int32 → Option (Int32 × MoT))) (K3 : (Unit → Option (Int32 × MoT))) : Nat → Int32 → Int32 → Option (Int32 × MoT)
  | 0, _, _ => none
  | n7 + 1, x2_4, x3_5 => if (Mo_isThere s0) = 0 then K3 ()
  else if (8 : Int32) ≤ x3_5 then K3 ()
  else (f_X9_lives (Mo_w_thrown s0 (0 : Int32)) (0 : Int32) x3_5).bind fun r10 =>
  if r10 = 0 then f_X9_single_L9_6 s0 p1 K1 K3 n7 x2_4 (x3_5 + (1 : Int32))
  else (f_X9_has (Mo_w_thrown s0 (0 : Int32)) (0 : Int32) (0 : Int32) x3_5).bind fun r13 =>
  (f_X9_has (Mo_w_thrown s0 (0 : Int32)) (0 : Int32) (1 : Int32) x3_5).bind fun r15 =>
  if r13 = r15 then f_X9_single_L9_6 s0 p1 K1 K3 n7 x2_4 (x3_5 + (1 : Int32))
  else if x2_4 = p1 then K1 x3_5
  else f_X9_single_L9_6 s0 p1 K1 K3 n7 (x2_4 + (1 : Int32)) (x3_5 + (1 : Int32))
def f_X9_single (s0 : MoT) (p1 : Int32) : Option (Int32 × MoT) :=
  glt (fun (x3_2 : Int32) => some (x3_2, (Mo_w_thrown s0 (0 : Int32)))) fun K1 =>
  glt (fun (_ : Unit) => some ((0 : Int32), (Mo_w_thrown s0 (1 : Int32)))) fun K3 =>
  f_X9_single_L9_6 s0 p1 K1 K3 10000 (0 : Int32) (0 : Int32)
abbrev rm_X9_single : Room := { frames := 4, cells := 0, slots := 0, locals := 95 }
set_option maxHeartbeats 4000000 in
set_option maxRecDepth 100000 in
theorem c_X9_single (l : Launch) (g : GK) (a0 : Nat → Nat) (s0 : MoT) (p1 : Int32) (res : (Int32 × MoT)) (hf : f_X9_single s0 p1 = some res) : gM l yX9_single cX9_single 4 (some .int) rm_X9_single g [.ref (a0 0), .int p1] (Mo_c g a0 s0) (fun _ : Unit => (some (.int (res.1)))) (fun _ => (Mo_c g a0 (res.2))) 0 0 := by
  refine gM_introI RX9 (by decide) rfl (Nat.le_of_ble_eq_true rfl) (fun p e s m args below meth c Q H locs ls A hE hZ hA hP hD hS hq hl => ?_)
  have hl : lv_has ls 4 [(0, .ref (a0 0)), (1, .int p1)] := hl
  have hx := hE.1
  have hb := hE.2.1
  rw [f_X9_single] at hf
  refine lv_aload_n hx hb dX9_single_0 rfl (lv_at hl 0 rfl) ?_
  refine lv_iconst hx hb dX9_single_1 kci_0 ?_
  refine g_put hE okX9 fl_X9_55 hP hD hS 0 rfl rfl rfl rfl (Nat.le_of_ble_eq_true rfl) (Mo_c g a0 (Mo_w_thrown s0 (0 : Int32))) rfl dX9_single_2 (fun H locs hP hD hS => ?_)
  refine lv_iconst hx hb dX9_single_5 kci_0 ?_
  refine lv_istore_n hx hb dX9_single_6 rfl hl (by decide) (lv' := [(2, .int (0 : Int32)), (0, .ref (a0 0)), (1, .int p1)]) rfl (fun ls hl => ?_)
  refine lv_iconst hx hb dX9_single_7 kci_0 ?_
  refine lv_istore_n hx hb dX9_single_8 rfl hl (by decide) (lv' := [(3, .int (0 : Int32)), (2, .int (0 : Int32)), (0, .ref (a0 0)), (1, .int p1)]) rfl (fun ls hl => ?_)
  obtain ⟨K1, eK1, hf⟩ := gltd hf
  have kK1 : ∀ (x3_2 : Int32) (ls : Array Slot) (H : Heap) (locs : List Loc), K1 x3_2 = some res → lv_has ls 4 [(3, .int x3_2)] → gP g (Mo_c g a0 (Mo_w_thrown s0 (0 : Int32))) H → va_D A (Mo_c g a0 (Mo_w_thrown s0 (0 : Int32))) → va_S A s.heap H locs → W p l e rm_X9_single s m args below meth c H locs 0 0 Q (F0 m 56 ls []) := by
    intro x3_2 ls H locs hf hl hP hD hS
    rw [eK1] at hf
    refine lv_iload_n hx hb dX9_single_56 rfl (lv_at hl 0 rfl) ?_
    cases hf
    exact hq () rfl hP hD hS dX9_single_57
  obtain ⟨K3, eK3, hf⟩ := gltd hf
  have kK3 : ∀ (_ : Unit) (ls : Array Slot) (H : Heap) (locs : List Loc), K3 () = some res → lv_has ls 4 [(0, .ref (a0 0))] → gP g (Mo_c g a0 (Mo_w_thrown s0 (0 : Int32))) H → va_D A (Mo_c g a0 (Mo_w_thrown s0 (0 : Int32))) → va_S A s.heap H locs → W p l e rm_X9_single s m args below meth c H locs 0 0 Q (F0 m 67 ls []) := by
    intro _ ls H locs hf hl hP hD hS
    rw [eK3] at hf
    refine lv_aload_n hx hb dX9_single_67 rfl (lv_at hl 0 rfl) ?_
    refine lv_iconst hx hb dX9_single_68 kci_1 ?_
    refine g_put hE okX9 fl_X9_55 hP hD hS 0 rfl rfl rfl rfl (Nat.le_of_ble_eq_true rfl) (Mo_c g a0 (Mo_w_thrown s0 (1 : Int32))) rfl dX9_single_69 (fun H locs hP hD hS => ?_)
    refine lv_iconst hx hb dX9_single_72 kci_0 ?_
    cases hf
    exact hq () rfl hP hD hS dX9_single_73
  have lpn7 : ∀ (n7 : Nat) (x2_4 : Int32) (x3_5 : Int32) (ls : Array Slot) (H : Heap) (locs : List Loc), f_X9_single_L9_6 s0 p1 K1 K3 n7 x2_4 x3_5 = some res → lv_has ls 4 [(0, .ref (a0 0)), (1, .int p1), (2, .int x2_4), (3, .int x3_5)] → gP g (Mo_c g a0 (Mo_w_thrown s0 (0 : Int32))) H → va_D A (Mo_c g a0 (Mo_w_thrown s0 (0 : Int32))) → va_S A s.heap H locs → W p l e rm_X9_single s m args below meth c H locs 0 0 Q (F0 m 9 ls []) := by
    intro n7
    induction n7 with
    | zero => intro x2_4 x3_5 ls H locs hf hl hP hD hS; rw [f_X9_single_L9_6] at hf; cases hf
    | succ n7 ihn7 =>
      intro x2_4 x3_5 ls H locs hf hl hP hD hS
      rw [f_X9_single_L9_6] at hf
      refine lv_aload_n hx hb dX9_single_9 rfl (lv_at hl 0 rfl) ?_
      refine g_get hE okX9 fl_X9_218 hP 0 rfl (v := .int (Mo_isThere s0)) rfl dX9_single_10 ?_
      refine lv_if_eq hx hb dX9_single_13 (tgt := 67) rfl (fun h8 => ?_) (fun h8 => ?_)
      · have hf := gif_t h8 hf
        exact kK3 () ls H locs hf (lv_sub hl [0] rfl) hP hD hS
      · have hf := gif_f h8 hf
        refine lv_iload_n hx hb dX9_single_16 rfl (lv_at hl 3 rfl) ?_
        refine lv_bipush hx hb dX9_single_17 kcb_8 ?_
        refine lv_icmp_ge hx hb dX9_single_19 (tgt := 67) rfl (fun h9 => ?_) (fun h9 => ?_)
        · have hf := gif_t h9 hf
          exact kK3 () ls H locs hf (lv_sub hl [0] rfl) hP hD hS
        · have hf := gif_f h9 hf
          refine lv_aload_n hx hb dX9_single_22 rfl (lv_at hl 0 rfl) ?_
          refine lv_iconst hx hb dX9_single_23 kci_0 ?_
          refine lv_iload_n hx hb dX9_single_24 rfl (lv_at hl 3 rfl) ?_
          obtain ⟨r10, hc11, hf⟩ := gbd hf
          refine gr_callV (As := [.int (0 : Int32), .int x3_5]) (rest := []) (st1 := [.int r10]) hE hl.1 ml_X9_270 (c_X9_lives l g a0 (Mo_w_thrown s0 (0 : Int32)) (0 : Int32) x3_5 r10 hc11) hZ hS hP [(0, 14)] rfl okX9 rfl rfl rfl rfl ⟨rfl, rfl⟩ ⟨Nat.le_of_ble_eq_true rfl, Nat.le_of_ble_eq_true rfl⟩ ⟨Nat.le_refl _, Nat.le_refl _⟩ (Nat.le_of_ble_eq_true rfl) dX9_single_25 ?_
          refine lv_if_eq hx hb dX9_single_28 (tgt := 61) rfl (fun h12 => ?_) (fun h12 => ?_)
          · have hf := gif_t h12 hf
            refine lv_iinc hx hb dX9_single_61 hl (k := 3) (x := x3_5) rfl (kinc_1 _) (by decide) (lv' := [(3, .int (x3_5 + (1 : Int32))), (0, .ref (a0 0)), (1, .int p1), (2, .int x2_4)]) rfl (fun ls hl => ?_)
            refine lv_goto hx hb dX9_single_64 (tgt := 9) rfl ?_
            exact ihn7 x2_4 (x3_5 + (1 : Int32)) ls H locs hf (lv_sub hl [1, 2, 3, 0] rfl) hP hD hS
          · have hf := gif_f h12 hf
            refine lv_aload_n hx hb dX9_single_31 rfl (lv_at hl 0 rfl) ?_
            refine lv_iconst hx hb dX9_single_32 kci_0 ?_
            refine lv_iconst hx hb dX9_single_33 kci_0 ?_
            refine lv_iload_n hx hb dX9_single_34 rfl (lv_at hl 3 rfl) ?_
            obtain ⟨r13, hc14, hf⟩ := gbd hf
            refine gr_callV (As := [.int (0 : Int32), .int (0 : Int32), .int x3_5]) (rest := []) (st1 := [.int r13]) hE hl.1 ml_X9_248 (c_X9_has l g a0 (Mo_w_thrown s0 (0 : Int32)) (0 : Int32) (0 : Int32) x3_5 r13 hc14) hZ hS hP [(0, 14)] rfl okX9 rfl rfl rfl rfl ⟨rfl, rfl⟩ ⟨Nat.le_of_ble_eq_true rfl, Nat.le_of_ble_eq_true rfl⟩ ⟨Nat.le_refl _, Nat.le_refl _⟩ (Nat.le_of_ble_eq_true rfl) dX9_single_35 ?_
            refine lv_aload_n hx hb dX9_single_38 rfl (lv_at hl 0 rfl) ?_
            refine lv_iconst hx hb dX9_single_39 kci_0 ?_
            refine lv_iconst hx hb dX9_single_40 kci_1 ?_
            refine lv_iload_n hx hb dX9_single_41 rfl (lv_at hl 3 rfl) ?_
            obtain ⟨r15, hc16, hf⟩ := gbd hf
            refine gr_callV (As := [.int (0 : Int32), .int (1 : Int32), .int x3_5]) (rest := [.int r13]) (st1 := [.int r15, .int r13]) hE hl.1 ml_X9_248 (c_X9_has l g a0 (Mo_w_thrown s0 (0 : Int32)) (0 : Int32) (1 : Int32) x3_5 r15 hc16) hZ hS hP [(0, 14)] rfl okX9 rfl rfl rfl rfl ⟨rfl, rfl⟩ ⟨Nat.le_of_ble_eq_true rfl, Nat.le_of_ble_eq_true rfl⟩ ⟨Nat.le_refl _, Nat.le_refl _⟩ (Nat.le_of_ble_eq_true rfl) dX9_single_42 ?_
            refine lv_icmp_ne hx hb dX9_single_45 (tgt := 51) rfl (fun h17 => ?_) (fun h17 => ?_)
            · have hf := gif_f h17 hf
              refine lv_iload_n hx hb dX9_single_51 rfl (lv_at hl 2 rfl) ?_
              refine lv_iload_n hx hb dX9_single_52 rfl (lv_at hl 1 rfl) ?_
              refine lv_icmp_ne hx hb dX9_single_53 (tgt := 58) rfl (fun h18 => ?_) (fun h18 => ?_)
              · have hf := gif_f h18 hf
                refine lv_iinc hx hb dX9_single_58 hl (k := 2) (x := x2_4) rfl (kinc_1 _) (by decide) (lv' := [(2, .int (x2_4 + (1 : Int32))), (0, .ref (a0 0)), (1, .int p1), (3, .int x3_5)]) rfl (fun ls hl => ?_)
                refine lv_iinc hx hb dX9_single_61 hl (k := 3) (x := x3_5) rfl (kinc_1 _) (by decide) (lv' := [(3, .int (x3_5 + (1 : Int32))), (2, .int (x2_4 + (1 : Int32))), (0, .ref (a0 0)), (1, .int p1)]) rfl (fun ls hl => ?_)
                refine lv_goto hx hb dX9_single_64 (tgt := 9) rfl ?_
                exact ihn7 (x2_4 + (1 : Int32)) (x3_5 + (1 : Int32)) ls H locs hf (lv_sub hl [2, 3, 1, 0] rfl) hP hD hS
              · have hf := gif_t h18 hf
                exact kK1 x3_5 ls H locs hf (lv_sub hl [3] rfl) hP hD hS
            · have hf := gif_t h17 hf
              refine lv_goto hx hb dX9_single_48 (tgt := 61) rfl ?_
              refine lv_iinc hx hb dX9_single_61 hl (k := 3) (x := x3_5) rfl (kinc_1 _) (by decide) (lv' := [(3, .int (x3_5 + (1 : Int32))), (0, .ref (a0 0)), (1, .int p1), (2, .int x2_4)]) rfl (fun ls hl => ?_)
              refine lv_goto hx hb dX9_single_64 (tgt := 9) rfl ?_
              exact ihn7 x2_4 (x3_5 + (1 : Int32)) ls H locs hf (lv_sub hl [1, 2, 3, 0] rfl) hP hD hS
  exact lpn7 10000 (0 : Int32) (0 : Int32) ls H locs hf (lv_sub hl [2, 3, 1, 0] rfl) hP hD hS
theorem dX9_size_0 : decode cX9_size 0 = .ok (.aload_n 0, 1) := by decide +kernel
theorem dX9_size_1 : decode cX9_size 1 = .ok (.iconst 0, 1) := by decide +kernel
theorem dX9_size_2 : decode cX9_size 2 = .ok (.putfield 55, 3) := by decide +kernel
theorem dX9_size_5 : decode cX9_size 5 = .ok (.iload_n 1, 1) := by decide +kernel
theorem dX9_size_6 : decode cX9_size 6 = .ok (.tableswitch 92 0 4 #[34, 39, 55, 74, 87], 34) := by decide +kernel
theorem dX9_size_40 : decode cX9_size 40 = .ok (.aload_n 0, 1) := by decide +kernel
theorem dX9_size_41 : decode cX9_size 41 = .ok (.getfield 197, 3) := by decide +kernel
theorem dX9_size_44 : decode cX9_size 44 = .ok (.ireturn, 1) := by decide +kernel
theorem dX9_size_45 : decode cX9_size 45 = .ok (.aload_n 0, 1) := by decide +kernel
theorem dX9_size_46 : decode cX9_size 46 = .ok (.getfield 218, 3) := by decide +kernel
theorem dX9_size_49 : decode cX9_size 49 = .ok (.ifCond .eq 10, 3) := by decide +kernel
theorem dX9_size_52 : decode cX9_size 52 = .ok (.aload_n 0, 1) := by decide +kernel
theorem dX9_size_53 : decode cX9_size 53 = .ok (.invokevirtual 356, 3) := by decide +kernel
theorem dX9_size_56 : decode cX9_size 56 = .ok (.goto 4, 3) := by decide +kernel
theorem dX9_size_59 : decode cX9_size 59 = .ok (.iconst 0, 1) := by decide +kernel
theorem dX9_size_60 : decode cX9_size 60 = .ok (.ireturn, 1) := by decide +kernel
theorem dX9_size_61 : decode cX9_size 61 = .ok (.aload_n 0, 1) := by decide +kernel
theorem dX9_size_62 : decode cX9_size 62 = .ok (.getfield 218, 3) := by decide +kernel
theorem dX9_size_65 : decode cX9_size 65 = .ok (.ifCond .eq 13, 3) := by decide +kernel
theorem dX9_size_68 : decode cX9_size 68 = .ok (.aload_n 0, 1) := by decide +kernel
theorem dX9_size_69 : decode cX9_size 69 = .ok (.iconst 0, 1) := by decide +kernel
theorem dX9_size_70 : decode cX9_size 70 = .ok (.bipush 13, 2) := by decide +kernel
theorem dX9_size_72 : decode cX9_size 72 = .ok (.invokevirtual 200, 3) := by decide +kernel
theorem dX9_size_75 : decode cX9_size 75 = .ok (.goto 4, 3) := by decide +kernel
theorem dX9_size_78 : decode cX9_size 78 = .ok (.iconst 0, 1) := by decide +kernel
theorem dX9_size_79 : decode cX9_size 79 = .ok (.ireturn, 1) := by decide +kernel
theorem dX9_size_80 : decode cX9_size 80 = .ok (.aload_n 0, 1) := by decide +kernel
theorem dX9_size_81 : decode cX9_size 81 = .ok (.getfield 221, 3) := by decide +kernel
theorem dX9_size_84 : decode cX9_size 84 = .ok (.ifCond .eq 7, 3) := by decide +kernel
theorem dX9_size_87 : decode cX9_size 87 = .ok (.iconst 1, 1) := by decide +kernel
theorem dX9_size_88 : decode cX9_size 88 = .ok (.goto 4, 3) := by decide +kernel
theorem dX9_size_91 : decode cX9_size 91 = .ok (.iconst 0, 1) := by decide +kernel
theorem dX9_size_92 : decode cX9_size 92 = .ok (.ireturn, 1) := by decide +kernel
theorem dX9_size_93 : decode cX9_size 93 = .ok (.aload_n 0, 1) := by decide +kernel
theorem dX9_size_94 : decode cX9_size 94 = .ok (.invokevirtual 392, 3) := by decide +kernel
theorem dX9_size_97 : decode cX9_size 97 = .ok (.ireturn, 1) := by decide +kernel
theorem dX9_size_98 : decode cX9_size 98 = .ok (.iconst (-1), 1) := by decide +kernel
theorem dX9_size_99 : decode cX9_size 99 = .ok (.ireturn, 1) := by decide +kernel
def f_X9_size (s0 : MoT) (p1 : Int32) : Option (Int32 × MoT) :=
  if p1 = (0 : Int32) then some ((Mo_taped s0), (Mo_w_thrown s0 (0 : Int32)))
  else if p1 = (1 : Int32) then if (Mo_isThere s0) = 0 then some ((0 : Int32), (Mo_w_thrown s0 (0 : Int32)))
  else (f_X9_logged (Mo_w_thrown s0 (0 : Int32))).bind fun r4 =>
  some (r4, (Mo_w_thrown s0 (0 : Int32)))
  else if p1 = (2 : Int32) then if (Mo_isThere s0) = 0 then some ((0 : Int32), (Mo_w_thrown s0 (0 : Int32)))
  else (f_X9_get (Mo_w_thrown s0 (0 : Int32)) (0 : Int32) (13 : Int32)).bind fun r8 =>
  some (r8, (Mo_w_thrown s0 (0 : Int32)))
  else if p1 = (3 : Int32) then if (Mo_hasImage s0) = 0 then some ((0 : Int32), (Mo_w_thrown s0 (0 : Int32)))
  else some ((1 : Int32), (Mo_w_thrown s0 (0 : Int32)))
  else if p1 = (4 : Int32) then (f_X9_begun (Mo_w_thrown s0 (0 : Int32))).bind fun r13 =>
  some (r13, (Mo_w_thrown s0 (0 : Int32)))
  else some ((-1 : Int32), (Mo_w_thrown s0 (0 : Int32)))
abbrev rm_X9_size : Room := { frames := 3, cells := 0, slots := 0, locals := 65 }
set_option maxHeartbeats 4000000 in
set_option maxRecDepth 100000 in
theorem c_X9_size (l : Launch) (g : GK) (a0 : Nat → Nat) (s0 : MoT) (p1 : Int32) (res : (Int32 × MoT)) (hf : f_X9_size s0 p1 = some res) : gM l yX9_size cX9_size 2 (some .int) rm_X9_size g [.ref (a0 0), .int p1] (Mo_c g a0 s0) (fun _ : Unit => (some (.int (res.1)))) (fun _ => (Mo_c g a0 (res.2))) 0 0 := by
  refine gM_introI RX9 (by decide) rfl (Nat.le_of_ble_eq_true rfl) (fun p e s m args below meth c Q H locs ls A hE hZ hA hP hD hS hq hl => ?_)
  have hl : lv_has ls 2 [(0, .ref (a0 0)), (1, .int p1)] := hl
  have hx := hE.1
  have hb := hE.2.1
  rw [f_X9_size] at hf
  refine lv_aload_n hx hb dX9_size_0 rfl (lv_at hl 0 rfl) ?_
  refine lv_iconst hx hb dX9_size_1 kci_0 ?_
  refine g_put hE okX9 fl_X9_55 hP hD hS 0 rfl rfl rfl rfl (Nat.le_of_ble_eq_true rfl) (Mo_c g a0 (Mo_w_thrown s0 (0 : Int32))) rfl dX9_size_2 (fun H locs hP hD hS => ?_)
  refine lv_iload_n hx hb dX9_size_5 rfl (lv_at hl 1 rfl) ?_
  by_cases h1 : p1 = (0 : Int32)
  · have hf := gif_t h1 hf
    refine g_swIn hE h1 dX9_size_6 (0) ⟨by decide, by decide⟩ (by decide) (off := 34) rfl (tgt := 40) rfl ?_
    refine lv_aload_n hx hb dX9_size_40 rfl (lv_at hl 0 rfl) ?_
    refine g_get hE okX9 fl_X9_197 hP 0 rfl (v := .int (Mo_taped s0)) rfl dX9_size_41 ?_
    cases hf
    exact hq () rfl hP hD hS dX9_size_44
  have hf := gif_f h1 hf
  by_cases h2 : p1 = (1 : Int32)
  · have hf := gif_t h2 hf
    refine g_swIn hE h2 dX9_size_6 (1) ⟨by decide, by decide⟩ (by decide) (off := 39) rfl (tgt := 45) rfl ?_
    refine lv_aload_n hx hb dX9_size_45 rfl (lv_at hl 0 rfl) ?_
    refine g_get hE okX9 fl_X9_218 hP 0 rfl (v := .int (Mo_isThere s0)) rfl dX9_size_46 ?_
    refine lv_if_eq hx hb dX9_size_49 (tgt := 59) rfl (fun h3 => ?_) (fun h3 => ?_)
    · have hf := gif_t h3 hf
      refine lv_iconst hx hb dX9_size_59 kci_0 ?_
      cases hf
      exact hq () rfl hP hD hS dX9_size_60
    · have hf := gif_f h3 hf
      refine lv_aload_n hx hb dX9_size_52 rfl (lv_at hl 0 rfl) ?_
      obtain ⟨r4, hc5, hf⟩ := gbd hf
      refine gr_callV (As := []) (rest := []) (st1 := [.int r4]) hE hl.1 ml_X9_356 (c_X9_logged l g a0 (Mo_w_thrown s0 (0 : Int32)) r4 hc5) hZ hS hP [(0, 14)] rfl okX9 rfl rfl rfl rfl ⟨rfl, rfl⟩ ⟨Nat.le_of_ble_eq_true rfl, Nat.le_of_ble_eq_true rfl⟩ ⟨Nat.le_refl _, Nat.le_refl _⟩ (Nat.le_of_ble_eq_true rfl) dX9_size_53 ?_
      refine lv_goto hx hb dX9_size_56 (tgt := 60) rfl ?_
      cases hf
      exact hq () rfl hP hD hS dX9_size_60
  have hf := gif_f h2 hf
  by_cases h6 : p1 = (2 : Int32)
  · have hf := gif_t h6 hf
    refine g_swIn hE h6 dX9_size_6 (2) ⟨by decide, by decide⟩ (by decide) (off := 55) rfl (tgt := 61) rfl ?_
    refine lv_aload_n hx hb dX9_size_61 rfl (lv_at hl 0 rfl) ?_
    refine g_get hE okX9 fl_X9_218 hP 0 rfl (v := .int (Mo_isThere s0)) rfl dX9_size_62 ?_
    refine lv_if_eq hx hb dX9_size_65 (tgt := 78) rfl (fun h7 => ?_) (fun h7 => ?_)
    · have hf := gif_t h7 hf
      refine lv_iconst hx hb dX9_size_78 kci_0 ?_
      cases hf
      exact hq () rfl hP hD hS dX9_size_79
    · have hf := gif_f h7 hf
      refine lv_aload_n hx hb dX9_size_68 rfl (lv_at hl 0 rfl) ?_
      refine lv_iconst hx hb dX9_size_69 kci_0 ?_
      refine lv_bipush hx hb dX9_size_70 kcb_13 ?_
      obtain ⟨r8, hc9, hf⟩ := gbd hf
      refine gr_callV (As := [.int (0 : Int32), .int (13 : Int32)]) (rest := []) (st1 := [.int r8]) hE hl.1 ml_X9_200 (c_X9_get l g a0 (Mo_w_thrown s0 (0 : Int32)) (0 : Int32) (13 : Int32) r8 hc9) hZ hS hP [(0, 14)] rfl okX9 rfl rfl rfl rfl ⟨rfl, rfl⟩ ⟨Nat.le_of_ble_eq_true rfl, Nat.le_of_ble_eq_true rfl⟩ ⟨Nat.le_refl _, Nat.le_refl _⟩ (Nat.le_of_ble_eq_true rfl) dX9_size_72 ?_
      refine lv_goto hx hb dX9_size_75 (tgt := 79) rfl ?_
      cases hf
      exact hq () rfl hP hD hS dX9_size_79
  have hf := gif_f h6 hf
  by_cases h10 : p1 = (3 : Int32)
  · have hf := gif_t h10 hf
    refine g_swIn hE h10 dX9_size_6 (3) ⟨by decide, by decide⟩ (by decide) (off := 74) rfl (tgt := 80) rfl ?_
    refine lv_aload_n hx hb dX9_size_80 rfl (lv_at hl 0 rfl) ?_
    refine g_get hE okX9 fl_X9_221 hP 0 rfl (v := .int (Mo_hasImage s0)) rfl dX9_size_81 ?_
    refine lv_if_eq hx hb dX9_size_84 (tgt := 91) rfl (fun h11 => ?_) (fun h11 => ?_)
    · have hf := gif_t h11 hf
      refine lv_iconst hx hb dX9_size_91 kci_0 ?_
      cases hf
      exact hq () rfl hP hD hS dX9_size_92
    · have hf := gif_f h11 hf
      refine lv_iconst hx hb dX9_size_87 kci_1 ?_
      refine lv_goto hx hb dX9_size_88 (tgt := 92) rfl ?_
      cases hf
      exact hq () rfl hP hD hS dX9_size_92
  have hf := gif_f h10 hf
  by_cases h12 : p1 = (4 : Int32)
  · have hf := gif_t h12 hf
    refine g_swIn hE h12 dX9_size_6 (4) ⟨by decide, by decide⟩ (by decide) (off := 87) rfl (tgt := 93) rfl ?_
    refine lv_aload_n hx hb dX9_size_93 rfl (lv_at hl 0 rfl) ?_
    obtain ⟨r13, hc14, hf⟩ := gbd hf
    refine gr_callV (As := []) (rest := []) (st1 := [.int r13]) hE hl.1 ml_X9_392 (c_X9_begun l g a0 (Mo_w_thrown s0 (0 : Int32)) r13 hc14) hZ hS hP [(0, 14)] rfl okX9 rfl rfl rfl rfl ⟨rfl, rfl⟩ ⟨Nat.le_of_ble_eq_true rfl, Nat.le_of_ble_eq_true rfl⟩ ⟨Nat.le_refl _, Nat.le_refl _⟩ (Nat.le_of_ble_eq_true rfl) dX9_size_94 ?_
    cases hf
    exact hq () rfl hP hD hS dX9_size_97
  have hf := gif_f h12 hf
  refine lv_tableOut hx hb dX9_size_6 (by have := nti h1 (k := 0) (by decide); have := nti h2 (k := 1) (by decide); have := nti h6 (k := 2) (by decide); have := nti h10 (k := 3) (by decide); have := nti h12 (k := 4) (by decide); omega) (tgt := 98) rfl ?_
  refine lv_iconst hx hb dX9_size_98 kci_m1 ?_
  cases hf
  exact hq () rfl hP hD hS dX9_size_99
theorem dX9_trouble_0 : decode cX9_trouble 0 = .ok (.aload_n 0, 1) := by decide +kernel
theorem dX9_trouble_1 : decode cX9_trouble 1 = .ok (.iconst 0, 1) := by decide +kernel
theorem dX9_trouble_2 : decode cX9_trouble 2 = .ok (.putfield 55, 3) := by decide +kernel
theorem dX9_trouble_5 : decode cX9_trouble 5 = .ok (.aload_n 0, 1) := by decide +kernel
theorem dX9_trouble_6 : decode cX9_trouble 6 = .ok (.getfield 58, 3) := by decide +kernel
theorem dX9_trouble_9 : decode cX9_trouble 9 = .ok (.ireturn, 1) := by decide +kernel
def f_X9_trouble (s0 : MoT) : Option (Int32 × MoT) :=
  some ((Mo_trouble s0), (Mo_w_thrown s0 (0 : Int32)))
abbrev rm_X9_trouble : Room := { frames := 0, cells := 0, slots := 0, locals := 0 }
set_option maxHeartbeats 4000000 in
set_option maxRecDepth 100000 in
theorem c_X9_trouble (l : Launch) (g : GK) (a0 : Nat → Nat) (s0 : MoT) (res : (Int32 × MoT)) (hf : f_X9_trouble s0 = some res) : gM l yX9_trouble cX9_trouble 1 (some .int) rm_X9_trouble g [.ref (a0 0)] (Mo_c g a0 s0) (fun _ : Unit => (some (.int (res.1)))) (fun _ => (Mo_c g a0 (res.2))) 0 0 := by
  refine gM_introI RX9 (by decide) rfl (Nat.le_of_ble_eq_true rfl) (fun p e s m args below meth c Q H locs ls A hE hZ hA hP hD hS hq hl => ?_)
  have hl : lv_has ls 1 [(0, .ref (a0 0))] := hl
  have hx := hE.1
  have hb := hE.2.1
  rw [f_X9_trouble] at hf
  refine lv_aload_n hx hb dX9_trouble_0 rfl (lv_at hl 0 rfl) ?_
  refine lv_iconst hx hb dX9_trouble_1 kci_0 ?_
  refine g_put hE okX9 fl_X9_55 hP hD hS 0 rfl rfl rfl rfl (Nat.le_of_ble_eq_true rfl) (Mo_c g a0 (Mo_w_thrown s0 (0 : Int32))) rfl dX9_trouble_2 (fun H locs hP hD hS => ?_)
  refine lv_aload_n hx hb dX9_trouble_5 rfl (lv_at hl 0 rfl) ?_
  refine g_get hE okX9 fl_X9_58 hP 0 rfl (v := .int (Mo_trouble s0)) rfl dX9_trouble_6 ?_
  cases hf
  exact hq () rfl hP hD hS dX9_trouble_9
