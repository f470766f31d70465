theorem kcb_m10 : (Int8.ofInt (-10)).toInt32 = (-10 : Int32) := by decide
theorem kcb_m100 : (Int8.ofInt (-100)).toInt32 = (-100 : Int32) := by decide
theorem kcb_100 : (Int8.ofInt (100)).toInt32 = (100 : Int32) := by decide
theorem kd_J8_200 : Cond.constant RJ8 200 (2147483639 : Int32) ∈ TBL := tb (in4 (List.mem_of_getElem? (i := 73) (by decide +kernel))) (by decide +kernel)
theorem km_J8_194 : Cond.methodLink RJ8 194 Lib.Math.max.name ∈ TBL := tb (in4 (List.mem_of_getElem? (i := 72) (by decide +kernel))) (by decide +kernel)
theorem kne_100 : ¬ (100 : Int32) = 0 := by decide
theorem dJ1_canEncode_fc78d_0 : decode cJ1_canEncode_fc78d 0 = .ok (.iload_n 0, 1) := by decide +kernel
theorem dJ1_canEncode_fc78d_1 : decode cJ1_canEncode_fc78d 1 = .ok (.sipush 255, 3) := by decide +kernel
theorem dJ1_canEncode_fc78d_4 : decode cJ1_canEncode_fc78d 4 = .ok (.if_icmp .gt 7, 3) := by decide +kernel
theorem dJ1_canEncode_fc78d_7 : decode cJ1_canEncode_fc78d 7 = .ok (.iconst 1, 1) := by decide +kernel
theorem dJ1_canEncode_fc78d_8 : decode cJ1_canEncode_fc78d 8 = .ok (.goto 4, 3) := by decide +kernel
theorem dJ1_canEncode_fc78d_11 : decode cJ1_canEncode_fc78d 11 = .ok (.iconst 0, 1) := by decide +kernel
theorem dJ1_canEncode_fc78d_12 : decode cJ1_canEncode_fc78d 12 = .ok (.ireturn, 1) := by decide +kernel
def f_J1_canEncode_fc78d (p1 : Int32) : Option (Int32) :=
  if (255 : Int32) < p1 then some ((0 : Int32))
  else some ((1 : Int32))
abbrev rm_J1_canEncode_fc78d : Room := { frames := 0, cells := 0, slots := 0, locals := 0 }
set_option maxHeartbeats 4000000 in
set_option maxRecDepth 100000 in
theorem c_J1_canEncode_fc78d (l : Launch) (g : GK) (p1 : Int32) (res : (Int32)) (hf : f_J1_canEncode_fc78d p1 = some res) : gR l yJ1_canEncode_fc78d cJ1_canEncode_fc78d 1 (some .boolean) rm_J1_canEncode_fc78d g [.int p1] [] (some (.int res)) := by
  refine gR_introZ RJ1 (by decide) rfl (Nat.le_of_ble_eq_true rfl) (fun p e s m args below meth c Q H locs ls hE hP hZ hS hq hl => ?_)
  have hl : lv_has ls 1 [(0, .int p1)] := hl
  have hx := hE.1
  have hb := hE.2.1
  rw [f_J1_canEncode_fc78d] at hf
  refine lv_iload_n hx hb dJ1_canEncode_fc78d_0 rfl (lv_at hl 0 rfl) ?_
  refine lv_sipush hx hb dJ1_canEncode_fc78d_1 kcs_255 ?_
  refine lv_icmp_gt hx hb dJ1_canEncode_fc78d_4 (tgt := 11) rfl (fun h1 => ?_) (fun h1 => ?_)
  · have hf := gif_t h1 hf
    refine lv_iconst hx hb dJ1_canEncode_fc78d_11 kci_0 ?_
    cases hf
    exact hq (by decide) rfl dJ1_canEncode_fc78d_12
  · have hf := gif_f h1 hf
    refine lv_iconst hx hb dJ1_canEncode_fc78d_7 kci_1 ?_
    refine lv_goto hx hb dJ1_canEncode_fc78d_8 (tgt := 12) rfl ?_
    cases hf
    exact hq (by decide) rfl dJ1_canEncode_fc78d_12
theorem dJ8_newLength_cabcc_0 : decode cJ8_newLength_cabcc 0 = .ok (.iload_n 0, 1) := by decide +kernel
theorem dJ8_newLength_cabcc_1 : decode cJ8_newLength_cabcc 1 = .ok (.iload_n 1, 1) := by decide +kernel
theorem dJ8_newLength_cabcc_2 : decode cJ8_newLength_cabcc 2 = .ok (.iload_n 2, 1) := by decide +kernel
theorem dJ8_newLength_cabcc_3 : decode cJ8_newLength_cabcc 3 = .ok (.invokestatic 194, 3) := by decide +kernel
theorem dJ8_newLength_cabcc_6 : decode cJ8_newLength_cabcc 6 = .ok (.iadd, 1) := by decide +kernel
theorem dJ8_newLength_cabcc_7 : decode cJ8_newLength_cabcc 7 = .ok (.istore_n 3, 1) := by decide +kernel
theorem dJ8_newLength_cabcc_8 : decode cJ8_newLength_cabcc 8 = .ok (.iconst 0, 1) := by decide +kernel
theorem dJ8_newLength_cabcc_9 : decode cJ8_newLength_cabcc 9 = .ok (.iload_n 3, 1) := by decide +kernel
theorem dJ8_newLength_cabcc_10 : decode cJ8_newLength_cabcc 10 = .ok (.if_icmp .ge 11, 3) := by decide +kernel
theorem dJ8_newLength_cabcc_13 : decode cJ8_newLength_cabcc 13 = .ok (.iload_n 3, 1) := by decide +kernel
theorem dJ8_newLength_cabcc_14 : decode cJ8_newLength_cabcc 14 = .ok (.ldc 200, 2) := by decide +kernel
theorem dJ8_newLength_cabcc_16 : decode cJ8_newLength_cabcc 16 = .ok (.if_icmp .gt 5, 3) := by decide +kernel
theorem dJ8_newLength_cabcc_19 : decode cJ8_newLength_cabcc 19 = .ok (.iload_n 3, 1) := by decide +kernel
theorem dJ8_newLength_cabcc_20 : decode cJ8_newLength_cabcc 20 = .ok (.ireturn, 1) := by decide +kernel
theorem dJ8_newLength_cabcc_21 : decode cJ8_newLength_cabcc 21 = .ok (.iload_n 0, 1) := by decide +kernel
theorem dJ8_newLength_cabcc_22 : decode cJ8_newLength_cabcc 22 = .ok (.iload_n 1, 1) := by decide +kernel
theorem dJ8_newLength_cabcc_23 : decode cJ8_newLength_cabcc 23 = .ok (.invokestatic 201, 3) := by decide +kernel
theorem dJ8_newLength_cabcc_26 : decode cJ8_newLength_cabcc 26 = .ok (.ireturn, 1) := by decide +kernel
def f_J8_newLength_cabcc (p1 : Int32) (p2 : Int32) (p3 : Int32) : Option (Int32) :=
  if (p1 + (if p2 < p3 then p3 else p2)) ≤ (0 : Int32) then none
  else if (2147483639 : Int32) < (p1 + (if p2 < p3 then p3 else p2)) then none
  else some ((p1 + (if p2 < p3 then p3 else p2)))
abbrev rm_J8_newLength_cabcc : Room := { frames := 1, cells := 0, slots := 0, locals := 21 }
set_option maxHeartbeats 4000000 in
set_option maxRecDepth 100000 in
theorem c_J8_newLength_cabcc (l : Launch) (g : GK) (p1 : Int32) (p2 : Int32) (p3 : Int32) (res : (Int32)) (hf : f_J8_newLength_cabcc p1 p2 p3 = some res) : gR l yJ8_newLength_cabcc cJ8_newLength_cabcc 4 (some .int) rm_J8_newLength_cabcc g [.int p1, .int p2, .int p3] [] (some (.int res)) := by
  refine gR_introI RJ8 (by decide) rfl (Nat.le_of_ble_eq_true rfl) (fun p e s m args below meth c Q H locs ls hE hP hZ hS hq hl => ?_)
  have hl : lv_has ls 4 [(0, .int p1), (1, .int p2), (2, .int p3)] := hl
  have hx := hE.1
  have hb := hE.2.1
  rw [f_J8_newLength_cabcc] at hf
  refine lv_iload_n hx hb dJ8_newLength_cabcc_0 rfl (lv_at hl 0 rfl) ?_
  refine lv_iload_n hx hb dJ8_newLength_cabcc_1 rfl (lv_at hl 1 rfl) ?_
  refine lv_iload_n hx hb dJ8_newLength_cabcc_2 rfl (lv_at hl 2 rfl) ?_
  refine g_mmax hE hl.1 km_J8_194 (Nat.le_of_ble_eq_true rfl) (rest := [.int p1]) (Nat.le_of_ble_eq_true rfl) ⟨Nat.le_refl _, Nat.le_refl _⟩ dJ8_newLength_cabcc_3 ?_
  refine lv_iadd hx hb dJ8_newLength_cabcc_6 ?_
  refine lv_istore_n hx hb dJ8_newLength_cabcc_7 rfl hl (by decide) (lv' := [(3, .int (p1 + (if p2 < p3 then p3 else p2))), (0, .int p1), (1, .int p2), (2, .int p3)]) rfl (fun ls hl => ?_)
  refine lv_iconst hx hb dJ8_newLength_cabcc_8 kci_0 ?_
  refine lv_iload_n hx hb dJ8_newLength_cabcc_9 rfl (lv_at hl 0 rfl) ?_
  refine lv_icmp_ge hx hb dJ8_newLength_cabcc_10 (tgt := 21) rfl (fun h1 => ?_) (fun h1 => ?_)
  · have hf := gif_t h1 hf
    cases hf
  · have hf := gif_f h1 hf
    refine lv_iload_n hx hb dJ8_newLength_cabcc_13 rfl (lv_at hl 0 rfl) ?_
    refine lv_ldc hx hb hE.2.2.2.2.2.1 (hE.2.2.2.2.2.2.1 _ kd_J8_200) dJ8_newLength_cabcc_14 ?_
    refine lv_icmp_gt hx hb dJ8_newLength_cabcc_16 (tgt := 21) rfl (fun h2 => ?_) (fun h2 => ?_)
    · have hf := gif_t h2 hf
      cases hf
    · have hf := gif_f h2 hf
      refine lv_iload_n hx hb dJ8_newLength_cabcc_19 rfl (lv_at hl 0 rfl) ?_
      cases hf
      exact hq rfl dJ8_newLength_cabcc_20
theorem dJ6_stringSize_0f7a4_0 : decode cJ6_stringSize_0f7a4 0 = .ok (.iconst 1, 1) := by decide +kernel
theorem dJ6_stringSize_0f7a4_1 : decode cJ6_stringSize_0f7a4 1 = .ok (.istore_n 1, 1) := by decide +kernel
theorem dJ6_stringSize_0f7a4_2 : decode cJ6_stringSize_0f7a4 2 = .ok (.iload_n 0, 1) := by decide +kernel
theorem dJ6_stringSize_0f7a4_3 : decode cJ6_stringSize_0f7a4 3 = .ok (.ifCond .lt 8, 3) := by decide +kernel
theorem dJ6_stringSize_0f7a4_6 : decode cJ6_stringSize_0f7a4 6 = .ok (.iconst 0, 1) := by decide +kernel
theorem dJ6_stringSize_0f7a4_7 : decode cJ6_stringSize_0f7a4 7 = .ok (.istore_n 1, 1) := by decide +kernel
theorem dJ6_stringSize_0f7a4_8 : decode cJ6_stringSize_0f7a4 8 = .ok (.iload_n 0, 1) := by decide +kernel
theorem dJ6_stringSize_0f7a4_9 : decode cJ6_stringSize_0f7a4 9 = .ok (.ineg, 1) := by decide +kernel
theorem dJ6_stringSize_0f7a4_10 : decode cJ6_stringSize_0f7a4 10 = .ok (.istore_n 0, 1) := by decide +kernel
theorem dJ6_stringSize_0f7a4_11 : decode cJ6_stringSize_0f7a4 11 = .ok (.bipush (-10), 2) := by decide +kernel
theorem dJ6_stringSize_0f7a4_13 : decode cJ6_stringSize_0f7a4 13 = .ok (.istore_n 2, 1) := by decide +kernel
theorem dJ6_stringSize_0f7a4_14 : decode cJ6_stringSize_0f7a4 14 = .ok (.iconst 1, 1) := by decide +kernel
theorem dJ6_stringSize_0f7a4_15 : decode cJ6_stringSize_0f7a4 15 = .ok (.istore_n 3, 1) := by decide +kernel
theorem dJ6_stringSize_0f7a4_16 : decode cJ6_stringSize_0f7a4 16 = .ok (.iload_n 3, 1) := by decide +kernel
theorem dJ6_stringSize_0f7a4_17 : decode cJ6_stringSize_0f7a4 17 = .ok (.bipush 10, 2) := by decide +kernel
theorem dJ6_stringSize_0f7a4_19 : decode cJ6_stringSize_0f7a4 19 = .ok (.if_icmp .ge 23, 3) := by decide +kernel
theorem dJ6_stringSize_0f7a4_22 : decode cJ6_stringSize_0f7a4 22 = .ok (.iload_n 0, 1) := by decide +kernel
theorem dJ6_stringSize_0f7a4_23 : decode cJ6_stringSize_0f7a4 23 = .ok (.iload_n 2, 1) := by decide +kernel
theorem dJ6_stringSize_0f7a4_24 : decode cJ6_stringSize_0f7a4 24 = .ok (.if_icmp .le 7, 3) := by decide +kernel
theorem dJ6_stringSize_0f7a4_27 : decode cJ6_stringSize_0f7a4 27 = .ok (.iload_n 3, 1) := by decide +kernel
theorem dJ6_stringSize_0f7a4_28 : decode cJ6_stringSize_0f7a4 28 = .ok (.iload_n 1, 1) := by decide +kernel
theorem dJ6_stringSize_0f7a4_29 : decode cJ6_stringSize_0f7a4 29 = .ok (.iadd, 1) := by decide +kernel
theorem dJ6_stringSize_0f7a4_30 : decode cJ6_stringSize_0f7a4 30 = .ok (.ireturn, 1) := by decide +kernel
theorem dJ6_stringSize_0f7a4_31 : decode cJ6_stringSize_0f7a4 31 = .ok (.bipush 10, 2) := by decide +kernel
theorem dJ6_stringSize_0f7a4_33 : decode cJ6_stringSize_0f7a4 33 = .ok (.iload_n 2, 1) := by decide +kernel
theorem dJ6_stringSize_0f7a4_34 : decode cJ6_stringSize_0f7a4 34 = .ok (.imul, 1) := by decide +kernel
theorem dJ6_stringSize_0f7a4_35 : decode cJ6_stringSize_0f7a4 35 = .ok (.istore_n 2, 1) := by decide +kernel
theorem dJ6_stringSize_0f7a4_36 : decode cJ6_stringSize_0f7a4 36 = .ok (.iinc 3 1, 3) := by decide +kernel
theorem dJ6_stringSize_0f7a4_39 : decode cJ6_stringSize_0f7a4 39 = .ok (.goto (-23), 3) := by decide +kernel
theorem dJ6_stringSize_0f7a4_42 : decode cJ6_stringSize_0f7a4 42 = .ok (.bipush 10, 2) := by decide +kernel
theorem dJ6_stringSize_0f7a4_44 : decode cJ6_stringSize_0f7a4 44 = .ok (.iload_n 1, 1) := by decide +kernel
theorem dJ6_stringSize_0f7a4_45 : decode cJ6_stringSize_0f7a4 45 = .ok (.iadd, 1) := by decide +kernel
theorem dJ6_stringSize_0f7a4_46 : decode cJ6_stringSize_0f7a4 46 = .ok (.ireturn, 1) := by decide +kernel
def f_J6_stringSize_0f7a4_L16_9 (x0_2 : Int32) (K4 : (Int32 → Option (Int32))) (K6 : (Unit → Option (Int32))) : Nat → Int32 → Int32 → Option (Int32)
  | 0, _, _ => none
  | n10 + 1, x2_7, x3_8 => if (10 : Int32) ≤ x3_8 then K6 ()
  else if x0_2 ≤ x2_7 then f_J6_stringSize_0f7a4_L16_9 x0_2 K4 K6 n10 ((10 : Int32) * x2_7) (x3_8 + (1 : Int32))
  else K4 x3_8
def f_J6_stringSize_0f7a4 (p1 : Int32) : Option (Int32) :=
  glt (fun (x0_2 : Int32) (x1_3 : Int32) => glt (fun (x3_5 : Int32) => some ((x3_5 + x1_3))) fun K4 =>
  glt (fun (_ : Unit) => some (((10 : Int32) + x1_3))) fun K6 =>
  f_J6_stringSize_0f7a4_L16_9 x0_2 K4 K6 10000 (-10 : Int32) (1 : Int32)) fun J1 =>
  if p1 < 0 then J1 p1 (1 : Int32)
  else J1 (-p1) (0 : Int32)
abbrev rm_J6_stringSize_0f7a4 : Room := { frames := 0, cells := 0, slots := 0, locals := 0 }
set_option maxHeartbeats 4000000 in
set_option maxRecDepth 100000 in
theorem c_J6_stringSize_0f7a4 (l : Launch) (g : GK) (p1 : Int32) (res : (Int32)) (hf : f_J6_stringSize_0f7a4 p1 = some res) : gR l yJ6_stringSize_0f7a4 cJ6_stringSize_0f7a4 4 (some .int) rm_J6_stringSize_0f7a4 g [.int p1] [] (some (.int res)) := by
  refine gR_introI RJ6 (by decide) rfl (Nat.le_of_ble_eq_true rfl) (fun p e s m args below meth c Q H locs ls hE hP hZ hS hq hl => ?_)
  have hl : lv_has ls 4 [(0, .int p1)] := hl
  have hx := hE.1
  have hb := hE.2.1
  rw [f_J6_stringSize_0f7a4] at hf
  refine lv_iconst hx hb dJ6_stringSize_0f7a4_0 kci_1 ?_
  refine lv_istore_n hx hb dJ6_stringSize_0f7a4_1 rfl hl (by decide) (lv' := [(1, .int (1 : Int32)), (0, .int p1)]) rfl (fun ls hl => ?_)
  refine lv_iload_n hx hb dJ6_stringSize_0f7a4_2 rfl (lv_at hl 1 rfl) ?_
  obtain ⟨J1, eJ1, hf⟩ := gltd hf
  have kJ1 : ∀ (x0_2 : Int32) (x1_3 : Int32) (ls : Array Slot), J1 x0_2 x1_3 = some res → lv_has ls 4 [(0, .int x0_2), (1, .int x1_3)] → W p l e rm_J6_stringSize_0f7a4 s m args below meth c H locs 0 0 Q (F0 m 11 ls []) := by
    intro x0_2 x1_3 ls hf hl
    rw [eJ1] at hf
    refine lv_bipush hx hb dJ6_stringSize_0f7a4_11 kcb_m10 ?_
    refine lv_istore_n hx hb dJ6_stringSize_0f7a4_13 rfl hl (by decide) (lv' := [(2, .int (-10 : Int32)), (0, .int x0_2), (1, .int x1_3)]) rfl (fun ls hl => ?_)
    refine lv_iconst hx hb dJ6_stringSize_0f7a4_14 kci_1 ?_
    refine lv_istore_n hx hb dJ6_stringSize_0f7a4_15 rfl hl (by decide) (lv' := [(3, .int (1 : Int32)), (2, .int (-10 : Int32)), (0, .int x0_2), (1, .int x1_3)]) rfl (fun ls hl => ?_)
    obtain ⟨K4, eK4, hf⟩ := gltd hf
    have kK4 : ∀ (x3_5 : Int32) (ls : Array Slot), K4 x3_5 = some res → lv_has ls 4 [(1, .int x1_3), (3, .int x3_5)] → W p l e rm_J6_stringSize_0f7a4 s m args below meth c H locs 0 0 Q (F0 m 27 ls []) := by
      intro x3_5 ls hf hl
      rw [eK4] at hf
      refine lv_iload_n hx hb dJ6_stringSize_0f7a4_27 rfl (lv_at hl 1 rfl) ?_
      refine lv_iload_n hx hb dJ6_stringSize_0f7a4_28 rfl (lv_at hl 0 rfl) ?_
      refine lv_iadd hx hb dJ6_stringSize_0f7a4_29 ?_
      have hf := Option.some.inj hf; subst hf
      exact hq rfl dJ6_stringSize_0f7a4_30
    obtain ⟨K6, eK6, hf⟩ := gltd hf
    have kK6 : ∀ (_ : Unit) (ls : Array Slot), K6 () = some res → lv_has ls 4 [(1, .int x1_3)] → W p l e rm_J6_stringSize_0f7a4 s m args below meth c H locs 0 0 Q (F0 m 42 ls []) := by
      intro _ ls hf hl
      rw [eK6] at hf
      refine lv_bipush hx hb dJ6_stringSize_0f7a4_42 kcb_10 ?_
      refine lv_iload_n hx hb dJ6_stringSize_0f7a4_44 rfl (lv_at hl 0 rfl) ?_
      refine lv_iadd hx hb dJ6_stringSize_0f7a4_45 ?_
      have hf := Option.some.inj hf; subst hf
      exact hq rfl dJ6_stringSize_0f7a4_46
    have lpn10 : ∀ (n10 : Nat) (x2_7 : Int32) (x3_8 : Int32) (ls : Array Slot), f_J6_stringSize_0f7a4_L16_9 x0_2 K4 K6 n10 x2_7 x3_8 = some res → lv_has ls 4 [(0, .int x0_2), (1, .int x1_3), (2, .int x2_7), (3, .int x3_8)] → W p l e rm_J6_stringSize_0f7a4 s m args below meth c H locs 0 0 Q (F0 m 16 ls []) := by
      intro n10
      induction n10 with
      | zero => intro x2_7 x3_8 ls hf hl; rw [f_J6_stringSize_0f7a4_L16_9] at hf; cases hf
      | succ n10 ihn10 =>
        intro x2_7 x3_8 ls hf hl
        rw [f_J6_stringSize_0f7a4_L16_9] at hf
        refine lv_iload_n hx hb dJ6_stringSize_0f7a4_16 rfl (lv_at hl 3 rfl) ?_
        refine lv_bipush hx hb dJ6_stringSize_0f7a4_17 kcb_10 ?_
        refine lv_icmp_ge hx hb dJ6_stringSize_0f7a4_19 (tgt := 42) rfl (fun h11 => ?_) (fun h11 => ?_)
        · have hf := gif_t h11 hf
          exact kK6 () ls hf (lv_sub hl [1] rfl)
        · have hf := gif_f h11 hf
          refine lv_iload_n hx hb dJ6_stringSize_0f7a4_22 rfl (lv_at hl 0 rfl) ?_
          refine lv_iload_n hx hb dJ6_stringSize_0f7a4_23 rfl (lv_at hl 2 rfl) ?_
          refine lv_icmp_le hx hb dJ6_stringSize_0f7a4_24 (tgt := 31) rfl (fun h12 => ?_) (fun h12 => ?_)
          · have hf := gif_t h12 hf
            refine lv_bipush hx hb dJ6_stringSize_0f7a4_31 kcb_10 ?_
            refine lv_iload_n hx hb dJ6_stringSize_0f7a4_33 rfl (lv_at hl 2 rfl) ?_
            refine lv_imul hx hb dJ6_stringSize_0f7a4_34 ?_
            refine lv_istore_n hx hb dJ6_stringSize_0f7a4_35 rfl hl (by decide) (lv' := [(2, .int ((10 : Int32) * x2_7)), (0, .int x0_2), (1, .int x1_3), (3, .int x3_8)]) rfl (fun ls hl => ?_)
            refine lv_iinc hx hb dJ6_stringSize_0f7a4_36 hl (k := 3) (x := x3_8) rfl (kinc_1 _) (by decide) (lv' := [(3, .int (x3_8 + (1 : Int32))), (2, .int ((10 : Int32) * x2_7)), (0, .int x0_2), (1, .int x1_3)]) rfl (fun ls hl => ?_)
            refine lv_goto hx hb dJ6_stringSize_0f7a4_39 (tgt := 16) rfl ?_
            exact ihn10 ((10 : Int32) * x2_7) (x3_8 + (1 : Int32)) ls hf (lv_sub hl [2, 3, 1, 0] rfl)
          · have hf := gif_f h12 hf
            exact kK4 x3_8 ls hf (lv_sub hl [1, 3] rfl)
    exact lpn10 10000 (-10 : Int32) (1 : Int32) ls hf (lv_sub hl [2, 3, 1, 0] rfl)
  refine lv_if_lt hx hb dJ6_stringSize_0f7a4_3 (tgt := 11) rfl (fun h13 => ?_) (fun h13 => ?_)
  · have hf := gif_t h13 hf
    exact kJ1 p1 (1 : Int32) ls hf (lv_sub hl [1, 0] rfl)
  · have hf := gif_f h13 hf
    refine lv_iconst hx hb dJ6_stringSize_0f7a4_6 kci_0 ?_
    refine lv_istore_n hx hb dJ6_stringSize_0f7a4_7 rfl hl (by decide) (lv' := [(1, .int (0 : Int32)), (0, .int p1)]) rfl (fun ls hl => ?_)
    refine lv_iload_n hx hb dJ6_stringSize_0f7a4_8 rfl (lv_at hl 1 rfl) ?_
    refine lv_ineg hx hb dJ6_stringSize_0f7a4_9 ?_
    refine lv_istore_n hx hb dJ6_stringSize_0f7a4_10 rfl hl (by decide) (lv' := [(0, .int (-p1)), (1, .int (0 : Int32))]) rfl (fun ls hl => ?_)
    exact kJ1 (-p1) (0 : Int32) ls hf (lv_sub hl [0, 1] rfl)
theorem dJ6_getChars_ba4f3_0 : decode cJ6_getChars_ba4f3 0 = .ok (.iload_n 1, 1) := by decide +kernel
theorem dJ6_getChars_ba4f3_1 : decode cJ6_getChars_ba4f3 1 = .ok (.istore 5, 2) := by decide +kernel
theorem dJ6_getChars_ba4f3_3 : decode cJ6_getChars_ba4f3 3 = .ok (.iload_n 0, 1) := by decide +kernel
theorem dJ6_getChars_ba4f3_4 : decode cJ6_getChars_ba4f3 4 = .ok (.ifCond .ge 7, 3) := by decide +kernel
theorem dJ6_getChars_ba4f3_7 : decode cJ6_getChars_ba4f3 7 = .ok (.iconst 1, 1) := by decide +kernel
theorem dJ6_getChars_ba4f3_8 : decode cJ6_getChars_ba4f3 8 = .ok (.goto 4, 3) := by decide +kernel
theorem dJ6_getChars_ba4f3_11 : decode cJ6_getChars_ba4f3 11 = .ok (.iconst 0, 1) := by decide +kernel
theorem dJ6_getChars_ba4f3_12 : decode cJ6_getChars_ba4f3 12 = .ok (.istore 6, 2) := by decide +kernel
theorem dJ6_getChars_ba4f3_14 : decode cJ6_getChars_ba4f3 14 = .ok (.iload 6, 2) := by decide +kernel
theorem dJ6_getChars_ba4f3_16 : decode cJ6_getChars_ba4f3 16 = .ok (.ifCond .ne 6, 3) := by decide +kernel
theorem dJ6_getChars_ba4f3_19 : decode cJ6_getChars_ba4f3 19 = .ok (.iload_n 0, 1) := by decide +kernel
theorem dJ6_getChars_ba4f3_20 : decode cJ6_getChars_ba4f3 20 = .ok (.ineg, 1) := by decide +kernel
theorem dJ6_getChars_ba4f3_21 : decode cJ6_getChars_ba4f3 21 = .ok (.istore_n 0, 1) := by decide +kernel
theorem dJ6_getChars_ba4f3_22 : decode cJ6_getChars_ba4f3 22 = .ok (.iload_n 0, 1) := by decide +kernel
theorem dJ6_getChars_ba4f3_23 : decode cJ6_getChars_ba4f3 23 = .ok (.bipush (-100), 2) := by decide +kernel
theorem dJ6_getChars_ba4f3_25 : decode cJ6_getChars_ba4f3 25 = .ok (.if_icmp .gt 47, 3) := by decide +kernel
theorem dJ6_getChars_ba4f3_28 : decode cJ6_getChars_ba4f3 28 = .ok (.iload_n 0, 1) := by decide +kernel
theorem dJ6_getChars_ba4f3_29 : decode cJ6_getChars_ba4f3 29 = .ok (.bipush 100, 2) := by decide +kernel
theorem dJ6_getChars_ba4f3_31 : decode cJ6_getChars_ba4f3 31 = .ok (.idiv, 1) := by decide +kernel
theorem dJ6_getChars_ba4f3_32 : decode cJ6_getChars_ba4f3 32 = .ok (.istore_n 3, 1) := by decide +kernel
theorem dJ6_getChars_ba4f3_33 : decode cJ6_getChars_ba4f3 33 = .ok (.iload_n 3, 1) := by decide +kernel
theorem dJ6_getChars_ba4f3_34 : decode cJ6_getChars_ba4f3 34 = .ok (.bipush 100, 2) := by decide +kernel
theorem dJ6_getChars_ba4f3_36 : decode cJ6_getChars_ba4f3 36 = .ok (.imul, 1) := by decide +kernel
theorem dJ6_getChars_ba4f3_37 : decode cJ6_getChars_ba4f3 37 = .ok (.iload_n 0, 1) := by decide +kernel
theorem dJ6_getChars_ba4f3_38 : decode cJ6_getChars_ba4f3 38 = .ok (.isub, 1) := by decide +kernel
theorem dJ6_getChars_ba4f3_39 : decode cJ6_getChars_ba4f3 39 = .ok (.istore 4, 2) := by decide +kernel
theorem dJ6_getChars_ba4f3_41 : decode cJ6_getChars_ba4f3 41 = .ok (.iload_n 3, 1) := by decide +kernel
theorem dJ6_getChars_ba4f3_42 : decode cJ6_getChars_ba4f3 42 = .ok (.istore_n 0, 1) := by decide +kernel
theorem dJ6_getChars_ba4f3_43 : decode cJ6_getChars_ba4f3 43 = .ok (.aload_n 2, 1) := by decide +kernel
theorem dJ6_getChars_ba4f3_44 : decode cJ6_getChars_ba4f3 44 = .ok (.iinc 5 (-1), 3) := by decide +kernel
theorem dJ6_getChars_ba4f3_47 : decode cJ6_getChars_ba4f3 47 = .ok (.iload 5, 2) := by decide +kernel
theorem dJ6_getChars_ba4f3_49 : decode cJ6_getChars_ba4f3 49 = .ok (.getstatic 83, 3) := by decide +kernel
theorem dJ6_getChars_ba4f3_52 : decode cJ6_getChars_ba4f3 52 = .ok (.iload 4, 2) := by decide +kernel
theorem dJ6_getChars_ba4f3_54 : decode cJ6_getChars_ba4f3 54 = .ok (.baload, 1) := by decide +kernel
theorem dJ6_getChars_ba4f3_55 : decode cJ6_getChars_ba4f3 55 = .ok (.bastore, 1) := by decide +kernel
theorem dJ6_getChars_ba4f3_56 : decode cJ6_getChars_ba4f3 56 = .ok (.aload_n 2, 1) := by decide +kernel
theorem dJ6_getChars_ba4f3_57 : decode cJ6_getChars_ba4f3 57 = .ok (.iinc 5 (-1), 3) := by decide +kernel
theorem dJ6_getChars_ba4f3_60 : decode cJ6_getChars_ba4f3 60 = .ok (.iload 5, 2) := by decide +kernel
theorem dJ6_getChars_ba4f3_62 : decode cJ6_getChars_ba4f3 62 = .ok (.getstatic 87, 3) := by decide +kernel
theorem dJ6_getChars_ba4f3_65 : decode cJ6_getChars_ba4f3 65 = .ok (.iload 4, 2) := by decide +kernel
theorem dJ6_getChars_ba4f3_67 : decode cJ6_getChars_ba4f3 67 = .ok (.baload, 1) := by decide +kernel
theorem dJ6_getChars_ba4f3_68 : decode cJ6_getChars_ba4f3 68 = .ok (.bastore, 1) := by decide +kernel
theorem dJ6_getChars_ba4f3_69 : decode cJ6_getChars_ba4f3 69 = .ok (.goto (-47), 3) := by decide +kernel
theorem dJ6_getChars_ba4f3_72 : decode cJ6_getChars_ba4f3 72 = .ok (.aload_n 2, 1) := by decide +kernel
theorem dJ6_getChars_ba4f3_73 : decode cJ6_getChars_ba4f3 73 = .ok (.iinc 5 (-1), 3) := by decide +kernel
theorem dJ6_getChars_ba4f3_76 : decode cJ6_getChars_ba4f3 76 = .ok (.iload 5, 2) := by decide +kernel
theorem dJ6_getChars_ba4f3_78 : decode cJ6_getChars_ba4f3 78 = .ok (.getstatic 83, 3) := by decide +kernel
theorem dJ6_getChars_ba4f3_81 : decode cJ6_getChars_ba4f3 81 = .ok (.iload_n 0, 1) := by decide +kernel
theorem dJ6_getChars_ba4f3_82 : decode cJ6_getChars_ba4f3 82 = .ok (.ineg, 1) := by decide +kernel
theorem dJ6_getChars_ba4f3_83 : decode cJ6_getChars_ba4f3 83 = .ok (.baload, 1) := by decide +kernel
theorem dJ6_getChars_ba4f3_84 : decode cJ6_getChars_ba4f3 84 = .ok (.bastore, 1) := by decide +kernel
theorem dJ6_getChars_ba4f3_85 : decode cJ6_getChars_ba4f3 85 = .ok (.iload_n 0, 1) := by decide +kernel
theorem dJ6_getChars_ba4f3_86 : decode cJ6_getChars_ba4f3 86 = .ok (.bipush (-9), 2) := by decide +kernel
theorem dJ6_getChars_ba4f3_88 : decode cJ6_getChars_ba4f3 88 = .ok (.if_icmp .ge 16, 3) := by decide +kernel
theorem dJ6_getChars_ba4f3_91 : decode cJ6_getChars_ba4f3 91 = .ok (.aload_n 2, 1) := by decide +kernel
theorem dJ6_getChars_ba4f3_92 : decode cJ6_getChars_ba4f3 92 = .ok (.iinc 5 (-1), 3) := by decide +kernel
theorem dJ6_getChars_ba4f3_95 : decode cJ6_getChars_ba4f3 95 = .ok (.iload 5, 2) := by decide +kernel
theorem dJ6_getChars_ba4f3_97 : decode cJ6_getChars_ba4f3 97 = .ok (.getstatic 87, 3) := by decide +kernel
theorem dJ6_getChars_ba4f3_100 : decode cJ6_getChars_ba4f3 100 = .ok (.iload_n 0, 1) := by decide +kernel
theorem dJ6_getChars_ba4f3_101 : decode cJ6_getChars_ba4f3 101 = .ok (.ineg, 1) := by decide +kernel
theorem dJ6_getChars_ba4f3_102 : decode cJ6_getChars_ba4f3 102 = .ok (.baload, 1) := by decide +kernel
theorem dJ6_getChars_ba4f3_103 : decode cJ6_getChars_ba4f3 103 = .ok (.bastore, 1) := by decide +kernel
theorem dJ6_getChars_ba4f3_104 : decode cJ6_getChars_ba4f3 104 = .ok (.iload 6, 2) := by decide +kernel
theorem dJ6_getChars_ba4f3_106 : decode cJ6_getChars_ba4f3 106 = .ok (.ifCond .eq 12, 3) := by decide +kernel
theorem dJ6_getChars_ba4f3_109 : decode cJ6_getChars_ba4f3 109 = .ok (.aload_n 2, 1) := by decide +kernel
theorem dJ6_getChars_ba4f3_110 : decode cJ6_getChars_ba4f3 110 = .ok (.iinc 5 (-1), 3) := by decide +kernel
theorem dJ6_getChars_ba4f3_113 : decode cJ6_getChars_ba4f3 113 = .ok (.iload 5, 2) := by decide +kernel
theorem dJ6_getChars_ba4f3_115 : decode cJ6_getChars_ba4f3 115 = .ok (.bipush 45, 2) := by decide +kernel
theorem dJ6_getChars_ba4f3_117 : decode cJ6_getChars_ba4f3 117 = .ok (.bastore, 1) := by decide +kernel
theorem dJ6_getChars_ba4f3_118 : decode cJ6_getChars_ba4f3 118 = .ok (.iload 5, 2) := by decide +kernel
theorem dJ6_getChars_ba4f3_120 : decode cJ6_getChars_ba4f3 120 = .ok (.ireturn, 1) := by decide +kernel
def f_J6_getChars_ba4f3_L22_21 (n0 : Nat) (K4 : (Int32 → Int32 → (Nat → Int32) → Option (Int32 × (Nat → Int32)))) : Nat → Int32 → Int32 → (Nat → Int32) → Option (Int32 × (Nat → Int32))
  | 0, _, _, _ => none
  | n22 + 1, x0_18, x5_19, s0_20 => if (-100 : Int32) < x0_18 then K4 x0_18 x5_19 s0_20
  else if inb (((x0_18 / (100 : Int32)) * (100 : Int32)) - x0_18) 100 then if inb (x5_19 + (-1 : Int32)) n0 then if inb (((x0_18 / (100 : Int32)) * (100 : Int32)) - x0_18) 100 then if inb ((x5_19 + (-1 : Int32)) + (-1 : Int32)) n0 then f_J6_getChars_ba4f3_L22_21 n0 K4 n22 (x0_18 / (100 : Int32)) ((x5_19 + (-1 : Int32)) + (-1 : Int32)) (upd (upd s0_20 (ix (x5_19 + (-1 : Int32))) (vp_nar .byte (digO (ix (((x0_18 / (100 : Int32)) * (100 : Int32)) - x0_18))))) (ix ((x5_19 + (-1 : Int32)) + (-1 : Int32))) (vp_nar .byte (digT (ix (((x0_18 / (100 : Int32)) * (100 : Int32)) - x0_18))))) else none else none else none else none
def f_J6_getChars_ba4f3_L22_45 (n0 : Nat) (K28 : (Int32 → Int32 → (Nat → Int32) → Option (Int32 × (Nat → Int32)))) : Nat → Int32 → Int32 → (Nat → Int32) → Option (Int32 × (Nat → Int32))
  | 0, _, _, _ => none
  | n46 + 1, x0_42, x5_43, s0_44 => if (-100 : Int32) < x0_42 then K28 x0_42 x5_43 s0_44
  else if inb (((x0_42 / (100 : Int32)) * (100 : Int32)) - x0_42) 100 then if inb (x5_43 + (-1 : Int32)) n0 then if inb (((x0_42 / (100 : Int32)) * (100 : Int32)) - x0_42) 100 then if inb ((x5_43 + (-1 : Int32)) + (-1 : Int32)) n0 then f_J6_getChars_ba4f3_L22_45 n0 K28 n46 (x0_42 / (100 : Int32)) ((x5_43 + (-1 : Int32)) + (-1 : Int32)) (upd (upd s0_44 (ix (x5_43 + (-1 : Int32))) (vp_nar .byte (digO (ix (((x0_42 / (100 : Int32)) * (100 : Int32)) - x0_42))))) (ix ((x5_43 + (-1 : Int32)) + (-1 : Int32))) (vp_nar .byte (digT (ix (((x0_42 / (100 : Int32)) * (100 : Int32)) - x0_42))))) else none else none else none else none
def f_J6_getChars_ba4f3 (n0 : Nat) (t0 : (Nat → Int32)) (p1 : Int32) (p2 : Int32) : Option (Int32 × (Nat → Int32)) :=
  glt (fun (y2 : Int32) => if y2 = 0 then glt (fun (x0_29 : Int32) (x5_30 : Int32) (s0_31 : (Nat → Int32)) => if inb (-x0_29) 100 then if inb (x5_30 + (-1 : Int32)) n0 then glt (fun (x5_35 : Int32) (s0_36 : (Nat → Int32)) => if y2 = 0 then some (x5_35, s0_36)
  else if inb (x5_35 + (-1 : Int32)) n0 then some ((x5_35 + (-1 : Int32)), (upd s0_36 (ix (x5_35 + (-1 : Int32))) (vp_nar .byte (45 : Int32)))) else none) fun J34 =>
  if (-9 : Int32) ≤ x0_29 then J34 (x5_30 + (-1 : Int32)) (upd s0_31 (ix (x5_30 + (-1 : Int32))) (vp_nar .byte (digO (ix (-x0_29)))))
  else if inb (-x0_29) 100 then if inb ((x5_30 + (-1 : Int32)) + (-1 : Int32)) n0 then J34 ((x5_30 + (-1 : Int32)) + (-1 : Int32)) (upd (upd s0_31 (ix (x5_30 + (-1 : Int32))) (vp_nar .byte (digO (ix (-x0_29))))) (ix ((x5_30 + (-1 : Int32)) + (-1 : Int32))) (vp_nar .byte (digT (ix (-x0_29))))) else none else none else none else none) fun K28 =>
  f_J6_getChars_ba4f3_L22_45 n0 K28 10000 (-p1) p2 t0
  else glt (fun (x0_5 : Int32) (x5_6 : Int32) (s0_7 : (Nat → Int32)) => if inb (-x0_5) 100 then if inb (x5_6 + (-1 : Int32)) n0 then glt (fun (x5_11 : Int32) (s0_12 : (Nat → Int32)) => if y2 = 0 then some (x5_11, s0_12)
  else if inb (x5_11 + (-1 : Int32)) n0 then some ((x5_11 + (-1 : Int32)), (upd s0_12 (ix (x5_11 + (-1 : Int32))) (vp_nar .byte (45 : Int32)))) else none) fun J10 =>
  if (-9 : Int32) ≤ x0_5 then J10 (x5_6 + (-1 : Int32)) (upd s0_7 (ix (x5_6 + (-1 : Int32))) (vp_nar .byte (digO (ix (-x0_5)))))
  else if inb (-x0_5) 100 then if inb ((x5_6 + (-1 : Int32)) + (-1 : Int32)) n0 then J10 ((x5_6 + (-1 : Int32)) + (-1 : Int32)) (upd (upd s0_7 (ix (x5_6 + (-1 : Int32))) (vp_nar .byte (digO (ix (-x0_5))))) (ix ((x5_6 + (-1 : Int32)) + (-1 : Int32))) (vp_nar .byte (digT (ix (-x0_5))))) else none else none else none else none) fun K4 =>
  f_J6_getChars_ba4f3_L22_21 n0 K4 10000 p1 p2 t0) fun J1 =>
  if 0 ≤ p1 then J1 (0 : Int32)
  else J1 (1 : Int32)
abbrev rm_J6_getChars_ba4f3 : Room := { frames := 0, cells := 0, slots := 0, locals := 0 }
set_option maxHeartbeats 4000000 in
set_option maxRecDepth 100000 in
theorem c_J6_getChars_ba4f3 (l : Launch) (g : GK) (d0 : Nat) (n0 : Nat) (t0 : Nat → Int32) (p1 : Int32) (p2 : Int32) (res : (Int32 × (Nat → Int32))) (hf : f_J6_getChars_ba4f3 n0 t0 p1 p2 = some res) : gM l yJ6_getChars_ba4f3 cJ6_getChars_ba4f3 7 (some .int) rm_J6_getChars_ba4f3 g [.int p1, .int p2, .ref d0] ([(d0, .inl (g.2.2.2.1, n0, .inl t0))]) (fun _ : Unit => (some (.int (res.1)))) (fun _ => ([(d0, .inl (g.2.2.2.1, n0, .inl (res.2)))])) 0 0 := by
  refine gM_introI RJ6 (by decide) rfl (Nat.le_of_ble_eq_true rfl) (fun p e s m args below meth c Q H locs ls A hE hZ hA hP hD hS hq hl => ?_)
  have hl : lv_has ls 7 [(0, .int p1), (1, .int p2), (2, .ref d0)] := hl
  have hx := hE.1
  have hb := hE.2.1
  rw [f_J6_getChars_ba4f3] at hf
  refine lv_iload_n hx hb dJ6_getChars_ba4f3_0 rfl (lv_at hl 1 rfl) ?_
  refine lv_istore hx hb dJ6_getChars_ba4f3_1 hl (by decide) (lv' := [(5, .int p2), (0, .int p1), (1, .int p2), (2, .ref d0)]) rfl (fun ls hl => ?_)
  refine lv_iload_n hx hb dJ6_getChars_ba4f3_3 rfl (lv_at hl 1 rfl) ?_
  obtain ⟨J1, eJ1, hf⟩ := gltd hf
  have kJ1 : ∀ (y2 : Int32) (ls : Array Slot) (H : Heap) (locs : List Loc), J1 y2 = some res → lv_has ls 7 [(0, .int p1), (2, .ref d0), (5, .int p2)] → gP g ([(d0, .inl (g.2.2.2.1, n0, .inl t0))]) H → va_D A ([(d0, .inl (g.2.2.2.1, n0, .inl t0))]) → va_S A s.heap H locs → W p l e rm_J6_getChars_ba4f3 s m args below meth c H locs 0 0 Q (F0 m 12 ls [.int y2]) := by
    intro y2 ls H locs hf hl hP hD hS
    rw [eJ1] at hf
    refine lv_istore hx hb dJ6_getChars_ba4f3_12 hl (by decide) (lv' := [(6, .int y2), (0, .int p1), (2, .ref d0), (5, .int p2)]) rfl (fun ls hl => ?_)
    refine lv_iload hx hb dJ6_getChars_ba4f3_14 (lv_at hl 0 rfl) ?_
    refine lv_if_ne hx hb dJ6_getChars_ba4f3_16 (tgt := 22) rfl (fun h3 => ?_) (fun h3 => ?_)
    · have hf := gif_f h3 hf
      obtain ⟨K4, eK4, hf⟩ := gltd hf
      have kK4 : ∀ (x0_5 : Int32) (x5_6 : Int32) (s0_7 : (Nat → Int32)) (ls : Array Slot) (H : Heap) (locs : List Loc), K4 x0_5 x5_6 s0_7 = some res → lv_has ls 7 [(0, .int x0_5), (2, .ref d0), (5, .int x5_6), (6, .int y2)] → gP g ([(d0, .inl (g.2.2.2.1, n0, .inl s0_7))]) H → va_D A ([(d0, .inl (g.2.2.2.1, n0, .inl s0_7))]) → va_S A s.heap H locs → W p l e rm_J6_getChars_ba4f3 s m args below meth c H locs 0 0 Q (F0 m 72 ls []) := by
        intro x0_5 x5_6 s0_7 ls H locs hf hl hP hD hS
        rw [eK4] at hf
        refine lv_aload_n hx hb dJ6_getChars_ba4f3_72 rfl (lv_at hl 1 rfl) ?_
        refine lv_iinc hx hb dJ6_getChars_ba4f3_73 hl (k := 2) (x := x5_6) rfl (kinc_m1 _) (by decide) (lv' := [(5, .int (x5_6 + (-1 : Int32))), (0, .int x0_5), (2, .ref d0), (6, .int y2)]) rfl (fun ls hl => ?_)
        refine lv_iload hx hb dJ6_getChars_ba4f3_76 (lv_at hl 0 rfl) ?_
        refine va_gets hx hb hZ.2.2.2.2.1 hS hE.2.2.2.2.2.1 (hE.2.2.2.2.2.2.1 _ kf_J6_83) (fun _ h => h) dJ6_getChars_ba4f3_78 ?_
        refine lv_iload_n hx hb dJ6_getChars_ba4f3_81 rfl (lv_at hl 1 rfl) ?_
        refine lv_ineg hx hb dJ6_getChars_ba4f3_82 ?_
        obtain ⟨hg8, hf⟩ := ggd hf
        refine va_tb hx hb hZ.2.2.2.2.2.1 hS hg8 (v := .int (digO (ix (-x0_5)))) rfl dJ6_getChars_ba4f3_83 ?_
        obtain ⟨hg9, hf⟩ := ggd hf
        refine g_bast hE hP hD hS 0 (f := s0_7) rfl hg9 ([(d0, .inl (g.2.2.2.1, n0, .inl (upd s0_7 (ix (x5_6 + (-1 : Int32))) (vp_nar .byte (digO (ix (-x0_5)))))))]) rfl dJ6_getChars_ba4f3_84 (fun H locs hP hD hS => ?_)
        refine lv_iload_n hx hb dJ6_getChars_ba4f3_85 rfl (lv_at hl 1 rfl) ?_
        refine lv_bipush hx hb dJ6_getChars_ba4f3_86 kcb_m9 ?_
        obtain ⟨J10, eJ10, hf⟩ := gltd hf
        have kJ10 : ∀ (x5_11 : Int32) (s0_12 : (Nat → Int32)) (ls : Array Slot) (H : Heap) (locs : List Loc), J10 x5_11 s0_12 = some res → lv_has ls 7 [(2, .ref d0), (5, .int x5_11), (6, .int y2)] → gP g ([(d0, .inl (g.2.2.2.1, n0, .inl s0_12))]) H → va_D A ([(d0, .inl (g.2.2.2.1, n0, .inl s0_12))]) → va_S A s.heap H locs → W p l e rm_J6_getChars_ba4f3 s m args below meth c H locs 0 0 Q (F0 m 104 ls []) := by
          intro x5_11 s0_12 ls H locs hf hl hP hD hS
          rw [eJ10] at hf
          refine lv_iload hx hb dJ6_getChars_ba4f3_104 (lv_at hl 2 rfl) ?_
          refine lv_if_eq hx hb dJ6_getChars_ba4f3_106 (tgt := 118) rfl (fun h13 => ?_) (fun h13 => ?_)
          · have hf := gif_t h13 hf
            refine lv_iload hx hb dJ6_getChars_ba4f3_118 (lv_at hl 1 rfl) ?_
            have hf := Option.some.inj hf; subst hf
            exact hq () rfl hP hD hS dJ6_getChars_ba4f3_120
          · have hf := gif_f h13 hf
            refine lv_aload_n hx hb dJ6_getChars_ba4f3_109 rfl (lv_at hl 0 rfl) ?_
            refine lv_iinc hx hb dJ6_getChars_ba4f3_110 hl (k := 1) (x := x5_11) rfl (kinc_m1 _) (by decide) (lv' := [(5, .int (x5_11 + (-1 : Int32))), (2, .ref d0), (6, .int y2)]) rfl (fun ls hl => ?_)
            refine lv_iload hx hb dJ6_getChars_ba4f3_113 (lv_at hl 0 rfl) ?_
            refine lv_bipush hx hb dJ6_getChars_ba4f3_115 kcb_45 ?_
            obtain ⟨hg14, hf⟩ := ggd hf
            refine g_bast hE hP hD hS 0 (f := s0_12) rfl hg14 ([(d0, .inl (g.2.2.2.1, n0, .inl (upd s0_12 (ix (x5_11 + (-1 : Int32))) (vp_nar .byte (45 : Int32)))))]) rfl dJ6_getChars_ba4f3_117 (fun H locs hP hD hS => ?_)
            refine lv_iload hx hb dJ6_getChars_ba4f3_118 (lv_at hl 0 rfl) ?_
            have hf := Option.some.inj hf; subst hf
            exact hq () rfl hP hD hS dJ6_getChars_ba4f3_120
        refine lv_icmp_ge hx hb dJ6_getChars_ba4f3_88 (tgt := 104) rfl (fun h15 => ?_) (fun h15 => ?_)
        · have hf := gif_t h15 hf
          exact kJ10 (x5_6 + (-1 : Int32)) (upd s0_7 (ix (x5_6 + (-1 : Int32))) (vp_nar .byte (digO (ix (-x0_5))))) ls H locs hf (lv_sub hl [2, 0, 3] rfl) hP hD hS
        · have hf := gif_f h15 hf
          refine lv_aload_n hx hb dJ6_getChars_ba4f3_91 rfl (lv_at hl 2 rfl) ?_
          refine lv_iinc hx hb dJ6_getChars_ba4f3_92 hl (k := 0) (x := (x5_6 + (-1 : Int32))) rfl (kinc_m1 _) (by decide) (lv' := [(5, .int ((x5_6 + (-1 : Int32)) + (-1 : Int32))), (0, .int x0_5), (2, .ref d0), (6, .int y2)]) rfl (fun ls hl => ?_)
          refine lv_iload hx hb dJ6_getChars_ba4f3_95 (lv_at hl 0 rfl) ?_
          refine va_gets hx hb hZ.2.2.1 hS hE.2.2.2.2.2.1 (hE.2.2.2.2.2.2.1 _ kf_J6_87) (fun _ h => h) dJ6_getChars_ba4f3_97 ?_
          refine lv_iload_n hx hb dJ6_getChars_ba4f3_100 rfl (lv_at hl 1 rfl) ?_
          refine lv_ineg hx hb dJ6_getChars_ba4f3_101 ?_
          obtain ⟨hg16, hf⟩ := ggd hf
          refine va_tb hx hb hZ.2.2.2.1 hS hg16 (v := .int (digT (ix (-x0_5)))) rfl dJ6_getChars_ba4f3_102 ?_
          obtain ⟨hg17, hf⟩ := ggd hf
          refine g_bast hE hP hD hS 0 (f := (upd s0_7 (ix (x5_6 + (-1 : Int32))) (vp_nar .byte (digO (ix (-x0_5)))))) rfl hg17 ([(d0, .inl (g.2.2.2.1, n0, .inl (upd (upd s0_7 (ix (x5_6 + (-1 : Int32))) (vp_nar .byte (digO (ix (-x0_5))))) (ix ((x5_6 + (-1 : Int32)) + (-1 : Int32))) (vp_nar .byte (digT (ix (-x0_5)))))))]) rfl dJ6_getChars_ba4f3_103 (fun H locs hP hD hS => ?_)
          exact kJ10 ((x5_6 + (-1 : Int32)) + (-1 : Int32)) (upd (upd s0_7 (ix (x5_6 + (-1 : Int32))) (vp_nar .byte (digO (ix (-x0_5))))) (ix ((x5_6 + (-1 : Int32)) + (-1 : Int32))) (vp_nar .byte (digT (ix (-x0_5))))) ls H locs hf (lv_sub hl [2, 0, 3] rfl) hP hD hS
      have lpn22 : ∀ (n22 : Nat) (x0_18 : Int32) (x5_19 : Int32) (s0_20 : (Nat → Int32)) (ls : Array Slot) (H : Heap) (locs : List Loc), f_J6_getChars_ba4f3_L22_21 n0 K4 n22 x0_18 x5_19 s0_20 = some res → lv_has ls 7 [(0, .int x0_18), (2, .ref d0), (5, .int x5_19), (6, .int y2)] → gP g ([(d0, .inl (g.2.2.2.1, n0, .inl s0_20))]) H → va_D A ([(d0, .inl (g.2.2.2.1, n0, .inl s0_20))]) → va_S A s.heap H locs → W p l e rm_J6_getChars_ba4f3 s m args below meth c H locs 0 0 Q (F0 m 22 ls []) := by
        intro n22
        induction n22 with
        | zero => intro x0_18 x5_19 s0_20 ls H locs hf hl hP hD hS; rw [f_J6_getChars_ba4f3_L22_21] at hf; cases hf
        | succ n22 ihn22 =>
          intro x0_18 x5_19 s0_20 ls H locs hf hl hP hD hS
          rw [f_J6_getChars_ba4f3_L22_21] at hf
          refine lv_iload_n hx hb dJ6_getChars_ba4f3_22 rfl (lv_at hl 0 rfl) ?_
          refine lv_bipush hx hb dJ6_getChars_ba4f3_23 kcb_m100 ?_
          refine lv_icmp_gt hx hb dJ6_getChars_ba4f3_25 (tgt := 72) rfl (fun h23 => ?_) (fun h23 => ?_)
          · have hf := gif_t h23 hf
            exact kK4 x0_18 x5_19 s0_20 ls H locs hf (lv_sub hl [0, 1, 2, 3] rfl) hP hD hS
          · have hf := gif_f h23 hf
            refine lv_iload_n hx hb dJ6_getChars_ba4f3_28 rfl (lv_at hl 0 rfl) ?_
            refine lv_bipush hx hb dJ6_getChars_ba4f3_29 kcb_100 ?_
            refine lv_idiv hx hb dJ6_getChars_ba4f3_31 kne_100 ?_
            refine lv_istore_n hx hb dJ6_getChars_ba4f3_32 rfl hl (by decide) (lv' := [(3, .int (x0_18 / (100 : Int32))), (0, .int x0_18), (2, .ref d0), (5, .int x5_19), (6, .int y2)]) rfl (fun ls hl => ?_)
            refine lv_iload_n hx hb dJ6_getChars_ba4f3_33 rfl (lv_at hl 0 rfl) ?_
            refine lv_bipush hx hb dJ6_getChars_ba4f3_34 kcb_100 ?_
            refine lv_imul hx hb dJ6_getChars_ba4f3_36 ?_
            refine lv_iload_n hx hb dJ6_getChars_ba4f3_37 rfl (lv_at hl 1 rfl) ?_
            refine lv_isub hx hb dJ6_getChars_ba4f3_38 ?_
            refine lv_istore hx hb dJ6_getChars_ba4f3_39 hl (by decide) (lv' := [(4, .int (((x0_18 / (100 : Int32)) * (100 : Int32)) - x0_18)), (3, .int (x0_18 / (100 : Int32))), (0, .int x0_18), (2, .ref d0), (5, .int x5_19), (6, .int y2)]) rfl (fun ls hl => ?_)
            refine lv_iload_n hx hb dJ6_getChars_ba4f3_41 rfl (lv_at hl 1 rfl) ?_
            refine lv_istore_n hx hb dJ6_getChars_ba4f3_42 rfl hl (by decide) (lv' := [(0, .int (x0_18 / (100 : Int32))), (4, .int (((x0_18 / (100 : Int32)) * (100 : Int32)) - x0_18)), (3, .int (x0_18 / (100 : Int32))), (2, .ref d0), (5, .int x5_19), (6, .int y2)]) rfl (fun ls hl => ?_)
            refine lv_aload_n hx hb dJ6_getChars_ba4f3_43 rfl (lv_at hl 3 rfl) ?_
            refine lv_iinc hx hb dJ6_getChars_ba4f3_44 hl (k := 4) (x := x5_19) rfl (kinc_m1 _) (by decide) (lv' := [(5, .int (x5_19 + (-1 : Int32))), (0, .int (x0_18 / (100 : Int32))), (4, .int (((x0_18 / (100 : Int32)) * (100 : Int32)) - x0_18)), (3, .int (x0_18 / (100 : Int32))), (2, .ref d0), (6, .int y2)]) rfl (fun ls hl => ?_)
            refine lv_iload hx hb dJ6_getChars_ba4f3_47 (lv_at hl 0 rfl) ?_
            refine va_gets hx hb hZ.2.2.2.2.1 hS hE.2.2.2.2.2.1 (hE.2.2.2.2.2.2.1 _ kf_J6_83) (fun _ h => h) dJ6_getChars_ba4f3_49 ?_
            refine lv_iload hx hb dJ6_getChars_ba4f3_52 (lv_at hl 2 rfl) ?_
            obtain ⟨hg24, hf⟩ := ggd hf
            refine va_tb hx hb hZ.2.2.2.2.2.1 hS hg24 (v := .int (digO (ix (((x0_18 / (100 : Int32)) * (100 : Int32)) - x0_18)))) rfl dJ6_getChars_ba4f3_54 ?_
            obtain ⟨hg25, hf⟩ := ggd hf
            refine g_bast hE hP hD hS 0 (f := s0_20) rfl hg25 ([(d0, .inl (g.2.2.2.1, n0, .inl (upd s0_20 (ix (x5_19 + (-1 : Int32))) (vp_nar .byte (digO (ix (((x0_18 / (100 : Int32)) * (100 : Int32)) - x0_18)))))))]) rfl dJ6_getChars_ba4f3_55 (fun H locs hP hD hS => ?_)
            refine lv_aload_n hx hb dJ6_getChars_ba4f3_56 rfl (lv_at hl 4 rfl) ?_
            refine lv_iinc hx hb dJ6_getChars_ba4f3_57 hl (k := 0) (x := (x5_19 + (-1 : Int32))) rfl (kinc_m1 _) (by decide) (lv' := [(5, .int ((x5_19 + (-1 : Int32)) + (-1 : Int32))), (0, .int (x0_18 / (100 : Int32))), (4, .int (((x0_18 / (100 : Int32)) * (100 : Int32)) - x0_18)), (3, .int (x0_18 / (100 : Int32))), (2, .ref d0), (6, .int y2)]) rfl (fun ls hl => ?_)
            refine lv_iload hx hb dJ6_getChars_ba4f3_60 (lv_at hl 0 rfl) ?_
            refine va_gets hx hb hZ.2.2.1 hS hE.2.2.2.2.2.1 (hE.2.2.2.2.2.2.1 _ kf_J6_87) (fun _ h => h) dJ6_getChars_ba4f3_62 ?_
            refine lv_iload hx hb dJ6_getChars_ba4f3_65 (lv_at hl 2 rfl) ?_
            obtain ⟨hg26, hf⟩ := ggd hf
            refine va_tb hx hb hZ.2.2.2.1 hS hg26 (v := .int (digT (ix (((x0_18 / (100 : Int32)) * (100 : Int32)) - x0_18)))) rfl dJ6_getChars_ba4f3_67 ?_
            obtain ⟨hg27, hf⟩ := ggd hf
            refine g_bast hE hP hD hS 0 (f := (upd s0_20 (ix (x5_19 + (-1 : Int32))) (vp_nar .byte (digO (ix (((x0_18 / (100 : Int32)) * (100 : Int32)) - x0_18)))))) rfl hg27 ([(d0, .inl (g.2.2.2.1, n0, .inl (upd (upd s0_20 (ix (x5_19 + (-1 : Int32))) (vp_nar .byte (digO (ix (((x0_18 / (100 : Int32)) * (100 : Int32)) - x0_18))))) (ix ((x5_19 + (-1 : Int32)) + (-1 : Int32))) (vp_nar .byte (digT (ix (((x0_18 / (100 : Int32)) * (100 : Int32)) - x0_18)))))))]) rfl dJ6_getChars_ba4f3_68 (fun H locs hP hD hS => ?_)
            refine lv_goto hx hb dJ6_getChars_ba4f3_69 (tgt := 22) rfl ?_
            exact ihn22 (x0_18 / (100 : Int32)) ((x5_19 + (-1 : Int32)) + (-1 : Int32)) (upd (upd s0_20 (ix (x5_19 + (-1 : Int32))) (vp_nar .byte (digO (ix (((x0_18 / (100 : Int32)) * (100 : Int32)) - x0_18))))) (ix ((x5_19 + (-1 : Int32)) + (-1 : Int32))) (vp_nar .byte (digT (ix (((x0_18 / (100 : Int32)) * (100 : Int32)) - x0_18))))) ls H locs hf (lv_sub hl [1, 4, 0, 5] rfl) hP hD hS
      exact lpn22 10000 p1 p2 t0 ls H locs hf (lv_sub hl [1, 2, 3, 0] rfl) hP hD hS
    · have hf := gif_t h3 hf
      refine lv_iload_n hx hb dJ6_getChars_ba4f3_19 rfl (lv_at hl 1 rfl) ?_
      refine lv_ineg hx hb dJ6_getChars_ba4f3_20 ?_
      refine lv_istore_n hx hb dJ6_getChars_ba4f3_21 rfl hl (by decide) (lv' := [(0, .int (-p1)), (6, .int y2), (2, .ref d0), (5, .int p2)]) rfl (fun ls hl => ?_)
      obtain ⟨K28, eK28, hf⟩ := gltd hf
      have kK28 : ∀ (x0_29 : Int32) (x5_30 : Int32) (s0_31 : (Nat → Int32)) (ls : Array Slot) (H : Heap) (locs : List Loc), K28 x0_29 x5_30 s0_31 = some res → lv_has ls 7 [(0, .int x0_29), (2, .ref d0), (5, .int x5_30), (6, .int y2)] → gP g ([(d0, .inl (g.2.2.2.1, n0, .inl s0_31))]) H → va_D A ([(d0, .inl (g.2.2.2.1, n0, .inl s0_31))]) → va_S A s.heap H locs → W p l e rm_J6_getChars_ba4f3 s m args below meth c H locs 0 0 Q (F0 m 72 ls []) := by
        intro x0_29 x5_30 s0_31 ls H locs hf hl hP hD hS
        rw [eK28] at hf
        refine lv_aload_n hx hb dJ6_getChars_ba4f3_72 rfl (lv_at hl 1 rfl) ?_
        refine lv_iinc hx hb dJ6_getChars_ba4f3_73 hl (k := 2) (x := x5_30) rfl (kinc_m1 _) (by decide) (lv' := [(5, .int (x5_30 + (-1 : Int32))), (0, .int x0_29), (2, .ref d0), (6, .int y2)]) rfl (fun ls hl => ?_)
        refine lv_iload hx hb dJ6_getChars_ba4f3_76 (lv_at hl 0 rfl) ?_
        refine va_gets hx hb hZ.2.2.2.2.1 hS hE.2.2.2.2.2.1 (hE.2.2.2.2.2.2.1 _ kf_J6_83) (fun _ h => h) dJ6_getChars_ba4f3_78 ?_
        refine lv_iload_n hx hb dJ6_getChars_ba4f3_81 rfl (lv_at hl 1 rfl) ?_
        refine lv_ineg hx hb dJ6_getChars_ba4f3_82 ?_
        obtain ⟨hg32, hf⟩ := ggd hf
        refine va_tb hx hb hZ.2.2.2.2.2.1 hS hg32 (v := .int (digO (ix (-x0_29)))) rfl dJ6_getChars_ba4f3_83 ?_
        obtain ⟨hg33, hf⟩ := ggd hf
        refine g_bast hE hP hD hS 0 (f := s0_31) rfl hg33 ([(d0, .inl (g.2.2.2.1, n0, .inl (upd s0_31 (ix (x5_30 + (-1 : Int32))) (vp_nar .byte (digO (ix (-x0_29)))))))]) rfl dJ6_getChars_ba4f3_84 (fun H locs hP hD hS => ?_)
        refine lv_iload_n hx hb dJ6_getChars_ba4f3_85 rfl (lv_at hl 1 rfl) ?_
        refine lv_bipush hx hb dJ6_getChars_ba4f3_86 kcb_m9 ?_
        obtain ⟨J34, eJ34, hf⟩ := gltd hf
        have kJ34 : ∀ (x5_35 : Int32) (s0_36 : (Nat → Int32)) (ls : Array Slot) (H : Heap) (locs : List Loc), J34 x5_35 s0_36 = some res → lv_has ls 7 [(2, .ref d0), (5, .int x5_35), (6, .int y2)] → gP g ([(d0, .inl (g.2.2.2.1, n0, .inl s0_36))]) H → va_D A ([(d0, .inl (g.2.2.2.1, n0, .inl s0_36))]) → va_S A s.heap H locs → W p l e rm_J6_getChars_ba4f3 s m args below meth c H locs 0 0 Q (F0 m 104 ls []) := by
          intro x5_35 s0_36 ls H locs hf hl hP hD hS
          rw [eJ34] at hf
          refine lv_iload hx hb dJ6_getChars_ba4f3_104 (lv_at hl 2 rfl) ?_
          refine lv_if_eq hx hb dJ6_getChars_ba4f3_106 (tgt := 118) rfl (fun h37 => ?_) (fun h37 => ?_)
          · have hf := gif_t h37 hf
            refine lv_iload hx hb dJ6_getChars_ba4f3_118 (lv_at hl 1 rfl) ?_
            have hf := Option.some.inj hf; subst hf
            exact hq () rfl hP hD hS dJ6_getChars_ba4f3_120
          · have hf := gif_f h37 hf
            refine lv_aload_n hx hb dJ6_getChars_ba4f3_109 rfl (lv_at hl 0 rfl) ?_
            refine lv_iinc hx hb dJ6_getChars_ba4f3_110 hl (k := 1) (x := x5_35) rfl (kinc_m1 _) (by decide) (lv' := [(5, .int (x5_35 + (-1 : Int32))), (2, .ref d0), (6, .int y2)]) rfl (fun ls hl => ?_)
            refine lv_iload hx hb dJ6_getChars_ba4f3_113 (lv_at hl 0 rfl) ?_
            refine lv_bipush hx hb dJ6_getChars_ba4f3_115 kcb_45 ?_
            obtain ⟨hg38, hf⟩ := ggd hf
            refine g_bast hE hP hD hS 0 (f := s0_36) rfl hg38 ([(d0, .inl (g.2.2.2.1, n0, .inl (upd s0_36 (ix (x5_35 + (-1 : Int32))) (vp_nar .byte (45 : Int32)))))]) rfl dJ6_getChars_ba4f3_117 (fun H locs hP hD hS => ?_)
            refine lv_iload hx hb dJ6_getChars_ba4f3_118 (lv_at hl 0 rfl) ?_
            have hf := Option.some.inj hf; subst hf
            exact hq () rfl hP hD hS dJ6_getChars_ba4f3_120
        refine lv_icmp_ge hx hb dJ6_getChars_ba4f3_88 (tgt := 104) rfl (fun h39 => ?_) (fun h39 => ?_)
        · have hf := gif_t h39 hf
          exact kJ34 (x5_30 + (-1 : Int32)) (upd s0_31 (ix (x5_30 + (-1 : Int32))) (vp_nar .byte (digO (ix (-x0_29))))) ls H locs hf (lv_sub hl [2, 0, 3] rfl) hP hD hS
        · have hf := gif_f h39 hf
          refine lv_aload_n hx hb dJ6_getChars_ba4f3_91 rfl (lv_at hl 2 rfl) ?_
          refine lv_iinc hx hb dJ6_getChars_ba4f3_92 hl (k := 0) (x := (x5_30 + (-1 : Int32))) rfl (kinc_m1 _) (by decide) (lv' := [(5, .int ((x5_30 + (-1 : Int32)) + (-1 : Int32))), (0, .int x0_29), (2, .ref d0), (6, .int y2)]) rfl (fun ls hl => ?_)
          refine lv_iload hx hb dJ6_getChars_ba4f3_95 (lv_at hl 0 rfl) ?_
          refine va_gets hx hb hZ.2.2.1 hS hE.2.2.2.2.2.1 (hE.2.2.2.2.2.2.1 _ kf_J6_87) (fun _ h => h) dJ6_getChars_ba4f3_97 ?_
          refine lv_iload_n hx hb dJ6_getChars_ba4f3_100 rfl (lv_at hl 1 rfl) ?_
          refine lv_ineg hx hb dJ6_getChars_ba4f3_101 ?_
          obtain ⟨hg40, hf⟩ := ggd hf
          refine va_tb hx hb hZ.2.2.2.1 hS hg40 (v := .int (digT (ix (-x0_29)))) rfl dJ6_getChars_ba4f3_102 ?_
          obtain ⟨hg41, hf⟩ := ggd hf
          refine g_bast hE hP hD hS 0 (f := (upd s0_31 (ix (x5_30 + (-1 : Int32))) (vp_nar .byte (digO (ix (-x0_29)))))) rfl hg41 ([(d0, .inl (g.2.2.2.1, n0, .inl (upd (upd s0_31 (ix (x5_30 + (-1 : Int32))) (vp_nar .byte (digO (ix (-x0_29))))) (ix ((x5_30 + (-1 : Int32)) + (-1 : Int32))) (vp_nar .byte (digT (ix (-x0_29)))))))]) rfl dJ6_getChars_ba4f3_103 (fun H locs hP hD hS => ?_)
          exact kJ34 ((x5_30 + (-1 : Int32)) + (-1 : Int32)) (upd (upd s0_31 (ix (x5_30 + (-1 : Int32))) (vp_nar .byte (digO (ix (-x0_29))))) (ix ((x5_30 + (-1 : Int32)) + (-1 : Int32))) (vp_nar .byte (digT (ix (-x0_29))))) ls H locs hf (lv_sub hl [2, 0, 3] rfl) hP hD hS
      have lpn46 : ∀ (n46 : Nat) (x0_42 : Int32) (x5_43 : Int32) (s0_44 : (Nat → Int32)) (ls : Array Slot) (H : Heap) (locs : List Loc), f_J6_getChars_ba4f3_L22_45 n0 K28 n46 x0_42 x5_43 s0_44 = some res → lv_has ls 7 [(0, .int x0_42), (2, .ref d0), (5, .int x5_43), (6, .int y2)] → gP g ([(d0, .inl (g.2.2.2.1, n0, .inl s0_44))]) H → va_D A ([(d0, .inl (g.2.2.2.1, n0, .inl s0_44))]) → va_S A s.heap H locs → W p l e rm_J6_getChars_ba4f3 s m args below meth c H locs 0 0 Q (F0 m 22 ls []) := by
        intro n46
        induction n46 with
        | zero => intro x0_42 x5_43 s0_44 ls H locs hf hl hP hD hS; rw [f_J6_getChars_ba4f3_L22_45] at hf; cases hf
        | succ n46 ihn46 =>
          intro x0_42 x5_43 s0_44 ls H locs hf hl hP hD hS
          rw [f_J6_getChars_ba4f3_L22_45] at hf
          refine lv_iload_n hx hb dJ6_getChars_ba4f3_22 rfl (lv_at hl 0 rfl) ?_
          refine lv_bipush hx hb dJ6_getChars_ba4f3_23 kcb_m100 ?_
          refine lv_icmp_gt hx hb dJ6_getChars_ba4f3_25 (tgt := 72) rfl (fun h47 => ?_) (fun h47 => ?_)
          · have hf := gif_t h47 hf
            exact kK28 x0_42 x5_43 s0_44 ls H locs hf (lv_sub hl [0, 1, 2, 3] rfl) hP hD hS
          · have hf := gif_f h47 hf
            refine lv_iload_n hx hb dJ6_getChars_ba4f3_28 rfl (lv_at hl 0 rfl) ?_
            refine lv_bipush hx hb dJ6_getChars_ba4f3_29 kcb_100 ?_
            refine lv_idiv hx hb dJ6_getChars_ba4f3_31 kne_100 ?_
            refine lv_istore_n hx hb dJ6_getChars_ba4f3_32 rfl hl (by decide) (lv' := [(3, .int (x0_42 / (100 : Int32))), (0, .int x0_42), (2, .ref d0), (5, .int x5_43), (6, .int y2)]) rfl (fun ls hl => ?_)
            refine lv_iload_n hx hb dJ6_getChars_ba4f3_33 rfl (lv_at hl 0 rfl) ?_
            refine lv_bipush hx hb dJ6_getChars_ba4f3_34 kcb_100 ?_
            refine lv_imul hx hb dJ6_getChars_ba4f3_36 ?_
            refine lv_iload_n hx hb dJ6_getChars_ba4f3_37 rfl (lv_at hl 1 rfl) ?_
            refine lv_isub hx hb dJ6_getChars_ba4f3_38 ?_
            refine lv_istore hx hb dJ6_getChars_ba4f3_39 hl (by decide) (lv' := [(4, .int (((x0_42 / (100 : Int32)) * (100 : Int32)) - x0_42)), (3, .int (x0_42 / (100 : Int32))), (0, .int x0_42), (2, .ref d0), (5, .int x5_43), (6, .int y2)]) rfl (fun ls hl => ?_)
            refine lv_iload_n hx hb dJ6_getChars_ba4f3_41 rfl (lv_at hl 1 rfl) ?_
            refine lv_istore_n hx hb dJ6_getChars_ba4f3_42 rfl hl (by decide) (lv' := [(0, .int (x0_42 / (100 : Int32))), (4, .int (((x0_42 / (100 : Int32)) * (100 : Int32)) - x0_42)), (3, .int (x0_42 / (100 : Int32))), (2, .ref d0), (5, .int x5_43), (6, .int y2)]) rfl (fun ls hl => ?_)
            refine lv_aload_n hx hb dJ6_getChars_ba4f3_43 rfl (lv_at hl 3 rfl) ?_
            refine lv_iinc hx hb dJ6_getChars_ba4f3_44 hl (k := 4) (x := x5_43) rfl (kinc_m1 _) (by decide) (lv' := [(5, .int (x5_43 + (-1 : Int32))), (0, .int (x0_42 / (100 : Int32))), (4, .int (((x0_42 / (100 : Int32)) * (100 : Int32)) - x0_42)), (3, .int (x0_42 / (100 : Int32))), (2, .ref d0), (6, .int y2)]) rfl (fun ls hl => ?_)
            refine lv_iload hx hb dJ6_getChars_ba4f3_47 (lv_at hl 0 rfl) ?_
            refine va_gets hx hb hZ.2.2.2.2.1 hS hE.2.2.2.2.2.1 (hE.2.2.2.2.2.2.1 _ kf_J6_83) (fun _ h => h) dJ6_getChars_ba4f3_49 ?_
            refine lv_iload hx hb dJ6_getChars_ba4f3_52 (lv_at hl 2 rfl) ?_
            obtain ⟨hg48, hf⟩ := ggd hf
            refine va_tb hx hb hZ.2.2.2.2.2.1 hS hg48 (v := .int (digO (ix (((x0_42 / (100 : Int32)) * (100 : Int32)) - x0_42)))) rfl dJ6_getChars_ba4f3_54 ?_
            obtain ⟨hg49, hf⟩ := ggd hf
            refine g_bast hE hP hD hS 0 (f := s0_44) rfl hg49 ([(d0, .inl (g.2.2.2.1, n0, .inl (upd s0_44 (ix (x5_43 + (-1 : Int32))) (vp_nar .byte (digO (ix (((x0_42 / (100 : Int32)) * (100 : Int32)) - x0_42)))))))]) rfl dJ6_getChars_ba4f3_55 (fun H locs hP hD hS => ?_)
            refine lv_aload_n hx hb dJ6_getChars_ba4f3_56 rfl (lv_at hl 4 rfl) ?_
            refine lv_iinc hx hb dJ6_getChars_ba4f3_57 hl (k := 0) (x := (x5_43 + (-1 : Int32))) rfl (kinc_m1 _) (by decide) (lv' := [(5, .int ((x5_43 + (-1 : Int32)) + (-1 : Int32))), (0, .int (x0_42 / (100 : Int32))), (4, .int (((x0_42 / (100 : Int32)) * (100 : Int32)) - x0_42)), (3, .int (x0_42 / (100 : Int32))), (2, .ref d0), (6, .int y2)]) rfl (fun ls hl => ?_)
            refine lv_iload hx hb dJ6_getChars_ba4f3_60 (lv_at hl 0 rfl) ?_
            refine va_gets hx hb hZ.2.2.1 hS hE.2.2.2.2.2.1 (hE.2.2.2.2.2.2.1 _ kf_J6_87) (fun _ h => h) dJ6_getChars_ba4f3_62 ?_
            refine lv_iload hx hb dJ6_getChars_ba4f3_65 (lv_at hl 2 rfl) ?_
            obtain ⟨hg50, hf⟩ := ggd hf
            refine va_tb hx hb hZ.2.2.2.1 hS hg50 (v := .int (digT (ix (((x0_42 / (100 : Int32)) * (100 : Int32)) - x0_42)))) rfl dJ6_getChars_ba4f3_67 ?_
            obtain ⟨hg51, hf⟩ := ggd hf
            refine g_bast hE hP hD hS 0 (f := (upd s0_44 (ix (x5_43 + (-1 : Int32))) (vp_nar .byte (digO (ix (((x0_42 / (100 : Int32)) * (100 : Int32)) - x0_42)))))) rfl hg51 ([(d0, .inl (g.2.2.2.1, n0, .inl (upd (upd s0_44 (ix (x5_43 + (-1 : Int32))) (vp_nar .byte (digO (ix (((x0_42 / (100 : Int32)) * (100 : Int32)) - x0_42))))) (ix ((x5_43 + (-1 : Int32)) + (-1 : Int32))) (vp_nar .byte (digT (ix (((x0_42 / (100 : Int32)) * (100 : Int32)) - x0_42)))))))]) rfl dJ6_getChars_ba4f3_68 (fun H locs hP hD hS => ?_)
            refine lv_goto hx hb dJ6_getChars_ba4f3_69 (tgt := 22) rfl ?_
            exact ihn46 (x0_42 / (100 : Int32)) ((x5_43 + (-1 : Int32)) + (-1 : Int32)) (upd (upd s0_44 (ix (x5_43 + (-1 : Int32))) (vp_nar .byte (digO (ix (((x0_42 / (100 : Int32)) * (100 : Int32)) - x0_42))))) (ix ((x5_43 + (-1 : Int32)) + (-1 : Int32))) (vp_nar .byte (digT (ix (((x0_42 / (100 : Int32)) * (100 : Int32)) - x0_42))))) ls H locs hf (lv_sub hl [1, 4, 0, 5] rfl) hP hD hS
      exact lpn46 10000 (-p1) p2 t0 ls H locs hf (lv_sub hl [0, 2, 3, 1] rfl) hP hD hS
  refine lv_if_ge hx hb dJ6_getChars_ba4f3_4 (tgt := 11) rfl (fun h52 => ?_) (fun h52 => ?_)
  · have hf := gif_t h52 hf
    refine lv_iconst hx hb dJ6_getChars_ba4f3_11 kci_0 ?_
    exact kJ1 (0 : Int32) ls H locs hf (lv_sub hl [1, 3, 0] rfl) hP hD hS
  · have hf := gif_f h52 hf
    refine lv_iconst hx hb dJ6_getChars_ba4f3_7 kci_1 ?_
    refine lv_goto hx hb dJ6_getChars_ba4f3_8 (tgt := 12) rfl ?_
    exact kJ1 (1 : Int32) ls H locs hf (lv_sub hl [1, 3, 0] rfl) hP hD hS
