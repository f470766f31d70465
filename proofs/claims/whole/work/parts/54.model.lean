theorem kcb_124 : (Int8.ofInt (124)).toInt32 = (124 : Int32) := by decide
theorem kcb_42 : (Int8.ofInt (42)).toInt32 = (42 : Int32) := by decide
theorem kcb_45 : (Int8.ofInt (45)).toInt32 = (45 : Int32) := by decide
theorem kcb_58 : (Int8.ofInt (58)).toInt32 = (58 : Int32) := by decide
theorem kcl_1 : Int64.ofNat 1 = (1 : Int64) := by decide
theorem kcs_1298 : (Int16.ofInt (1298)).toInt32 = (1298 : Int32) := by decide
theorem kcs_1379 : (Int16.ofInt (1379)).toInt32 = (1379 : Int32) := by decide
theorem kd_X9_291 : Cond.constantLong RX9 291 (255 : Int64) ∈ TBL := tb (in7 (List.mem_of_getElem? (i := 149) (by decide +kernel))) (by decide +kernel)
theorem kd_X9_345 : Cond.constantLong RX9 345 (9 : Int64) ∈ TBL := tb (in7 (List.mem_of_getElem? (i := 232) (by decide +kernel))) (by decide +kernel)
theorem kd_X9_347 : Cond.constantLong RX9 347 (10 : Int64) ∈ TBL := tb (in7 (List.mem_of_getElem? (i := 233) (by decide +kernel))) (by decide +kernel)
theorem kne_L10 : ¬ (10 : Int64) = 0 := by decide
theorem dX9_letters_0 : decode cX9_letters 0 = .ok (.iconst 0, 1) := by decide +kernel
theorem dX9_letters_1 : decode cX9_letters 1 = .ok (.istore_n 3, 1) := by decide +kernel
theorem dX9_letters_2 : decode cX9_letters 2 = .ok (.iload_n 3, 1) := by decide +kernel
theorem dX9_letters_3 : decode cX9_letters 3 = .ok (.iconst 5, 1) := by decide +kernel
theorem dX9_letters_4 : decode cX9_letters 4 = .ok (.if_icmp .ge 30, 3) := by decide +kernel
theorem dX9_letters_7 : decode cX9_letters 7 = .ok (.aload_n 0, 1) := by decide +kernel
theorem dX9_letters_8 : decode cX9_letters 8 = .ok (.getfield 21, 3) := by decide +kernel
theorem dX9_letters_11 : decode cX9_letters 11 = .ok (.bipush 8, 2) := by decide +kernel
theorem dX9_letters_13 : decode cX9_letters 13 = .ok (.iload_n 1, 1) := by decide +kernel
theorem dX9_letters_14 : decode cX9_letters 14 = .ok (.imul, 1) := by decide +kernel
theorem dX9_letters_15 : decode cX9_letters 15 = .ok (.iload_n 2, 1) := by decide +kernel
theorem dX9_letters_16 : decode cX9_letters 16 = .ok (.iadd, 1) := by decide +kernel
theorem dX9_letters_17 : decode cX9_letters 17 = .ok (.laload, 1) := by decide +kernel
theorem dX9_letters_18 : decode cX9_letters 18 = .ok (.bipush 8, 2) := by decide +kernel
theorem dX9_letters_20 : decode cX9_letters 20 = .ok (.iload_n 3, 1) := by decide +kernel
theorem dX9_letters_21 : decode cX9_letters 21 = .ok (.imul, 1) := by decide +kernel
theorem dX9_letters_22 : decode cX9_letters 22 = .ok (.lshr, 1) := by decide +kernel
theorem dX9_letters_23 : decode cX9_letters 23 = .ok (.lconst 0, 1) := by decide +kernel
theorem dX9_letters_24 : decode cX9_letters 24 = .ok (.lcmp, 1) := by decide +kernel
theorem dX9_letters_25 : decode cX9_letters 25 = .ok (.ifCond .eq 9, 3) := by decide +kernel
theorem dX9_letters_28 : decode cX9_letters 28 = .ok (.iinc 3 1, 3) := by decide +kernel
theorem dX9_letters_31 : decode cX9_letters 31 = .ok (.goto (-29), 3) := by decide +kernel
theorem dX9_letters_34 : decode cX9_letters 34 = .ok (.iload_n 3, 1) := by decide +kernel
theorem dX9_letters_35 : decode cX9_letters 35 = .ok (.ireturn, 1) := by decide +kernel
def f_X9_letters_L2_4 (s0 : MoT) (p1 : Int32) (p2 : Int32) (K1 : (Int32 → Option (Int32))) : Nat → Int32 → Option (Int32)
  | 0, _ => none
  | n5 + 1, x3_3 => if (5 : Int32) ≤ x3_3 then K1 x3_3
  else if inb (((8 : Int32) * p1) + p2) 16 then if (lg_cmp (((Mo_words s0) (ix (((8 : Int32) * p1) + p2))) >>> (((8 : Int32) * x3_3).toInt64 &&& 63)) (0 : Int64)) = 0 then K1 x3_3
  else f_X9_letters_L2_4 s0 p1 p2 K1 n5 (x3_3 + (1 : Int32)) else none
def f_X9_letters (s0 : MoT) (p1 : Int32) (p2 : Int32) : Option (Int32) :=
  glt (fun (x3_2 : Int32) => some (x3_2)) fun K1 =>
  f_X9_letters_L2_4 s0 p1 p2 K1 10000 (0 : Int32)
abbrev rm_X9_letters : Room := { frames := 0, cells := 0, slots := 0, locals := 0 }
set_option maxHeartbeats 4000000 in
set_option maxRecDepth 100000 in
theorem c_X9_letters (l : Launch) (g : GK) (a0 : Nat → Nat) (s0 : MoT) (p1 : Int32) (p2 : Int32) (res : (Int32)) (hf : f_X9_letters s0 p1 p2 = some res) : gR l yX9_letters cX9_letters 4 (some .int) rm_X9_letters g [.ref (a0 0), .int p1, .int p2] (Mo_c g a0 s0) (some (.int res)) := by
  refine gR_introI RX9 (by decide) rfl (Nat.le_of_ble_eq_true rfl) (fun p e s m args below meth c Q H locs ls hE hP hZ hS hq hl => ?_)
  have hl : lv_has ls 4 [(0, .ref (a0 0)), (1, .int p1), (2, .int p2)] := hl
  have hx := hE.1
  have hb := hE.2.1
  rw [f_X9_letters] at hf
  refine lv_iconst hx hb dX9_letters_0 kci_0 ?_
  refine lv_istore_n hx hb dX9_letters_1 rfl hl (by decide) (lv' := [(3, .int (0 : Int32)), (0, .ref (a0 0)), (1, .int p1), (2, .int p2)]) rfl (fun ls hl => ?_)
  obtain ⟨K1, eK1, hf⟩ := gltd hf
  have kK1 : ∀ (x3_2 : Int32) (ls : Array Slot), K1 x3_2 = some res → lv_has ls 4 [(3, .int x3_2)] → W p l e rm_X9_letters s m args below meth c H locs 0 0 Q (F0 m 34 ls []) := by
    intro x3_2 ls hf hl
    rw [eK1] at hf
    refine lv_iload_n hx hb dX9_letters_34 rfl (lv_at hl 0 rfl) ?_
    cases hf
    exact hq rfl dX9_letters_35
  have lpn5 : ∀ (n5 : Nat) (x3_3 : Int32) (ls : Array Slot), f_X9_letters_L2_4 s0 p1 p2 K1 n5 x3_3 = some res → lv_has ls 4 [(0, .ref (a0 0)), (1, .int p1), (2, .int p2), (3, .int x3_3)] → W p l e rm_X9_letters s m args below meth c H locs 0 0 Q (F0 m 2 ls []) := by
    intro n5
    induction n5 with
    | zero => intro x3_3 ls hf hl; rw [f_X9_letters_L2_4] at hf; cases hf
    | succ n5 ihn5 =>
      intro x3_3 ls hf hl
      rw [f_X9_letters_L2_4] at hf
      refine lv_iload_n hx hb dX9_letters_2 rfl (lv_at hl 3 rfl) ?_
      refine lv_iconst hx hb dX9_letters_3 kci_5 ?_
      refine lv_icmp_ge hx hb dX9_letters_4 (tgt := 34) rfl (fun h6 => ?_) (fun h6 => ?_)
      · have hf := gif_t h6 hf
        exact kK1 x3_3 ls hf (lv_sub hl [3] rfl)
      · have hf := gif_f h6 hf
        refine lv_aload_n hx hb dX9_letters_7 rfl (lv_at hl 0 rfl) ?_
        refine g_get hE okX9 fl_X9_21 hP 0 rfl (v := .ref (a0 3)) rfl dX9_letters_8 ?_
        refine lv_bipush hx hb dX9_letters_11 kcb_8 ?_
        refine lv_iload_n hx hb dX9_letters_13 rfl (lv_at hl 1 rfl) ?_
        refine lv_imul hx hb dX9_letters_14 ?_
        refine lv_iload_n hx hb dX9_letters_15 rfl (lv_at hl 2 rfl) ?_
        refine lv_iadd hx hb dX9_letters_16 ?_
        obtain ⟨hg7, hf⟩ := ggd hf
        refine g_lald hE hP 3 (f := (Mo_words s0)) rfl hg7 dX9_letters_17 ?_
        refine lv_bipush hx hb dX9_letters_18 kcb_8 ?_
        refine lv_iload_n hx hb dX9_letters_20 rfl (lv_at hl 3 rfl) ?_
        refine lv_imul hx hb dX9_letters_21 ?_
        refine lv_lshr hx hb dX9_letters_22 rfl ?_
        refine lv_lconst hx hb dX9_letters_23 kcl_0 ?_
        refine W.lcmp hx hb dX9_letters_24 ?_
        refine lv_if_eq hx hb dX9_letters_25 (tgt := 34) rfl (fun h8 => ?_) (fun h8 => ?_)
        · have hf := gif_t h8 hf
          exact kK1 x3_3 ls hf (lv_sub hl [3] rfl)
        · have hf := gif_f h8 hf
          refine lv_iinc hx hb dX9_letters_28 hl (k := 3) (x := x3_3) rfl (kinc_1 _) (by decide) (lv' := [(3, .int (x3_3 + (1 : Int32))), (0, .ref (a0 0)), (1, .int p1), (2, .int p2)]) rfl (fun ls hl => ?_)
          refine lv_goto hx hb dX9_letters_31 (tgt := 2) rfl ?_
          exact ihn5 (x3_3 + (1 : Int32)) ls hf (lv_sub hl [1, 2, 3, 0] rfl)
  exact lpn5 10000 (0 : Int32) ls hf (lv_sub hl [1, 2, 3, 0] rfl)
theorem dX9_letterOf_0 : decode cX9_letterOf 0 = .ok (.aload_n 0, 1) := by decide +kernel
theorem dX9_letterOf_1 : decode cX9_letterOf 1 = .ok (.getfield 21, 3) := by decide +kernel
theorem dX9_letterOf_4 : decode cX9_letterOf 4 = .ok (.bipush 8, 2) := by decide +kernel
theorem dX9_letterOf_6 : decode cX9_letterOf 6 = .ok (.iload_n 1, 1) := by decide +kernel
theorem dX9_letterOf_7 : decode cX9_letterOf 7 = .ok (.imul, 1) := by decide +kernel
theorem dX9_letterOf_8 : decode cX9_letterOf 8 = .ok (.iload_n 2, 1) := by decide +kernel
theorem dX9_letterOf_9 : decode cX9_letterOf 9 = .ok (.iadd, 1) := by decide +kernel
theorem dX9_letterOf_10 : decode cX9_letterOf 10 = .ok (.laload, 1) := by decide +kernel
theorem dX9_letterOf_11 : decode cX9_letterOf 11 = .ok (.bipush 8, 2) := by decide +kernel
theorem dX9_letterOf_13 : decode cX9_letterOf 13 = .ok (.aload_n 0, 1) := by decide +kernel
theorem dX9_letterOf_14 : decode cX9_letterOf 14 = .ok (.iload_n 1, 1) := by decide +kernel
theorem dX9_letterOf_15 : decode cX9_letterOf 15 = .ok (.iload_n 2, 1) := by decide +kernel
theorem dX9_letterOf_16 : decode cX9_letterOf 16 = .ok (.invokevirtual 288, 3) := by decide +kernel
theorem dX9_letterOf_19 : decode cX9_letterOf 19 = .ok (.iconst 1, 1) := by decide +kernel
theorem dX9_letterOf_20 : decode cX9_letterOf 20 = .ok (.isub, 1) := by decide +kernel
theorem dX9_letterOf_21 : decode cX9_letterOf 21 = .ok (.iload_n 3, 1) := by decide +kernel
theorem dX9_letterOf_22 : decode cX9_letterOf 22 = .ok (.isub, 1) := by decide +kernel
theorem dX9_letterOf_23 : decode cX9_letterOf 23 = .ok (.imul, 1) := by decide +kernel
theorem dX9_letterOf_24 : decode cX9_letterOf 24 = .ok (.lshr, 1) := by decide +kernel
theorem dX9_letterOf_25 : decode cX9_letterOf 25 = .ok (.ldc2_w 291, 3) := by decide +kernel
theorem dX9_letterOf_28 : decode cX9_letterOf 28 = .ok (.land, 1) := by decide +kernel
theorem dX9_letterOf_29 : decode cX9_letterOf 29 = .ok (.l2i, 1) := by decide +kernel
theorem dX9_letterOf_30 : decode cX9_letterOf 30 = .ok (.ireturn, 1) := by decide +kernel
def f_X9_letterOf (s0 : MoT) (p1 : Int32) (p2 : Int32) (p3 : Int32) : Option (Int32) :=
  if inb (((8 : Int32) * p1) + p2) 16 then (f_X9_letters s0 p1 p2).bind fun r2 =>
  some (((((Mo_words s0) (ix (((8 : Int32) * p1) + p2))) >>> (((8 : Int32) * ((r2 - (1 : Int32)) - p3)).toInt64 &&& 63)) &&& (255 : Int64)).toInt32) else none
abbrev rm_X9_letterOf : Room := { frames := 1, cells := 0, slots := 0, locals := 23 }
set_option maxHeartbeats 4000000 in
set_option maxRecDepth 100000 in
theorem c_X9_letterOf (l : Launch) (g : GK) (a0 : Nat → Nat) (s0 : MoT) (p1 : Int32) (p2 : Int32) (p3 : Int32) (res : (Int32)) (hf : f_X9_letterOf s0 p1 p2 p3 = some res) : gR l yX9_letterOf cX9_letterOf 4 (some .int) rm_X9_letterOf g [.ref (a0 0), .int p1, .int p2, .int p3] (Mo_c g a0 s0) (some (.int res)) := by
  refine gR_introI RX9 (by decide) rfl (Nat.le_of_ble_eq_true rfl) (fun p e s m args below meth c Q H locs ls hE hP hZ hS hq hl => ?_)
  have hl : lv_has ls 4 [(0, .ref (a0 0)), (1, .int p1), (2, .int p2), (3, .int p3)] := hl
  have hx := hE.1
  have hb := hE.2.1
  rw [f_X9_letterOf] at hf
  refine lv_aload_n hx hb dX9_letterOf_0 rfl (lv_at hl 0 rfl) ?_
  refine g_get hE okX9 fl_X9_21 hP 0 rfl (v := .ref (a0 3)) rfl dX9_letterOf_1 ?_
  refine lv_bipush hx hb dX9_letterOf_4 kcb_8 ?_
  refine lv_iload_n hx hb dX9_letterOf_6 rfl (lv_at hl 1 rfl) ?_
  refine lv_imul hx hb dX9_letterOf_7 ?_
  refine lv_iload_n hx hb dX9_letterOf_8 rfl (lv_at hl 2 rfl) ?_
  refine lv_iadd hx hb dX9_letterOf_9 ?_
  obtain ⟨hg1, hf⟩ := ggd hf
  refine g_lald hE hP 3 (f := (Mo_words s0)) rfl hg1 dX9_letterOf_10 ?_
  refine lv_bipush hx hb dX9_letterOf_11 kcb_8 ?_
  refine lv_aload_n hx hb dX9_letterOf_13 rfl (lv_at hl 0 rfl) ?_
  refine lv_iload_n hx hb dX9_letterOf_14 rfl (lv_at hl 1 rfl) ?_
  refine lv_iload_n hx hb dX9_letterOf_15 rfl (lv_at hl 2 rfl) ?_
  obtain ⟨r2, hc3, hf⟩ := gbd hf
  refine gr_callV (As := [.int p1, .int p2]) (rest := [.int (8 : Int32), .long ((Mo_words s0) (ix (((8 : Int32) * p1) + p2)))]) (st1 := [.int r2, .int (8 : Int32), .long ((Mo_words s0) (ix (((8 : Int32) * p1) + p2)))]) hE hl.1 ml_X9_288 (c_X9_letters l g a0 s0 p1 p2 r2 hc3) hZ hS hP [(0, 14)] rfl okX9 rfl rfl rfl rfl ⟨rfl, rfl⟩ ⟨Nat.le_of_ble_eq_true rfl, Nat.le_of_ble_eq_true rfl⟩ ⟨Nat.le_refl _, Nat.le_refl _⟩ (Nat.le_of_ble_eq_true rfl) dX9_letterOf_16 ?_
  refine lv_iconst hx hb dX9_letterOf_19 kci_1 ?_
  refine lv_isub hx hb dX9_letterOf_20 ?_
  refine lv_iload_n hx hb dX9_letterOf_21 rfl (lv_at hl 3 rfl) ?_
  refine lv_isub hx hb dX9_letterOf_22 ?_
  refine lv_imul hx hb dX9_letterOf_23 ?_
  refine lv_lshr hx hb dX9_letterOf_24 rfl ?_
  refine lv_ldc2 hx hb hE.2.2.2.2.2.1 (hE.2.2.2.2.2.2.1 _ kd_X9_291) dX9_letterOf_25 ?_
  refine lv_land hx hb dX9_letterOf_28 ?_
  refine lv_l2i hx hb dX9_letterOf_29 rfl ?_
  cases hf
  exact hq rfl dX9_letterOf_30
theorem dX9_letter_0 : decode cX9_letter 0 = .ok (.aload_n 0, 1) := by decide +kernel
theorem dX9_letter_1 : decode cX9_letter 1 = .ok (.iconst 0, 1) := by decide +kernel
theorem dX9_letter_2 : decode cX9_letter 2 = .ok (.putfield 55, 3) := by decide +kernel
theorem dX9_letter_5 : decode cX9_letter 5 = .ok (.iload_n 1, 1) := by decide +kernel
theorem dX9_letter_6 : decode cX9_letter 6 = .ok (.iconst 0, 1) := by decide +kernel
theorem dX9_letter_7 : decode cX9_letter 7 = .ok (.iconst 1, 1) := by decide +kernel
theorem dX9_letter_8 : decode cX9_letter 8 = .ok (.invokestatic 90, 3) := by decide +kernel
theorem dX9_letter_11 : decode cX9_letter 11 = .ok (.ifCond .eq 30, 3) := by decide +kernel
theorem dX9_letter_14 : decode cX9_letter 14 = .ok (.iload_n 1, 1) := by decide +kernel
theorem dX9_letter_15 : decode cX9_letter 15 = .ok (.ifCond .ne 14, 3) := by decide +kernel
theorem dX9_letter_18 : decode cX9_letter 18 = .ok (.aload_n 0, 1) := by decide +kernel
theorem dX9_letter_19 : decode cX9_letter 19 = .ok (.iload_n 2, 1) := by decide +kernel
theorem dX9_letter_20 : decode cX9_letter 20 = .ok (.invokevirtual 293, 3) := by decide +kernel
theorem dX9_letter_23 : decode cX9_letter 23 = .ok (.ifCond .eq 18, 3) := by decide +kernel
theorem dX9_letter_26 : decode cX9_letter 26 = .ok (.goto 11, 3) := by decide +kernel
theorem dX9_letter_29 : decode cX9_letter 29 = .ok (.aload_n 0, 1) := by decide +kernel
theorem dX9_letter_30 : decode cX9_letter 30 = .ok (.iload_n 2, 1) := by decide +kernel
theorem dX9_letter_31 : decode cX9_letter 31 = .ok (.invokevirtual 297, 3) := by decide +kernel
theorem dX9_letter_34 : decode cX9_letter 34 = .ok (.ifCond .eq 7, 3) := by decide +kernel
theorem dX9_letter_37 : decode cX9_letter 37 = .ok (.iload_n 3, 1) := by decide +kernel
theorem dX9_letter_38 : decode cX9_letter 38 = .ok (.ifCond .ge 9, 3) := by decide +kernel
theorem dX9_letter_41 : decode cX9_letter 41 = .ok (.aload_n 0, 1) := by decide +kernel
theorem dX9_letter_42 : decode cX9_letter 42 = .ok (.iconst 1, 1) := by decide +kernel
theorem dX9_letter_43 : decode cX9_letter 43 = .ok (.invokevirtual 61, 3) := by decide +kernel
theorem dX9_letter_46 : decode cX9_letter 46 = .ok (.ireturn, 1) := by decide +kernel
theorem dX9_letter_47 : decode cX9_letter 47 = .ok (.aload_n 0, 1) := by decide +kernel
theorem dX9_letter_48 : decode cX9_letter 48 = .ok (.iload_n 3, 1) := by decide +kernel
theorem dX9_letter_49 : decode cX9_letter 49 = .ok (.aload_n 0, 1) := by decide +kernel
theorem dX9_letter_50 : decode cX9_letter 50 = .ok (.iload_n 1, 1) := by decide +kernel
theorem dX9_letter_51 : decode cX9_letter 51 = .ok (.iload_n 2, 1) := by decide +kernel
theorem dX9_letter_52 : decode cX9_letter 52 = .ok (.invokevirtual 288, 3) := by decide +kernel
theorem dX9_letter_55 : decode cX9_letter 55 = .ok (.if_icmp .ge 13, 3) := by decide +kernel
theorem dX9_letter_58 : decode cX9_letter 58 = .ok (.aload_n 0, 1) := by decide +kernel
theorem dX9_letter_59 : decode cX9_letter 59 = .ok (.iload_n 1, 1) := by decide +kernel
theorem dX9_letter_60 : decode cX9_letter 60 = .ok (.iload_n 2, 1) := by decide +kernel
theorem dX9_letter_61 : decode cX9_letter 61 = .ok (.iload_n 3, 1) := by decide +kernel
theorem dX9_letter_62 : decode cX9_letter 62 = .ok (.invokevirtual 300, 3) := by decide +kernel
theorem dX9_letter_65 : decode cX9_letter 65 = .ok (.goto 4, 3) := by decide +kernel
theorem dX9_letter_68 : decode cX9_letter 68 = .ok (.iconst 0, 1) := by decide +kernel
theorem dX9_letter_69 : decode cX9_letter 69 = .ok (.invokevirtual 230, 3) := by decide +kernel
theorem dX9_letter_72 : decode cX9_letter 72 = .ok (.ireturn, 1) := by decide +kernel
def f_X9_letter (s0 : MoT) (p1 : Int32) (p2 : Int32) (p3 : Int32) : Option (Int32 × MoT) :=
  (f_X9_in p1 (0 : Int32) (1 : Int32)).bind fun r1 =>
  if r1 = 0 then (f_X9_refused (Mo_w_thrown s0 (0 : Int32)) (1 : Int32)).bind fun r4 =>
  some ((r4.1), (r4.2))
  else glt (fun (_ : Unit) => if 0 ≤ p3 then (f_X9_letters (Mo_w_thrown s0 (0 : Int32)) p1 p2).bind fun r8 =>
  if r8 ≤ p3 then (f_X9_good (Mo_w_thrown s0 (0 : Int32)) (0 : Int32)).bind fun r11 =>
  some ((r11.1), (r11.2))
  else (f_X9_letterOf (Mo_w_thrown s0 (0 : Int32)) p1 p2 p3).bind fun r13 =>
  (f_X9_good (Mo_w_thrown s0 (0 : Int32)) r13).bind fun r15 =>
  some ((r15.1), (r15.2))
  else (f_X9_refused (Mo_w_thrown s0 (0 : Int32)) (1 : Int32)).bind fun r17 =>
  some ((r17.1), (r17.2))) fun J6 =>
  if p1 = 0 then (f_X9_isKey (Mo_w_thrown s0 (0 : Int32)) p2).bind fun r25 =>
  if r25 = 0 then (f_X9_refused (Mo_w_thrown s0 (0 : Int32)) (1 : Int32)).bind fun r28 =>
  some ((r28.1), (r28.2))
  else J6 ()
  else (f_X9_isValue (Mo_w_thrown s0 (0 : Int32)) p2).bind fun r20 =>
  if r20 = 0 then (f_X9_refused (Mo_w_thrown s0 (0 : Int32)) (1 : Int32)).bind fun r23 =>
  some ((r23.1), (r23.2))
  else J6 ()
abbrev rm_X9_letter : Room := { frames := 2, cells := 0, slots := 0, locals := 46 }
set_option maxHeartbeats 4000000 in
set_option maxRecDepth 100000 in
theorem c_X9_letter (l : Launch) (g : GK) (a0 : Nat → Nat) (s0 : MoT) (p1 : Int32) (p2 : Int32) (p3 : Int32) (res : (Int32 × MoT)) (hf : f_X9_letter s0 p1 p2 p3 = some res) : gM l yX9_letter cX9_letter 4 (some .int) rm_X9_letter g [.ref (a0 0), .int p1, .int p2, .int p3] (Mo_c g a0 s0) (fun _ : Unit => (some (.int (res.1)))) (fun _ => (Mo_c g a0 (res.2))) 0 0 := by
  refine gM_introI RX9 (by decide) rfl (Nat.le_of_ble_eq_true rfl) (fun p e s m args below meth c Q H locs ls A hE hZ hA hP hD hS hq hl => ?_)
  have hl : lv_has ls 4 [(0, .ref (a0 0)), (1, .int p1), (2, .int p2), (3, .int p3)] := hl
  have hx := hE.1
  have hb := hE.2.1
  rw [f_X9_letter] at hf
  refine lv_aload_n hx hb dX9_letter_0 rfl (lv_at hl 0 rfl) ?_
  refine lv_iconst hx hb dX9_letter_1 kci_0 ?_
  refine g_put hE okX9 fl_X9_55 hP hD hS 0 rfl rfl rfl rfl (Nat.le_of_ble_eq_true rfl) (Mo_c g a0 (Mo_w_thrown s0 (0 : Int32))) rfl dX9_letter_2 (fun H locs hP hD hS => ?_)
  refine lv_iload_n hx hb dX9_letter_5 rfl (lv_at hl 1 rfl) ?_
  refine lv_iconst hx hb dX9_letter_6 kci_0 ?_
  refine lv_iconst hx hb dX9_letter_7 kci_1 ?_
  obtain ⟨r1, hc2, hf⟩ := gbd hf
  refine gr_callS (As := [.int p1, .int (0 : Int32), .int (1 : Int32)]) (rest := []) (st1 := [.int r1]) hE hl.1 ml_X9_90 (c_X9_in l g p1 (0 : Int32) (1 : Int32) r1 hc2) hZ hS hP [] rfl rfl rfl rfl ⟨rfl, rfl⟩ ⟨Nat.le_of_ble_eq_true rfl, Nat.le_of_ble_eq_true rfl⟩ ⟨Nat.le_refl _, Nat.le_refl _⟩ (Nat.le_of_ble_eq_true rfl) dX9_letter_8 ?_
  refine lv_if_eq hx hb dX9_letter_11 (tgt := 41) rfl (fun h3 => ?_) (fun h3 => ?_)
  · have hf := gif_t h3 hf
    refine lv_aload_n hx hb dX9_letter_41 rfl (lv_at hl 0 rfl) ?_
    refine lv_iconst hx hb dX9_letter_42 kci_1 ?_
    obtain ⟨r4, hc5, hf⟩ := gbd hf
    refine gm_callV1 (As := [.int (1 : Int32)]) (rest := []) (st1 := fun _ => [.int (r4.1)]) (ws' := fun _ => (Mo_c g a0 (r4.2))) hE hl.1 ml_X9_61 (c_X9_refused l g a0 (Mo_w_thrown s0 (0 : Int32)) (1 : Int32) r4 hc5) hZ hP hD hS hA 0 14 rfl (fun _ => rfl) okX9 rfl rfl rfl (fun _ => rfl) ⟨rfl, rfl⟩ ⟨Nat.le_of_ble_eq_true rfl, Nat.le_of_ble_eq_true rfl⟩ ⟨Nat.le_refl _, Nat.le_refl _⟩ (Nat.le_of_ble_eq_true rfl) dX9_letter_43 (fun _ H locs hP hD hS => ?_)
    cases hf
    exact hq () rfl hP hD hS dX9_letter_46
  · have hf := gif_f h3 hf
    refine lv_iload_n hx hb dX9_letter_14 rfl (lv_at hl 1 rfl) ?_
    obtain ⟨J6, eJ6, hf⟩ := gltd hf
    have kJ6 : ∀ (_ : Unit) (ls : Array Slot) (H : Heap) (locs : List Loc), J6 () = some res → lv_has ls 4 [(0, .ref (a0 0)), (1, .int p1), (2, .int p2), (3, .int p3)] → gP g (Mo_c g a0 (Mo_w_thrown s0 (0 : Int32))) H → va_D A (Mo_c g a0 (Mo_w_thrown s0 (0 : Int32))) → va_S A s.heap H locs → W p l e rm_X9_letter s m args below meth c H locs 0 0 Q (F0 m 37 ls []) := by
      intro _ ls H locs hf hl hP hD hS
      rw [eJ6] at hf
      refine lv_iload_n hx hb dX9_letter_37 rfl (lv_at hl 3 rfl) ?_
      refine lv_if_ge hx hb dX9_letter_38 (tgt := 47) rfl (fun h7 => ?_) (fun h7 => ?_)
      · have hf := gif_t h7 hf
        refine lv_aload_n hx hb dX9_letter_47 rfl (lv_at hl 0 rfl) ?_
        refine lv_iload_n hx hb dX9_letter_48 rfl (lv_at hl 3 rfl) ?_
        refine lv_aload_n hx hb dX9_letter_49 rfl (lv_at hl 0 rfl) ?_
        refine lv_iload_n hx hb dX9_letter_50 rfl (lv_at hl 1 rfl) ?_
        refine lv_iload_n hx hb dX9_letter_51 rfl (lv_at hl 2 rfl) ?_
        obtain ⟨r8, hc9, hf⟩ := gbd hf
        refine gr_callV (As := [.int p1, .int p2]) (rest := [.int p3, .ref (a0 0)]) (st1 := [.int r8, .int p3, .ref (a0 0)]) hE hl.1 ml_X9_288 (c_X9_letters l g a0 (Mo_w_thrown s0 (0 : Int32)) p1 p2 r8 hc9) hZ hS hP [(0, 14)] rfl okX9 rfl rfl rfl rfl ⟨rfl, rfl⟩ ⟨Nat.le_of_ble_eq_true rfl, Nat.le_of_ble_eq_true rfl⟩ ⟨Nat.le_refl _, Nat.le_refl _⟩ (Nat.le_of_ble_eq_true rfl) dX9_letter_52 ?_
        refine lv_icmp_ge hx hb dX9_letter_55 (tgt := 68) rfl (fun h10 => ?_) (fun h10 => ?_)
        · have hf := gif_t h10 hf
          refine lv_iconst hx hb dX9_letter_68 kci_0 ?_
          obtain ⟨r11, hc12, hf⟩ := gbd hf
          refine gm_callV1 (As := [.int (0 : Int32)]) (rest := []) (st1 := fun _ => [.int (r11.1)]) (ws' := fun _ => (Mo_c g a0 (r11.2))) hE hl.1 ml_X9_230 (c_X9_good l g a0 (Mo_w_thrown s0 (0 : Int32)) (0 : Int32) r11 hc12) hZ hP hD hS hA 0 14 rfl (fun _ => rfl) okX9 rfl rfl rfl (fun _ => rfl) ⟨rfl, rfl⟩ ⟨Nat.le_of_ble_eq_true rfl, Nat.le_of_ble_eq_true rfl⟩ ⟨Nat.le_refl _, Nat.le_refl _⟩ (Nat.le_of_ble_eq_true rfl) dX9_letter_69 (fun _ H locs hP hD hS => ?_)
          cases hf
          exact hq () rfl hP hD hS dX9_letter_72
        · have hf := gif_f h10 hf
          refine lv_aload_n hx hb dX9_letter_58 rfl (lv_at hl 0 rfl) ?_
          refine lv_iload_n hx hb dX9_letter_59 rfl (lv_at hl 1 rfl) ?_
          refine lv_iload_n hx hb dX9_letter_60 rfl (lv_at hl 2 rfl) ?_
          refine lv_iload_n hx hb dX9_letter_61 rfl (lv_at hl 3 rfl) ?_
          obtain ⟨r13, hc14, hf⟩ := gbd hf
          refine gr_callV (As := [.int p1, .int p2, .int p3]) (rest := [.ref (a0 0)]) (st1 := [.int r13, .ref (a0 0)]) hE hl.1 ml_X9_300 (c_X9_letterOf l g a0 (Mo_w_thrown s0 (0 : Int32)) p1 p2 p3 r13 hc14) hZ hS hP [(0, 14)] rfl okX9 rfl rfl rfl rfl ⟨rfl, rfl⟩ ⟨Nat.le_of_ble_eq_true rfl, Nat.le_of_ble_eq_true rfl⟩ ⟨Nat.le_refl _, Nat.le_refl _⟩ (Nat.le_of_ble_eq_true rfl) dX9_letter_62 ?_
          refine lv_goto hx hb dX9_letter_65 (tgt := 69) rfl ?_
          obtain ⟨r15, hc16, hf⟩ := gbd hf
          refine gm_callV1 (As := [.int r13]) (rest := []) (st1 := fun _ => [.int (r15.1)]) (ws' := fun _ => (Mo_c g a0 (r15.2))) hE hl.1 ml_X9_230 (c_X9_good l g a0 (Mo_w_thrown s0 (0 : Int32)) r13 r15 hc16) hZ hP hD hS hA 0 14 rfl (fun _ => rfl) okX9 rfl rfl rfl (fun _ => rfl) ⟨rfl, rfl⟩ ⟨Nat.le_of_ble_eq_true rfl, Nat.le_of_ble_eq_true rfl⟩ ⟨Nat.le_refl _, Nat.le_refl _⟩ (Nat.le_of_ble_eq_true rfl) dX9_letter_69 (fun _ H locs hP hD hS => ?_)
          cases hf
          exact hq () rfl hP hD hS dX9_letter_72
      · have hf := gif_f h7 hf
        refine lv_aload_n hx hb dX9_letter_41 rfl (lv_at hl 0 rfl) ?_
        refine lv_iconst hx hb dX9_letter_42 kci_1 ?_
        obtain ⟨r17, hc18, hf⟩ := gbd hf
        refine gm_callV1 (As := [.int (1 : Int32)]) (rest := []) (st1 := fun _ => [.int (r17.1)]) (ws' := fun _ => (Mo_c g a0 (r17.2))) hE hl.1 ml_X9_61 (c_X9_refused l g a0 (Mo_w_thrown s0 (0 : Int32)) (1 : Int32) r17 hc18) hZ hP hD hS hA 0 14 rfl (fun _ => rfl) okX9 rfl rfl rfl (fun _ => rfl) ⟨rfl, rfl⟩ ⟨Nat.le_of_ble_eq_true rfl, Nat.le_of_ble_eq_true rfl⟩ ⟨Nat.le_refl _, Nat.le_refl _⟩ (Nat.le_of_ble_eq_true rfl) dX9_letter_43 (fun _ H locs hP hD hS => ?_)
        cases hf
        exact hq () rfl hP hD hS dX9_letter_46
    refine lv_if_ne hx hb dX9_letter_15 (tgt := 29) rfl (fun h19 => ?_) (fun h19 => ?_)
    · have hf := gif_f h19 hf
      refine lv_aload_n hx hb dX9_letter_29 rfl (lv_at hl 0 rfl) ?_
      refine lv_iload_n hx hb dX9_letter_30 rfl (lv_at hl 2 rfl) ?_
      obtain ⟨r20, hc21, hf⟩ := gbd hf
      refine gr_callV (As := [.int p2]) (rest := []) (st1 := [.int r20]) hE hl.1 ml_X9_297 (c_X9_isValue l g a0 (Mo_w_thrown s0 (0 : Int32)) p2 r20 hc21) hZ hS hP [(0, 14)] rfl okX9 rfl rfl rfl rfl ⟨rfl, rfl⟩ ⟨Nat.le_of_ble_eq_true rfl, Nat.le_of_ble_eq_true rfl⟩ ⟨Nat.le_refl _, Nat.le_refl _⟩ (Nat.le_of_ble_eq_true rfl) dX9_letter_31 ?_
      refine lv_if_eq hx hb dX9_letter_34 (tgt := 41) rfl (fun h22 => ?_) (fun h22 => ?_)
      · have hf := gif_t h22 hf
        refine lv_aload_n hx hb dX9_letter_41 rfl (lv_at hl 0 rfl) ?_
        refine lv_iconst hx hb dX9_letter_42 kci_1 ?_
        obtain ⟨r23, hc24, hf⟩ := gbd hf
        refine gm_callV1 (As := [.int (1 : Int32)]) (rest := []) (st1 := fun _ => [.int (r23.1)]) (ws' := fun _ => (Mo_c g a0 (r23.2))) hE hl.1 ml_X9_61 (c_X9_refused l g a0 (Mo_w_thrown s0 (0 : Int32)) (1 : Int32) r23 hc24) hZ hP hD hS hA 0 14 rfl (fun _ => rfl) okX9 rfl rfl rfl (fun _ => rfl) ⟨rfl, rfl⟩ ⟨Nat.le_of_ble_eq_true rfl, Nat.le_of_ble_eq_true rfl⟩ ⟨Nat.le_refl _, Nat.le_refl _⟩ (Nat.le_of_ble_eq_true rfl) dX9_letter_43 (fun _ H locs hP hD hS => ?_)
        cases hf
        exact hq () rfl hP hD hS dX9_letter_46
      · have hf := gif_f h22 hf
        exact kJ6 () ls H locs hf (lv_sub hl [0, 1, 2, 3] rfl) hP hD hS
    · have hf := gif_t h19 hf
      refine lv_aload_n hx hb dX9_letter_18 rfl (lv_at hl 0 rfl) ?_
      refine lv_iload_n hx hb dX9_letter_19 rfl (lv_at hl 2 rfl) ?_
      obtain ⟨r25, hc26, hf⟩ := gbd hf
      refine gr_callV (As := [.int p2]) (rest := []) (st1 := [.int r25]) hE hl.1 ml_X9_293 (c_X9_isKey l g a0 (Mo_w_thrown s0 (0 : Int32)) p2 r25 hc26) hZ hS hP [(0, 14)] rfl okX9 rfl rfl rfl rfl ⟨rfl, rfl⟩ ⟨Nat.le_of_ble_eq_true rfl, Nat.le_of_ble_eq_true rfl⟩ ⟨Nat.le_refl _, Nat.le_refl _⟩ (Nat.le_of_ble_eq_true rfl) dX9_letter_20 ?_
      refine lv_if_eq hx hb dX9_letter_23 (tgt := 41) rfl (fun h27 => ?_) (fun h27 => ?_)
      · have hf := gif_t h27 hf
        refine lv_aload_n hx hb dX9_letter_41 rfl (lv_at hl 0 rfl) ?_
        refine lv_iconst hx hb dX9_letter_42 kci_1 ?_
        obtain ⟨r28, hc29, hf⟩ := gbd hf
        refine gm_callV1 (As := [.int (1 : Int32)]) (rest := []) (st1 := fun _ => [.int (r28.1)]) (ws' := fun _ => (Mo_c g a0 (r28.2))) hE hl.1 ml_X9_61 (c_X9_refused l g a0 (Mo_w_thrown s0 (0 : Int32)) (1 : Int32) r28 hc29) hZ hP hD hS hA 0 14 rfl (fun _ => rfl) okX9 rfl rfl rfl (fun _ => rfl) ⟨rfl, rfl⟩ ⟨Nat.le_of_ble_eq_true rfl, Nat.le_of_ble_eq_true rfl⟩ ⟨Nat.le_refl _, Nat.le_refl _⟩ (Nat.le_of_ble_eq_true rfl) dX9_letter_43 (fun _ H locs hP hD hS => ?_)
        cases hf
        exact hq () rfl hP hD hS dX9_letter_46
      · have hf := gif_f h27 hf
        refine lv_goto hx hb dX9_letter_26 (tgt := 37) rfl ?_
        exact kJ6 () ls H locs hf (lv_sub hl [0, 1, 2, 3] rfl) hP hD hS
theorem dX9_net_0 : decode cX9_net 0 = .ok (.aload_n 0, 1) := by decide +kernel
theorem dX9_net_1 : decode cX9_net 1 = .ok (.iconst 0, 1) := by decide +kernel
theorem dX9_net_2 : decode cX9_net 2 = .ok (.putfield 55, 3) := by decide +kernel
theorem dX9_net_5 : decode cX9_net 5 = .ok (.iload_n 1, 1) := by decide +kernel
theorem dX9_net_6 : decode cX9_net 6 = .ok (.invokestatic 303, 3) := by decide +kernel
theorem dX9_net_9 : decode cX9_net 9 = .ok (.ifCond .eq 37, 3) := by decide +kernel
theorem dX9_net_12 : decode cX9_net 12 = .ok (.aload_n 0, 1) := by decide +kernel
theorem dX9_net_13 : decode cX9_net 13 = .ok (.iload_n 2, 1) := by decide +kernel
theorem dX9_net_14 : decode cX9_net 14 = .ok (.invokevirtual 293, 3) := by decide +kernel
theorem dX9_net_17 : decode cX9_net 17 = .ok (.ifCond .eq 29, 3) := by decide +kernel
theorem dX9_net_20 : decode cX9_net 20 = .ok (.aload_n 0, 1) := by decide +kernel
theorem dX9_net_21 : decode cX9_net 21 = .ok (.iload_n 3, 1) := by decide +kernel
theorem dX9_net_22 : decode cX9_net 22 = .ok (.invokevirtual 297, 3) := by decide +kernel
theorem dX9_net_25 : decode cX9_net 25 = .ok (.ifCond .eq 21, 3) := by decide +kernel
theorem dX9_net_28 : decode cX9_net 28 = .ok (.aload_n 0, 1) := by decide +kernel
theorem dX9_net_29 : decode cX9_net 29 = .ok (.aload_n 0, 1) := by decide +kernel
theorem dX9_net_30 : decode cX9_net 30 = .ok (.iconst 0, 1) := by decide +kernel
theorem dX9_net_31 : decode cX9_net 31 = .ok (.iload_n 1, 1) := by decide +kernel
theorem dX9_net_32 : decode cX9_net 32 = .ok (.iload_n 2, 1) := by decide +kernel
theorem dX9_net_33 : decode cX9_net 33 = .ok (.iload_n 3, 1) := by decide +kernel
theorem dX9_net_34 : decode cX9_net 34 = .ok (.invokestatic 233, 3) := by decide +kernel
theorem dX9_net_37 : decode cX9_net 37 = .ok (.invokevirtual 200, 3) := by decide +kernel
theorem dX9_net_40 : decode cX9_net 40 = .ok (.invokevirtual 230, 3) := by decide +kernel
theorem dX9_net_43 : decode cX9_net 43 = .ok (.goto 8, 3) := by decide +kernel
theorem dX9_net_46 : decode cX9_net 46 = .ok (.aload_n 0, 1) := by decide +kernel
theorem dX9_net_47 : decode cX9_net 47 = .ok (.iconst 1, 1) := by decide +kernel
theorem dX9_net_48 : decode cX9_net 48 = .ok (.invokevirtual 306, 3) := by decide +kernel
theorem dX9_net_51 : decode cX9_net 51 = .ok (.ireturn, 1) := by decide +kernel
def f_X9_net (s0 : MoT) (p1 : Int32) (p2 : Int32) (p3 : Int32) : Option (Int32 × MoT) :=
  (f_X9_isSide p1).bind fun r1 =>
  if r1 = 0 then (f_X9_refusedLow (Mo_w_thrown s0 (0 : Int32)) (1 : Int32)).bind fun r4 =>
  some ((r4.1), (r4.2))
  else (f_X9_isKey (Mo_w_thrown s0 (0 : Int32)) p2).bind fun r6 =>
  if r6 = 0 then (f_X9_refusedLow (Mo_w_thrown s0 (0 : Int32)) (1 : Int32)).bind fun r9 =>
  some ((r9.1), (r9.2))
  else (f_X9_isValue (Mo_w_thrown s0 (0 : Int32)) p3).bind fun r11 =>
  if r11 = 0 then (f_X9_refusedLow (Mo_w_thrown s0 (0 : Int32)) (1 : Int32)).bind fun r14 =>
  some ((r14.1), (r14.2))
  else (f_X9_netAt p1 p2 p3).bind fun r16 =>
  (f_X9_get (Mo_w_thrown s0 (0 : Int32)) (0 : Int32) r16).bind fun r18 =>
  (f_X9_good (Mo_w_thrown s0 (0 : Int32)) r18).bind fun r20 =>
  some ((r20.1), (r20.2))
abbrev rm_X9_net : Room := { frames := 2, cells := 0, slots := 0, locals := 43 }
set_option maxHeartbeats 4000000 in
set_option maxRecDepth 100000 in
theorem c_X9_net (l : Launch) (g : GK) (a0 : Nat → Nat) (s0 : MoT) (p1 : Int32) (p2 : Int32) (p3 : Int32) (res : (Int32 × MoT)) (hf : f_X9_net s0 p1 p2 p3 = some res) : gM l yX9_net cX9_net 4 (some .int) rm_X9_net g [.ref (a0 0), .int p1, .int p2, .int p3] (Mo_c g a0 s0) (fun _ : Unit => (some (.int (res.1)))) (fun _ => (Mo_c g a0 (res.2))) 0 0 := by
  refine gM_introI RX9 (by decide) rfl (Nat.le_of_ble_eq_true rfl) (fun p e s m args below meth c Q H locs ls A hE hZ hA hP hD hS hq hl => ?_)
  have hl : lv_has ls 4 [(0, .ref (a0 0)), (1, .int p1), (2, .int p2), (3, .int p3)] := hl
  have hx := hE.1
  have hb := hE.2.1
  rw [f_X9_net] at hf
  refine lv_aload_n hx hb dX9_net_0 rfl (lv_at hl 0 rfl) ?_
  refine lv_iconst hx hb dX9_net_1 kci_0 ?_
  refine g_put hE okX9 fl_X9_55 hP hD hS 0 rfl rfl rfl rfl (Nat.le_of_ble_eq_true rfl) (Mo_c g a0 (Mo_w_thrown s0 (0 : Int32))) rfl dX9_net_2 (fun H locs hP hD hS => ?_)
  refine lv_iload_n hx hb dX9_net_5 rfl (lv_at hl 1 rfl) ?_
  obtain ⟨r1, hc2, hf⟩ := gbd hf
  refine gr_callS (As := [.int p1]) (rest := []) (st1 := [.int r1]) hE hl.1 ml_X9_303 (c_X9_isSide l g p1 r1 hc2) hZ hS hP [] rfl rfl rfl rfl ⟨rfl, rfl⟩ ⟨Nat.le_of_ble_eq_true rfl, Nat.le_of_ble_eq_true rfl⟩ ⟨Nat.le_refl _, Nat.le_refl _⟩ (Nat.le_of_ble_eq_true rfl) dX9_net_6 ?_
  refine lv_if_eq hx hb dX9_net_9 (tgt := 46) rfl (fun h3 => ?_) (fun h3 => ?_)
  · have hf := gif_t h3 hf
    refine lv_aload_n hx hb dX9_net_46 rfl (lv_at hl 0 rfl) ?_
    refine lv_iconst hx hb dX9_net_47 kci_1 ?_
    obtain ⟨r4, hc5, hf⟩ := gbd hf
    refine gm_callV1 (As := [.int (1 : Int32)]) (rest := []) (st1 := fun _ => [.int (r4.1)]) (ws' := fun _ => (Mo_c g a0 (r4.2))) hE hl.1 ml_X9_306 (c_X9_refusedLow l g a0 (Mo_w_thrown s0 (0 : Int32)) (1 : Int32) r4 hc5) hZ hP hD hS hA 0 14 rfl (fun _ => rfl) okX9 rfl rfl rfl (fun _ => rfl) ⟨rfl, rfl⟩ ⟨Nat.le_of_ble_eq_true rfl, Nat.le_of_ble_eq_true rfl⟩ ⟨Nat.le_refl _, Nat.le_refl _⟩ (Nat.le_of_ble_eq_true rfl) dX9_net_48 (fun _ H locs hP hD hS => ?_)
    cases hf
    exact hq () rfl hP hD hS dX9_net_51
  · have hf := gif_f h3 hf
    refine lv_aload_n hx hb dX9_net_12 rfl (lv_at hl 0 rfl) ?_
    refine lv_iload_n hx hb dX9_net_13 rfl (lv_at hl 2 rfl) ?_
    obtain ⟨r6, hc7, hf⟩ := gbd hf
    refine gr_callV (As := [.int p2]) (rest := []) (st1 := [.int r6]) hE hl.1 ml_X9_293 (c_X9_isKey l g a0 (Mo_w_thrown s0 (0 : Int32)) p2 r6 hc7) hZ hS hP [(0, 14)] rfl okX9 rfl rfl rfl rfl ⟨rfl, rfl⟩ ⟨Nat.le_of_ble_eq_true rfl, Nat.le_of_ble_eq_true rfl⟩ ⟨Nat.le_refl _, Nat.le_refl _⟩ (Nat.le_of_ble_eq_true rfl) dX9_net_14 ?_
    refine lv_if_eq hx hb dX9_net_17 (tgt := 46) rfl (fun h8 => ?_) (fun h8 => ?_)
    · have hf := gif_t h8 hf
      refine lv_aload_n hx hb dX9_net_46 rfl (lv_at hl 0 rfl) ?_
      refine lv_iconst hx hb dX9_net_47 kci_1 ?_
      obtain ⟨r9, hc10, hf⟩ := gbd hf
      refine gm_callV1 (As := [.int (1 : Int32)]) (rest := []) (st1 := fun _ => [.int (r9.1)]) (ws' := fun _ => (Mo_c g a0 (r9.2))) hE hl.1 ml_X9_306 (c_X9_refusedLow l g a0 (Mo_w_thrown s0 (0 : Int32)) (1 : Int32) r9 hc10) hZ hP hD hS hA 0 14 rfl (fun _ => rfl) okX9 rfl rfl rfl (fun _ => rfl) ⟨rfl, rfl⟩ ⟨Nat.le_of_ble_eq_true rfl, Nat.le_of_ble_eq_true rfl⟩ ⟨Nat.le_refl _, Nat.le_refl _⟩ (Nat.le_of_ble_eq_true rfl) dX9_net_48 (fun _ H locs hP hD hS => ?_)
      cases hf
      exact hq () rfl hP hD hS dX9_net_51
    · have hf := gif_f h8 hf
      refine lv_aload_n hx hb dX9_net_20 rfl (lv_at hl 0 rfl) ?_
      refine lv_iload_n hx hb dX9_net_21 rfl (lv_at hl 3 rfl) ?_
      obtain ⟨r11, hc12, hf⟩ := gbd hf
      refine gr_callV (As := [.int p3]) (rest := []) (st1 := [.int r11]) hE hl.1 ml_X9_297 (c_X9_isValue l g a0 (Mo_w_thrown s0 (0 : Int32)) p3 r11 hc12) hZ hS hP [(0, 14)] rfl okX9 rfl rfl rfl rfl ⟨rfl, rfl⟩ ⟨Nat.le_of_ble_eq_true rfl, Nat.le_of_ble_eq_true rfl⟩ ⟨Nat.le_refl _, Nat.le_refl _⟩ (Nat.le_of_ble_eq_true rfl) dX9_net_22 ?_
      refine lv_if_eq hx hb dX9_net_25 (tgt := 46) rfl (fun h13 => ?_) (fun h13 => ?_)
      · have hf := gif_t h13 hf
        refine lv_aload_n hx hb dX9_net_46 rfl (lv_at hl 0 rfl) ?_
        refine lv_iconst hx hb dX9_net_47 kci_1 ?_
        obtain ⟨r14, hc15, hf⟩ := gbd hf
        refine gm_callV1 (As := [.int (1 : Int32)]) (rest := []) (st1 := fun _ => [.int (r14.1)]) (ws' := fun _ => (Mo_c g a0 (r14.2))) hE hl.1 ml_X9_306 (c_X9_refusedLow l g a0 (Mo_w_thrown s0 (0 : Int32)) (1 : Int32) r14 hc15) hZ hP hD hS hA 0 14 rfl (fun _ => rfl) okX9 rfl rfl rfl (fun _ => rfl) ⟨rfl, rfl⟩ ⟨Nat.le_of_ble_eq_true rfl, Nat.le_of_ble_eq_true rfl⟩ ⟨Nat.le_refl _, Nat.le_refl _⟩ (Nat.le_of_ble_eq_true rfl) dX9_net_48 (fun _ H locs hP hD hS => ?_)
        cases hf
        exact hq () rfl hP hD hS dX9_net_51
      · have hf := gif_f h13 hf
        refine lv_aload_n hx hb dX9_net_28 rfl (lv_at hl 0 rfl) ?_
        refine lv_aload_n hx hb dX9_net_29 rfl (lv_at hl 0 rfl) ?_
        refine lv_iconst hx hb dX9_net_30 kci_0 ?_
        refine lv_iload_n hx hb dX9_net_31 rfl (lv_at hl 1 rfl) ?_
        refine lv_iload_n hx hb dX9_net_32 rfl (lv_at hl 2 rfl) ?_
        refine lv_iload_n hx hb dX9_net_33 rfl (lv_at hl 3 rfl) ?_
        obtain ⟨r16, hc17, hf⟩ := gbd hf
        refine gr_callS (As := [.int p1, .int p2, .int p3]) (rest := [.int (0 : Int32), .ref (a0 0), .ref (a0 0)]) (st1 := [.int r16, .int (0 : Int32), .ref (a0 0), .ref (a0 0)]) hE hl.1 ml_X9_233 (c_X9_netAt l g p1 p2 p3 r16 hc17) hZ hS hP [] rfl rfl rfl rfl ⟨rfl, rfl⟩ ⟨Nat.le_of_ble_eq_true rfl, Nat.le_of_ble_eq_true rfl⟩ ⟨Nat.le_refl _, Nat.le_refl _⟩ (Nat.le_of_ble_eq_true rfl) dX9_net_34 ?_
        obtain ⟨r18, hc19, hf⟩ := gbd hf
        refine gr_callV (As := [.int (0 : Int32), .int r16]) (rest := [.ref (a0 0)]) (st1 := [.int r18, .ref (a0 0)]) hE hl.1 ml_X9_200 (c_X9_get l g a0 (Mo_w_thrown s0 (0 : Int32)) (0 : Int32) r16 r18 hc19) hZ hS hP [(0, 14)] rfl okX9 rfl rfl rfl rfl ⟨rfl, rfl⟩ ⟨Nat.le_of_ble_eq_true rfl, Nat.le_of_ble_eq_true rfl⟩ ⟨Nat.le_refl _, Nat.le_refl _⟩ (Nat.le_of_ble_eq_true rfl) dX9_net_37 ?_
        obtain ⟨r20, hc21, hf⟩ := gbd hf
        refine gm_callV1 (As := [.int r18]) (rest := []) (st1 := fun _ => [.int (r20.1)]) (ws' := fun _ => (Mo_c g a0 (r20.2))) hE hl.1 ml_X9_230 (c_X9_good l g a0 (Mo_w_thrown s0 (0 : Int32)) r18 r20 hc21) hZ hP hD hS hA 0 14 rfl (fun _ => rfl) okX9 rfl rfl rfl (fun _ => rfl) ⟨rfl, rfl⟩ ⟨Nat.le_of_ble_eq_true rfl, Nat.le_of_ble_eq_true rfl⟩ ⟨Nat.le_refl _, Nat.le_refl _⟩ (Nat.le_of_ble_eq_true rfl) dX9_net_40 (fun _ H locs hP hD hS => ?_)
        refine lv_goto hx hb dX9_net_43 (tgt := 51) rfl ?_
        cases hf
        exact hq () rfl hP hD hS dX9_net_51
theorem dX9_there_0 : decode cX9_there 0 = .ok (.aload_n 0, 1) := by decide +kernel
theorem dX9_there_1 : decode cX9_there 1 = .ok (.iconst 0, 1) := by decide +kernel
theorem dX9_there_2 : decode cX9_there 2 = .ok (.putfield 55, 3) := by decide +kernel
theorem dX9_there_5 : decode cX9_there 5 = .ok (.iload_n 1, 1) := by decide +kernel
theorem dX9_there_6 : decode cX9_there 6 = .ok (.invokestatic 303, 3) := by decide +kernel
theorem dX9_there_9 : decode cX9_there 9 = .ok (.ifCond .eq 25, 3) := by decide +kernel
theorem dX9_there_12 : decode cX9_there 12 = .ok (.aload_n 0, 1) := by decide +kernel
theorem dX9_there_13 : decode cX9_there 13 = .ok (.iload_n 2, 1) := by decide +kernel
theorem dX9_there_14 : decode cX9_there 14 = .ok (.invokevirtual 293, 3) := by decide +kernel
theorem dX9_there_17 : decode cX9_there 17 = .ok (.ifCond .eq 17, 3) := by decide +kernel
theorem dX9_there_20 : decode cX9_there 20 = .ok (.aload_n 0, 1) := by decide +kernel
theorem dX9_there_21 : decode cX9_there 21 = .ok (.aload_n 0, 1) := by decide +kernel
theorem dX9_there_22 : decode cX9_there 22 = .ok (.iconst 0, 1) := by decide +kernel
theorem dX9_there_23 : decode cX9_there 23 = .ok (.iload_n 1, 1) := by decide +kernel
theorem dX9_there_24 : decode cX9_there 24 = .ok (.iload_n 2, 1) := by decide +kernel
theorem dX9_there_25 : decode cX9_there 25 = .ok (.invokevirtual 241, 3) := by decide +kernel
theorem dX9_there_28 : decode cX9_there 28 = .ok (.invokevirtual 230, 3) := by decide +kernel
theorem dX9_there_31 : decode cX9_there 31 = .ok (.goto 8, 3) := by decide +kernel
theorem dX9_there_34 : decode cX9_there 34 = .ok (.aload_n 0, 1) := by decide +kernel
theorem dX9_there_35 : decode cX9_there 35 = .ok (.iconst 1, 1) := by decide +kernel
theorem dX9_there_36 : decode cX9_there 36 = .ok (.invokevirtual 61, 3) := by decide +kernel
theorem dX9_there_39 : decode cX9_there 39 = .ok (.ireturn, 1) := by decide +kernel
def f_X9_there (s0 : MoT) (p1 : Int32) (p2 : Int32) : Option (Int32 × MoT) :=
  (f_X9_isSide p1).bind fun r1 =>
  if r1 = 0 then (f_X9_refused (Mo_w_thrown s0 (0 : Int32)) (1 : Int32)).bind fun r4 =>
  some ((r4.1), (r4.2))
  else (f_X9_isKey (Mo_w_thrown s0 (0 : Int32)) p2).bind fun r6 =>
  if r6 = 0 then (f_X9_refused (Mo_w_thrown s0 (0 : Int32)) (1 : Int32)).bind fun r9 =>
  some ((r9.1), (r9.2))
  else (f_X9_thereAll (Mo_w_thrown s0 (0 : Int32)) (0 : Int32) p1 p2).bind fun r11 =>
  (f_X9_good (Mo_w_thrown s0 (0 : Int32)) r11).bind fun r13 =>
  some ((r13.1), (r13.2))
abbrev rm_X9_there : Room := { frames := 3, cells := 0, slots := 0, locals := 72 }
set_option maxHeartbeats 4000000 in
set_option maxRecDepth 100000 in
theorem c_X9_there (l : Launch) (g : GK) (a0 : Nat → Nat) (s0 : MoT) (p1 : Int32) (p2 : Int32) (res : (Int32 × MoT)) (hf : f_X9_there s0 p1 p2 = some res) : gM l yX9_there cX9_there 3 (some .int) rm_X9_there g [.ref (a0 0), .int p1, .int p2] (Mo_c g a0 s0) (fun _ : Unit => (some (.int (res.1)))) (fun _ => (Mo_c g a0 (res.2))) 0 0 := by
  refine gM_introI RX9 (by decide) rfl (Nat.le_of_ble_eq_true rfl) (fun p e s m args below meth c Q H locs ls A hE hZ hA hP hD hS hq hl => ?_)
  have hl : lv_has ls 3 [(0, .ref (a0 0)), (1, .int p1), (2, .int p2)] := hl
  have hx := hE.1
  have hb := hE.2.1
  rw [f_X9_there] at hf
  refine lv_aload_n hx hb dX9_there_0 rfl (lv_at hl 0 rfl) ?_
  refine lv_iconst hx hb dX9_there_1 kci_0 ?_
  refine g_put hE okX9 fl_X9_55 hP hD hS 0 rfl rfl rfl rfl (Nat.le_of_ble_eq_true rfl) (Mo_c g a0 (Mo_w_thrown s0 (0 : Int32))) rfl dX9_there_2 (fun H locs hP hD hS => ?_)
  refine lv_iload_n hx hb dX9_there_5 rfl (lv_at hl 1 rfl) ?_
  obtain ⟨r1, hc2, hf⟩ := gbd hf
  refine gr_callS (As := [.int p1]) (rest := []) (st1 := [.int r1]) hE hl.1 ml_X9_303 (c_X9_isSide l g p1 r1 hc2) hZ hS hP [] rfl rfl rfl rfl ⟨rfl, rfl⟩ ⟨Nat.le_of_ble_eq_true rfl, Nat.le_of_ble_eq_true rfl⟩ ⟨Nat.le_refl _, Nat.le_refl _⟩ (Nat.le_of_ble_eq_true rfl) dX9_there_6 ?_
  refine lv_if_eq hx hb dX9_there_9 (tgt := 34) rfl (fun h3 => ?_) (fun h3 => ?_)
  · have hf := gif_t h3 hf
    refine lv_aload_n hx hb dX9_there_34 rfl (lv_at hl 0 rfl) ?_
    refine lv_iconst hx hb dX9_there_35 kci_1 ?_
    obtain ⟨r4, hc5, hf⟩ := gbd hf
    refine gm_callV1 (As := [.int (1 : Int32)]) (rest := []) (st1 := fun _ => [.int (r4.1)]) (ws' := fun _ => (Mo_c g a0 (r4.2))) hE hl.1 ml_X9_61 (c_X9_refused l g a0 (Mo_w_thrown s0 (0 : Int32)) (1 : Int32) r4 hc5) hZ hP hD hS hA 0 14 rfl (fun _ => rfl) okX9 rfl rfl rfl (fun _ => rfl) ⟨rfl, rfl⟩ ⟨Nat.le_of_ble_eq_true rfl, Nat.le_of_ble_eq_true rfl⟩ ⟨Nat.le_refl _, Nat.le_refl _⟩ (Nat.le_of_ble_eq_true rfl) dX9_there_36 (fun _ H locs hP hD hS => ?_)
    cases hf
    exact hq () rfl hP hD hS dX9_there_39
  · have hf := gif_f h3 hf
    refine lv_aload_n hx hb dX9_there_12 rfl (lv_at hl 0 rfl) ?_
    refine lv_iload_n hx hb dX9_there_13 rfl (lv_at hl 2 rfl) ?_
    obtain ⟨r6, hc7, hf⟩ := gbd hf
    refine gr_callV (As := [.int p2]) (rest := []) (st1 := [.int r6]) hE hl.1 ml_X9_293 (c_X9_isKey l g a0 (Mo_w_thrown s0 (0 : Int32)) p2 r6 hc7) hZ hS hP [(0, 14)] rfl okX9 rfl rfl rfl rfl ⟨rfl, rfl⟩ ⟨Nat.le_of_ble_eq_true rfl, Nat.le_of_ble_eq_true rfl⟩ ⟨Nat.le_refl _, Nat.le_refl _⟩ (Nat.le_of_ble_eq_true rfl) dX9_there_14 ?_
    refine lv_if_eq hx hb dX9_there_17 (tgt := 34) rfl (fun h8 => ?_) (fun h8 => ?_)
    · have hf := gif_t h8 hf
      refine lv_aload_n hx hb dX9_there_34 rfl (lv_at hl 0 rfl) ?_
      refine lv_iconst hx hb dX9_there_35 kci_1 ?_
      obtain ⟨r9, hc10, hf⟩ := gbd hf
      refine gm_callV1 (As := [.int (1 : Int32)]) (rest := []) (st1 := fun _ => [.int (r9.1)]) (ws' := fun _ => (Mo_c g a0 (r9.2))) hE hl.1 ml_X9_61 (c_X9_refused l g a0 (Mo_w_thrown s0 (0 : Int32)) (1 : Int32) r9 hc10) hZ hP hD hS hA 0 14 rfl (fun _ => rfl) okX9 rfl rfl rfl (fun _ => rfl) ⟨rfl, rfl⟩ ⟨Nat.le_of_ble_eq_true rfl, Nat.le_of_ble_eq_true rfl⟩ ⟨Nat.le_refl _, Nat.le_refl _⟩ (Nat.le_of_ble_eq_true rfl) dX9_there_36 (fun _ H locs hP hD hS => ?_)
      cases hf
      exact hq () rfl hP hD hS dX9_there_39
    · have hf := gif_f h8 hf
      refine lv_aload_n hx hb dX9_there_20 rfl (lv_at hl 0 rfl) ?_
      refine lv_aload_n hx hb dX9_there_21 rfl (lv_at hl 0 rfl) ?_
      refine lv_iconst hx hb dX9_there_22 kci_0 ?_
      refine lv_iload_n hx hb dX9_there_23 rfl (lv_at hl 1 rfl) ?_
      refine lv_iload_n hx hb dX9_there_24 rfl (lv_at hl 2 rfl) ?_
      obtain ⟨r11, hc12, hf⟩ := gbd hf
      refine gr_callV (As := [.int (0 : Int32), .int p1, .int p2]) (rest := [.ref (a0 0)]) (st1 := [.int r11, .ref (a0 0)]) hE hl.1 ml_X9_241 (c_X9_thereAll l g a0 (Mo_w_thrown s0 (0 : Int32)) (0 : Int32) p1 p2 r11 hc12) hZ hS hP [(0, 14)] rfl okX9 rfl rfl rfl rfl ⟨rfl, rfl⟩ ⟨Nat.le_of_ble_eq_true rfl, Nat.le_of_ble_eq_true rfl⟩ ⟨Nat.le_refl _, Nat.le_refl _⟩ (Nat.le_of_ble_eq_true rfl) dX9_there_25 ?_
      obtain ⟨r13, hc14, hf⟩ := gbd hf
      refine gm_callV1 (As := [.int r11]) (rest := []) (st1 := fun _ => [.int (r13.1)]) (ws' := fun _ => (Mo_c g a0 (r13.2))) hE hl.1 ml_X9_230 (c_X9_good l g a0 (Mo_w_thrown s0 (0 : Int32)) r11 r13 hc14) hZ hP hD hS hA 0 14 rfl (fun _ => rfl) okX9 rfl rfl rfl (fun _ => rfl) ⟨rfl, rfl⟩ ⟨Nat.le_of_ble_eq_true rfl, Nat.le_of_ble_eq_true rfl⟩ ⟨Nat.le_refl _, Nat.le_refl _⟩ (Nat.le_of_ble_eq_true rfl) dX9_there_28 (fun _ H locs hP hD hS => ?_)
      refine lv_goto hx hb dX9_there_31 (tgt := 39) rfl ?_
      cases hf
      exact hq () rfl hP hD hS dX9_there_39
theorem dX9_key_0 : decode cX9_key 0 = .ok (.aload_n 0, 1) := by decide +kernel
theorem dX9_key_1 : decode cX9_key 1 = .ok (.iconst 0, 1) := by decide +kernel
theorem dX9_key_2 : decode cX9_key 2 = .ok (.putfield 55, 3) := by decide +kernel
theorem dX9_key_5 : decode cX9_key 5 = .ok (.aload_n 0, 1) := by decide +kernel
theorem dX9_key_6 : decode cX9_key 6 = .ok (.iload_n 1, 1) := by decide +kernel
theorem dX9_key_7 : decode cX9_key 7 = .ok (.invokevirtual 293, 3) := by decide +kernel
theorem dX9_key_10 : decode cX9_key 10 = .ok (.ifCond .ne 9, 3) := by decide +kernel
theorem dX9_key_13 : decode cX9_key 13 = .ok (.aload_n 0, 1) := by decide +kernel
theorem dX9_key_14 : decode cX9_key 14 = .ok (.iconst 1, 1) := by decide +kernel
theorem dX9_key_15 : decode cX9_key 15 = .ok (.invokevirtual 61, 3) := by decide +kernel
theorem dX9_key_18 : decode cX9_key 18 = .ok (.ireturn, 1) := by decide +kernel
theorem dX9_key_19 : decode cX9_key 19 = .ok (.aload_n 0, 1) := by decide +kernel
theorem dX9_key_20 : decode cX9_key 20 = .ok (.iconst 0, 1) := by decide +kernel
theorem dX9_key_21 : decode cX9_key 21 = .ok (.sipush 151, 3) := by decide +kernel
theorem dX9_key_24 : decode cX9_key 24 = .ok (.iload_n 1, 1) := by decide +kernel
theorem dX9_key_25 : decode cX9_key 25 = .ok (.iadd, 1) := by decide +kernel
theorem dX9_key_26 : decode cX9_key 26 = .ok (.invokevirtual 200, 3) := by decide +kernel
theorem dX9_key_29 : decode cX9_key 29 = .ok (.istore_n 3, 1) := by decide +kernel
theorem dX9_key_30 : decode cX9_key 30 = .ok (.iload_n 2, 1) := by decide +kernel
theorem dX9_key_31 : decode cX9_key 31 = .ok (.tableswitch 131 0 4 #[33, 52, 72, 101, 116], 33) := by decide +kernel
theorem dX9_key_64 : decode cX9_key 64 = .ok (.aload_n 0, 1) := by decide +kernel
theorem dX9_key_65 : decode cX9_key 65 = .ok (.aload_n 0, 1) := by decide +kernel
theorem dX9_key_66 : decode cX9_key 66 = .ok (.iconst 0, 1) := by decide +kernel
theorem dX9_key_67 : decode cX9_key 67 = .ok (.iload_n 1, 1) := by decide +kernel
theorem dX9_key_68 : decode cX9_key 68 = .ok (.invokevirtual 270, 3) := by decide +kernel
theorem dX9_key_71 : decode cX9_key 71 = .ok (.ifCond .eq 7, 3) := by decide +kernel
theorem dX9_key_74 : decode cX9_key 74 = .ok (.iconst 1, 1) := by decide +kernel
theorem dX9_key_75 : decode cX9_key 75 = .ok (.goto 4, 3) := by decide +kernel
theorem dX9_key_78 : decode cX9_key 78 = .ok (.iconst 0, 1) := by decide +kernel
theorem dX9_key_79 : decode cX9_key 79 = .ok (.invokevirtual 230, 3) := by decide +kernel
theorem dX9_key_82 : decode cX9_key 82 = .ok (.ireturn, 1) := by decide +kernel
theorem dX9_key_83 : decode cX9_key 83 = .ok (.aload_n 0, 1) := by decide +kernel
theorem dX9_key_84 : decode cX9_key 84 = .ok (.aload_n 0, 1) := by decide +kernel
theorem dX9_key_85 : decode cX9_key 85 = .ok (.iconst 0, 1) := by decide +kernel
theorem dX9_key_86 : decode cX9_key 86 = .ok (.iload_n 1, 1) := by decide +kernel
theorem dX9_key_87 : decode cX9_key 87 = .ok (.invokevirtual 270, 3) := by decide +kernel
theorem dX9_key_90 : decode cX9_key 90 = .ok (.ifCond .eq 7, 3) := by decide +kernel
theorem dX9_key_93 : decode cX9_key 93 = .ok (.iload_n 3, 1) := by decide +kernel
theorem dX9_key_94 : decode cX9_key 94 = .ok (.goto 5, 3) := by decide +kernel
theorem dX9_key_97 : decode cX9_key 97 = .ok (.bipush (-2), 2) := by decide +kernel
theorem dX9_key_99 : decode cX9_key 99 = .ok (.invokevirtual 230, 3) := by decide +kernel
theorem dX9_key_102 : decode cX9_key 102 = .ok (.ireturn, 1) := by decide +kernel
theorem dX9_key_103 : decode cX9_key 103 = .ok (.aload_n 0, 1) := by decide +kernel
theorem dX9_key_104 : decode cX9_key 104 = .ok (.aload_n 0, 1) := by decide +kernel
theorem dX9_key_105 : decode cX9_key 105 = .ok (.iconst 0, 1) := by decide +kernel
theorem dX9_key_106 : decode cX9_key 106 = .ok (.iload_n 1, 1) := by decide +kernel
theorem dX9_key_107 : decode cX9_key 107 = .ok (.invokevirtual 270, 3) := by decide +kernel
theorem dX9_key_110 : decode cX9_key 110 = .ok (.ifCond .eq 16, 3) := by decide +kernel
theorem dX9_key_113 : decode cX9_key 113 = .ok (.iload_n 3, 1) := by decide +kernel
theorem dX9_key_114 : decode cX9_key 114 = .ok (.aload_n 0, 1) := by decide +kernel
theorem dX9_key_115 : decode cX9_key 115 = .ok (.iconst 0, 1) := by decide +kernel
theorem dX9_key_116 : decode cX9_key 116 = .ok (.iconst 1, 1) := by decide +kernel
theorem dX9_key_117 : decode cX9_key 117 = .ok (.invokevirtual 200, 3) := by decide +kernel
theorem dX9_key_120 : decode cX9_key 120 = .ok (.iadd, 1) := by decide +kernel
theorem dX9_key_121 : decode cX9_key 121 = .ok (.iconst 1, 1) := by decide +kernel
theorem dX9_key_122 : decode cX9_key 122 = .ok (.iadd, 1) := by decide +kernel
theorem dX9_key_123 : decode cX9_key 123 = .ok (.goto 5, 3) := by decide +kernel
theorem dX9_key_126 : decode cX9_key 126 = .ok (.bipush (-2), 2) := by decide +kernel
theorem dX9_key_128 : decode cX9_key 128 = .ok (.invokevirtual 230, 3) := by decide +kernel
theorem dX9_key_131 : decode cX9_key 131 = .ok (.ireturn, 1) := by decide +kernel
theorem dX9_key_132 : decode cX9_key 132 = .ok (.aload_n 0, 1) := by decide +kernel
theorem dX9_key_133 : decode cX9_key 133 = .ok (.aload_n 0, 1) := by decide +kernel
theorem dX9_key_134 : decode cX9_key 134 = .ok (.iconst 0, 1) := by decide +kernel
theorem dX9_key_135 : decode cX9_key 135 = .ok (.sipush 159, 3) := by decide +kernel
theorem dX9_key_138 : decode cX9_key 138 = .ok (.iload_n 1, 1) := by decide +kernel
theorem dX9_key_139 : decode cX9_key 139 = .ok (.iadd, 1) := by decide +kernel
theorem dX9_key_140 : decode cX9_key 140 = .ok (.invokevirtual 200, 3) := by decide +kernel
theorem dX9_key_143 : decode cX9_key 143 = .ok (.invokevirtual 230, 3) := by decide +kernel
theorem dX9_key_146 : decode cX9_key 146 = .ok (.ireturn, 1) := by decide +kernel
theorem dX9_key_147 : decode cX9_key 147 = .ok (.aload_n 0, 1) := by decide +kernel
theorem dX9_key_148 : decode cX9_key 148 = .ok (.aload_n 0, 1) := by decide +kernel
theorem dX9_key_149 : decode cX9_key 149 = .ok (.iconst 0, 1) := by decide +kernel
theorem dX9_key_150 : decode cX9_key 150 = .ok (.sipush 167, 3) := by decide +kernel
theorem dX9_key_153 : decode cX9_key 153 = .ok (.iload_n 1, 1) := by decide +kernel
theorem dX9_key_154 : decode cX9_key 154 = .ok (.iadd, 1) := by decide +kernel
theorem dX9_key_155 : decode cX9_key 155 = .ok (.invokevirtual 200, 3) := by decide +kernel
theorem dX9_key_158 : decode cX9_key 158 = .ok (.invokevirtual 230, 3) := by decide +kernel
theorem dX9_key_161 : decode cX9_key 161 = .ok (.ireturn, 1) := by decide +kernel
theorem dX9_key_162 : decode cX9_key 162 = .ok (.aload_n 0, 1) := by decide +kernel
theorem dX9_key_163 : decode cX9_key 163 = .ok (.iconst 1, 1) := by decide +kernel
theorem dX9_key_164 : decode cX9_key 164 = .ok (.invokevirtual 61, 3) := by decide +kernel
theorem dX9_key_167 : decode cX9_key 167 = .ok (.ireturn, 1) := by decide +kernel
def f_X9_key (s0 : MoT) (p1 : Int32) (p2 : Int32) : Option (Int32 × MoT) :=
  (f_X9_isKey (Mo_w_thrown s0 (0 : Int32)) p1).bind fun r1 =>
  if r1 = 0 then (f_X9_refused (Mo_w_thrown s0 (0 : Int32)) (1 : Int32)).bind fun r44 =>
  some ((r44.1), (r44.2))
  else (f_X9_get (Mo_w_thrown s0 (0 : Int32)) (0 : Int32) ((151 : Int32) + p1)).bind fun r4 =>
  if p2 = (0 : Int32) then (f_X9_lives (Mo_w_thrown s0 (0 : Int32)) (0 : Int32) p1).bind fun r7 =>
  if r7 = 0 then (f_X9_good (Mo_w_thrown s0 (0 : Int32)) (0 : Int32)).bind fun r10 =>
  some ((r10.1), (r10.2))
  else (f_X9_good (Mo_w_thrown s0 (0 : Int32)) (1 : Int32)).bind fun r12 =>
  some ((r12.1), (r12.2))
  else if p2 = (1 : Int32) then (f_X9_lives (Mo_w_thrown s0 (0 : Int32)) (0 : Int32) p1).bind fun r15 =>
  if r15 = 0 then (f_X9_good (Mo_w_thrown s0 (0 : Int32)) (-2 : Int32)).bind fun r18 =>
  some ((r18.1), (r18.2))
  else (f_X9_good (Mo_w_thrown s0 (0 : Int32)) r4).bind fun r20 =>
  some ((r20.1), (r20.2))
  else if p2 = (2 : Int32) then (f_X9_lives (Mo_w_thrown s0 (0 : Int32)) (0 : Int32) p1).bind fun r23 =>
  if r23 = 0 then (f_X9_good (Mo_w_thrown s0 (0 : Int32)) (-2 : Int32)).bind fun r26 =>
  some ((r26.1), (r26.2))
  else (f_X9_get (Mo_w_thrown s0 (0 : Int32)) (0 : Int32) (1 : Int32)).bind fun r28 =>
  (f_X9_good (Mo_w_thrown s0 (0 : Int32)) ((r4 + r28) + (1 : Int32))).bind fun r30 =>
  some ((r30.1), (r30.2))
  else if p2 = (3 : Int32) then (f_X9_get (Mo_w_thrown s0 (0 : Int32)) (0 : Int32) ((159 : Int32) + p1)).bind fun r33 =>
  (f_X9_good (Mo_w_thrown s0 (0 : Int32)) r33).bind fun r35 =>
  some ((r35.1), (r35.2))
  else if p2 = (4 : Int32) then (f_X9_get (Mo_w_thrown s0 (0 : Int32)) (0 : Int32) ((167 : Int32) + p1)).bind fun r38 =>
  (f_X9_good (Mo_w_thrown s0 (0 : Int32)) r38).bind fun r40 =>
  some ((r40.1), (r40.2))
  else (f_X9_refused (Mo_w_thrown s0 (0 : Int32)) (1 : Int32)).bind fun r42 =>
  some ((r42.1), (r42.2))
abbrev rm_X9_key : Room := { frames := 2, cells := 0, slots := 0, locals := 44 }
set_option maxHeartbeats 4000000 in
set_option maxRecDepth 100000 in
theorem c_X9_key (l : Launch) (g : GK) (a0 : Nat → Nat) (s0 : MoT) (p1 : Int32) (p2 : Int32) (res : (Int32 × MoT)) (hf : f_X9_key s0 p1 p2 = some res) : gM l yX9_key cX9_key 4 (some .int) rm_X9_key g [.ref (a0 0), .int p1, .int p2] (Mo_c g a0 s0) (fun _ : Unit => (some (.int (res.1)))) (fun _ => (Mo_c g a0 (res.2))) 0 0 := by
  refine gM_introI RX9 (by decide) rfl (Nat.le_of_ble_eq_true rfl) (fun p e s m args below meth c Q H locs ls A hE hZ hA hP hD hS hq hl => ?_)
  have hl : lv_has ls 4 [(0, .ref (a0 0)), (1, .int p1), (2, .int p2)] := hl
  have hx := hE.1
  have hb := hE.2.1
  rw [f_X9_key] at hf
  refine lv_aload_n hx hb dX9_key_0 rfl (lv_at hl 0 rfl) ?_
  refine lv_iconst hx hb dX9_key_1 kci_0 ?_
  refine g_put hE okX9 fl_X9_55 hP hD hS 0 rfl rfl rfl rfl (Nat.le_of_ble_eq_true rfl) (Mo_c g a0 (Mo_w_thrown s0 (0 : Int32))) rfl dX9_key_2 (fun H locs hP hD hS => ?_)
  refine lv_aload_n hx hb dX9_key_5 rfl (lv_at hl 0 rfl) ?_
  refine lv_iload_n hx hb dX9_key_6 rfl (lv_at hl 1 rfl) ?_
  obtain ⟨r1, hc2, hf⟩ := gbd hf
  refine gr_callV (As := [.int p1]) (rest := []) (st1 := [.int r1]) hE hl.1 ml_X9_293 (c_X9_isKey l g a0 (Mo_w_thrown s0 (0 : Int32)) p1 r1 hc2) hZ hS hP [(0, 14)] rfl okX9 rfl rfl rfl rfl ⟨rfl, rfl⟩ ⟨Nat.le_of_ble_eq_true rfl, Nat.le_of_ble_eq_true rfl⟩ ⟨Nat.le_refl _, Nat.le_refl _⟩ (Nat.le_of_ble_eq_true rfl) dX9_key_7 ?_
  refine lv_if_ne hx hb dX9_key_10 (tgt := 19) rfl (fun h3 => ?_) (fun h3 => ?_)
  · have hf := gif_f h3 hf
    refine lv_aload_n hx hb dX9_key_19 rfl (lv_at hl 0 rfl) ?_
    refine lv_iconst hx hb dX9_key_20 kci_0 ?_
    refine lv_sipush hx hb dX9_key_21 kcs_151 ?_
    refine lv_iload_n hx hb dX9_key_24 rfl (lv_at hl 1 rfl) ?_
    refine lv_iadd hx hb dX9_key_25 ?_
    obtain ⟨r4, hc5, hf⟩ := gbd hf
    refine gr_callV (As := [.int (0 : Int32), .int ((151 : Int32) + p1)]) (rest := []) (st1 := [.int r4]) hE hl.1 ml_X9_200 (c_X9_get l g a0 (Mo_w_thrown s0 (0 : Int32)) (0 : Int32) ((151 : Int32) + p1) r4 hc5) hZ hS hP [(0, 14)] rfl okX9 rfl rfl rfl rfl ⟨rfl, rfl⟩ ⟨Nat.le_of_ble_eq_true rfl, Nat.le_of_ble_eq_true rfl⟩ ⟨Nat.le_refl _, Nat.le_refl _⟩ (Nat.le_of_ble_eq_true rfl) dX9_key_26 ?_
    refine lv_istore_n hx hb dX9_key_29 rfl hl (by decide) (lv' := [(3, .int r4), (0, .ref (a0 0)), (1, .int p1), (2, .int p2)]) rfl (fun ls hl => ?_)
    refine lv_iload_n hx hb dX9_key_30 rfl (lv_at hl 3 rfl) ?_
    by_cases h6 : p2 = (0 : Int32)
    · have hf := gif_t h6 hf
      refine g_swIn hE h6 dX9_key_31 (0) ⟨by decide, by decide⟩ (by decide) (off := 33) rfl (tgt := 64) rfl ?_
      refine lv_aload_n hx hb dX9_key_64 rfl (lv_at hl 1 rfl) ?_
      refine lv_aload_n hx hb dX9_key_65 rfl (lv_at hl 1 rfl) ?_
      refine lv_iconst hx hb dX9_key_66 kci_0 ?_
      refine lv_iload_n hx hb dX9_key_67 rfl (lv_at hl 2 rfl) ?_
      obtain ⟨r7, hc8, hf⟩ := gbd hf
      refine gr_callV (As := [.int (0 : Int32), .int p1]) (rest := [.ref (a0 0)]) (st1 := [.int r7, .ref (a0 0)]) hE hl.1 ml_X9_270 (c_X9_lives l g a0 (Mo_w_thrown s0 (0 : Int32)) (0 : Int32) p1 r7 hc8) hZ hS hP [(0, 14)] rfl okX9 rfl rfl rfl rfl ⟨rfl, rfl⟩ ⟨Nat.le_of_ble_eq_true rfl, Nat.le_of_ble_eq_true rfl⟩ ⟨Nat.le_refl _, Nat.le_refl _⟩ (Nat.le_of_ble_eq_true rfl) dX9_key_68 ?_
      refine lv_if_eq hx hb dX9_key_71 (tgt := 78) rfl (fun h9 => ?_) (fun h9 => ?_)
      · have hf := gif_t h9 hf
        refine lv_iconst hx hb dX9_key_78 kci_0 ?_
        obtain ⟨r10, hc11, hf⟩ := gbd hf
        refine gm_callV1 (As := [.int (0 : Int32)]) (rest := []) (st1 := fun _ => [.int (r10.1)]) (ws' := fun _ => (Mo_c g a0 (r10.2))) hE hl.1 ml_X9_230 (c_X9_good l g a0 (Mo_w_thrown s0 (0 : Int32)) (0 : Int32) r10 hc11) hZ hP hD hS hA 0 14 rfl (fun _ => rfl) okX9 rfl rfl rfl (fun _ => rfl) ⟨rfl, rfl⟩ ⟨Nat.le_of_ble_eq_true rfl, Nat.le_of_ble_eq_true rfl⟩ ⟨Nat.le_refl _, Nat.le_refl _⟩ (Nat.le_of_ble_eq_true rfl) dX9_key_79 (fun _ H locs hP hD hS => ?_)
        cases hf
        exact hq () rfl hP hD hS dX9_key_82
      · have hf := gif_f h9 hf
        refine lv_iconst hx hb dX9_key_74 kci_1 ?_
        refine lv_goto hx hb dX9_key_75 (tgt := 79) rfl ?_
        obtain ⟨r12, hc13, hf⟩ := gbd hf
        refine gm_callV1 (As := [.int (1 : Int32)]) (rest := []) (st1 := fun _ => [.int (r12.1)]) (ws' := fun _ => (Mo_c g a0 (r12.2))) hE hl.1 ml_X9_230 (c_X9_good l g a0 (Mo_w_thrown s0 (0 : Int32)) (1 : Int32) r12 hc13) hZ hP hD hS hA 0 14 rfl (fun _ => rfl) okX9 rfl rfl rfl (fun _ => rfl) ⟨rfl, rfl⟩ ⟨Nat.le_of_ble_eq_true rfl, Nat.le_of_ble_eq_true rfl⟩ ⟨Nat.le_refl _, Nat.le_refl _⟩ (Nat.le_of_ble_eq_true rfl) dX9_key_79 (fun _ H locs hP hD hS => ?_)
        cases hf
        exact hq () rfl hP hD hS dX9_key_82
    have hf := gif_f h6 hf
    by_cases h14 : p2 = (1 : Int32)
    · have hf := gif_t h14 hf
      refine g_swIn hE h14 dX9_key_31 (1) ⟨by decide, by decide⟩ (by decide) (off := 52) rfl (tgt := 83) rfl ?_
      refine lv_aload_n hx hb dX9_key_83 rfl (lv_at hl 1 rfl) ?_
      refine lv_aload_n hx hb dX9_key_84 rfl (lv_at hl 1 rfl) ?_
      refine lv_iconst hx hb dX9_key_85 kci_0 ?_
      refine lv_iload_n hx hb dX9_key_86 rfl (lv_at hl 2 rfl) ?_
      obtain ⟨r15, hc16, hf⟩ := gbd hf
      refine gr_callV (As := [.int (0 : Int32), .int p1]) (rest := [.ref (a0 0)]) (st1 := [.int r15, .ref (a0 0)]) hE hl.1 ml_X9_270 (c_X9_lives l g a0 (Mo_w_thrown s0 (0 : Int32)) (0 : Int32) p1 r15 hc16) hZ hS hP [(0, 14)] rfl okX9 rfl rfl rfl rfl ⟨rfl, rfl⟩ ⟨Nat.le_of_ble_eq_true rfl, Nat.le_of_ble_eq_true rfl⟩ ⟨Nat.le_refl _, Nat.le_refl _⟩ (Nat.le_of_ble_eq_true rfl) dX9_key_87 ?_
      refine lv_if_eq hx hb dX9_key_90 (tgt := 97) rfl (fun h17 => ?_) (fun h17 => ?_)
      · have hf := gif_t h17 hf
        refine lv_bipush hx hb dX9_key_97 kcb_m2 ?_
        obtain ⟨r18, hc19, hf⟩ := gbd hf
        refine gm_callV1 (As := [.int (-2 : Int32)]) (rest := []) (st1 := fun _ => [.int (r18.1)]) (ws' := fun _ => (Mo_c g a0 (r18.2))) hE hl.1 ml_X9_230 (c_X9_good l g a0 (Mo_w_thrown s0 (0 : Int32)) (-2 : Int32) r18 hc19) hZ hP hD hS hA 0 14 rfl (fun _ => rfl) okX9 rfl rfl rfl (fun _ => rfl) ⟨rfl, rfl⟩ ⟨Nat.le_of_ble_eq_true rfl, Nat.le_of_ble_eq_true rfl⟩ ⟨Nat.le_refl _, Nat.le_refl _⟩ (Nat.le_of_ble_eq_true rfl) dX9_key_99 (fun _ H locs hP hD hS => ?_)
        cases hf
        exact hq () rfl hP hD hS dX9_key_102
      · have hf := gif_f h17 hf
        refine lv_iload_n hx hb dX9_key_93 rfl (lv_at hl 0 rfl) ?_
        refine lv_goto hx hb dX9_key_94 (tgt := 99) rfl ?_
        obtain ⟨r20, hc21, hf⟩ := gbd hf
        refine gm_callV1 (As := [.int r4]) (rest := []) (st1 := fun _ => [.int (r20.1)]) (ws' := fun _ => (Mo_c g a0 (r20.2))) hE hl.1 ml_X9_230 (c_X9_good l g a0 (Mo_w_thrown s0 (0 : Int32)) r4 r20 hc21) hZ hP hD hS hA 0 14 rfl (fun _ => rfl) okX9 rfl rfl rfl (fun _ => rfl) ⟨rfl, rfl⟩ ⟨Nat.le_of_ble_eq_true rfl, Nat.le_of_ble_eq_true rfl⟩ ⟨Nat.le_refl _, Nat.le_refl _⟩ (Nat.le_of_ble_eq_true rfl) dX9_key_99 (fun _ H locs hP hD hS => ?_)
        cases hf
        exact hq () rfl hP hD hS dX9_key_102
    have hf := gif_f h14 hf
    by_cases h22 : p2 = (2 : Int32)
    · have hf := gif_t h22 hf
      refine g_swIn hE h22 dX9_key_31 (2) ⟨by decide, by decide⟩ (by decide) (off := 72) rfl (tgt := 103) rfl ?_
      refine lv_aload_n hx hb dX9_key_103 rfl (lv_at hl 1 rfl) ?_
      refine lv_aload_n hx hb dX9_key_104 rfl (lv_at hl 1 rfl) ?_
      refine lv_iconst hx hb dX9_key_105 kci_0 ?_
      refine lv_iload_n hx hb dX9_key_106 rfl (lv_at hl 2 rfl) ?_
      obtain ⟨r23, hc24, hf⟩ := gbd hf
      refine gr_callV (As := [.int (0 : Int32), .int p1]) (rest := [.ref (a0 0)]) (st1 := [.int r23, .ref (a0 0)]) hE hl.1 ml_X9_270 (c_X9_lives l g a0 (Mo_w_thrown s0 (0 : Int32)) (0 : Int32) p1 r23 hc24) hZ hS hP [(0, 14)] rfl okX9 rfl rfl rfl rfl ⟨rfl, rfl⟩ ⟨Nat.le_of_ble_eq_true rfl, Nat.le_of_ble_eq_true rfl⟩ ⟨Nat.le_refl _, Nat.le_refl _⟩ (Nat.le_of_ble_eq_true rfl) dX9_key_107 ?_
      refine lv_if_eq hx hb dX9_key_110 (tgt := 126) rfl (fun h25 => ?_) (fun h25 => ?_)
      · have hf := gif_t h25 hf
        refine lv_bipush hx hb dX9_key_126 kcb_m2 ?_
        obtain ⟨r26, hc27, hf⟩ := gbd hf
        refine gm_callV1 (As := [.int (-2 : Int32)]) (rest := []) (st1 := fun _ => [.int (r26.1)]) (ws' := fun _ => (Mo_c g a0 (r26.2))) hE hl.1 ml_X9_230 (c_X9_good l g a0 (Mo_w_thrown s0 (0 : Int32)) (-2 : Int32) r26 hc27) hZ hP hD hS hA 0 14 rfl (fun _ => rfl) okX9 rfl rfl rfl (fun _ => rfl) ⟨rfl, rfl⟩ ⟨Nat.le_of_ble_eq_true rfl, Nat.le_of_ble_eq_true rfl⟩ ⟨Nat.le_refl _, Nat.le_refl _⟩ (Nat.le_of_ble_eq_true rfl) dX9_key_128 (fun _ H locs hP hD hS => ?_)
        cases hf
        exact hq () rfl hP hD hS dX9_key_131
      · have hf := gif_f h25 hf
        refine lv_iload_n hx hb dX9_key_113 rfl (lv_at hl 0 rfl) ?_
        refine lv_aload_n hx hb dX9_key_114 rfl (lv_at hl 1 rfl) ?_
        refine lv_iconst hx hb dX9_key_115 kci_0 ?_
        refine lv_iconst hx hb dX9_key_116 kci_1 ?_
        obtain ⟨r28, hc29, hf⟩ := gbd hf
        refine gr_callV (As := [.int (0 : Int32), .int (1 : Int32)]) (rest := [.int r4, .ref (a0 0)]) (st1 := [.int r28, .int r4, .ref (a0 0)]) hE hl.1 ml_X9_200 (c_X9_get l g a0 (Mo_w_thrown s0 (0 : Int32)) (0 : Int32) (1 : Int32) r28 hc29) hZ hS hP [(0, 14)] rfl okX9 rfl rfl rfl rfl ⟨rfl, rfl⟩ ⟨Nat.le_of_ble_eq_true rfl, Nat.le_of_ble_eq_true rfl⟩ ⟨Nat.le_refl _, Nat.le_refl _⟩ (Nat.le_of_ble_eq_true rfl) dX9_key_117 ?_
        refine lv_iadd hx hb dX9_key_120 ?_
        refine lv_iconst hx hb dX9_key_121 kci_1 ?_
        refine lv_iadd hx hb dX9_key_122 ?_
        refine lv_goto hx hb dX9_key_123 (tgt := 128) rfl ?_
        obtain ⟨r30, hc31, hf⟩ := gbd hf
        refine gm_callV1 (As := [.int ((r4 + r28) + (1 : Int32))]) (rest := []) (st1 := fun _ => [.int (r30.1)]) (ws' := fun _ => (Mo_c g a0 (r30.2))) hE hl.1 ml_X9_230 (c_X9_good l g a0 (Mo_w_thrown s0 (0 : Int32)) ((r4 + r28) + (1 : Int32)) r30 hc31) hZ hP hD hS hA 0 14 rfl (fun _ => rfl) okX9 rfl rfl rfl (fun _ => rfl) ⟨rfl, rfl⟩ ⟨Nat.le_of_ble_eq_true rfl, Nat.le_of_ble_eq_true rfl⟩ ⟨Nat.le_refl _, Nat.le_refl _⟩ (Nat.le_of_ble_eq_true rfl) dX9_key_128 (fun _ H locs hP hD hS => ?_)
        cases hf
        exact hq () rfl hP hD hS dX9_key_131
    have hf := gif_f h22 hf
    by_cases h32 : p2 = (3 : Int32)
    · have hf := gif_t h32 hf
      refine g_swIn hE h32 dX9_key_31 (3) ⟨by decide, by decide⟩ (by decide) (off := 101) rfl (tgt := 132) rfl ?_
      refine lv_aload_n hx hb dX9_key_132 rfl (lv_at hl 1 rfl) ?_
      refine lv_aload_n hx hb dX9_key_133 rfl (lv_at hl 1 rfl) ?_
      refine lv_iconst hx hb dX9_key_134 kci_0 ?_
      refine lv_sipush hx hb dX9_key_135 kcs_159 ?_
      refine lv_iload_n hx hb dX9_key_138 rfl (lv_at hl 2 rfl) ?_
      refine lv_iadd hx hb dX9_key_139 ?_
      obtain ⟨r33, hc34, hf⟩ := gbd hf
      refine gr_callV (As := [.int (0 : Int32), .int ((159 : Int32) + p1)]) (rest := [.ref (a0 0)]) (st1 := [.int r33, .ref (a0 0)]) hE hl.1 ml_X9_200 (c_X9_get l g a0 (Mo_w_thrown s0 (0 : Int32)) (0 : Int32) ((159 : Int32) + p1) r33 hc34) hZ hS hP [(0, 14)] rfl okX9 rfl rfl rfl rfl ⟨rfl, rfl⟩ ⟨Nat.le_of_ble_eq_true rfl, Nat.le_of_ble_eq_true rfl⟩ ⟨Nat.le_refl _, Nat.le_refl _⟩ (Nat.le_of_ble_eq_true rfl) dX9_key_140 ?_
      obtain ⟨r35, hc36, hf⟩ := gbd hf
      refine gm_callV1 (As := [.int r33]) (rest := []) (st1 := fun _ => [.int (r35.1)]) (ws' := fun _ => (Mo_c g a0 (r35.2))) hE hl.1 ml_X9_230 (c_X9_good l g a0 (Mo_w_thrown s0 (0 : Int32)) r33 r35 hc36) hZ hP hD hS hA 0 14 rfl (fun _ => rfl) okX9 rfl rfl rfl (fun _ => rfl) ⟨rfl, rfl⟩ ⟨Nat.le_of_ble_eq_true rfl, Nat.le_of_ble_eq_true rfl⟩ ⟨Nat.le_refl _, Nat.le_refl _⟩ (Nat.le_of_ble_eq_true rfl) dX9_key_143 (fun _ H locs hP hD hS => ?_)
      cases hf
      exact hq () rfl hP hD hS dX9_key_146
    have hf := gif_f h32 hf
    by_cases h37 : p2 = (4 : Int32)
    · have hf := gif_t h37 hf
      refine g_swIn hE h37 dX9_key_31 (4) ⟨by decide, by decide⟩ (by decide) (off := 116) rfl (tgt := 147) rfl ?_
      refine lv_aload_n hx hb dX9_key_147 rfl (lv_at hl 1 rfl) ?_
      refine lv_aload_n hx hb dX9_key_148 rfl (lv_at hl 1 rfl) ?_
      refine lv_iconst hx hb dX9_key_149 kci_0 ?_
      refine lv_sipush hx hb dX9_key_150 kcs_167 ?_
      refine lv_iload_n hx hb dX9_key_153 rfl (lv_at hl 2 rfl) ?_
      refine lv_iadd hx hb dX9_key_154 ?_
      obtain ⟨r38, hc39, hf⟩ := gbd hf
      refine gr_callV (As := [.int (0 : Int32), .int ((167 : Int32) + p1)]) (rest := [.ref (a0 0)]) (st1 := [.int r38, .ref (a0 0)]) hE hl.1 ml_X9_200 (c_X9_get l g a0 (Mo_w_thrown s0 (0 : Int32)) (0 : Int32) ((167 : Int32) + p1) r38 hc39) hZ hS hP [(0, 14)] rfl okX9 rfl rfl rfl rfl ⟨rfl, rfl⟩ ⟨Nat.le_of_ble_eq_true rfl, Nat.le_of_ble_eq_true rfl⟩ ⟨Nat.le_refl _, Nat.le_refl _⟩ (Nat.le_of_ble_eq_true rfl) dX9_key_155 ?_
      obtain ⟨r40, hc41, hf⟩ := gbd hf
      refine gm_callV1 (As := [.int r38]) (rest := []) (st1 := fun _ => [.int (r40.1)]) (ws' := fun _ => (Mo_c g a0 (r40.2))) hE hl.1 ml_X9_230 (c_X9_good l g a0 (Mo_w_thrown s0 (0 : Int32)) r38 r40 hc41) hZ hP hD hS hA 0 14 rfl (fun _ => rfl) okX9 rfl rfl rfl (fun _ => rfl) ⟨rfl, rfl⟩ ⟨Nat.le_of_ble_eq_true rfl, Nat.le_of_ble_eq_true rfl⟩ ⟨Nat.le_refl _, Nat.le_refl _⟩ (Nat.le_of_ble_eq_true rfl) dX9_key_158 (fun _ H locs hP hD hS => ?_)
      cases hf
      exact hq () rfl hP hD hS dX9_key_161
    have hf := gif_f h37 hf
    refine lv_tableOut hx hb dX9_key_31 (by have := nti h6 (k := 0) (by decide); have := nti h14 (k := 1) (by decide); have := nti h22 (k := 2) (by decide); have := nti h32 (k := 3) (by decide); have := nti h37 (k := 4) (by decide); omega) (tgt := 162) rfl ?_
    refine lv_aload_n hx hb dX9_key_162 rfl (lv_at hl 1 rfl) ?_
    refine lv_iconst hx hb dX9_key_163 kci_1 ?_
    obtain ⟨r42, hc43, hf⟩ := gbd hf
    refine gm_callV1 (As := [.int (1 : Int32)]) (rest := []) (st1 := fun _ => [.int (r42.1)]) (ws' := fun _ => (Mo_c g a0 (r42.2))) hE hl.1 ml_X9_61 (c_X9_refused l g a0 (Mo_w_thrown s0 (0 : Int32)) (1 : Int32) r42 hc43) hZ hP hD hS hA 0 14 rfl (fun _ => rfl) okX9 rfl rfl rfl (fun _ => rfl) ⟨rfl, rfl⟩ ⟨Nat.le_of_ble_eq_true rfl, Nat.le_of_ble_eq_true rfl⟩ ⟨Nat.le_refl _, Nat.le_refl _⟩ (Nat.le_of_ble_eq_true rfl) dX9_key_164 (fun _ H locs hP hD hS => ?_)
    cases hf
    exact hq () rfl hP hD hS dX9_key_167
  · have hf := gif_t h3 hf
    refine lv_aload_n hx hb dX9_key_13 rfl (lv_at hl 0 rfl) ?_
    refine lv_iconst hx hb dX9_key_14 kci_1 ?_
    obtain ⟨r44, hc45, hf⟩ := gbd hf
    refine gm_callV1 (As := [.int (1 : Int32)]) (rest := []) (st1 := fun _ => [.int (r44.1)]) (ws' := fun _ => (Mo_c g a0 (r44.2))) hE hl.1 ml_X9_61 (c_X9_refused l g a0 (Mo_w_thrown s0 (0 : Int32)) (1 : Int32) r44 hc45) hZ hP hD hS hA 0 14 rfl (fun _ => rfl) okX9 rfl rfl rfl (fun _ => rfl) ⟨rfl, rfl⟩ ⟨Nat.le_of_ble_eq_true rfl, Nat.le_of_ble_eq_true rfl⟩ ⟨Nat.le_refl _, Nat.le_refl _⟩ (Nat.le_of_ble_eq_true rfl) dX9_key_15 (fun _ H locs hP hD hS => ?_)
    cases hf
    exact hq () rfl hP hD hS dX9_key_18
theorem dX9_debts_0 : decode cX9_debts 0 = .ok (.aload_n 0, 1) := by decide +kernel
theorem dX9_debts_1 : decode cX9_debts 1 = .ok (.iconst 0, 1) := by decide +kernel
theorem dX9_debts_2 : decode cX9_debts 2 = .ok (.putfield 55, 3) := by decide +kernel
theorem dX9_debts_5 : decode cX9_debts 5 = .ok (.aload_n 0, 1) := by decide +kernel
theorem dX9_debts_6 : decode cX9_debts 6 = .ok (.getfield 218, 3) := by decide +kernel
theorem dX9_debts_9 : decode cX9_debts 9 = .ok (.ifCond .eq 10, 3) := by decide +kernel
theorem dX9_debts_12 : decode cX9_debts 12 = .ok (.iload_n 1, 1) := by decide +kernel
theorem dX9_debts_13 : decode cX9_debts 13 = .ok (.invokestatic 303, 3) := by decide +kernel
theorem dX9_debts_16 : decode cX9_debts 16 = .ok (.ifCond .ne 9, 3) := by decide +kernel
theorem dX9_debts_19 : decode cX9_debts 19 = .ok (.aload_n 0, 1) := by decide +kernel
theorem dX9_debts_20 : decode cX9_debts 20 = .ok (.iconst 1, 1) := by decide +kernel
theorem dX9_debts_21 : decode cX9_debts 21 = .ok (.invokevirtual 61, 3) := by decide +kernel
theorem dX9_debts_24 : decode cX9_debts 24 = .ok (.ireturn, 1) := by decide +kernel
theorem dX9_debts_25 : decode cX9_debts 25 = .ok (.iconst 0, 1) := by decide +kernel
theorem dX9_debts_26 : decode cX9_debts 26 = .ok (.istore_n 2, 1) := by decide +kernel
theorem dX9_debts_27 : decode cX9_debts 27 = .ok (.iconst 0, 1) := by decide +kernel
theorem dX9_debts_28 : decode cX9_debts 28 = .ok (.istore_n 3, 1) := by decide +kernel
theorem dX9_debts_29 : decode cX9_debts 29 = .ok (.iload_n 3, 1) := by decide +kernel
theorem dX9_debts_30 : decode cX9_debts 30 = .ok (.bipush 8, 2) := by decide +kernel
theorem dX9_debts_32 : decode cX9_debts 32 = .ok (.if_icmp .ge 48, 3) := by decide +kernel
theorem dX9_debts_35 : decode cX9_debts 35 = .ok (.iconst 0, 1) := by decide +kernel
theorem dX9_debts_36 : decode cX9_debts 36 = .ok (.istore 4, 2) := by decide +kernel
theorem dX9_debts_38 : decode cX9_debts 38 = .ok (.iload 4, 2) := by decide +kernel
theorem dX9_debts_40 : decode cX9_debts 40 = .ok (.bipush 8, 2) := by decide +kernel
theorem dX9_debts_42 : decode cX9_debts 42 = .ok (.if_icmp .ge 32, 3) := by decide +kernel
theorem dX9_debts_45 : decode cX9_debts 45 = .ok (.iload_n 2, 1) := by decide +kernel
theorem dX9_debts_46 : decode cX9_debts 46 = .ok (.aload_n 0, 1) := by decide +kernel
theorem dX9_debts_47 : decode cX9_debts 47 = .ok (.iconst 0, 1) := by decide +kernel
theorem dX9_debts_48 : decode cX9_debts 48 = .ok (.iload_n 1, 1) := by decide +kernel
theorem dX9_debts_49 : decode cX9_debts 49 = .ok (.iload_n 3, 1) := by decide +kernel
theorem dX9_debts_50 : decode cX9_debts 50 = .ok (.iload 4, 2) := by decide +kernel
theorem dX9_debts_52 : decode cX9_debts 52 = .ok (.invokestatic 233, 3) := by decide +kernel
theorem dX9_debts_55 : decode cX9_debts 55 = .ok (.invokevirtual 200, 3) := by decide +kernel
theorem dX9_debts_58 : decode cX9_debts 58 = .ok (.ifCond .ge 7, 3) := by decide +kernel
theorem dX9_debts_61 : decode cX9_debts 61 = .ok (.iconst 1, 1) := by decide +kernel
theorem dX9_debts_62 : decode cX9_debts 62 = .ok (.goto 4, 3) := by decide +kernel
theorem dX9_debts_65 : decode cX9_debts 65 = .ok (.iconst 0, 1) := by decide +kernel
theorem dX9_debts_66 : decode cX9_debts 66 = .ok (.iadd, 1) := by decide +kernel
theorem dX9_debts_67 : decode cX9_debts 67 = .ok (.istore_n 2, 1) := by decide +kernel
theorem dX9_debts_68 : decode cX9_debts 68 = .ok (.iinc 4 1, 3) := by decide +kernel
theorem dX9_debts_71 : decode cX9_debts 71 = .ok (.goto (-33), 3) := by decide +kernel
theorem dX9_debts_74 : decode cX9_debts 74 = .ok (.iinc 3 1, 3) := by decide +kernel
theorem dX9_debts_77 : decode cX9_debts 77 = .ok (.goto (-48), 3) := by decide +kernel
theorem dX9_debts_80 : decode cX9_debts 80 = .ok (.aload_n 0, 1) := by decide +kernel
theorem dX9_debts_81 : decode cX9_debts 81 = .ok (.iload_n 2, 1) := by decide +kernel
theorem dX9_debts_82 : decode cX9_debts 82 = .ok (.invokevirtual 230, 3) := by decide +kernel
theorem dX9_debts_85 : decode cX9_debts 85 = .ok (.ireturn, 1) := by decide +kernel
def f_X9_debts_L38_20 (s0 : MoT) (p1 : Int32) (x3_12 : Int32) (K16 : (Int32 → Option (Int32 × MoT))) : Nat → Int32 → Int32 → Option (Int32 × MoT)
  | 0, _, _ => none
  | n21 + 1, x2_18, x4_19 => if (8 : Int32) ≤ x4_19 then K16 x2_18
  else (f_X9_netAt p1 x3_12 x4_19).bind fun r23 =>
  (f_X9_get (Mo_w_thrown s0 (0 : Int32)) (0 : Int32) r23).bind fun r25 =>
  if 0 ≤ r25 then f_X9_debts_L38_20 s0 p1 x3_12 K16 n21 (x2_18 + (0 : Int32)) (x4_19 + (1 : Int32))
  else f_X9_debts_L38_20 s0 p1 x3_12 K16 n21 (x2_18 + (1 : Int32)) (x4_19 + (1 : Int32))
def f_X9_debts_L29_13 (s0 : MoT) (p1 : Int32) (K7 : (Int32 → Option (Int32 × MoT))) : Nat → Int32 → Int32 → Option (Int32 × MoT)
  | 0, _, _ => none
  | n14 + 1, x2_11, x3_12 => if (8 : Int32) ≤ x3_12 then K7 x2_11
  else glt (fun (x2_17 : Int32) => f_X9_debts_L29_13 s0 p1 K7 n14 x2_17 (x3_12 + (1 : Int32))) fun K16 =>
  f_X9_debts_L38_20 s0 p1 x3_12 K16 10000 x2_11 (0 : Int32)
def f_X9_debts (s0 : MoT) (p1 : Int32) : Option (Int32 × MoT) :=
  if (Mo_isThere s0) = 0 then (f_X9_refused (Mo_w_thrown s0 (0 : Int32)) (1 : Int32)).bind fun r2 =>
  some ((r2.1), (r2.2))
  else (f_X9_isSide p1).bind fun r4 =>
  if r4 = 0 then (f_X9_refused (Mo_w_thrown s0 (0 : Int32)) (1 : Int32)).bind fun r28 =>
  some ((r28.1), (r28.2))
  else glt (fun (x2_8 : Int32) => (f_X9_good (Mo_w_thrown s0 (0 : Int32)) x2_8).bind fun r9 =>
  some ((r9.1), (r9.2))) fun K7 =>
  f_X9_debts_L29_13 s0 p1 K7 10000 (0 : Int32) (0 : Int32)
abbrev rm_X9_debts : Room := { frames := 2, cells := 0, slots := 0, locals := 42 }
set_option maxHeartbeats 4000000 in
set_option maxRecDepth 100000 in
theorem c_X9_debts (l : Launch) (g : GK) (a0 : Nat → Nat) (s0 : MoT) (p1 : Int32) (res : (Int32 × MoT)) (hf : f_X9_debts s0 p1 = some res) : gM l yX9_debts cX9_debts 5 (some .int) rm_X9_debts g [.ref (a0 0), .int p1] (Mo_c g a0 s0) (fun _ : Unit => (some (.int (res.1)))) (fun _ => (Mo_c g a0 (res.2))) 0 0 := by
  refine gM_introI RX9 (by decide) rfl (Nat.le_of_ble_eq_true rfl) (fun p e s m args below meth c Q H locs ls A hE hZ hA hP hD hS hq hl => ?_)
  have hl : lv_has ls 5 [(0, .ref (a0 0)), (1, .int p1)] := hl
  have hx := hE.1
  have hb := hE.2.1
  rw [f_X9_debts] at hf
  refine lv_aload_n hx hb dX9_debts_0 rfl (lv_at hl 0 rfl) ?_
  refine lv_iconst hx hb dX9_debts_1 kci_0 ?_
  refine g_put hE okX9 fl_X9_55 hP hD hS 0 rfl rfl rfl rfl (Nat.le_of_ble_eq_true rfl) (Mo_c g a0 (Mo_w_thrown s0 (0 : Int32))) rfl dX9_debts_2 (fun H locs hP hD hS => ?_)
  refine lv_aload_n hx hb dX9_debts_5 rfl (lv_at hl 0 rfl) ?_
  refine g_get hE okX9 fl_X9_218 hP 0 rfl (v := .int (Mo_isThere s0)) rfl dX9_debts_6 ?_
  refine lv_if_eq hx hb dX9_debts_9 (tgt := 19) rfl (fun h1 => ?_) (fun h1 => ?_)
  · have hf := gif_t h1 hf
    refine lv_aload_n hx hb dX9_debts_19 rfl (lv_at hl 0 rfl) ?_
    refine lv_iconst hx hb dX9_debts_20 kci_1 ?_
    obtain ⟨r2, hc3, hf⟩ := gbd hf
    refine gm_callV1 (As := [.int (1 : Int32)]) (rest := []) (st1 := fun _ => [.int (r2.1)]) (ws' := fun _ => (Mo_c g a0 (r2.2))) hE hl.1 ml_X9_61 (c_X9_refused l g a0 (Mo_w_thrown s0 (0 : Int32)) (1 : Int32) r2 hc3) hZ hP hD hS hA 0 14 rfl (fun _ => rfl) okX9 rfl rfl rfl (fun _ => rfl) ⟨rfl, rfl⟩ ⟨Nat.le_of_ble_eq_true rfl, Nat.le_of_ble_eq_true rfl⟩ ⟨Nat.le_refl _, Nat.le_refl _⟩ (Nat.le_of_ble_eq_true rfl) dX9_debts_21 (fun _ H locs hP hD hS => ?_)
    cases hf
    exact hq () rfl hP hD hS dX9_debts_24
  · have hf := gif_f h1 hf
    refine lv_iload_n hx hb dX9_debts_12 rfl (lv_at hl 1 rfl) ?_
    obtain ⟨r4, hc5, hf⟩ := gbd hf
    refine gr_callS (As := [.int p1]) (rest := []) (st1 := [.int r4]) hE hl.1 ml_X9_303 (c_X9_isSide l g p1 r4 hc5) hZ hS hP [] rfl rfl rfl rfl ⟨rfl, rfl⟩ ⟨Nat.le_of_ble_eq_true rfl, Nat.le_of_ble_eq_true rfl⟩ ⟨Nat.le_refl _, Nat.le_refl _⟩ (Nat.le_of_ble_eq_true rfl) dX9_debts_13 ?_
    refine lv_if_ne hx hb dX9_debts_16 (tgt := 25) rfl (fun h6 => ?_) (fun h6 => ?_)
    · have hf := gif_f h6 hf
      refine lv_iconst hx hb dX9_debts_25 kci_0 ?_
      refine lv_istore_n hx hb dX9_debts_26 rfl hl (by decide) (lv' := [(2, .int (0 : Int32)), (0, .ref (a0 0)), (1, .int p1)]) rfl (fun ls hl => ?_)
      refine lv_iconst hx hb dX9_debts_27 kci_0 ?_
      refine lv_istore_n hx hb dX9_debts_28 rfl hl (by decide) (lv' := [(3, .int (0 : Int32)), (2, .int (0 : Int32)), (0, .ref (a0 0)), (1, .int p1)]) rfl (fun ls hl => ?_)
      obtain ⟨K7, eK7, hf⟩ := gltd hf
      have kK7 : ∀ (x2_8 : Int32) (ls : Array Slot) (H : Heap) (locs : List Loc), K7 x2_8 = some res → lv_has ls 5 [(0, .ref (a0 0)), (2, .int x2_8)] → gP g (Mo_c g a0 (Mo_w_thrown s0 (0 : Int32))) H → va_D A (Mo_c g a0 (Mo_w_thrown s0 (0 : Int32))) → va_S A s.heap H locs → W p l e rm_X9_debts s m args below meth c H locs 0 0 Q (F0 m 80 ls []) := by
        intro x2_8 ls H locs hf hl hP hD hS
        rw [eK7] at hf
        refine lv_aload_n hx hb dX9_debts_80 rfl (lv_at hl 0 rfl) ?_
        refine lv_iload_n hx hb dX9_debts_81 rfl (lv_at hl 1 rfl) ?_
        obtain ⟨r9, hc10, hf⟩ := gbd hf
        refine gm_callV1 (As := [.int x2_8]) (rest := []) (st1 := fun _ => [.int (r9.1)]) (ws' := fun _ => (Mo_c g a0 (r9.2))) hE hl.1 ml_X9_230 (c_X9_good l g a0 (Mo_w_thrown s0 (0 : Int32)) x2_8 r9 hc10) hZ hP hD hS hA 0 14 rfl (fun _ => rfl) okX9 rfl rfl rfl (fun _ => rfl) ⟨rfl, rfl⟩ ⟨Nat.le_of_ble_eq_true rfl, Nat.le_of_ble_eq_true rfl⟩ ⟨Nat.le_refl _, Nat.le_refl _⟩ (Nat.le_of_ble_eq_true rfl) dX9_debts_82 (fun _ H locs hP hD hS => ?_)
        cases hf
        exact hq () rfl hP hD hS dX9_debts_85
      have lpn14 : ∀ (n14 : Nat) (x2_11 : Int32) (x3_12 : Int32) (ls : Array Slot) (H : Heap) (locs : List Loc), f_X9_debts_L29_13 s0 p1 K7 n14 x2_11 x3_12 = some res → lv_has ls 5 [(0, .ref (a0 0)), (1, .int p1), (2, .int x2_11), (3, .int x3_12)] → gP g (Mo_c g a0 (Mo_w_thrown s0 (0 : Int32))) H → va_D A (Mo_c g a0 (Mo_w_thrown s0 (0 : Int32))) → va_S A s.heap H locs → W p l e rm_X9_debts s m args below meth c H locs 0 0 Q (F0 m 29 ls []) := by
        intro n14
        induction n14 with
        | zero => intro x2_11 x3_12 ls H locs hf hl hP hD hS; rw [f_X9_debts_L29_13] at hf; cases hf
        | succ n14 ihn14 =>
          intro x2_11 x3_12 ls H locs hf hl hP hD hS
          rw [f_X9_debts_L29_13] at hf
          refine lv_iload_n hx hb dX9_debts_29 rfl (lv_at hl 3 rfl) ?_
          refine lv_bipush hx hb dX9_debts_30 kcb_8 ?_
          refine lv_icmp_ge hx hb dX9_debts_32 (tgt := 80) rfl (fun h15 => ?_) (fun h15 => ?_)
          · have hf := gif_t h15 hf
            exact kK7 x2_11 ls H locs hf (lv_sub hl [0, 2] rfl) hP hD hS
          · have hf := gif_f h15 hf
            refine lv_iconst hx hb dX9_debts_35 kci_0 ?_
            refine lv_istore hx hb dX9_debts_36 hl (by decide) (lv' := [(4, .int (0 : Int32)), (0, .ref (a0 0)), (1, .int p1), (2, .int x2_11), (3, .int x3_12)]) rfl (fun ls hl => ?_)
            obtain ⟨K16, eK16, hf⟩ := gltd hf
            have kK16 : ∀ (x2_17 : Int32) (ls : Array Slot) (H : Heap) (locs : List Loc), K16 x2_17 = some res → lv_has ls 5 [(0, .ref (a0 0)), (1, .int p1), (2, .int x2_17), (3, .int x3_12)] → gP g (Mo_c g a0 (Mo_w_thrown s0 (0 : Int32))) H → va_D A (Mo_c g a0 (Mo_w_thrown s0 (0 : Int32))) → va_S A s.heap H locs → W p l e rm_X9_debts s m args below meth c H locs 0 0 Q (F0 m 74 ls []) := by
              intro x2_17 ls H locs hf hl hP hD hS
              rw [eK16] at hf
              refine lv_iinc hx hb dX9_debts_74 hl (k := 3) (x := x3_12) rfl (kinc_1 _) (by decide) (lv' := [(3, .int (x3_12 + (1 : Int32))), (0, .ref (a0 0)), (1, .int p1), (2, .int x2_17)]) rfl (fun ls hl => ?_)
              refine lv_goto hx hb dX9_debts_77 (tgt := 29) rfl ?_
              exact ihn14 x2_17 (x3_12 + (1 : Int32)) ls H locs hf (lv_sub hl [1, 2, 3, 0] rfl) hP hD hS
            have lpn21 : ∀ (n21 : Nat) (x2_18 : Int32) (x4_19 : Int32) (ls : Array Slot) (H : Heap) (locs : List Loc), f_X9_debts_L38_20 s0 p1 x3_12 K16 n21 x2_18 x4_19 = some res → lv_has ls 5 [(0, .ref (a0 0)), (1, .int p1), (2, .int x2_18), (3, .int x3_12), (4, .int x4_19)] → gP g (Mo_c g a0 (Mo_w_thrown s0 (0 : Int32))) H → va_D A (Mo_c g a0 (Mo_w_thrown s0 (0 : Int32))) → va_S A s.heap H locs → W p l e rm_X9_debts s m args below meth c H locs 0 0 Q (F0 m 38 ls []) := by
              intro n21
              induction n21 with
              | zero => intro x2_18 x4_19 ls H locs hf hl hP hD hS; rw [f_X9_debts_L38_20] at hf; cases hf
              | succ n21 ihn21 =>
                intro x2_18 x4_19 ls H locs hf hl hP hD hS
                rw [f_X9_debts_L38_20] at hf
                refine lv_iload hx hb dX9_debts_38 (lv_at hl 4 rfl) ?_
                refine lv_bipush hx hb dX9_debts_40 kcb_8 ?_
                refine lv_icmp_ge hx hb dX9_debts_42 (tgt := 74) rfl (fun h22 => ?_) (fun h22 => ?_)
                · have hf := gif_t h22 hf
                  exact kK16 x2_18 ls H locs hf (lv_sub hl [0, 1, 2, 3] rfl) hP hD hS
                · have hf := gif_f h22 hf
                  refine lv_iload_n hx hb dX9_debts_45 rfl (lv_at hl 2 rfl) ?_
                  refine lv_aload_n hx hb dX9_debts_46 rfl (lv_at hl 0 rfl) ?_
                  refine lv_iconst hx hb dX9_debts_47 kci_0 ?_
                  refine lv_iload_n hx hb dX9_debts_48 rfl (lv_at hl 1 rfl) ?_
                  refine lv_iload_n hx hb dX9_debts_49 rfl (lv_at hl 3 rfl) ?_
                  refine lv_iload hx hb dX9_debts_50 (lv_at hl 4 rfl) ?_
                  obtain ⟨r23, hc24, hf⟩ := gbd hf
                  refine gr_callS (As := [.int p1, .int x3_12, .int x4_19]) (rest := [.int (0 : Int32), .ref (a0 0), .int x2_18]) (st1 := [.int r23, .int (0 : Int32), .ref (a0 0), .int x2_18]) hE hl.1 ml_X9_233 (c_X9_netAt l g p1 x3_12 x4_19 r23 hc24) hZ hS hP [] rfl rfl rfl rfl ⟨rfl, rfl⟩ ⟨Nat.le_of_ble_eq_true rfl, Nat.le_of_ble_eq_true rfl⟩ ⟨Nat.le_refl _, Nat.le_refl _⟩ (Nat.le_of_ble_eq_true rfl) dX9_debts_52 ?_
                  obtain ⟨r25, hc26, hf⟩ := gbd hf
                  refine gr_callV (As := [.int (0 : Int32), .int r23]) (rest := [.int x2_18]) (st1 := [.int r25, .int x2_18]) hE hl.1 ml_X9_200 (c_X9_get l g a0 (Mo_w_thrown s0 (0 : Int32)) (0 : Int32) r23 r25 hc26) hZ hS hP [(0, 14)] rfl okX9 rfl rfl rfl rfl ⟨rfl, rfl⟩ ⟨Nat.le_of_ble_eq_true rfl, Nat.le_of_ble_eq_true rfl⟩ ⟨Nat.le_refl _, Nat.le_refl _⟩ (Nat.le_of_ble_eq_true rfl) dX9_debts_55 ?_
                  refine lv_if_ge hx hb dX9_debts_58 (tgt := 65) rfl (fun h27 => ?_) (fun h27 => ?_)
                  · have hf := gif_t h27 hf
                    refine lv_iconst hx hb dX9_debts_65 kci_0 ?_
                    refine lv_iadd hx hb dX9_debts_66 ?_
                    refine lv_istore_n hx hb dX9_debts_67 rfl hl (by decide) (lv' := [(2, .int (x2_18 + (0 : Int32))), (0, .ref (a0 0)), (1, .int p1), (3, .int x3_12), (4, .int x4_19)]) rfl (fun ls hl => ?_)
                    refine lv_iinc hx hb dX9_debts_68 hl (k := 4) (x := x4_19) rfl (kinc_1 _) (by decide) (lv' := [(4, .int (x4_19 + (1 : Int32))), (2, .int (x2_18 + (0 : Int32))), (0, .ref (a0 0)), (1, .int p1), (3, .int x3_12)]) rfl (fun ls hl => ?_)
                    refine lv_goto hx hb dX9_debts_71 (tgt := 38) rfl ?_
                    exact ihn21 (x2_18 + (0 : Int32)) (x4_19 + (1 : Int32)) ls H locs hf (lv_sub hl [2, 3, 1, 4, 0] rfl) hP hD hS
                  · have hf := gif_f h27 hf
                    refine lv_iconst hx hb dX9_debts_61 kci_1 ?_
                    refine lv_goto hx hb dX9_debts_62 (tgt := 66) rfl ?_
                    refine lv_iadd hx hb dX9_debts_66 ?_
                    refine lv_istore_n hx hb dX9_debts_67 rfl hl (by decide) (lv' := [(2, .int (x2_18 + (1 : Int32))), (0, .ref (a0 0)), (1, .int p1), (3, .int x3_12), (4, .int x4_19)]) rfl (fun ls hl => ?_)
                    refine lv_iinc hx hb dX9_debts_68 hl (k := 4) (x := x4_19) rfl (kinc_1 _) (by decide) (lv' := [(4, .int (x4_19 + (1 : Int32))), (2, .int (x2_18 + (1 : Int32))), (0, .ref (a0 0)), (1, .int p1), (3, .int x3_12)]) rfl (fun ls hl => ?_)
                    refine lv_goto hx hb dX9_debts_71 (tgt := 38) rfl ?_
                    exact ihn21 (x2_18 + (1 : Int32)) (x4_19 + (1 : Int32)) ls H locs hf (lv_sub hl [2, 3, 1, 4, 0] rfl) hP hD hS
            exact lpn21 10000 x2_11 (0 : Int32) ls H locs hf (lv_sub hl [1, 2, 3, 4, 0] rfl) hP hD hS
      exact lpn14 10000 (0 : Int32) (0 : Int32) ls H locs hf (lv_sub hl [2, 3, 1, 0] rfl) hP hD hS
    · have hf := gif_t h6 hf
      refine lv_aload_n hx hb dX9_debts_19 rfl (lv_at hl 0 rfl) ?_
      refine lv_iconst hx hb dX9_debts_20 kci_1 ?_
      obtain ⟨r28, hc29, hf⟩ := gbd hf
      refine gm_callV1 (As := [.int (1 : Int32)]) (rest := []) (st1 := fun _ => [.int (r28.1)]) (ws' := fun _ => (Mo_c g a0 (r28.2))) hE hl.1 ml_X9_61 (c_X9_refused l g a0 (Mo_w_thrown s0 (0 : Int32)) (1 : Int32) r28 hc29) hZ hP hD hS hA 0 14 rfl (fun _ => rfl) okX9 rfl rfl rfl (fun _ => rfl) ⟨rfl, rfl⟩ ⟨Nat.le_of_ble_eq_true rfl, Nat.le_of_ble_eq_true rfl⟩ ⟨Nat.le_refl _, Nat.le_refl _⟩ (Nat.le_of_ble_eq_true rfl) dX9_debts_21 (fun _ H locs hP hD hS => ?_)
      cases hf
      exact hq () rfl hP hD hS dX9_debts_24
theorem dX9_isRow_0 : decode cX9_isRow 0 = .ok (.aload_n 0, 1) := by decide +kernel
theorem dX9_isRow_1 : decode cX9_isRow 1 = .ok (.iload_n 1, 1) := by decide +kernel
theorem dX9_isRow_2 : decode cX9_isRow 2 = .ok (.invokevirtual 293, 3) := by decide +kernel
theorem dX9_isRow_5 : decode cX9_isRow 5 = .ok (.ifCond .eq 43, 3) := by decide +kernel
theorem dX9_isRow_8 : decode cX9_isRow 8 = .ok (.iload_n 2, 1) := by decide +kernel
theorem dX9_isRow_9 : decode cX9_isRow 9 = .ok (.iconst (-1), 1) := by decide +kernel
theorem dX9_isRow_10 : decode cX9_isRow 10 = .ok (.if_icmp .eq 11, 3) := by decide +kernel
theorem dX9_isRow_13 : decode cX9_isRow 13 = .ok (.aload_n 0, 1) := by decide +kernel
theorem dX9_isRow_14 : decode cX9_isRow 14 = .ok (.iload_n 2, 1) := by decide +kernel
theorem dX9_isRow_15 : decode cX9_isRow 15 = .ok (.invokevirtual 297, 3) := by decide +kernel
theorem dX9_isRow_18 : decode cX9_isRow 18 = .ok (.ifCond .eq 30, 3) := by decide +kernel
theorem dX9_isRow_21 : decode cX9_isRow 21 = .ok (.iload_n 3, 1) := by decide +kernel
theorem dX9_isRow_22 : decode cX9_isRow 22 = .ok (.iconst (-1), 1) := by decide +kernel
theorem dX9_isRow_23 : decode cX9_isRow 23 = .ok (.if_icmp .eq 11, 3) := by decide +kernel
theorem dX9_isRow_26 : decode cX9_isRow 26 = .ok (.aload_n 0, 1) := by decide +kernel
theorem dX9_isRow_27 : decode cX9_isRow 27 = .ok (.iload_n 3, 1) := by decide +kernel
theorem dX9_isRow_28 : decode cX9_isRow 28 = .ok (.invokevirtual 297, 3) := by decide +kernel
theorem dX9_isRow_31 : decode cX9_isRow 31 = .ok (.ifCond .eq 17, 3) := by decide +kernel
theorem dX9_isRow_34 : decode cX9_isRow 34 = .ok (.iload_n 2, 1) := by decide +kernel
theorem dX9_isRow_35 : decode cX9_isRow 35 = .ok (.iconst (-1), 1) := by decide +kernel
theorem dX9_isRow_36 : decode cX9_isRow 36 = .ok (.if_icmp .ne 8, 3) := by decide +kernel
theorem dX9_isRow_39 : decode cX9_isRow 39 = .ok (.iload_n 3, 1) := by decide +kernel
theorem dX9_isRow_40 : decode cX9_isRow 40 = .ok (.iconst (-1), 1) := by decide +kernel
theorem dX9_isRow_41 : decode cX9_isRow 41 = .ok (.if_icmp .eq 7, 3) := by decide +kernel
theorem dX9_isRow_44 : decode cX9_isRow 44 = .ok (.iconst 1, 1) := by decide +kernel
theorem dX9_isRow_45 : decode cX9_isRow 45 = .ok (.goto 4, 3) := by decide +kernel
theorem dX9_isRow_48 : decode cX9_isRow 48 = .ok (.iconst 0, 1) := by decide +kernel
theorem dX9_isRow_49 : decode cX9_isRow 49 = .ok (.ireturn, 1) := by decide +kernel
def f_X9_isRow (s0 : MoT) (p1 : Int32) (p2 : Int32) (p3 : Int32) : Option (Int32) :=
  (f_X9_isKey s0 p1).bind fun r1 =>
  if r1 = 0 then some ((0 : Int32))
  else glt (fun (_ : Unit) => glt (fun (_ : Unit) => if p2 = (-1 : Int32) then if p3 = (-1 : Int32) then some ((0 : Int32))
  else some ((1 : Int32))
  else some ((1 : Int32))) fun J5 =>
  if p3 = (-1 : Int32) then J5 ()
  else (f_X9_isValue s0 p3).bind fun r9 =>
  if r9 = 0 then some ((0 : Int32))
  else J5 ()) fun J4 =>
  if p2 = (-1 : Int32) then J4 ()
  else (f_X9_isValue s0 p2).bind fun r13 =>
  if r13 = 0 then some ((0 : Int32))
  else J4 ()
abbrev rm_X9_isRow : Room := { frames := 2, cells := 0, slots := 0, locals := 43 }
set_option maxHeartbeats 4000000 in
set_option maxRecDepth 100000 in
theorem c_X9_isRow (l : Launch) (g : GK) (a0 : Nat → Nat) (s0 : MoT) (p1 : Int32) (p2 : Int32) (p3 : Int32) (res : (Int32)) (hf : f_X9_isRow s0 p1 p2 p3 = some res) : gR l yX9_isRow cX9_isRow 4 (some .boolean) rm_X9_isRow g [.ref (a0 0), .int p1, .int p2, .int p3] (Mo_c g a0 s0) (some (.int res)) := by
  refine gR_introZ RX9 (by decide) rfl (Nat.le_of_ble_eq_true rfl) (fun p e s m args below meth c Q H locs ls hE hP hZ hS hq hl => ?_)
  have hl : lv_has ls 4 [(0, .ref (a0 0)), (1, .int p1), (2, .int p2), (3, .int p3)] := hl
  have hx := hE.1
  have hb := hE.2.1
  rw [f_X9_isRow] at hf
  refine lv_aload_n hx hb dX9_isRow_0 rfl (lv_at hl 0 rfl) ?_
  refine lv_iload_n hx hb dX9_isRow_1 rfl (lv_at hl 1 rfl) ?_
  obtain ⟨r1, hc2, hf⟩ := gbd hf
  refine gr_callV (As := [.int p1]) (rest := []) (st1 := [.int r1]) hE hl.1 ml_X9_293 (c_X9_isKey l g a0 s0 p1 r1 hc2) hZ hS hP [(0, 14)] rfl okX9 rfl rfl rfl rfl ⟨rfl, rfl⟩ ⟨Nat.le_of_ble_eq_true rfl, Nat.le_of_ble_eq_true rfl⟩ ⟨Nat.le_refl _, Nat.le_refl _⟩ (Nat.le_of_ble_eq_true rfl) dX9_isRow_2 ?_
  refine lv_if_eq hx hb dX9_isRow_5 (tgt := 48) rfl (fun h3 => ?_) (fun h3 => ?_)
  · have hf := gif_t h3 hf
    refine lv_iconst hx hb dX9_isRow_48 kci_0 ?_
    cases hf
    exact hq (by decide) rfl dX9_isRow_49
  · have hf := gif_f h3 hf
    refine lv_iload_n hx hb dX9_isRow_8 rfl (lv_at hl 2 rfl) ?_
    refine lv_iconst hx hb dX9_isRow_9 kci_m1 ?_
    obtain ⟨J4, eJ4, hf⟩ := gltd hf
    have kJ4 : ∀ (_ : Unit) (ls : Array Slot), J4 () = some res → lv_has ls 4 [(0, .ref (a0 0)), (2, .int p2), (3, .int p3)] → W p l e rm_X9_isRow s m args below meth c H locs 0 0 Q (F0 m 21 ls []) := by
      intro _ ls hf hl
      rw [eJ4] at hf
      refine lv_iload_n hx hb dX9_isRow_21 rfl (lv_at hl 2 rfl) ?_
      refine lv_iconst hx hb dX9_isRow_22 kci_m1 ?_
      obtain ⟨J5, eJ5, hf⟩ := gltd hf
      have kJ5 : ∀ (_ : Unit) (ls : Array Slot), J5 () = some res → lv_has ls 4 [(2, .int p2), (3, .int p3)] → W p l e rm_X9_isRow s m args below meth c H locs 0 0 Q (F0 m 34 ls []) := by
        intro _ ls hf hl
        rw [eJ5] at hf
        refine lv_iload_n hx hb dX9_isRow_34 rfl (lv_at hl 0 rfl) ?_
        refine lv_iconst hx hb dX9_isRow_35 kci_m1 ?_
        refine lv_icmp_ne hx hb dX9_isRow_36 (tgt := 44) rfl (fun h6 => ?_) (fun h6 => ?_)
        · have hf := gif_f h6 hf
          refine lv_iconst hx hb dX9_isRow_44 kci_1 ?_
          refine lv_goto hx hb dX9_isRow_45 (tgt := 49) rfl ?_
          cases hf
          exact hq (by decide) rfl dX9_isRow_49
        · have hf := gif_t h6 hf
          refine lv_iload_n hx hb dX9_isRow_39 rfl (lv_at hl 1 rfl) ?_
          refine lv_iconst hx hb dX9_isRow_40 kci_m1 ?_
          refine lv_icmp_eq hx hb dX9_isRow_41 (tgt := 48) rfl (fun h7 => ?_) (fun h7 => ?_)
          · have hf := gif_t h7 hf
            refine lv_iconst hx hb dX9_isRow_48 kci_0 ?_
            cases hf
            exact hq (by decide) rfl dX9_isRow_49
          · have hf := gif_f h7 hf
            refine lv_iconst hx hb dX9_isRow_44 kci_1 ?_
            refine lv_goto hx hb dX9_isRow_45 (tgt := 49) rfl ?_
            cases hf
            exact hq (by decide) rfl dX9_isRow_49
      refine lv_icmp_eq hx hb dX9_isRow_23 (tgt := 34) rfl (fun h8 => ?_) (fun h8 => ?_)
      · have hf := gif_t h8 hf
        exact kJ5 () ls hf (lv_sub hl [1, 2] rfl)
      · have hf := gif_f h8 hf
        refine lv_aload_n hx hb dX9_isRow_26 rfl (lv_at hl 0 rfl) ?_
        refine lv_iload_n hx hb dX9_isRow_27 rfl (lv_at hl 2 rfl) ?_
        obtain ⟨r9, hc10, hf⟩ := gbd hf
        refine gr_callV (As := [.int p3]) (rest := []) (st1 := [.int r9]) hE hl.1 ml_X9_297 (c_X9_isValue l g a0 s0 p3 r9 hc10) hZ hS hP [(0, 14)] rfl okX9 rfl rfl rfl rfl ⟨rfl, rfl⟩ ⟨Nat.le_of_ble_eq_true rfl, Nat.le_of_ble_eq_true rfl⟩ ⟨Nat.le_refl _, Nat.le_refl _⟩ (Nat.le_of_ble_eq_true rfl) dX9_isRow_28 ?_
        refine lv_if_eq hx hb dX9_isRow_31 (tgt := 48) rfl (fun h11 => ?_) (fun h11 => ?_)
        · have hf := gif_t h11 hf
          refine lv_iconst hx hb dX9_isRow_48 kci_0 ?_
          cases hf
          exact hq (by decide) rfl dX9_isRow_49
        · have hf := gif_f h11 hf
          exact kJ5 () ls hf (lv_sub hl [1, 2] rfl)
    refine lv_icmp_eq hx hb dX9_isRow_10 (tgt := 21) rfl (fun h12 => ?_) (fun h12 => ?_)
    · have hf := gif_t h12 hf
      exact kJ4 () ls hf (lv_sub hl [0, 2, 3] rfl)
    · have hf := gif_f h12 hf
      refine lv_aload_n hx hb dX9_isRow_13 rfl (lv_at hl 0 rfl) ?_
      refine lv_iload_n hx hb dX9_isRow_14 rfl (lv_at hl 2 rfl) ?_
      obtain ⟨r13, hc14, hf⟩ := gbd hf
      refine gr_callV (As := [.int p2]) (rest := []) (st1 := [.int r13]) hE hl.1 ml_X9_297 (c_X9_isValue l g a0 s0 p2 r13 hc14) hZ hS hP [(0, 14)] rfl okX9 rfl rfl rfl rfl ⟨rfl, rfl⟩ ⟨Nat.le_of_ble_eq_true rfl, Nat.le_of_ble_eq_true rfl⟩ ⟨Nat.le_refl _, Nat.le_refl _⟩ (Nat.le_of_ble_eq_true rfl) dX9_isRow_15 ?_
      refine lv_if_eq hx hb dX9_isRow_18 (tgt := 48) rfl (fun h15 => ?_) (fun h15 => ?_)
      · have hf := gif_t h15 hf
        refine lv_iconst hx hb dX9_isRow_48 kci_0 ?_
        cases hf
        exact hq (by decide) rfl dX9_isRow_49
      · have hf := gif_f h15 hf
        exact kJ4 () ls hf (lv_sub hl [0, 2, 3] rfl)
theorem dX9_place_0 : decode cX9_place 0 = .ok (.iload_n 0, 1) := by decide +kernel
theorem dX9_place_1 : decode cX9_place 1 = .ok (.iconst (-1), 1) := by decide +kernel
theorem dX9_place_2 : decode cX9_place 2 = .ok (.if_icmp .ne 8, 3) := by decide +kernel
theorem dX9_place_5 : decode cX9_place 5 = .ok (.bipush 8, 2) := by decide +kernel
theorem dX9_place_7 : decode cX9_place 7 = .ok (.goto 4, 3) := by decide +kernel
theorem dX9_place_10 : decode cX9_place 10 = .ok (.iload_n 0, 1) := by decide +kernel
theorem dX9_place_11 : decode cX9_place 11 = .ok (.ireturn, 1) := by decide +kernel
def f_X9_place (p1 : Int32) : Option (Int32) :=
  if p1 = (-1 : Int32) then some ((8 : Int32))
  else some (p1)
abbrev rm_X9_place : Room := { frames := 0, cells := 0, slots := 0, locals := 0 }
set_option maxHeartbeats 4000000 in
set_option maxRecDepth 100000 in
theorem c_X9_place (l : Launch) (g : GK) (p1 : Int32) (res : (Int32)) (hf : f_X9_place p1 = some res) : gR l yX9_place cX9_place 1 (some .int) rm_X9_place g [.int p1] [] (some (.int res)) := by
  refine gR_introI RX9 (by decide) rfl (Nat.le_of_ble_eq_true rfl) (fun p e s m args below meth c Q H locs ls hE hP hZ hS hq hl => ?_)
  have hl : lv_has ls 1 [(0, .int p1)] := hl
  have hx := hE.1
  have hb := hE.2.1
  rw [f_X9_place] at hf
  refine lv_iload_n hx hb dX9_place_0 rfl (lv_at hl 0 rfl) ?_
  refine lv_iconst hx hb dX9_place_1 kci_m1 ?_
  refine lv_icmp_ne hx hb dX9_place_2 (tgt := 10) rfl (fun h1 => ?_) (fun h1 => ?_)
  · have hf := gif_f h1 hf
    refine lv_iload_n hx hb dX9_place_10 rfl (lv_at hl 0 rfl) ?_
    cases hf
    exact hq rfl dX9_place_11
  · have hf := gif_t h1 hf
    refine lv_bipush hx hb dX9_place_5 kcb_8 ?_
    refine lv_goto hx hb dX9_place_7 (tgt := 11) rfl ?_
    cases hf
    exact hq rfl dX9_place_11
theorem dX9_sent_0 : decode cX9_sent 0 = .ok (.aload_n 0, 1) := by decide +kernel
theorem dX9_sent_1 : decode cX9_sent 1 = .ok (.iconst 0, 1) := by decide +kernel
theorem dX9_sent_2 : decode cX9_sent 2 = .ok (.putfield 55, 3) := by decide +kernel
theorem dX9_sent_5 : decode cX9_sent 5 = .ok (.aload_n 0, 1) := by decide +kernel
theorem dX9_sent_6 : decode cX9_sent 6 = .ok (.iload_n 1, 1) := by decide +kernel
theorem dX9_sent_7 : decode cX9_sent 7 = .ok (.iload_n 2, 1) := by decide +kernel
theorem dX9_sent_8 : decode cX9_sent 8 = .ok (.iload_n 3, 1) := by decide +kernel
theorem dX9_sent_9 : decode cX9_sent 9 = .ok (.invokevirtual 309, 3) := by decide +kernel
theorem dX9_sent_12 : decode cX9_sent 12 = .ok (.ifCond .eq 24, 3) := by decide +kernel
theorem dX9_sent_15 : decode cX9_sent 15 = .ok (.aload_n 0, 1) := by decide +kernel
theorem dX9_sent_16 : decode cX9_sent 16 = .ok (.aload_n 0, 1) := by decide +kernel
theorem dX9_sent_17 : decode cX9_sent 17 = .ok (.iconst 0, 1) := by decide +kernel
theorem dX9_sent_18 : decode cX9_sent 18 = .ok (.iload_n 1, 1) := by decide +kernel
theorem dX9_sent_19 : decode cX9_sent 19 = .ok (.iload_n 2, 1) := by decide +kernel
theorem dX9_sent_20 : decode cX9_sent 20 = .ok (.invokestatic 312, 3) := by decide +kernel
theorem dX9_sent_23 : decode cX9_sent 23 = .ok (.iload_n 3, 1) := by decide +kernel
theorem dX9_sent_24 : decode cX9_sent 24 = .ok (.invokestatic 312, 3) := by decide +kernel
theorem dX9_sent_27 : decode cX9_sent 27 = .ok (.invokevirtual 315, 3) := by decide +kernel
theorem dX9_sent_30 : decode cX9_sent 30 = .ok (.invokevirtual 230, 3) := by decide +kernel
theorem dX9_sent_33 : decode cX9_sent 33 = .ok (.goto 8, 3) := by decide +kernel
theorem dX9_sent_36 : decode cX9_sent 36 = .ok (.aload_n 0, 1) := by decide +kernel
theorem dX9_sent_37 : decode cX9_sent 37 = .ok (.iconst 1, 1) := by decide +kernel
theorem dX9_sent_38 : decode cX9_sent 38 = .ok (.invokevirtual 306, 3) := by decide +kernel
theorem dX9_sent_41 : decode cX9_sent 41 = .ok (.ireturn, 1) := by decide +kernel
def f_X9_sent (s0 : MoT) (p1 : Int32) (p2 : Int32) (p3 : Int32) : Option (Int32 × MoT) :=
  (f_X9_isRow (Mo_w_thrown s0 (0 : Int32)) p1 p2 p3).bind fun r1 =>
  if r1 = 0 then (f_X9_refusedLow (Mo_w_thrown s0 (0 : Int32)) (1 : Int32)).bind fun r4 =>
  some ((r4.1), (r4.2))
  else (f_X9_place p2).bind fun r6 =>
  (f_X9_place p3).bind fun r8 =>
  (f_X9_sentOf (Mo_w_thrown s0 (0 : Int32)) (0 : Int32) p1 r6 r8).bind fun r10 =>
  (f_X9_good (Mo_w_thrown s0 (0 : Int32)) r10).bind fun r12 =>
  some ((r12.1), (r12.2))
abbrev rm_X9_sent : Room := { frames := 6, cells := 0, slots := 0, locals := 144 }
set_option maxHeartbeats 4000000 in
set_option maxRecDepth 100000 in
theorem c_X9_sent (l : Launch) (g : GK) (a0 : Nat → Nat) (s0 : MoT) (p1 : Int32) (p2 : Int32) (p3 : Int32) (res : (Int32 × MoT)) (hf : f_X9_sent s0 p1 p2 p3 = some res) : gM l yX9_sent cX9_sent 4 (some .int) rm_X9_sent g [.ref (a0 0), .int p1, .int p2, .int p3] (Mo_c g a0 s0) (fun _ : Unit => (some (.int (res.1)))) (fun _ => (Mo_c g a0 (res.2))) 0 0 := by
  refine gM_introI RX9 (by decide) rfl (Nat.le_of_ble_eq_true rfl) (fun p e s m args below meth c Q H locs ls A hE hZ hA hP hD hS hq hl => ?_)
  have hl : lv_has ls 4 [(0, .ref (a0 0)), (1, .int p1), (2, .int p2), (3, .int p3)] := hl
  have hx := hE.1
  have hb := hE.2.1
  rw [f_X9_sent] at hf
  refine lv_aload_n hx hb dX9_sent_0 rfl (lv_at hl 0 rfl) ?_
  refine lv_iconst hx hb dX9_sent_1 kci_0 ?_
  refine g_put hE okX9 fl_X9_55 hP hD hS 0 rfl rfl rfl rfl (Nat.le_of_ble_eq_true rfl) (Mo_c g a0 (Mo_w_thrown s0 (0 : Int32))) rfl dX9_sent_2 (fun H locs hP hD hS => ?_)
  refine lv_aload_n hx hb dX9_sent_5 rfl (lv_at hl 0 rfl) ?_
  refine lv_iload_n hx hb dX9_sent_6 rfl (lv_at hl 1 rfl) ?_
  refine lv_iload_n hx hb dX9_sent_7 rfl (lv_at hl 2 rfl) ?_
  refine lv_iload_n hx hb dX9_sent_8 rfl (lv_at hl 3 rfl) ?_
  obtain ⟨r1, hc2, hf⟩ := gbd hf
  refine gr_callV (As := [.int p1, .int p2, .int p3]) (rest := []) (st1 := [.int r1]) hE hl.1 ml_X9_309 (c_X9_isRow l g a0 (Mo_w_thrown s0 (0 : Int32)) p1 p2 p3 r1 hc2) hZ hS hP [(0, 14)] rfl okX9 rfl rfl rfl rfl ⟨rfl, rfl⟩ ⟨Nat.le_of_ble_eq_true rfl, Nat.le_of_ble_eq_true rfl⟩ ⟨Nat.le_refl _, Nat.le_refl _⟩ (Nat.le_of_ble_eq_true rfl) dX9_sent_9 ?_
  refine lv_if_eq hx hb dX9_sent_12 (tgt := 36) rfl (fun h3 => ?_) (fun h3 => ?_)
  · have hf := gif_t h3 hf
    refine lv_aload_n hx hb dX9_sent_36 rfl (lv_at hl 0 rfl) ?_
    refine lv_iconst hx hb dX9_sent_37 kci_1 ?_
    obtain ⟨r4, hc5, hf⟩ := gbd hf
    refine gm_callV1 (As := [.int (1 : Int32)]) (rest := []) (st1 := fun _ => [.int (r4.1)]) (ws' := fun _ => (Mo_c g a0 (r4.2))) hE hl.1 ml_X9_306 (c_X9_refusedLow l g a0 (Mo_w_thrown s0 (0 : Int32)) (1 : Int32) r4 hc5) hZ hP hD hS hA 0 14 rfl (fun _ => rfl) okX9 rfl rfl rfl (fun _ => rfl) ⟨rfl, rfl⟩ ⟨Nat.le_of_ble_eq_true rfl, Nat.le_of_ble_eq_true rfl⟩ ⟨Nat.le_refl _, Nat.le_refl _⟩ (Nat.le_of_ble_eq_true rfl) dX9_sent_38 (fun _ H locs hP hD hS => ?_)
    cases hf
    exact hq () rfl hP hD hS dX9_sent_41
  · have hf := gif_f h3 hf
    refine lv_aload_n hx hb dX9_sent_15 rfl (lv_at hl 0 rfl) ?_
    refine lv_aload_n hx hb dX9_sent_16 rfl (lv_at hl 0 rfl) ?_
    refine lv_iconst hx hb dX9_sent_17 kci_0 ?_
    refine lv_iload_n hx hb dX9_sent_18 rfl (lv_at hl 1 rfl) ?_
    refine lv_iload_n hx hb dX9_sent_19 rfl (lv_at hl 2 rfl) ?_
    obtain ⟨r6, hc7, hf⟩ := gbd hf
    refine gr_callS (As := [.int p2]) (rest := [.int p1, .int (0 : Int32), .ref (a0 0), .ref (a0 0)]) (st1 := [.int r6, .int p1, .int (0 : Int32), .ref (a0 0), .ref (a0 0)]) hE hl.1 ml_X9_312 (c_X9_place l g p2 r6 hc7) hZ hS hP [] rfl rfl rfl rfl ⟨rfl, rfl⟩ ⟨Nat.le_of_ble_eq_true rfl, Nat.le_of_ble_eq_true rfl⟩ ⟨Nat.le_refl _, Nat.le_refl _⟩ (Nat.le_of_ble_eq_true rfl) dX9_sent_20 ?_
    refine lv_iload_n hx hb dX9_sent_23 rfl (lv_at hl 3 rfl) ?_
    obtain ⟨r8, hc9, hf⟩ := gbd hf
    refine gr_callS (As := [.int p3]) (rest := [.int r6, .int p1, .int (0 : Int32), .ref (a0 0), .ref (a0 0)]) (st1 := [.int r8, .int r6, .int p1, .int (0 : Int32), .ref (a0 0), .ref (a0 0)]) hE hl.1 ml_X9_312 (c_X9_place l g p3 r8 hc9) hZ hS hP [] rfl rfl rfl rfl ⟨rfl, rfl⟩ ⟨Nat.le_of_ble_eq_true rfl, Nat.le_of_ble_eq_true rfl⟩ ⟨Nat.le_refl _, Nat.le_refl _⟩ (Nat.le_of_ble_eq_true rfl) dX9_sent_24 ?_
    obtain ⟨r10, hc11, hf⟩ := gbd hf
    refine gr_callV (As := [.int (0 : Int32), .int p1, .int r6, .int r8]) (rest := [.ref (a0 0)]) (st1 := [.int r10, .ref (a0 0)]) hE hl.1 ml_X9_315 (c_X9_sentOf l g a0 (Mo_w_thrown s0 (0 : Int32)) (0 : Int32) p1 r6 r8 r10 hc11) hZ hS hP [(0, 14)] rfl okX9 rfl rfl rfl rfl ⟨rfl, rfl⟩ ⟨Nat.le_of_ble_eq_true rfl, Nat.le_of_ble_eq_true rfl⟩ ⟨Nat.le_refl _, Nat.le_refl _⟩ (Nat.le_of_ble_eq_true rfl) dX9_sent_27 ?_
    obtain ⟨r12, hc13, hf⟩ := gbd hf
    refine gm_callV1 (As := [.int r10]) (rest := []) (st1 := fun _ => [.int (r12.1)]) (ws' := fun _ => (Mo_c g a0 (r12.2))) hE hl.1 ml_X9_230 (c_X9_good l g a0 (Mo_w_thrown s0 (0 : Int32)) r10 r12 hc13) hZ hP hD hS hA 0 14 rfl (fun _ => rfl) okX9 rfl rfl rfl (fun _ => rfl) ⟨rfl, rfl⟩ ⟨Nat.le_of_ble_eq_true rfl, Nat.le_of_ble_eq_true rfl⟩ ⟨Nat.le_refl _, Nat.le_refl _⟩ (Nat.le_of_ble_eq_true rfl) dX9_sent_30 (fun _ H locs hP hD hS => ?_)
    refine lv_goto hx hb dX9_sent_33 (tgt := 41) rfl ?_
    cases hf
    exact hq () rfl hP hD hS dX9_sent_41
theorem dX9_join_0 : decode cX9_join 0 = .ok (.aload_n 0, 1) := by decide +kernel
theorem dX9_join_1 : decode cX9_join 1 = .ok (.iconst 0, 1) := by decide +kernel
theorem dX9_join_2 : decode cX9_join 2 = .ok (.putfield 55, 3) := by decide +kernel
theorem dX9_join_5 : decode cX9_join 5 = .ok (.aload_n 0, 1) := by decide +kernel
theorem dX9_join_6 : decode cX9_join 6 = .ok (.iload_n 1, 1) := by decide +kernel
theorem dX9_join_7 : decode cX9_join 7 = .ok (.iload_n 2, 1) := by decide +kernel
theorem dX9_join_8 : decode cX9_join 8 = .ok (.iload_n 3, 1) := by decide +kernel
theorem dX9_join_9 : decode cX9_join 9 = .ok (.invokevirtual 309, 3) := by decide +kernel
theorem dX9_join_12 : decode cX9_join 12 = .ok (.ifCond .eq 24, 3) := by decide +kernel
theorem dX9_join_15 : decode cX9_join 15 = .ok (.aload_n 0, 1) := by decide +kernel
theorem dX9_join_16 : decode cX9_join 16 = .ok (.aload_n 0, 1) := by decide +kernel
theorem dX9_join_17 : decode cX9_join 17 = .ok (.iconst 0, 1) := by decide +kernel
theorem dX9_join_18 : decode cX9_join 18 = .ok (.iload_n 1, 1) := by decide +kernel
theorem dX9_join_19 : decode cX9_join 19 = .ok (.iload_n 2, 1) := by decide +kernel
theorem dX9_join_20 : decode cX9_join 20 = .ok (.invokestatic 312, 3) := by decide +kernel
theorem dX9_join_23 : decode cX9_join 23 = .ok (.iload_n 3, 1) := by decide +kernel
theorem dX9_join_24 : decode cX9_join 24 = .ok (.invokestatic 312, 3) := by decide +kernel
theorem dX9_join_27 : decode cX9_join 27 = .ok (.invokevirtual 251, 3) := by decide +kernel
theorem dX9_join_30 : decode cX9_join 30 = .ok (.invokevirtual 230, 3) := by decide +kernel
theorem dX9_join_33 : decode cX9_join 33 = .ok (.goto 8, 3) := by decide +kernel
theorem dX9_join_36 : decode cX9_join 36 = .ok (.aload_n 0, 1) := by decide +kernel
theorem dX9_join_37 : decode cX9_join 37 = .ok (.iconst 1, 1) := by decide +kernel
theorem dX9_join_38 : decode cX9_join 38 = .ok (.invokevirtual 61, 3) := by decide +kernel
theorem dX9_join_41 : decode cX9_join 41 = .ok (.ireturn, 1) := by decide +kernel
def f_X9_join (s0 : MoT) (p1 : Int32) (p2 : Int32) (p3 : Int32) : Option (Int32 × MoT) :=
  (f_X9_isRow (Mo_w_thrown s0 (0 : Int32)) p1 p2 p3).bind fun r1 =>
  if r1 = 0 then (f_X9_refused (Mo_w_thrown s0 (0 : Int32)) (1 : Int32)).bind fun r4 =>
  some ((r4.1), (r4.2))
  else (f_X9_place p2).bind fun r6 =>
  (f_X9_place p3).bind fun r8 =>
  (f_X9_joined (Mo_w_thrown s0 (0 : Int32)) (0 : Int32) p1 r6 r8).bind fun r10 =>
  (f_X9_good (Mo_w_thrown s0 (0 : Int32)) r10).bind fun r12 =>
  some ((r12.1), (r12.2))
abbrev rm_X9_join : Room := { frames := 5, cells := 0, slots := 0, locals := 120 }
set_option maxHeartbeats 4000000 in
set_option maxRecDepth 100000 in
theorem c_X9_join (l : Launch) (g : GK) (a0 : Nat → Nat) (s0 : MoT) (p1 : Int32) (p2 : Int32) (p3 : Int32) (res : (Int32 × MoT)) (hf : f_X9_join s0 p1 p2 p3 = some res) : gM l yX9_join cX9_join 4 (some .int) rm_X9_join g [.ref (a0 0), .int p1, .int p2, .int p3] (Mo_c g a0 s0) (fun _ : Unit => (some (.int (res.1)))) (fun _ => (Mo_c g a0 (res.2))) 0 0 := by
  refine gM_introI RX9 (by decide) rfl (Nat.le_of_ble_eq_true rfl) (fun p e s m args below meth c Q H locs ls A hE hZ hA hP hD hS hq hl => ?_)
  have hl : lv_has ls 4 [(0, .ref (a0 0)), (1, .int p1), (2, .int p2), (3, .int p3)] := hl
  have hx := hE.1
  have hb := hE.2.1
  rw [f_X9_join] at hf
  refine lv_aload_n hx hb dX9_join_0 rfl (lv_at hl 0 rfl) ?_
  refine lv_iconst hx hb dX9_join_1 kci_0 ?_
  refine g_put hE okX9 fl_X9_55 hP hD hS 0 rfl rfl rfl rfl (Nat.le_of_ble_eq_true rfl) (Mo_c g a0 (Mo_w_thrown s0 (0 : Int32))) rfl dX9_join_2 (fun H locs hP hD hS => ?_)
  refine lv_aload_n hx hb dX9_join_5 rfl (lv_at hl 0 rfl) ?_
  refine lv_iload_n hx hb dX9_join_6 rfl (lv_at hl 1 rfl) ?_
  refine lv_iload_n hx hb dX9_join_7 rfl (lv_at hl 2 rfl) ?_
  refine lv_iload_n hx hb dX9_join_8 rfl (lv_at hl 3 rfl) ?_
  obtain ⟨r1, hc2, hf⟩ := gbd hf
  refine gr_callV (As := [.int p1, .int p2, .int p3]) (rest := []) (st1 := [.int r1]) hE hl.1 ml_X9_309 (c_X9_isRow l g a0 (Mo_w_thrown s0 (0 : Int32)) p1 p2 p3 r1 hc2) hZ hS hP [(0, 14)] rfl okX9 rfl rfl rfl rfl ⟨rfl, rfl⟩ ⟨Nat.le_of_ble_eq_true rfl, Nat.le_of_ble_eq_true rfl⟩ ⟨Nat.le_refl _, Nat.le_refl _⟩ (Nat.le_of_ble_eq_true rfl) dX9_join_9 ?_
  refine lv_if_eq hx hb dX9_join_12 (tgt := 36) rfl (fun h3 => ?_) (fun h3 => ?_)
  · have hf := gif_t h3 hf
    refine lv_aload_n hx hb dX9_join_36 rfl (lv_at hl 0 rfl) ?_
    refine lv_iconst hx hb dX9_join_37 kci_1 ?_
    obtain ⟨r4, hc5, hf⟩ := gbd hf
    refine gm_callV1 (As := [.int (1 : Int32)]) (rest := []) (st1 := fun _ => [.int (r4.1)]) (ws' := fun _ => (Mo_c g a0 (r4.2))) hE hl.1 ml_X9_61 (c_X9_refused l g a0 (Mo_w_thrown s0 (0 : Int32)) (1 : Int32) r4 hc5) hZ hP hD hS hA 0 14 rfl (fun _ => rfl) okX9 rfl rfl rfl (fun _ => rfl) ⟨rfl, rfl⟩ ⟨Nat.le_of_ble_eq_true rfl, Nat.le_of_ble_eq_true rfl⟩ ⟨Nat.le_refl _, Nat.le_refl _⟩ (Nat.le_of_ble_eq_true rfl) dX9_join_38 (fun _ H locs hP hD hS => ?_)
    cases hf
    exact hq () rfl hP hD hS dX9_join_41
  · have hf := gif_f h3 hf
    refine lv_aload_n hx hb dX9_join_15 rfl (lv_at hl 0 rfl) ?_
    refine lv_aload_n hx hb dX9_join_16 rfl (lv_at hl 0 rfl) ?_
    refine lv_iconst hx hb dX9_join_17 kci_0 ?_
    refine lv_iload_n hx hb dX9_join_18 rfl (lv_at hl 1 rfl) ?_
    refine lv_iload_n hx hb dX9_join_19 rfl (lv_at hl 2 rfl) ?_
    obtain ⟨r6, hc7, hf⟩ := gbd hf
    refine gr_callS (As := [.int p2]) (rest := [.int p1, .int (0 : Int32), .ref (a0 0), .ref (a0 0)]) (st1 := [.int r6, .int p1, .int (0 : Int32), .ref (a0 0), .ref (a0 0)]) hE hl.1 ml_X9_312 (c_X9_place l g p2 r6 hc7) hZ hS hP [] rfl rfl rfl rfl ⟨rfl, rfl⟩ ⟨Nat.le_of_ble_eq_true rfl, Nat.le_of_ble_eq_true rfl⟩ ⟨Nat.le_refl _, Nat.le_refl _⟩ (Nat.le_of_ble_eq_true rfl) dX9_join_20 ?_
    refine lv_iload_n hx hb dX9_join_23 rfl (lv_at hl 3 rfl) ?_
    obtain ⟨r8, hc9, hf⟩ := gbd hf
    refine gr_callS (As := [.int p3]) (rest := [.int r6, .int p1, .int (0 : Int32), .ref (a0 0), .ref (a0 0)]) (st1 := [.int r8, .int r6, .int p1, .int (0 : Int32), .ref (a0 0), .ref (a0 0)]) hE hl.1 ml_X9_312 (c_X9_place l g p3 r8 hc9) hZ hS hP [] rfl rfl rfl rfl ⟨rfl, rfl⟩ ⟨Nat.le_of_ble_eq_true rfl, Nat.le_of_ble_eq_true rfl⟩ ⟨Nat.le_refl _, Nat.le_refl _⟩ (Nat.le_of_ble_eq_true rfl) dX9_join_24 ?_
    obtain ⟨r10, hc11, hf⟩ := gbd hf
    refine gr_callV (As := [.int (0 : Int32), .int p1, .int r6, .int r8]) (rest := [.ref (a0 0)]) (st1 := [.int r10, .ref (a0 0)]) hE hl.1 ml_X9_251 (c_X9_joined l g a0 (Mo_w_thrown s0 (0 : Int32)) (0 : Int32) p1 r6 r8 r10 hc11) hZ hS hP [(0, 14)] rfl okX9 rfl rfl rfl rfl ⟨rfl, rfl⟩ ⟨Nat.le_of_ble_eq_true rfl, Nat.le_of_ble_eq_true rfl⟩ ⟨Nat.le_refl _, Nat.le_refl _⟩ (Nat.le_of_ble_eq_true rfl) dX9_join_27 ?_
    obtain ⟨r12, hc13, hf⟩ := gbd hf
    refine gm_callV1 (As := [.int r10]) (rest := []) (st1 := fun _ => [.int (r12.1)]) (ws' := fun _ => (Mo_c g a0 (r12.2))) hE hl.1 ml_X9_230 (c_X9_good l g a0 (Mo_w_thrown s0 (0 : Int32)) r10 r12 hc13) hZ hP hD hS hA 0 14 rfl (fun _ => rfl) okX9 rfl rfl rfl (fun _ => rfl) ⟨rfl, rfl⟩ ⟨Nat.le_of_ble_eq_true rfl, Nat.le_of_ble_eq_true rfl⟩ ⟨Nat.le_refl _, Nat.le_refl _⟩ (Nat.le_of_ble_eq_true rfl) dX9_join_30 (fun _ H locs hP hD hS => ?_)
    refine lv_goto hx hb dX9_join_33 (tgt := 41) rfl ?_
    cases hf
    exact hq () rfl hP hD hS dX9_join_41
theorem dX9_closed_0 : decode cX9_closed 0 = .ok (.aload_n 0, 1) := by decide +kernel
theorem dX9_closed_1 : decode cX9_closed 1 = .ok (.iconst 0, 1) := by decide +kernel
theorem dX9_closed_2 : decode cX9_closed 2 = .ok (.putfield 55, 3) := by decide +kernel
theorem dX9_closed_5 : decode cX9_closed 5 = .ok (.aload_n 0, 1) := by decide +kernel
theorem dX9_closed_6 : decode cX9_closed 6 = .ok (.iload_n 1, 1) := by decide +kernel
theorem dX9_closed_7 : decode cX9_closed 7 = .ok (.iload_n 2, 1) := by decide +kernel
theorem dX9_closed_8 : decode cX9_closed 8 = .ok (.iload_n 3, 1) := by decide +kernel
theorem dX9_closed_9 : decode cX9_closed 9 = .ok (.invokevirtual 309, 3) := by decide +kernel
theorem dX9_closed_12 : decode cX9_closed 12 = .ok (.ifCond .eq 27, 3) := by decide +kernel
theorem dX9_closed_15 : decode cX9_closed 15 = .ok (.aload_n 0, 1) := by decide +kernel
theorem dX9_closed_16 : decode cX9_closed 16 = .ok (.aload_n 0, 1) := by decide +kernel
theorem dX9_closed_17 : decode cX9_closed 17 = .ok (.iconst 0, 1) := by decide +kernel
theorem dX9_closed_18 : decode cX9_closed 18 = .ok (.iload_n 1, 1) := by decide +kernel
theorem dX9_closed_19 : decode cX9_closed 19 = .ok (.iload_n 2, 1) := by decide +kernel
theorem dX9_closed_20 : decode cX9_closed 20 = .ok (.invokestatic 312, 3) := by decide +kernel
theorem dX9_closed_23 : decode cX9_closed 23 = .ok (.iload_n 3, 1) := by decide +kernel
theorem dX9_closed_24 : decode cX9_closed 24 = .ok (.invokestatic 312, 3) := by decide +kernel
theorem dX9_closed_27 : decode cX9_closed 27 = .ok (.invokestatic 254, 3) := by decide +kernel
theorem dX9_closed_30 : decode cX9_closed 30 = .ok (.invokevirtual 200, 3) := by decide +kernel
theorem dX9_closed_33 : decode cX9_closed 33 = .ok (.invokevirtual 230, 3) := by decide +kernel
theorem dX9_closed_36 : decode cX9_closed 36 = .ok (.goto 8, 3) := by decide +kernel
theorem dX9_closed_39 : decode cX9_closed 39 = .ok (.aload_n 0, 1) := by decide +kernel
theorem dX9_closed_40 : decode cX9_closed 40 = .ok (.iconst 1, 1) := by decide +kernel
theorem dX9_closed_41 : decode cX9_closed 41 = .ok (.invokevirtual 306, 3) := by decide +kernel
theorem dX9_closed_44 : decode cX9_closed 44 = .ok (.ireturn, 1) := by decide +kernel
def f_X9_closed (s0 : MoT) (p1 : Int32) (p2 : Int32) (p3 : Int32) : Option (Int32 × MoT) :=
  (f_X9_isRow (Mo_w_thrown s0 (0 : Int32)) p1 p2 p3).bind fun r1 =>
  if r1 = 0 then (f_X9_refusedLow (Mo_w_thrown s0 (0 : Int32)) (1 : Int32)).bind fun r4 =>
  some ((r4.1), (r4.2))
  else (f_X9_place p2).bind fun r6 =>
  (f_X9_place p3).bind fun r8 =>
  (f_X9_closedAt p1 r6 r8).bind fun r10 =>
  (f_X9_get (Mo_w_thrown s0 (0 : Int32)) (0 : Int32) r10).bind fun r12 =>
  (f_X9_good (Mo_w_thrown s0 (0 : Int32)) r12).bind fun r14 =>
  some ((r14.1), (r14.2))
abbrev rm_X9_closed : Room := { frames := 3, cells := 0, slots := 0, locals := 66 }
set_option maxHeartbeats 4000000 in
set_option maxRecDepth 100000 in
theorem c_X9_closed (l : Launch) (g : GK) (a0 : Nat → Nat) (s0 : MoT) (p1 : Int32) (p2 : Int32) (p3 : Int32) (res : (Int32 × MoT)) (hf : f_X9_closed s0 p1 p2 p3 = some res) : gM l yX9_closed cX9_closed 4 (some .int) rm_X9_closed g [.ref (a0 0), .int p1, .int p2, .int p3] (Mo_c g a0 s0) (fun _ : Unit => (some (.int (res.1)))) (fun _ => (Mo_c g a0 (res.2))) 0 0 := by
  refine gM_introI RX9 (by decide) rfl (Nat.le_of_ble_eq_true rfl) (fun p e s m args below meth c Q H locs ls A hE hZ hA hP hD hS hq hl => ?_)
  have hl : lv_has ls 4 [(0, .ref (a0 0)), (1, .int p1), (2, .int p2), (3, .int p3)] := hl
  have hx := hE.1
  have hb := hE.2.1
  rw [f_X9_closed] at hf
  refine lv_aload_n hx hb dX9_closed_0 rfl (lv_at hl 0 rfl) ?_
  refine lv_iconst hx hb dX9_closed_1 kci_0 ?_
  refine g_put hE okX9 fl_X9_55 hP hD hS 0 rfl rfl rfl rfl (Nat.le_of_ble_eq_true rfl) (Mo_c g a0 (Mo_w_thrown s0 (0 : Int32))) rfl dX9_closed_2 (fun H locs hP hD hS => ?_)
  refine lv_aload_n hx hb dX9_closed_5 rfl (lv_at hl 0 rfl) ?_
  refine lv_iload_n hx hb dX9_closed_6 rfl (lv_at hl 1 rfl) ?_
  refine lv_iload_n hx hb dX9_closed_7 rfl (lv_at hl 2 rfl) ?_
  refine lv_iload_n hx hb dX9_closed_8 rfl (lv_at hl 3 rfl) ?_
  obtain ⟨r1, hc2, hf⟩ := gbd hf
  refine gr_callV (As := [.int p1, .int p2, .int p3]) (rest := []) (st1 := [.int r1]) hE hl.1 ml_X9_309 (c_X9_isRow l g a0 (Mo_w_thrown s0 (0 : Int32)) p1 p2 p3 r1 hc2) hZ hS hP [(0, 14)] rfl okX9 rfl rfl rfl rfl ⟨rfl, rfl⟩ ⟨Nat.le_of_ble_eq_true rfl, Nat.le_of_ble_eq_true rfl⟩ ⟨Nat.le_refl _, Nat.le_refl _⟩ (Nat.le_of_ble_eq_true rfl) dX9_closed_9 ?_
  refine lv_if_eq hx hb dX9_closed_12 (tgt := 39) rfl (fun h3 => ?_) (fun h3 => ?_)
  · have hf := gif_t h3 hf
    refine lv_aload_n hx hb dX9_closed_39 rfl (lv_at hl 0 rfl) ?_
    refine lv_iconst hx hb dX9_closed_40 kci_1 ?_
    obtain ⟨r4, hc5, hf⟩ := gbd hf
    refine gm_callV1 (As := [.int (1 : Int32)]) (rest := []) (st1 := fun _ => [.int (r4.1)]) (ws' := fun _ => (Mo_c g a0 (r4.2))) hE hl.1 ml_X9_306 (c_X9_refusedLow l g a0 (Mo_w_thrown s0 (0 : Int32)) (1 : Int32) r4 hc5) hZ hP hD hS hA 0 14 rfl (fun _ => rfl) okX9 rfl rfl rfl (fun _ => rfl) ⟨rfl, rfl⟩ ⟨Nat.le_of_ble_eq_true rfl, Nat.le_of_ble_eq_true rfl⟩ ⟨Nat.le_refl _, Nat.le_refl _⟩ (Nat.le_of_ble_eq_true rfl) dX9_closed_41 (fun _ H locs hP hD hS => ?_)
    cases hf
    exact hq () rfl hP hD hS dX9_closed_44
  · have hf := gif_f h3 hf
    refine lv_aload_n hx hb dX9_closed_15 rfl (lv_at hl 0 rfl) ?_
    refine lv_aload_n hx hb dX9_closed_16 rfl (lv_at hl 0 rfl) ?_
    refine lv_iconst hx hb dX9_closed_17 kci_0 ?_
    refine lv_iload_n hx hb dX9_closed_18 rfl (lv_at hl 1 rfl) ?_
    refine lv_iload_n hx hb dX9_closed_19 rfl (lv_at hl 2 rfl) ?_
    obtain ⟨r6, hc7, hf⟩ := gbd hf
    refine gr_callS (As := [.int p2]) (rest := [.int p1, .int (0 : Int32), .ref (a0 0), .ref (a0 0)]) (st1 := [.int r6, .int p1, .int (0 : Int32), .ref (a0 0), .ref (a0 0)]) hE hl.1 ml_X9_312 (c_X9_place l g p2 r6 hc7) hZ hS hP [] rfl rfl rfl rfl ⟨rfl, rfl⟩ ⟨Nat.le_of_ble_eq_true rfl, Nat.le_of_ble_eq_true rfl⟩ ⟨Nat.le_refl _, Nat.le_refl _⟩ (Nat.le_of_ble_eq_true rfl) dX9_closed_20 ?_
    refine lv_iload_n hx hb dX9_closed_23 rfl (lv_at hl 3 rfl) ?_
    obtain ⟨r8, hc9, hf⟩ := gbd hf
    refine gr_callS (As := [.int p3]) (rest := [.int r6, .int p1, .int (0 : Int32), .ref (a0 0), .ref (a0 0)]) (st1 := [.int r8, .int r6, .int p1, .int (0 : Int32), .ref (a0 0), .ref (a0 0)]) hE hl.1 ml_X9_312 (c_X9_place l g p3 r8 hc9) hZ hS hP [] rfl rfl rfl rfl ⟨rfl, rfl⟩ ⟨Nat.le_of_ble_eq_true rfl, Nat.le_of_ble_eq_true rfl⟩ ⟨Nat.le_refl _, Nat.le_refl _⟩ (Nat.le_of_ble_eq_true rfl) dX9_closed_24 ?_
    obtain ⟨r10, hc11, hf⟩ := gbd hf
    refine gr_callS (As := [.int p1, .int r6, .int r8]) (rest := [.int (0 : Int32), .ref (a0 0), .ref (a0 0)]) (st1 := [.int r10, .int (0 : Int32), .ref (a0 0), .ref (a0 0)]) hE hl.1 ml_X9_254 (c_X9_closedAt l g p1 r6 r8 r10 hc11) hZ hS hP [] rfl rfl rfl rfl ⟨rfl, rfl⟩ ⟨Nat.le_of_ble_eq_true rfl, Nat.le_of_ble_eq_true rfl⟩ ⟨Nat.le_refl _, Nat.le_refl _⟩ (Nat.le_of_ble_eq_true rfl) dX9_closed_27 ?_
    obtain ⟨r12, hc13, hf⟩ := gbd hf
    refine gr_callV (As := [.int (0 : Int32), .int r10]) (rest := [.ref (a0 0)]) (st1 := [.int r12, .ref (a0 0)]) hE hl.1 ml_X9_200 (c_X9_get l g a0 (Mo_w_thrown s0 (0 : Int32)) (0 : Int32) r10 r12 hc13) hZ hS hP [(0, 14)] rfl okX9 rfl rfl rfl rfl ⟨rfl, rfl⟩ ⟨Nat.le_of_ble_eq_true rfl, Nat.le_of_ble_eq_true rfl⟩ ⟨Nat.le_refl _, Nat.le_refl _⟩ (Nat.le_of_ble_eq_true rfl) dX9_closed_30 ?_
    obtain ⟨r14, hc15, hf⟩ := gbd hf
    refine gm_callV1 (As := [.int r12]) (rest := []) (st1 := fun _ => [.int (r14.1)]) (ws' := fun _ => (Mo_c g a0 (r14.2))) hE hl.1 ml_X9_230 (c_X9_good l g a0 (Mo_w_thrown s0 (0 : Int32)) r12 r14 hc15) hZ hP hD hS hA 0 14 rfl (fun _ => rfl) okX9 rfl rfl rfl (fun _ => rfl) ⟨rfl, rfl⟩ ⟨Nat.le_of_ble_eq_true rfl, Nat.le_of_ble_eq_true rfl⟩ ⟨Nat.le_refl _, Nat.le_refl _⟩ (Nat.le_of_ble_eq_true rfl) dX9_closed_33 (fun _ H locs hP hD hS => ?_)
    refine lv_goto hx hb dX9_closed_36 (tgt := 44) rfl ?_
    cases hf
    exact hq () rfl hP hD hS dX9_closed_44
theorem dX9_finds_0 : decode cX9_finds 0 = .ok (.iconst 0, 1) := by decide +kernel
theorem dX9_finds_1 : decode cX9_finds 1 = .ok (.istore_n 3, 1) := by decide +kernel
theorem dX9_finds_2 : decode cX9_finds 2 = .ok (.aload_n 0, 1) := by decide +kernel
theorem dX9_finds_3 : decode cX9_finds 3 = .ok (.iconst 0, 1) := by decide +kernel
theorem dX9_finds_4 : decode cX9_finds 4 = .ok (.putfield 318, 3) := by decide +kernel
theorem dX9_finds_7 : decode cX9_finds 7 = .ok (.iconst 0, 1) := by decide +kernel
theorem dX9_finds_8 : decode cX9_finds 8 = .ok (.istore 4, 2) := by decide +kernel
theorem dX9_finds_10 : decode cX9_finds 10 = .ok (.iload 4, 2) := by decide +kernel
theorem dX9_finds_12 : decode cX9_finds 12 = .ok (.bipush 8, 2) := by decide +kernel
theorem dX9_finds_14 : decode cX9_finds 14 = .ok (.if_icmp .ge 117, 3) := by decide +kernel
theorem dX9_finds_17 : decode cX9_finds 17 = .ok (.iconst 0, 1) := by decide +kernel
theorem dX9_finds_18 : decode cX9_finds 18 = .ok (.istore 5, 2) := by decide +kernel
theorem dX9_finds_20 : decode cX9_finds 20 = .ok (.iload 5, 2) := by decide +kernel
theorem dX9_finds_22 : decode cX9_finds 22 = .ok (.bipush 9, 2) := by decide +kernel
theorem dX9_finds_24 : decode cX9_finds 24 = .ok (.if_icmp .ge 101, 3) := by decide +kernel
theorem dX9_finds_27 : decode cX9_finds 27 = .ok (.iconst 0, 1) := by decide +kernel
theorem dX9_finds_28 : decode cX9_finds 28 = .ok (.istore 6, 2) := by decide +kernel
theorem dX9_finds_30 : decode cX9_finds 30 = .ok (.iload 6, 2) := by decide +kernel
theorem dX9_finds_32 : decode cX9_finds 32 = .ok (.bipush 9, 2) := by decide +kernel
theorem dX9_finds_34 : decode cX9_finds 34 = .ok (.if_icmp .ge 85, 3) := by decide +kernel
theorem dX9_finds_37 : decode cX9_finds 37 = .ok (.iload 5, 2) := by decide +kernel
theorem dX9_finds_39 : decode cX9_finds 39 = .ok (.bipush 8, 2) := by decide +kernel
theorem dX9_finds_41 : decode cX9_finds 41 = .ok (.if_icmp .lt 10, 3) := by decide +kernel
theorem dX9_finds_44 : decode cX9_finds 44 = .ok (.iload 6, 2) := by decide +kernel
theorem dX9_finds_46 : decode cX9_finds 46 = .ok (.bipush 8, 2) := by decide +kernel
theorem dX9_finds_48 : decode cX9_finds 48 = .ok (.if_icmp .ge 17, 3) := by decide +kernel
theorem dX9_finds_51 : decode cX9_finds 51 = .ok (.aload_n 0, 1) := by decide +kernel
theorem dX9_finds_52 : decode cX9_finds 52 = .ok (.iload_n 1, 1) := by decide +kernel
theorem dX9_finds_53 : decode cX9_finds 53 = .ok (.iload 4, 2) := by decide +kernel
theorem dX9_finds_55 : decode cX9_finds 55 = .ok (.iload 5, 2) := by decide +kernel
theorem dX9_finds_57 : decode cX9_finds 57 = .ok (.iload 6, 2) := by decide +kernel
theorem dX9_finds_59 : decode cX9_finds 59 = .ok (.invokevirtual 315, 3) := by decide +kernel
theorem dX9_finds_62 : decode cX9_finds 62 = .ok (.goto 4, 3) := by decide +kernel
theorem dX9_finds_65 : decode cX9_finds 65 = .ok (.iconst 0, 1) := by decide +kernel
theorem dX9_finds_66 : decode cX9_finds 66 = .ok (.istore 7, 2) := by decide +kernel
theorem dX9_finds_68 : decode cX9_finds 68 = .ok (.iload 7, 2) := by decide +kernel
theorem dX9_finds_70 : decode cX9_finds 70 = .ok (.ifCond .ne 6, 3) := by decide +kernel
theorem dX9_finds_73 : decode cX9_finds 73 = .ok (.goto 40, 3) := by decide +kernel
theorem dX9_finds_76 : decode cX9_finds 76 = .ok (.aload_n 0, 1) := by decide +kernel
theorem dX9_finds_77 : decode cX9_finds 77 = .ok (.dup, 1) := by decide +kernel
theorem dX9_finds_78 : decode cX9_finds 78 = .ok (.getfield 318, 3) := by decide +kernel
theorem dX9_finds_81 : decode cX9_finds 81 = .ok (.iload 7, 2) := by decide +kernel
theorem dX9_finds_83 : decode cX9_finds 83 = .ok (.iadd, 1) := by decide +kernel
theorem dX9_finds_84 : decode cX9_finds 84 = .ok (.putfield 318, 3) := by decide +kernel
theorem dX9_finds_87 : decode cX9_finds 87 = .ok (.iload_n 3, 1) := by decide +kernel
theorem dX9_finds_88 : decode cX9_finds 88 = .ok (.iload_n 2, 1) := by decide +kernel
theorem dX9_finds_89 : decode cX9_finds 89 = .ok (.if_icmp .ne 21, 3) := by decide +kernel
theorem dX9_finds_92 : decode cX9_finds 92 = .ok (.aload_n 0, 1) := by decide +kernel
theorem dX9_finds_93 : decode cX9_finds 93 = .ok (.iload 4, 2) := by decide +kernel
theorem dX9_finds_95 : decode cX9_finds 95 = .ok (.putfield 321, 3) := by decide +kernel
theorem dX9_finds_98 : decode cX9_finds 98 = .ok (.aload_n 0, 1) := by decide +kernel
theorem dX9_finds_99 : decode cX9_finds 99 = .ok (.iload 5, 2) := by decide +kernel
theorem dX9_finds_101 : decode cX9_finds 101 = .ok (.putfield 324, 3) := by decide +kernel
theorem dX9_finds_104 : decode cX9_finds 104 = .ok (.aload_n 0, 1) := by decide +kernel
theorem dX9_finds_105 : decode cX9_finds 105 = .ok (.iload 6, 2) := by decide +kernel
theorem dX9_finds_107 : decode cX9_finds 107 = .ok (.putfield 327, 3) := by decide +kernel
theorem dX9_finds_110 : decode cX9_finds 110 = .ok (.iinc 3 1, 3) := by decide +kernel
theorem dX9_finds_113 : decode cX9_finds 113 = .ok (.iinc 6 1, 3) := by decide +kernel
theorem dX9_finds_116 : decode cX9_finds 116 = .ok (.goto (-86), 3) := by decide +kernel
theorem dX9_finds_119 : decode cX9_finds 119 = .ok (.iinc 5 1, 3) := by decide +kernel
theorem dX9_finds_122 : decode cX9_finds 122 = .ok (.goto (-102), 3) := by decide +kernel
theorem dX9_finds_125 : decode cX9_finds 125 = .ok (.iinc 4 1, 3) := by decide +kernel
theorem dX9_finds_128 : decode cX9_finds 128 = .ok (.goto (-118), 3) := by decide +kernel
theorem dX9_finds_131 : decode cX9_finds 131 = .ok (.iload_n 3, 1) := by decide +kernel
theorem dX9_finds_132 : decode cX9_finds 132 = .ok (.ireturn, 1) := by decide +kernel
def f_X9_finds_L30_25 (p1 : Int32) (p2 : Int32) (x4_5 : Int32) (x5_14 : Int32) (K19 : (Int32 → MoT → Option (Int32 × MoT))) : Nat → Int32 → Int32 → MoT → Option (Int32 × MoT)
  | 0, _, _, _ => none
  | n26 + 1, x3_22, x6_23, s0_24 => if (9 : Int32) ≤ x6_23 then K19 x3_22 s0_24
  else glt (fun (y29 : Int32) => if y29 = 0 then f_X9_finds_L30_25 p1 p2 x4_5 x5_14 K19 n26 x3_22 (x6_23 + (1 : Int32)) s0_24
  else if x3_22 = p2 then f_X9_finds_L30_25 p1 p2 x4_5 x5_14 K19 n26 (x3_22 + (1 : Int32)) (x6_23 + (1 : Int32)) (Mo_w_sumSent (Mo_w_foundRight (Mo_w_foundLeft (Mo_w_foundKey s0_24 x4_5) x5_14) x6_23) ((Mo_sumSent s0_24) + y29))
  else f_X9_finds_L30_25 p1 p2 x4_5 x5_14 K19 n26 (x3_22 + (1 : Int32)) (x6_23 + (1 : Int32)) (Mo_w_sumSent s0_24 ((Mo_sumSent s0_24) + y29))) fun J28 =>
  glt (fun (_ : Unit) => (f_X9_sentOf s0_24 p1 x4_5 x5_14 x6_23).bind fun r33 =>
  J28 r33) fun J32 =>
  if x5_14 < (8 : Int32) then J32 ()
  else if (8 : Int32) ≤ x6_23 then J28 (0 : Int32)
  else J32 ()
def f_X9_finds_L20_16 (p1 : Int32) (p2 : Int32) (x4_5 : Int32) (K10 : (Int32 → MoT → Option (Int32 × MoT))) : Nat → Int32 → Int32 → MoT → Option (Int32 × MoT)
  | 0, _, _, _ => none
  | n17 + 1, x3_13, x5_14, s0_15 => if (9 : Int32) ≤ x5_14 then K10 x3_13 s0_15
  else glt (fun (x3_20 : Int32) (s0_21 : MoT) => f_X9_finds_L20_16 p1 p2 x4_5 K10 n17 x3_20 (x5_14 + (1 : Int32)) s0_21) fun K19 =>
  f_X9_finds_L30_25 p1 p2 x4_5 x5_14 K19 10000 x3_13 (0 : Int32) s0_15
def f_X9_finds_L10_7 (p1 : Int32) (p2 : Int32) (K1 : (Int32 → MoT → Option (Int32 × MoT))) : Nat → Int32 → Int32 → MoT → Option (Int32 × MoT)
  | 0, _, _, _ => none
  | n8 + 1, x3_4, x4_5, s0_6 => if (8 : Int32) ≤ x4_5 then K1 x3_4 s0_6
  else glt (fun (x3_11 : Int32) (s0_12 : MoT) => f_X9_finds_L10_7 p1 p2 K1 n8 x3_11 (x4_5 + (1 : Int32)) s0_12) fun K10 =>
  f_X9_finds_L20_16 p1 p2 x4_5 K10 10000 x3_4 (0 : Int32) s0_6
def f_X9_finds (s0 : MoT) (p1 : Int32) (p2 : Int32) : Option (Int32 × MoT) :=
  glt (fun (x3_2 : Int32) (s0_3 : MoT) => some (x3_2, s0_3)) fun K1 =>
  f_X9_finds_L10_7 p1 p2 K1 10000 (0 : Int32) (0 : Int32) (Mo_w_sumSent s0 (0 : Int32))
abbrev rm_X9_finds : Room := { frames := 6, cells := 0, slots := 0, locals := 144 }
set_option maxHeartbeats 4000000 in
set_option maxRecDepth 100000 in
theorem c_X9_finds (l : Launch) (g : GK) (a0 : Nat → Nat) (s0 : MoT) (p1 : Int32) (p2 : Int32) (res : (Int32 × MoT)) (hf : f_X9_finds s0 p1 p2 = some res) : gM l yX9_finds cX9_finds 8 (some .int) rm_X9_finds g [.ref (a0 0), .int p1, .int p2] (Mo_c g a0 s0) (fun _ : Unit => (some (.int (res.1)))) (fun _ => (Mo_c g a0 (res.2))) 0 0 := by
  refine gM_introI RX9 (by decide) rfl (Nat.le_of_ble_eq_true rfl) (fun p e s m args below meth c Q H locs ls A hE hZ hA hP hD hS hq hl => ?_)
  have hl : lv_has ls 8 [(0, .ref (a0 0)), (1, .int p1), (2, .int p2)] := hl
  have hx := hE.1
  have hb := hE.2.1
  rw [f_X9_finds] at hf
  refine lv_iconst hx hb dX9_finds_0 kci_0 ?_
  refine lv_istore_n hx hb dX9_finds_1 rfl hl (by decide) (lv' := [(3, .int (0 : Int32)), (0, .ref (a0 0)), (1, .int p1), (2, .int p2)]) rfl (fun ls hl => ?_)
  refine lv_aload_n hx hb dX9_finds_2 rfl (lv_at hl 1 rfl) ?_
  refine lv_iconst hx hb dX9_finds_3 kci_0 ?_
  refine g_put hE okX9 fl_X9_318 hP hD hS 0 rfl rfl rfl rfl (Nat.le_of_ble_eq_true rfl) (Mo_c g a0 (Mo_w_sumSent s0 (0 : Int32))) rfl dX9_finds_4 (fun H locs hP hD hS => ?_)
  refine lv_iconst hx hb dX9_finds_7 kci_0 ?_
  refine lv_istore hx hb dX9_finds_8 hl (by decide) (lv' := [(4, .int (0 : Int32)), (3, .int (0 : Int32)), (0, .ref (a0 0)), (1, .int p1), (2, .int p2)]) rfl (fun ls hl => ?_)
  obtain ⟨K1, eK1, hf⟩ := gltd hf
  have kK1 : ∀ (x3_2 : Int32) (s0_3 : MoT) (ls : Array Slot) (H : Heap) (locs : List Loc), K1 x3_2 s0_3 = some res → lv_has ls 8 [(3, .int x3_2)] → gP g (Mo_c g a0 s0_3) H → va_D A (Mo_c g a0 s0_3) → va_S A s.heap H locs → W p l e rm_X9_finds s m args below meth c H locs 0 0 Q (F0 m 131 ls []) := by
    intro x3_2 s0_3 ls H locs hf hl hP hD hS
    rw [eK1] at hf
    refine lv_iload_n hx hb dX9_finds_131 rfl (lv_at hl 0 rfl) ?_
    cases hf
    exact hq () rfl hP hD hS dX9_finds_132
  have lpn8 : ∀ (n8 : Nat) (x3_4 : Int32) (x4_5 : Int32) (s0_6 : MoT) (ls : Array Slot) (H : Heap) (locs : List Loc), f_X9_finds_L10_7 p1 p2 K1 n8 x3_4 x4_5 s0_6 = some res → lv_has ls 8 [(0, .ref (a0 0)), (1, .int p1), (2, .int p2), (3, .int x3_4), (4, .int x4_5)] → gP g (Mo_c g a0 s0_6) H → va_D A (Mo_c g a0 s0_6) → va_S A s.heap H locs → W p l e rm_X9_finds s m args below meth c H locs 0 0 Q (F0 m 10 ls []) := by
    intro n8
    induction n8 with
    | zero => intro x3_4 x4_5 s0_6 ls H locs hf hl hP hD hS; rw [f_X9_finds_L10_7] at hf; cases hf
    | succ n8 ihn8 =>
      intro x3_4 x4_5 s0_6 ls H locs hf hl hP hD hS
      rw [f_X9_finds_L10_7] at hf
      refine lv_iload hx hb dX9_finds_10 (lv_at hl 4 rfl) ?_
      refine lv_bipush hx hb dX9_finds_12 kcb_8 ?_
      refine lv_icmp_ge hx hb dX9_finds_14 (tgt := 131) rfl (fun h9 => ?_) (fun h9 => ?_)
      · have hf := gif_t h9 hf
        exact kK1 x3_4 s0_6 ls H locs hf (lv_sub hl [3] rfl) hP hD hS
      · have hf := gif_f h9 hf
        refine lv_iconst hx hb dX9_finds_17 kci_0 ?_
        refine lv_istore hx hb dX9_finds_18 hl (by decide) (lv' := [(5, .int (0 : Int32)), (0, .ref (a0 0)), (1, .int p1), (2, .int p2), (3, .int x3_4), (4, .int x4_5)]) rfl (fun ls hl => ?_)
        obtain ⟨K10, eK10, hf⟩ := gltd hf
        have kK10 : ∀ (x3_11 : Int32) (s0_12 : MoT) (ls : Array Slot) (H : Heap) (locs : List Loc), K10 x3_11 s0_12 = some res → lv_has ls 8 [(0, .ref (a0 0)), (1, .int p1), (2, .int p2), (3, .int x3_11), (4, .int x4_5)] → gP g (Mo_c g a0 s0_12) H → va_D A (Mo_c g a0 s0_12) → va_S A s.heap H locs → W p l e rm_X9_finds s m args below meth c H locs 0 0 Q (F0 m 125 ls []) := by
          intro x3_11 s0_12 ls H locs hf hl hP hD hS
          rw [eK10] at hf
          refine lv_iinc hx hb dX9_finds_125 hl (k := 4) (x := x4_5) rfl (kinc_1 _) (by decide) (lv' := [(4, .int (x4_5 + (1 : Int32))), (0, .ref (a0 0)), (1, .int p1), (2, .int p2), (3, .int x3_11)]) rfl (fun ls hl => ?_)
          refine lv_goto hx hb dX9_finds_128 (tgt := 10) rfl ?_
          exact ihn8 x3_11 (x4_5 + (1 : Int32)) s0_12 ls H locs hf (lv_sub hl [1, 2, 3, 4, 0] rfl) hP hD hS
        have lpn17 : ∀ (n17 : Nat) (x3_13 : Int32) (x5_14 : Int32) (s0_15 : MoT) (ls : Array Slot) (H : Heap) (locs : List Loc), f_X9_finds_L20_16 p1 p2 x4_5 K10 n17 x3_13 x5_14 s0_15 = some res → lv_has ls 8 [(0, .ref (a0 0)), (1, .int p1), (2, .int p2), (3, .int x3_13), (4, .int x4_5), (5, .int x5_14)] → gP g (Mo_c g a0 s0_15) H → va_D A (Mo_c g a0 s0_15) → va_S A s.heap H locs → W p l e rm_X9_finds s m args below meth c H locs 0 0 Q (F0 m 20 ls []) := by
          intro n17
          induction n17 with
          | zero => intro x3_13 x5_14 s0_15 ls H locs hf hl hP hD hS; rw [f_X9_finds_L20_16] at hf; cases hf
          | succ n17 ihn17 =>
            intro x3_13 x5_14 s0_15 ls H locs hf hl hP hD hS
            rw [f_X9_finds_L20_16] at hf
            refine lv_iload hx hb dX9_finds_20 (lv_at hl 5 rfl) ?_
            refine lv_bipush hx hb dX9_finds_22 kcb_9 ?_
            refine lv_icmp_ge hx hb dX9_finds_24 (tgt := 125) rfl (fun h18 => ?_) (fun h18 => ?_)
            · have hf := gif_t h18 hf
              exact kK10 x3_13 s0_15 ls H locs hf (lv_sub hl [0, 1, 2, 3, 4] rfl) hP hD hS
            · have hf := gif_f h18 hf
              refine lv_iconst hx hb dX9_finds_27 kci_0 ?_
              refine lv_istore hx hb dX9_finds_28 hl (by decide) (lv' := [(6, .int (0 : Int32)), (0, .ref (a0 0)), (1, .int p1), (2, .int p2), (3, .int x3_13), (4, .int x4_5), (5, .int x5_14)]) rfl (fun ls hl => ?_)
              obtain ⟨K19, eK19, hf⟩ := gltd hf
              have kK19 : ∀ (x3_20 : Int32) (s0_21 : MoT) (ls : Array Slot) (H : Heap) (locs : List Loc), K19 x3_20 s0_21 = some res → lv_has ls 8 [(0, .ref (a0 0)), (1, .int p1), (2, .int p2), (3, .int x3_20), (4, .int x4_5), (5, .int x5_14)] → gP g (Mo_c g a0 s0_21) H → va_D A (Mo_c g a0 s0_21) → va_S A s.heap H locs → W p l e rm_X9_finds s m args below meth c H locs 0 0 Q (F0 m 119 ls []) := by
                intro x3_20 s0_21 ls H locs hf hl hP hD hS
                rw [eK19] at hf
                refine lv_iinc hx hb dX9_finds_119 hl (k := 5) (x := x5_14) rfl (kinc_1 _) (by decide) (lv' := [(5, .int (x5_14 + (1 : Int32))), (0, .ref (a0 0)), (1, .int p1), (2, .int p2), (3, .int x3_20), (4, .int x4_5)]) rfl (fun ls hl => ?_)
                refine lv_goto hx hb dX9_finds_122 (tgt := 20) rfl ?_
                exact ihn17 x3_20 (x5_14 + (1 : Int32)) s0_21 ls H locs hf (lv_sub hl [1, 2, 3, 4, 5, 0] rfl) hP hD hS
              have lpn26 : ∀ (n26 : Nat) (x3_22 : Int32) (x6_23 : Int32) (s0_24 : MoT) (ls : Array Slot) (H : Heap) (locs : List Loc), f_X9_finds_L30_25 p1 p2 x4_5 x5_14 K19 n26 x3_22 x6_23 s0_24 = some res → lv_has ls 8 [(0, .ref (a0 0)), (1, .int p1), (2, .int p2), (3, .int x3_22), (4, .int x4_5), (5, .int x5_14), (6, .int x6_23)] → gP g (Mo_c g a0 s0_24) H → va_D A (Mo_c g a0 s0_24) → va_S A s.heap H locs → W p l e rm_X9_finds s m args below meth c H locs 0 0 Q (F0 m 30 ls []) := by
                intro n26
                induction n26 with
                | zero => intro x3_22 x6_23 s0_24 ls H locs hf hl hP hD hS; rw [f_X9_finds_L30_25] at hf; cases hf
                | succ n26 ihn26 =>
                  intro x3_22 x6_23 s0_24 ls H locs hf hl hP hD hS
                  rw [f_X9_finds_L30_25] at hf
                  refine lv_iload hx hb dX9_finds_30 (lv_at hl 6 rfl) ?_
                  refine lv_bipush hx hb dX9_finds_32 kcb_9 ?_
                  refine lv_icmp_ge hx hb dX9_finds_34 (tgt := 119) rfl (fun h27 => ?_) (fun h27 => ?_)
                  · have hf := gif_t h27 hf
                    exact kK19 x3_22 s0_24 ls H locs hf (lv_sub hl [0, 1, 2, 3, 4, 5] rfl) hP hD hS
                  · have hf := gif_f h27 hf
                    refine lv_iload hx hb dX9_finds_37 (lv_at hl 5 rfl) ?_
                    refine lv_bipush hx hb dX9_finds_39 kcb_8 ?_
                    obtain ⟨J28, eJ28, hf⟩ := gltd hf
                    have kJ28 : ∀ (y29 : Int32) (ls : Array Slot) (H : Heap) (locs : List Loc), J28 y29 = some res → lv_has ls 8 [(0, .ref (a0 0)), (1, .int p1), (2, .int p2), (3, .int x3_22), (4, .int x4_5), (5, .int x5_14), (6, .int x6_23)] → gP g (Mo_c g a0 s0_24) H → va_D A (Mo_c g a0 s0_24) → va_S A s.heap H locs → W p l e rm_X9_finds s m args below meth c H locs 0 0 Q (F0 m 66 ls [.int y29]) := by
                      intro y29 ls H locs hf hl hP hD hS
                      rw [eJ28] at hf
                      refine lv_istore hx hb dX9_finds_66 hl (by decide) (lv' := [(7, .int y29), (0, .ref (a0 0)), (1, .int p1), (2, .int p2), (3, .int x3_22), (4, .int x4_5), (5, .int x5_14), (6, .int x6_23)]) rfl (fun ls hl => ?_)
                      refine lv_iload hx hb dX9_finds_68 (lv_at hl 0 rfl) ?_
                      refine lv_if_ne hx hb dX9_finds_70 (tgt := 76) rfl (fun h30 => ?_) (fun h30 => ?_)
                      · have hf := gif_f h30 hf
                        refine lv_aload_n hx hb dX9_finds_76 rfl (lv_at hl 1 rfl) ?_
                        refine lv_dup hx hb dX9_finds_77 rfl ?_
                        refine g_get hE okX9 fl_X9_318 hP 0 rfl (v := .int (Mo_sumSent s0_24)) rfl dX9_finds_78 ?_
                        refine lv_iload hx hb dX9_finds_81 (lv_at hl 0 rfl) ?_
                        refine lv_iadd hx hb dX9_finds_83 ?_
                        refine g_put hE okX9 fl_X9_318 hP hD hS 0 rfl rfl rfl rfl (Nat.le_of_ble_eq_true rfl) (Mo_c g a0 (Mo_w_sumSent s0_24 ((Mo_sumSent s0_24) + y29))) rfl dX9_finds_84 (fun H locs hP hD hS => ?_)
                        refine lv_iload_n hx hb dX9_finds_87 rfl (lv_at hl 4 rfl) ?_
                        refine lv_iload_n hx hb dX9_finds_88 rfl (lv_at hl 3 rfl) ?_
                        refine lv_icmp_ne hx hb dX9_finds_89 (tgt := 110) rfl (fun h31 => ?_) (fun h31 => ?_)
                        · have hf := gif_f h31 hf
                          refine lv_iinc hx hb dX9_finds_110 hl (k := 4) (x := x3_22) rfl (kinc_1 _) (by decide) (lv' := [(3, .int (x3_22 + (1 : Int32))), (7, .int y29), (0, .ref (a0 0)), (1, .int p1), (2, .int p2), (4, .int x4_5), (5, .int x5_14), (6, .int x6_23)]) rfl (fun ls hl => ?_)
                          refine lv_iinc hx hb dX9_finds_113 hl (k := 7) (x := x6_23) rfl (kinc_1 _) (by decide) (lv' := [(6, .int (x6_23 + (1 : Int32))), (3, .int (x3_22 + (1 : Int32))), (7, .int y29), (0, .ref (a0 0)), (1, .int p1), (2, .int p2), (4, .int x4_5), (5, .int x5_14)]) rfl (fun ls hl => ?_)
                          refine lv_goto hx hb dX9_finds_116 (tgt := 30) rfl ?_
                          exact ihn26 (x3_22 + (1 : Int32)) (x6_23 + (1 : Int32)) (Mo_w_sumSent s0_24 ((Mo_sumSent s0_24) + y29)) ls H locs hf (lv_sub hl [3, 4, 5, 1, 6, 7, 0] rfl) hP hD hS
                        · have hf := gif_t h31 hf
                          refine lv_aload_n hx hb dX9_finds_92 rfl (lv_at hl 1 rfl) ?_
                          refine lv_iload hx hb dX9_finds_93 (lv_at hl 5 rfl) ?_
                          refine g_put hE okX9 fl_X9_321 hP hD hS 0 rfl rfl rfl rfl (Nat.le_of_ble_eq_true rfl) (Mo_c g a0 (Mo_w_sumSent (Mo_w_foundKey s0_24 x4_5) ((Mo_sumSent s0_24) + y29))) rfl dX9_finds_95 (fun H locs hP hD hS => ?_)
                          refine lv_aload_n hx hb dX9_finds_98 rfl (lv_at hl 1 rfl) ?_
                          refine lv_iload hx hb dX9_finds_99 (lv_at hl 6 rfl) ?_
                          refine g_put hE okX9 fl_X9_324 hP hD hS 0 rfl rfl rfl rfl (Nat.le_of_ble_eq_true rfl) (Mo_c g a0 (Mo_w_sumSent (Mo_w_foundLeft (Mo_w_foundKey s0_24 x4_5) x5_14) ((Mo_sumSent s0_24) + y29))) rfl dX9_finds_101 (fun H locs hP hD hS => ?_)
                          refine lv_aload_n hx hb dX9_finds_104 rfl (lv_at hl 1 rfl) ?_
                          refine lv_iload hx hb dX9_finds_105 (lv_at hl 7 rfl) ?_
                          refine g_put hE okX9 fl_X9_327 hP hD hS 0 rfl rfl rfl rfl (Nat.le_of_ble_eq_true rfl) (Mo_c g a0 (Mo_w_sumSent (Mo_w_foundRight (Mo_w_foundLeft (Mo_w_foundKey s0_24 x4_5) x5_14) x6_23) ((Mo_sumSent s0_24) + y29))) rfl dX9_finds_107 (fun H locs hP hD hS => ?_)
                          refine lv_iinc hx hb dX9_finds_110 hl (k := 4) (x := x3_22) rfl (kinc_1 _) (by decide) (lv' := [(3, .int (x3_22 + (1 : Int32))), (7, .int y29), (0, .ref (a0 0)), (1, .int p1), (2, .int p2), (4, .int x4_5), (5, .int x5_14), (6, .int x6_23)]) rfl (fun ls hl => ?_)
                          refine lv_iinc hx hb dX9_finds_113 hl (k := 7) (x := x6_23) rfl (kinc_1 _) (by decide) (lv' := [(6, .int (x6_23 + (1 : Int32))), (3, .int (x3_22 + (1 : Int32))), (7, .int y29), (0, .ref (a0 0)), (1, .int p1), (2, .int p2), (4, .int x4_5), (5, .int x5_14)]) rfl (fun ls hl => ?_)
                          refine lv_goto hx hb dX9_finds_116 (tgt := 30) rfl ?_
                          exact ihn26 (x3_22 + (1 : Int32)) (x6_23 + (1 : Int32)) (Mo_w_sumSent (Mo_w_foundRight (Mo_w_foundLeft (Mo_w_foundKey s0_24 x4_5) x5_14) x6_23) ((Mo_sumSent s0_24) + y29)) ls H locs hf (lv_sub hl [3, 4, 5, 1, 6, 7, 0] rfl) hP hD hS
                      · have hf := gif_t h30 hf
                        refine lv_goto hx hb dX9_finds_73 (tgt := 113) rfl ?_
                        refine lv_iinc hx hb dX9_finds_113 hl (k := 7) (x := x6_23) rfl (kinc_1 _) (by decide) (lv' := [(6, .int (x6_23 + (1 : Int32))), (7, .int y29), (0, .ref (a0 0)), (1, .int p1), (2, .int p2), (3, .int x3_22), (4, .int x4_5), (5, .int x5_14)]) rfl (fun ls hl => ?_)
                        refine lv_goto hx hb dX9_finds_116 (tgt := 30) rfl ?_
                        exact ihn26 x3_22 (x6_23 + (1 : Int32)) s0_24 ls H locs hf (lv_sub hl [2, 3, 4, 5, 6, 7, 0] rfl) hP hD hS
                    obtain ⟨J32, eJ32, hf⟩ := gltd hf
                    have kJ32 : ∀ (_ : Unit) (ls : Array Slot) (H : Heap) (locs : List Loc), J32 () = some res → lv_has ls 8 [(0, .ref (a0 0)), (1, .int p1), (2, .int p2), (3, .int x3_22), (4, .int x4_5), (5, .int x5_14), (6, .int x6_23)] → gP g (Mo_c g a0 s0_24) H → va_D A (Mo_c g a0 s0_24) → va_S A s.heap H locs → W p l e rm_X9_finds s m args below meth c H locs 0 0 Q (F0 m 51 ls []) := by
                      intro _ ls H locs hf hl hP hD hS
                      rw [eJ32] at hf
                      refine lv_aload_n hx hb dX9_finds_51 rfl (lv_at hl 0 rfl) ?_
                      refine lv_iload_n hx hb dX9_finds_52 rfl (lv_at hl 1 rfl) ?_
                      refine lv_iload hx hb dX9_finds_53 (lv_at hl 4 rfl) ?_
                      refine lv_iload hx hb dX9_finds_55 (lv_at hl 5 rfl) ?_
                      refine lv_iload hx hb dX9_finds_57 (lv_at hl 6 rfl) ?_
                      obtain ⟨r33, hc34, hf⟩ := gbd hf
                      refine gr_callV (As := [.int p1, .int x4_5, .int x5_14, .int x6_23]) (rest := []) (st1 := [.int r33]) hE hl.1 ml_X9_315 (c_X9_sentOf l g a0 s0_24 p1 x4_5 x5_14 x6_23 r33 hc34) hZ hS hP [(0, 14)] rfl okX9 rfl rfl rfl rfl ⟨rfl, rfl⟩ ⟨Nat.le_of_ble_eq_true rfl, Nat.le_of_ble_eq_true rfl⟩ ⟨Nat.le_refl _, Nat.le_refl _⟩ (Nat.le_of_ble_eq_true rfl) dX9_finds_59 ?_
                      refine lv_goto hx hb dX9_finds_62 (tgt := 66) rfl ?_
                      exact kJ28 r33 ls H locs hf (lv_sub hl [0, 1, 2, 3, 4, 5, 6] rfl) hP hD hS
                    refine lv_icmp_lt hx hb dX9_finds_41 (tgt := 51) rfl (fun h35 => ?_) (fun h35 => ?_)
                    · have hf := gif_t h35 hf
                      exact kJ32 () ls H locs hf (lv_sub hl [0, 1, 2, 3, 4, 5, 6] rfl) hP hD hS
                    · have hf := gif_f h35 hf
                      refine lv_iload hx hb dX9_finds_44 (lv_at hl 6 rfl) ?_
                      refine lv_bipush hx hb dX9_finds_46 kcb_8 ?_
                      refine lv_icmp_ge hx hb dX9_finds_48 (tgt := 65) rfl (fun h36 => ?_) (fun h36 => ?_)
                      · have hf := gif_t h36 hf
                        refine lv_iconst hx hb dX9_finds_65 kci_0 ?_
                        exact kJ28 (0 : Int32) ls H locs hf (lv_sub hl [0, 1, 2, 3, 4, 5, 6] rfl) hP hD hS
                      · have hf := gif_f h36 hf
                        exact kJ32 () ls H locs hf (lv_sub hl [0, 1, 2, 3, 4, 5, 6] rfl) hP hD hS
              exact lpn26 10000 x3_13 (0 : Int32) s0_15 ls H locs hf (lv_sub hl [1, 2, 3, 4, 5, 6, 0] rfl) hP hD hS
        exact lpn17 10000 x3_4 (0 : Int32) s0_6 ls H locs hf (lv_sub hl [1, 2, 3, 4, 5, 0] rfl) hP hD hS
  exact lpn8 10000 (0 : Int32) (0 : Int32) (Mo_w_sumSent s0 (0 : Int32)) ls H locs hf (lv_sub hl [2, 3, 4, 1, 0] rfl) hP hD hS
theorem dX9_rows_0 : decode cX9_rows 0 = .ok (.aload_n 0, 1) := by decide +kernel
theorem dX9_rows_1 : decode cX9_rows 1 = .ok (.iconst 0, 1) := by decide +kernel
theorem dX9_rows_2 : decode cX9_rows 2 = .ok (.putfield 55, 3) := by decide +kernel
theorem dX9_rows_5 : decode cX9_rows 5 = .ok (.aload_n 0, 1) := by decide +kernel
theorem dX9_rows_6 : decode cX9_rows 6 = .ok (.getfield 218, 3) := by decide +kernel
theorem dX9_rows_9 : decode cX9_rows 9 = .ok (.ifCond .eq 16, 3) := by decide +kernel
theorem dX9_rows_12 : decode cX9_rows 12 = .ok (.aload_n 0, 1) := by decide +kernel
theorem dX9_rows_13 : decode cX9_rows 13 = .ok (.aload_n 0, 1) := by decide +kernel
theorem dX9_rows_14 : decode cX9_rows 14 = .ok (.iconst 0, 1) := by decide +kernel
theorem dX9_rows_15 : decode cX9_rows 15 = .ok (.iconst (-1), 1) := by decide +kernel
theorem dX9_rows_16 : decode cX9_rows 16 = .ok (.invokevirtual 330, 3) := by decide +kernel
theorem dX9_rows_19 : decode cX9_rows 19 = .ok (.invokevirtual 230, 3) := by decide +kernel
theorem dX9_rows_22 : decode cX9_rows 22 = .ok (.goto 8, 3) := by decide +kernel
theorem dX9_rows_25 : decode cX9_rows 25 = .ok (.aload_n 0, 1) := by decide +kernel
theorem dX9_rows_26 : decode cX9_rows 26 = .ok (.iconst 1, 1) := by decide +kernel
theorem dX9_rows_27 : decode cX9_rows 27 = .ok (.invokevirtual 61, 3) := by decide +kernel
theorem dX9_rows_30 : decode cX9_rows 30 = .ok (.ireturn, 1) := by decide +kernel
def f_X9_rows (s0 : MoT) : Option (Int32 × MoT) :=
  if (Mo_isThere s0) = 0 then (f_X9_refused (Mo_w_thrown s0 (0 : Int32)) (1 : Int32)).bind fun r2 =>
  some ((r2.1), (r2.2))
  else (f_X9_finds (Mo_w_thrown s0 (0 : Int32)) (0 : Int32) (-1 : Int32)).bind fun r4 =>
  (f_X9_good (r4.2) (r4.1)).bind fun r6 =>
  some ((r6.1), (r6.2))
abbrev rm_X9_rows : Room := { frames := 7, cells := 0, slots := 0, locals := 171 }
set_option maxHeartbeats 4000000 in
set_option maxRecDepth 100000 in
theorem c_X9_rows (l : Launch) (g : GK) (a0 : Nat → Nat) (s0 : MoT) (res : (Int32 × MoT)) (hf : f_X9_rows s0 = some res) : gM l yX9_rows cX9_rows 1 (some .int) rm_X9_rows g [.ref (a0 0)] (Mo_c g a0 s0) (fun _ : Unit => (some (.int (res.1)))) (fun _ => (Mo_c g a0 (res.2))) 0 0 := by
  refine gM_introI RX9 (by decide) rfl (Nat.le_of_ble_eq_true rfl) (fun p e s m args below meth c Q H locs ls A hE hZ hA hP hD hS hq hl => ?_)
  have hl : lv_has ls 1 [(0, .ref (a0 0))] := hl
  have hx := hE.1
  have hb := hE.2.1
  rw [f_X9_rows] at hf
  refine lv_aload_n hx hb dX9_rows_0 rfl (lv_at hl 0 rfl) ?_
  refine lv_iconst hx hb dX9_rows_1 kci_0 ?_
  refine g_put hE okX9 fl_X9_55 hP hD hS 0 rfl rfl rfl rfl (Nat.le_of_ble_eq_true rfl) (Mo_c g a0 (Mo_w_thrown s0 (0 : Int32))) rfl dX9_rows_2 (fun H locs hP hD hS => ?_)
  refine lv_aload_n hx hb dX9_rows_5 rfl (lv_at hl 0 rfl) ?_
  refine g_get hE okX9 fl_X9_218 hP 0 rfl (v := .int (Mo_isThere s0)) rfl dX9_rows_6 ?_
  refine lv_if_eq hx hb dX9_rows_9 (tgt := 25) rfl (fun h1 => ?_) (fun h1 => ?_)
  · have hf := gif_t h1 hf
    refine lv_aload_n hx hb dX9_rows_25 rfl (lv_at hl 0 rfl) ?_
    refine lv_iconst hx hb dX9_rows_26 kci_1 ?_
    obtain ⟨r2, hc3, hf⟩ := gbd hf
    refine gm_callV1 (As := [.int (1 : Int32)]) (rest := []) (st1 := fun _ => [.int (r2.1)]) (ws' := fun _ => (Mo_c g a0 (r2.2))) hE hl.1 ml_X9_61 (c_X9_refused l g a0 (Mo_w_thrown s0 (0 : Int32)) (1 : Int32) r2 hc3) hZ hP hD hS hA 0 14 rfl (fun _ => rfl) okX9 rfl rfl rfl (fun _ => rfl) ⟨rfl, rfl⟩ ⟨Nat.le_of_ble_eq_true rfl, Nat.le_of_ble_eq_true rfl⟩ ⟨Nat.le_refl _, Nat.le_refl _⟩ (Nat.le_of_ble_eq_true rfl) dX9_rows_27 (fun _ H locs hP hD hS => ?_)
    cases hf
    exact hq () rfl hP hD hS dX9_rows_30
  · have hf := gif_f h1 hf
    refine lv_aload_n hx hb dX9_rows_12 rfl (lv_at hl 0 rfl) ?_
    refine lv_aload_n hx hb dX9_rows_13 rfl (lv_at hl 0 rfl) ?_
    refine lv_iconst hx hb dX9_rows_14 kci_0 ?_
    refine lv_iconst hx hb dX9_rows_15 kci_m1 ?_
    obtain ⟨r4, hc5, hf⟩ := gbd hf
    refine gm_callV1 (As := [.int (0 : Int32), .int (-1 : Int32)]) (rest := [.ref (a0 0)]) (st1 := fun _ => [.int (r4.1), .ref (a0 0)]) (ws' := fun _ => (Mo_c g a0 (r4.2))) hE hl.1 ml_X9_330 (c_X9_finds l g a0 (Mo_w_thrown s0 (0 : Int32)) (0 : Int32) (-1 : Int32) r4 hc5) hZ hP hD hS hA 0 14 rfl (fun _ => rfl) okX9 rfl rfl rfl (fun _ => rfl) ⟨rfl, rfl⟩ ⟨Nat.le_of_ble_eq_true rfl, Nat.le_of_ble_eq_true rfl⟩ ⟨Nat.le_refl _, Nat.le_refl _⟩ (Nat.le_of_ble_eq_true rfl) dX9_rows_16 (fun _ H locs hP hD hS => ?_)
    obtain ⟨r6, hc7, hf⟩ := gbd hf
    refine gm_callV1 (As := [.int (r4.1)]) (rest := []) (st1 := fun _ => [.int (r6.1)]) (ws' := fun _ => (Mo_c g a0 (r6.2))) hE hl.1 ml_X9_230 (c_X9_good l g a0 (r4.2) (r4.1) r6 hc7) hZ hP hD hS hA 0 14 rfl (fun _ => rfl) okX9 rfl rfl rfl (fun _ => rfl) ⟨rfl, rfl⟩ ⟨Nat.le_of_ble_eq_true rfl, Nat.le_of_ble_eq_true rfl⟩ ⟨Nat.le_refl _, Nat.le_refl _⟩ (Nat.le_of_ble_eq_true rfl) dX9_rows_19 (fun _ H locs hP hD hS => ?_)
    refine lv_goto hx hb dX9_rows_22 (tgt := 30) rfl ?_
    cases hf
    exact hq () rfl hP hD hS dX9_rows_30
theorem dX9_isFound_0 : decode cX9_isFound 0 = .ok (.aload_n 0, 1) := by decide +kernel
theorem dX9_isFound_1 : decode cX9_isFound 1 = .ok (.getfield 218, 3) := by decide +kernel
theorem dX9_isFound_4 : decode cX9_isFound 4 = .ok (.ifCond .eq 21, 3) := by decide +kernel
theorem dX9_isFound_7 : decode cX9_isFound 7 = .ok (.iload_n 1, 1) := by decide +kernel
theorem dX9_isFound_8 : decode cX9_isFound 8 = .ok (.ifCond .lt 17, 3) := by decide +kernel
theorem dX9_isFound_11 : decode cX9_isFound 11 = .ok (.iload_n 1, 1) := by decide +kernel
theorem dX9_isFound_12 : decode cX9_isFound 12 = .ok (.aload_n 0, 1) := by decide +kernel
theorem dX9_isFound_13 : decode cX9_isFound 13 = .ok (.iconst 0, 1) := by decide +kernel
theorem dX9_isFound_14 : decode cX9_isFound 14 = .ok (.iload_n 1, 1) := by decide +kernel
theorem dX9_isFound_15 : decode cX9_isFound 15 = .ok (.invokevirtual 330, 3) := by decide +kernel
theorem dX9_isFound_18 : decode cX9_isFound 18 = .ok (.if_icmp .ge 7, 3) := by decide +kernel
theorem dX9_isFound_21 : decode cX9_isFound 21 = .ok (.iconst 1, 1) := by decide +kernel
theorem dX9_isFound_22 : decode cX9_isFound 22 = .ok (.goto 4, 3) := by decide +kernel
theorem dX9_isFound_25 : decode cX9_isFound 25 = .ok (.iconst 0, 1) := by decide +kernel
theorem dX9_isFound_26 : decode cX9_isFound 26 = .ok (.ireturn, 1) := by decide +kernel
def f_X9_isFound (s0 : MoT) (p1 : Int32) : Option (Int32 × MoT) :=
  if (Mo_isThere s0) = 0 then some ((0 : Int32), s0)
  else if p1 < 0 then some ((0 : Int32), s0)
  else (f_X9_finds s0 (0 : Int32) p1).bind fun r3 =>
  if (r3.1) ≤ p1 then some ((0 : Int32), (r3.2))
  else some ((1 : Int32), (r3.2))
abbrev rm_X9_isFound : Room := { frames := 7, cells := 0, slots := 0, locals := 171 }
set_option maxHeartbeats 4000000 in
set_option maxRecDepth 100000 in
theorem c_X9_isFound (l : Launch) (g : GK) (a0 : Nat → Nat) (s0 : MoT) (p1 : Int32) (res : (Int32 × MoT)) (hf : f_X9_isFound s0 p1 = some res) : gM l yX9_isFound cX9_isFound 2 (some .boolean) rm_X9_isFound g [.ref (a0 0), .int p1] (Mo_c g a0 s0) (fun _ : Unit => (some (.int (res.1)))) (fun _ => (Mo_c g a0 (res.2))) 0 0 := by
  refine gM_introZ RX9 (by decide) rfl (Nat.le_of_ble_eq_true rfl) (fun p e s m args below meth c Q H locs ls A hE hZ hA hP hD hS hq hl => ?_)
  have hl : lv_has ls 2 [(0, .ref (a0 0)), (1, .int p1)] := hl
  have hx := hE.1
  have hb := hE.2.1
  rw [f_X9_isFound] at hf
  refine lv_aload_n hx hb dX9_isFound_0 rfl (lv_at hl 0 rfl) ?_
  refine g_get hE okX9 fl_X9_218 hP 0 rfl (v := .int (Mo_isThere s0)) rfl dX9_isFound_1 ?_
  refine lv_if_eq hx hb dX9_isFound_4 (tgt := 25) rfl (fun h1 => ?_) (fun h1 => ?_)
  · have hf := gif_t h1 hf
    refine lv_iconst hx hb dX9_isFound_25 kci_0 ?_
    cases hf
    exact hq () (by decide) rfl hP hD hS dX9_isFound_26
  · have hf := gif_f h1 hf
    refine lv_iload_n hx hb dX9_isFound_7 rfl (lv_at hl 1 rfl) ?_
    refine lv_if_lt hx hb dX9_isFound_8 (tgt := 25) rfl (fun h2 => ?_) (fun h2 => ?_)
    · have hf := gif_t h2 hf
      refine lv_iconst hx hb dX9_isFound_25 kci_0 ?_
      cases hf
      exact hq () (by decide) rfl hP hD hS dX9_isFound_26
    · have hf := gif_f h2 hf
      refine lv_iload_n hx hb dX9_isFound_11 rfl (lv_at hl 1 rfl) ?_
      refine lv_aload_n hx hb dX9_isFound_12 rfl (lv_at hl 0 rfl) ?_
      refine lv_iconst hx hb dX9_isFound_13 kci_0 ?_
      refine lv_iload_n hx hb dX9_isFound_14 rfl (lv_at hl 1 rfl) ?_
      obtain ⟨r3, hc4, hf⟩ := gbd hf
      refine gm_callV1 (As := [.int (0 : Int32), .int p1]) (rest := [.int p1]) (st1 := fun _ => [.int (r3.1), .int p1]) (ws' := fun _ => (Mo_c g a0 (r3.2))) hE hl.1 ml_X9_330 (c_X9_finds l g a0 s0 (0 : Int32) p1 r3 hc4) hZ hP hD hS hA 0 14 rfl (fun _ => rfl) okX9 rfl rfl rfl (fun _ => rfl) ⟨rfl, rfl⟩ ⟨Nat.le_of_ble_eq_true rfl, Nat.le_of_ble_eq_true rfl⟩ ⟨Nat.le_refl _, Nat.le_refl _⟩ (Nat.le_of_ble_eq_true rfl) dX9_isFound_15 (fun _ H locs hP hD hS => ?_)
      refine lv_icmp_ge hx hb dX9_isFound_18 (tgt := 25) rfl (fun h5 => ?_) (fun h5 => ?_)
      · have hf := gif_t h5 hf
        refine lv_iconst hx hb dX9_isFound_25 kci_0 ?_
        cases hf
        exact hq () (by decide) rfl hP hD hS dX9_isFound_26
      · have hf := gif_f h5 hf
        refine lv_iconst hx hb dX9_isFound_21 kci_1 ?_
        refine lv_goto hx hb dX9_isFound_22 (tgt := 26) rfl ?_
        cases hf
        exact hq () (by decide) rfl hP hD hS dX9_isFound_26
theorem dX9_told_0 : decode cX9_told 0 = .ok (.iload_n 0, 1) := by decide +kernel
theorem dX9_told_1 : decode cX9_told 1 = .ok (.bipush 8, 2) := by decide +kernel
theorem dX9_told_3 : decode cX9_told 3 = .ok (.if_icmp .ne 8, 3) := by decide +kernel
theorem dX9_told_6 : decode cX9_told 6 = .ok (.bipush (-2), 2) := by decide +kernel
theorem dX9_told_8 : decode cX9_told 8 = .ok (.goto 4, 3) := by decide +kernel
theorem dX9_told_11 : decode cX9_told 11 = .ok (.iload_n 0, 1) := by decide +kernel
theorem dX9_told_12 : decode cX9_told 12 = .ok (.ireturn, 1) := by decide +kernel
def f_X9_told (p1 : Int32) : Option (Int32) :=
  if p1 = (8 : Int32) then some ((-2 : Int32))
  else some (p1)
abbrev rm_X9_told : Room := { frames := 0, cells := 0, slots := 0, locals := 0 }
set_option maxHeartbeats 4000000 in
set_option maxRecDepth 100000 in
theorem c_X9_told (l : Launch) (g : GK) (p1 : Int32) (res : (Int32)) (hf : f_X9_told p1 = some res) : gR l yX9_told cX9_told 1 (some .int) rm_X9_told g [.int p1] [] (some (.int res)) := by
  refine gR_introI RX9 (by decide) rfl (Nat.le_of_ble_eq_true rfl) (fun p e s m args below meth c Q H locs ls hE hP hZ hS hq hl => ?_)
  have hl : lv_has ls 1 [(0, .int p1)] := hl
  have hx := hE.1
  have hb := hE.2.1
  rw [f_X9_told] at hf
  refine lv_iload_n hx hb dX9_told_0 rfl (lv_at hl 0 rfl) ?_
  refine lv_bipush hx hb dX9_told_1 kcb_8 ?_
  refine lv_icmp_ne hx hb dX9_told_3 (tgt := 11) rfl (fun h1 => ?_) (fun h1 => ?_)
  · have hf := gif_f h1 hf
    refine lv_iload_n hx hb dX9_told_11 rfl (lv_at hl 0 rfl) ?_
    cases hf
    exact hq rfl dX9_told_12
  · have hf := gif_t h1 hf
    refine lv_bipush hx hb dX9_told_6 kcb_m2 ?_
    refine lv_goto hx hb dX9_told_8 (tgt := 12) rfl ?_
    cases hf
    exact hq rfl dX9_told_12
theorem dX9_row_0 : decode cX9_row 0 = .ok (.aload_n 0, 1) := by decide +kernel
theorem dX9_row_1 : decode cX9_row 1 = .ok (.iconst 0, 1) := by decide +kernel
theorem dX9_row_2 : decode cX9_row 2 = .ok (.putfield 55, 3) := by decide +kernel
theorem dX9_row_5 : decode cX9_row 5 = .ok (.iload_n 2, 1) := by decide +kernel
theorem dX9_row_6 : decode cX9_row 6 = .ok (.iconst 0, 1) := by decide +kernel
theorem dX9_row_7 : decode cX9_row 7 = .ok (.iconst 3, 1) := by decide +kernel
theorem dX9_row_8 : decode cX9_row 8 = .ok (.invokestatic 90, 3) := by decide +kernel
theorem dX9_row_11 : decode cX9_row 11 = .ok (.ifCond .eq 11, 3) := by decide +kernel
theorem dX9_row_14 : decode cX9_row 14 = .ok (.aload_n 0, 1) := by decide +kernel
theorem dX9_row_15 : decode cX9_row 15 = .ok (.iload_n 1, 1) := by decide +kernel
theorem dX9_row_16 : decode cX9_row 16 = .ok (.invokevirtual 333, 3) := by decide +kernel
theorem dX9_row_19 : decode cX9_row 19 = .ok (.ifCond .ne 9, 3) := by decide +kernel
theorem dX9_row_22 : decode cX9_row 22 = .ok (.aload_n 0, 1) := by decide +kernel
theorem dX9_row_23 : decode cX9_row 23 = .ok (.iconst 1, 1) := by decide +kernel
theorem dX9_row_24 : decode cX9_row 24 = .ok (.invokevirtual 306, 3) := by decide +kernel
theorem dX9_row_27 : decode cX9_row 27 = .ok (.ireturn, 1) := by decide +kernel
theorem dX9_row_28 : decode cX9_row 28 = .ok (.iload_n 2, 1) := by decide +kernel
theorem dX9_row_29 : decode cX9_row 29 = .ok (.tableswitch 60 0 2 #[27, 36, 48], 27) := by decide +kernel
theorem dX9_row_56 : decode cX9_row 56 = .ok (.aload_n 0, 1) := by decide +kernel
theorem dX9_row_57 : decode cX9_row 57 = .ok (.aload_n 0, 1) := by decide +kernel
theorem dX9_row_58 : decode cX9_row 58 = .ok (.getfield 321, 3) := by decide +kernel
theorem dX9_row_61 : decode cX9_row 61 = .ok (.invokevirtual 230, 3) := by decide +kernel
theorem dX9_row_64 : decode cX9_row 64 = .ok (.ireturn, 1) := by decide +kernel
theorem dX9_row_65 : decode cX9_row 65 = .ok (.aload_n 0, 1) := by decide +kernel
theorem dX9_row_66 : decode cX9_row 66 = .ok (.aload_n 0, 1) := by decide +kernel
theorem dX9_row_67 : decode cX9_row 67 = .ok (.getfield 324, 3) := by decide +kernel
theorem dX9_row_70 : decode cX9_row 70 = .ok (.invokestatic 336, 3) := by decide +kernel
theorem dX9_row_73 : decode cX9_row 73 = .ok (.invokevirtual 230, 3) := by decide +kernel
theorem dX9_row_76 : decode cX9_row 76 = .ok (.ireturn, 1) := by decide +kernel
theorem dX9_row_77 : decode cX9_row 77 = .ok (.aload_n 0, 1) := by decide +kernel
theorem dX9_row_78 : decode cX9_row 78 = .ok (.aload_n 0, 1) := by decide +kernel
theorem dX9_row_79 : decode cX9_row 79 = .ok (.getfield 327, 3) := by decide +kernel
theorem dX9_row_82 : decode cX9_row 82 = .ok (.invokestatic 336, 3) := by decide +kernel
theorem dX9_row_85 : decode cX9_row 85 = .ok (.invokevirtual 230, 3) := by decide +kernel
theorem dX9_row_88 : decode cX9_row 88 = .ok (.ireturn, 1) := by decide +kernel
theorem dX9_row_89 : decode cX9_row 89 = .ok (.aload_n 0, 1) := by decide +kernel
theorem dX9_row_90 : decode cX9_row 90 = .ok (.aload_n 0, 1) := by decide +kernel
theorem dX9_row_91 : decode cX9_row 91 = .ok (.iconst 0, 1) := by decide +kernel
theorem dX9_row_92 : decode cX9_row 92 = .ok (.aload_n 0, 1) := by decide +kernel
theorem dX9_row_93 : decode cX9_row 93 = .ok (.getfield 321, 3) := by decide +kernel
theorem dX9_row_96 : decode cX9_row 96 = .ok (.aload_n 0, 1) := by decide +kernel
theorem dX9_row_97 : decode cX9_row 97 = .ok (.getfield 324, 3) := by decide +kernel
theorem dX9_row_100 : decode cX9_row 100 = .ok (.aload_n 0, 1) := by decide +kernel
theorem dX9_row_101 : decode cX9_row 101 = .ok (.getfield 327, 3) := by decide +kernel
theorem dX9_row_104 : decode cX9_row 104 = .ok (.invokevirtual 315, 3) := by decide +kernel
theorem dX9_row_107 : decode cX9_row 107 = .ok (.invokevirtual 230, 3) := by decide +kernel
theorem dX9_row_110 : decode cX9_row 110 = .ok (.ireturn, 1) := by decide +kernel
def f_X9_row (s0 : MoT) (p1 : Int32) (p2 : Int32) : Option (Int32 × MoT) :=
  (f_X9_in p2 (0 : Int32) (3 : Int32)).bind fun r1 =>
  if r1 = 0 then (f_X9_refusedLow (Mo_w_thrown s0 (0 : Int32)) (1 : Int32)).bind fun r4 =>
  some ((r4.1), (r4.2))
  else (f_X9_isFound (Mo_w_thrown s0 (0 : Int32)) p1).bind fun r6 =>
  if (r6.1) = 0 then (f_X9_refusedLow (r6.2) (1 : Int32)).bind fun r26 =>
  some ((r26.1), (r26.2))
  else if p2 = (0 : Int32) then (f_X9_good (r6.2) (Mo_foundKey (r6.2))).bind fun r10 =>
  some ((r10.1), (r10.2))
  else if p2 = (1 : Int32) then (f_X9_told (Mo_foundLeft (r6.2))).bind fun r13 =>
  (f_X9_good (r6.2) r13).bind fun r15 =>
  some ((r15.1), (r15.2))
  else if p2 = (2 : Int32) then (f_X9_told (Mo_foundRight (r6.2))).bind fun r18 =>
  (f_X9_good (r6.2) r18).bind fun r20 =>
  some ((r20.1), (r20.2))
  else (f_X9_sentOf (r6.2) (0 : Int32) (Mo_foundKey (r6.2)) (Mo_foundLeft (r6.2)) (Mo_foundRight (r6.2))).bind fun r22 =>
  (f_X9_good (r6.2) r22).bind fun r24 =>
  some ((r24.1), (r24.2))
abbrev rm_X9_row : Room := { frames := 8, cells := 0, slots := 0, locals := 192 }
set_option maxHeartbeats 4000000 in
set_option maxRecDepth 100000 in
theorem c_X9_row (l : Launch) (g : GK) (a0 : Nat → Nat) (s0 : MoT) (p1 : Int32) (p2 : Int32) (res : (Int32 × MoT)) (hf : f_X9_row s0 p1 p2 = some res) : gM l yX9_row cX9_row 3 (some .int) rm_X9_row g [.ref (a0 0), .int p1, .int p2] (Mo_c g a0 s0) (fun _ : Unit => (some (.int (res.1)))) (fun _ => (Mo_c g a0 (res.2))) 0 0 := by
  refine gM_introI RX9 (by decide) rfl (Nat.le_of_ble_eq_true rfl) (fun p e s m args below meth c Q H locs ls A hE hZ hA hP hD hS hq hl => ?_)
  have hl : lv_has ls 3 [(0, .ref (a0 0)), (1, .int p1), (2, .int p2)] := hl
  have hx := hE.1
  have hb := hE.2.1
  rw [f_X9_row] at hf
  refine lv_aload_n hx hb dX9_row_0 rfl (lv_at hl 0 rfl) ?_
  refine lv_iconst hx hb dX9_row_1 kci_0 ?_
  refine g_put hE okX9 fl_X9_55 hP hD hS 0 rfl rfl rfl rfl (Nat.le_of_ble_eq_true rfl) (Mo_c g a0 (Mo_w_thrown s0 (0 : Int32))) rfl dX9_row_2 (fun H locs hP hD hS => ?_)
  refine lv_iload_n hx hb dX9_row_5 rfl (lv_at hl 2 rfl) ?_
  refine lv_iconst hx hb dX9_row_6 kci_0 ?_
  refine lv_iconst hx hb dX9_row_7 kci_3 ?_
  obtain ⟨r1, hc2, hf⟩ := gbd hf
  refine gr_callS (As := [.int p2, .int (0 : Int32), .int (3 : Int32)]) (rest := []) (st1 := [.int r1]) hE hl.1 ml_X9_90 (c_X9_in l g p2 (0 : Int32) (3 : Int32) r1 hc2) hZ hS hP [] rfl rfl rfl rfl ⟨rfl, rfl⟩ ⟨Nat.le_of_ble_eq_true rfl, Nat.le_of_ble_eq_true rfl⟩ ⟨Nat.le_refl _, Nat.le_refl _⟩ (Nat.le_of_ble_eq_true rfl) dX9_row_8 ?_
  refine lv_if_eq hx hb dX9_row_11 (tgt := 22) rfl (fun h3 => ?_) (fun h3 => ?_)
  · have hf := gif_t h3 hf
    refine lv_aload_n hx hb dX9_row_22 rfl (lv_at hl 0 rfl) ?_
    refine lv_iconst hx hb dX9_row_23 kci_1 ?_
    obtain ⟨r4, hc5, hf⟩ := gbd hf
    refine gm_callV1 (As := [.int (1 : Int32)]) (rest := []) (st1 := fun _ => [.int (r4.1)]) (ws' := fun _ => (Mo_c g a0 (r4.2))) hE hl.1 ml_X9_306 (c_X9_refusedLow l g a0 (Mo_w_thrown s0 (0 : Int32)) (1 : Int32) r4 hc5) hZ hP hD hS hA 0 14 rfl (fun _ => rfl) okX9 rfl rfl rfl (fun _ => rfl) ⟨rfl, rfl⟩ ⟨Nat.le_of_ble_eq_true rfl, Nat.le_of_ble_eq_true rfl⟩ ⟨Nat.le_refl _, Nat.le_refl _⟩ (Nat.le_of_ble_eq_true rfl) dX9_row_24 (fun _ H locs hP hD hS => ?_)
    cases hf
    exact hq () rfl hP hD hS dX9_row_27
  · have hf := gif_f h3 hf
    refine lv_aload_n hx hb dX9_row_14 rfl (lv_at hl 0 rfl) ?_
    refine lv_iload_n hx hb dX9_row_15 rfl (lv_at hl 1 rfl) ?_
    obtain ⟨r6, hc7, hf⟩ := gbd hf
    refine gm_callV1 (As := [.int p1]) (rest := []) (st1 := fun _ => [.int (r6.1)]) (ws' := fun _ => (Mo_c g a0 (r6.2))) hE hl.1 ml_X9_333 (c_X9_isFound l g a0 (Mo_w_thrown s0 (0 : Int32)) p1 r6 hc7) hZ hP hD hS hA 0 14 rfl (fun _ => rfl) okX9 rfl rfl rfl (fun _ => rfl) ⟨rfl, rfl⟩ ⟨Nat.le_of_ble_eq_true rfl, Nat.le_of_ble_eq_true rfl⟩ ⟨Nat.le_refl _, Nat.le_refl _⟩ (Nat.le_of_ble_eq_true rfl) dX9_row_16 (fun _ H locs hP hD hS => ?_)
    refine lv_if_ne hx hb dX9_row_19 (tgt := 28) rfl (fun h8 => ?_) (fun h8 => ?_)
    · have hf := gif_f h8 hf
      refine lv_iload_n hx hb dX9_row_28 rfl (lv_at hl 2 rfl) ?_
      by_cases h9 : p2 = (0 : Int32)
      · have hf := gif_t h9 hf
        refine g_swIn hE h9 dX9_row_29 (0) ⟨by decide, by decide⟩ (by decide) (off := 27) rfl (tgt := 56) rfl ?_
        refine lv_aload_n hx hb dX9_row_56 rfl (lv_at hl 0 rfl) ?_
        refine lv_aload_n hx hb dX9_row_57 rfl (lv_at hl 0 rfl) ?_
        refine g_get hE okX9 fl_X9_321 hP 0 rfl (v := .int (Mo_foundKey (r6.2))) rfl dX9_row_58 ?_
        obtain ⟨r10, hc11, hf⟩ := gbd hf
        refine gm_callV1 (As := [.int (Mo_foundKey (r6.2))]) (rest := []) (st1 := fun _ => [.int (r10.1)]) (ws' := fun _ => (Mo_c g a0 (r10.2))) hE hl.1 ml_X9_230 (c_X9_good l g a0 (r6.2) (Mo_foundKey (r6.2)) r10 hc11) hZ hP hD hS hA 0 14 rfl (fun _ => rfl) okX9 rfl rfl rfl (fun _ => rfl) ⟨rfl, rfl⟩ ⟨Nat.le_of_ble_eq_true rfl, Nat.le_of_ble_eq_true rfl⟩ ⟨Nat.le_refl _, Nat.le_refl _⟩ (Nat.le_of_ble_eq_true rfl) dX9_row_61 (fun _ H locs hP hD hS => ?_)
        cases hf
        exact hq () rfl hP hD hS dX9_row_64
      have hf := gif_f h9 hf
      by_cases h12 : p2 = (1 : Int32)
      · have hf := gif_t h12 hf
        refine g_swIn hE h12 dX9_row_29 (1) ⟨by decide, by decide⟩ (by decide) (off := 36) rfl (tgt := 65) rfl ?_
        refine lv_aload_n hx hb dX9_row_65 rfl (lv_at hl 0 rfl) ?_
        refine lv_aload_n hx hb dX9_row_66 rfl (lv_at hl 0 rfl) ?_
        refine g_get hE okX9 fl_X9_324 hP 0 rfl (v := .int (Mo_foundLeft (r6.2))) rfl dX9_row_67 ?_
        obtain ⟨r13, hc14, hf⟩ := gbd hf
        refine gr_callS (As := [.int (Mo_foundLeft (r6.2))]) (rest := [.ref (a0 0)]) (st1 := [.int r13, .ref (a0 0)]) hE hl.1 ml_X9_336 (c_X9_told l g (Mo_foundLeft (r6.2)) r13 hc14) hZ hS hP [] rfl rfl rfl rfl ⟨rfl, rfl⟩ ⟨Nat.le_of_ble_eq_true rfl, Nat.le_of_ble_eq_true rfl⟩ ⟨Nat.le_refl _, Nat.le_refl _⟩ (Nat.le_of_ble_eq_true rfl) dX9_row_70 ?_
        obtain ⟨r15, hc16, hf⟩ := gbd hf
        refine gm_callV1 (As := [.int r13]) (rest := []) (st1 := fun _ => [.int (r15.1)]) (ws' := fun _ => (Mo_c g a0 (r15.2))) hE hl.1 ml_X9_230 (c_X9_good l g a0 (r6.2) r13 r15 hc16) hZ hP hD hS hA 0 14 rfl (fun _ => rfl) okX9 rfl rfl rfl (fun _ => rfl) ⟨rfl, rfl⟩ ⟨Nat.le_of_ble_eq_true rfl, Nat.le_of_ble_eq_true rfl⟩ ⟨Nat.le_refl _, Nat.le_refl _⟩ (Nat.le_of_ble_eq_true rfl) dX9_row_73 (fun _ H locs hP hD hS => ?_)
        cases hf
        exact hq () rfl hP hD hS dX9_row_76
      have hf := gif_f h12 hf
      by_cases h17 : p2 = (2 : Int32)
      · have hf := gif_t h17 hf
        refine g_swIn hE h17 dX9_row_29 (2) ⟨by decide, by decide⟩ (by decide) (off := 48) rfl (tgt := 77) rfl ?_
        refine lv_aload_n hx hb dX9_row_77 rfl (lv_at hl 0 rfl) ?_
        refine lv_aload_n hx hb dX9_row_78 rfl (lv_at hl 0 rfl) ?_
        refine g_get hE okX9 fl_X9_327 hP 0 rfl (v := .int (Mo_foundRight (r6.2))) rfl dX9_row_79 ?_
        obtain ⟨r18, hc19, hf⟩ := gbd hf
        refine gr_callS (As := [.int (Mo_foundRight (r6.2))]) (rest := [.ref (a0 0)]) (st1 := [.int r18, .ref (a0 0)]) hE hl.1 ml_X9_336 (c_X9_told l g (Mo_foundRight (r6.2)) r18 hc19) hZ hS hP [] rfl rfl rfl rfl ⟨rfl, rfl⟩ ⟨Nat.le_of_ble_eq_true rfl, Nat.le_of_ble_eq_true rfl⟩ ⟨Nat.le_refl _, Nat.le_refl _⟩ (Nat.le_of_ble_eq_true rfl) dX9_row_82 ?_
        obtain ⟨r20, hc21, hf⟩ := gbd hf
        refine gm_callV1 (As := [.int r18]) (rest := []) (st1 := fun _ => [.int (r20.1)]) (ws' := fun _ => (Mo_c g a0 (r20.2))) hE hl.1 ml_X9_230 (c_X9_good l g a0 (r6.2) r18 r20 hc21) hZ hP hD hS hA 0 14 rfl (fun _ => rfl) okX9 rfl rfl rfl (fun _ => rfl) ⟨rfl, rfl⟩ ⟨Nat.le_of_ble_eq_true rfl, Nat.le_of_ble_eq_true rfl⟩ ⟨Nat.le_refl _, Nat.le_refl _⟩ (Nat.le_of_ble_eq_true rfl) dX9_row_85 (fun _ H locs hP hD hS => ?_)
        cases hf
        exact hq () rfl hP hD hS dX9_row_88
      have hf := gif_f h17 hf
      refine lv_tableOut hx hb dX9_row_29 (by have := nti h9 (k := 0) (by decide); have := nti h12 (k := 1) (by decide); have := nti h17 (k := 2) (by decide); omega) (tgt := 89) rfl ?_
      refine lv_aload_n hx hb dX9_row_89 rfl (lv_at hl 0 rfl) ?_
      refine lv_aload_n hx hb dX9_row_90 rfl (lv_at hl 0 rfl) ?_
      refine lv_iconst hx hb dX9_row_91 kci_0 ?_
      refine lv_aload_n hx hb dX9_row_92 rfl (lv_at hl 0 rfl) ?_
      refine g_get hE okX9 fl_X9_321 hP 0 rfl (v := .int (Mo_foundKey (r6.2))) rfl dX9_row_93 ?_
      refine lv_aload_n hx hb dX9_row_96 rfl (lv_at hl 0 rfl) ?_
      refine g_get hE okX9 fl_X9_324 hP 0 rfl (v := .int (Mo_foundLeft (r6.2))) rfl dX9_row_97 ?_
      refine lv_aload_n hx hb dX9_row_100 rfl (lv_at hl 0 rfl) ?_
      refine g_get hE okX9 fl_X9_327 hP 0 rfl (v := .int (Mo_foundRight (r6.2))) rfl dX9_row_101 ?_
      obtain ⟨r22, hc23, hf⟩ := gbd hf
      refine gr_callV (As := [.int (0 : Int32), .int (Mo_foundKey (r6.2)), .int (Mo_foundLeft (r6.2)), .int (Mo_foundRight (r6.2))]) (rest := [.ref (a0 0)]) (st1 := [.int r22, .ref (a0 0)]) hE hl.1 ml_X9_315 (c_X9_sentOf l g a0 (r6.2) (0 : Int32) (Mo_foundKey (r6.2)) (Mo_foundLeft (r6.2)) (Mo_foundRight (r6.2)) r22 hc23) hZ hS hP [(0, 14)] rfl okX9 rfl rfl rfl rfl ⟨rfl, rfl⟩ ⟨Nat.le_of_ble_eq_true rfl, Nat.le_of_ble_eq_true rfl⟩ ⟨Nat.le_refl _, Nat.le_refl _⟩ (Nat.le_of_ble_eq_true rfl) dX9_row_104 ?_
      obtain ⟨r24, hc25, hf⟩ := gbd hf
      refine gm_callV1 (As := [.int r22]) (rest := []) (st1 := fun _ => [.int (r24.1)]) (ws' := fun _ => (Mo_c g a0 (r24.2))) hE hl.1 ml_X9_230 (c_X9_good l g a0 (r6.2) r22 r24 hc25) hZ hP hD hS hA 0 14 rfl (fun _ => rfl) okX9 rfl rfl rfl (fun _ => rfl) ⟨rfl, rfl⟩ ⟨Nat.le_of_ble_eq_true rfl, Nat.le_of_ble_eq_true rfl⟩ ⟨Nat.le_refl _, Nat.le_refl _⟩ (Nat.le_of_ble_eq_true rfl) dX9_row_107 (fun _ H locs hP hD hS => ?_)
      cases hf
      exact hq () rfl hP hD hS dX9_row_110
    · have hf := gif_t h8 hf
      refine lv_aload_n hx hb dX9_row_22 rfl (lv_at hl 0 rfl) ?_
      refine lv_iconst hx hb dX9_row_23 kci_1 ?_
      obtain ⟨r26, hc27, hf⟩ := gbd hf
      refine gm_callV1 (As := [.int (1 : Int32)]) (rest := []) (st1 := fun _ => [.int (r26.1)]) (ws' := fun _ => (Mo_c g a0 (r26.2))) hE hl.1 ml_X9_306 (c_X9_refusedLow l g a0 (r6.2) (1 : Int32) r26 hc27) hZ hP hD hS hA 0 14 rfl (fun _ => rfl) okX9 rfl rfl rfl (fun _ => rfl) ⟨rfl, rfl⟩ ⟨Nat.le_of_ble_eq_true rfl, Nat.le_of_ble_eq_true rfl⟩ ⟨Nat.le_refl _, Nat.le_refl _⟩ (Nat.le_of_ble_eq_true rfl) dX9_row_24 (fun _ H locs hP hD hS => ?_)
      cases hf
      exact hq () rfl hP hD hS dX9_row_27
theorem dX9_spells_0 : decode cX9_spells 0 = .ok (.aload_n 0, 1) := by decide +kernel
theorem dX9_spells_1 : decode cX9_spells 1 = .ok (.getfield 49, 3) := by decide +kernel
theorem dX9_spells_4 : decode cX9_spells 4 = .ok (.aload_n 0, 1) := by decide +kernel
theorem dX9_spells_5 : decode cX9_spells 5 = .ok (.getfield 339, 3) := by decide +kernel
theorem dX9_spells_8 : decode cX9_spells 8 = .ok (.iload_n 1, 1) := by decide +kernel
theorem dX9_spells_9 : decode cX9_spells 9 = .ok (.iastore, 1) := by decide +kernel
theorem dX9_spells_10 : decode cX9_spells 10 = .ok (.aload_n 0, 1) := by decide +kernel
theorem dX9_spells_11 : decode cX9_spells 11 = .ok (.dup, 1) := by decide +kernel
theorem dX9_spells_12 : decode cX9_spells 12 = .ok (.getfield 339, 3) := by decide +kernel
theorem dX9_spells_15 : decode cX9_spells 15 = .ok (.iconst 1, 1) := by decide +kernel
theorem dX9_spells_16 : decode cX9_spells 16 = .ok (.iadd, 1) := by decide +kernel
theorem dX9_spells_17 : decode cX9_spells 17 = .ok (.putfield 339, 3) := by decide +kernel
theorem dX9_spells_20 : decode cX9_spells 20 = .ok (.return_, 1) := by decide +kernel
def f_X9_spells (s0 : MoT) (p1 : Int32) : Option (MoT) :=
  if inb (Mo_speltMany s0) 64 then some ((Mo_w_speltMany (Mo_w_spelt s0 (upd (Mo_spelt s0) (ix (Mo_speltMany s0)) p1)) ((Mo_speltMany s0) + (1 : Int32)))) else none
abbrev rm_X9_spells : Room := { frames := 0, cells := 0, slots := 0, locals := 0 }
set_option maxHeartbeats 4000000 in
set_option maxRecDepth 100000 in
theorem c_X9_spells (l : Launch) (g : GK) (a0 : Nat → Nat) (s0 : MoT) (p1 : Int32) (res : (MoT)) (hf : f_X9_spells s0 p1 = some res) : gM l yX9_spells cX9_spells 2 none rm_X9_spells g [.ref (a0 0), .int p1] (Mo_c g a0 s0) (fun _ : Unit => none) (fun _ => (Mo_c g a0 res)) 0 0 := by
  refine gM_introV RX9 (by decide) rfl (Nat.le_of_ble_eq_true rfl) (fun p e s m args below meth c Q H locs ls A hE hnm hZ hA hP hD hS hq hl => ?_)
  have hl : lv_has ls 2 [(0, .ref (a0 0)), (1, .int p1)] := hl
  have hx := hE.1
  have hb := hE.2.1
  rw [f_X9_spells] at hf
  refine lv_aload_n hx hb dX9_spells_0 rfl (lv_at hl 0 rfl) ?_
  refine g_get hE okX9 fl_X9_49 hP 0 rfl (v := .ref (a0 12)) rfl dX9_spells_1 ?_
  refine lv_aload_n hx hb dX9_spells_4 rfl (lv_at hl 0 rfl) ?_
  refine g_get hE okX9 fl_X9_339 hP 0 rfl (v := .int (Mo_speltMany s0)) rfl dX9_spells_5 ?_
  refine lv_iload_n hx hb dX9_spells_8 rfl (lv_at hl 1 rfl) ?_
  obtain ⟨hg1, hf⟩ := ggd hf
  refine g_iast hE hP hD hS 12 (f := (Mo_spelt s0)) rfl hg1 (Mo_c g a0 (Mo_w_spelt s0 (upd (Mo_spelt s0) (ix (Mo_speltMany s0)) p1))) rfl dX9_spells_9 (fun H locs hP hD hS => ?_)
  refine lv_aload_n hx hb dX9_spells_10 rfl (lv_at hl 0 rfl) ?_
  refine lv_dup hx hb dX9_spells_11 rfl ?_
  refine g_get hE okX9 fl_X9_339 hP 0 rfl (v := .int (Mo_speltMany s0)) rfl dX9_spells_12 ?_
  refine lv_iconst hx hb dX9_spells_15 kci_1 ?_
  refine lv_iadd hx hb dX9_spells_16 ?_
  refine g_put hE okX9 fl_X9_339 hP hD hS 0 rfl rfl rfl rfl (Nat.le_of_ble_eq_true rfl) (Mo_c g a0 (Mo_w_speltMany (Mo_w_spelt s0 (upd (Mo_spelt s0) (ix (Mo_speltMany s0)) p1)) ((Mo_speltMany s0) + (1 : Int32)))) rfl dX9_spells_17 (fun H locs hP hD hS => ?_)
  cases hf
  exact hq () rfl hP hD hS dX9_spells_20
theorem dX9_spellsWord_0 : decode cX9_spellsWord 0 = .ok (.iload_n 2, 1) := by decide +kernel
theorem dX9_spellsWord_1 : decode cX9_spellsWord 1 = .ok (.bipush 8, 2) := by decide +kernel
theorem dX9_spellsWord_3 : decode cX9_spellsWord 3 = .ok (.if_icmp .ne 12, 3) := by decide +kernel
theorem dX9_spellsWord_6 : decode cX9_spellsWord 6 = .ok (.aload_n 0, 1) := by decide +kernel
theorem dX9_spellsWord_7 : decode cX9_spellsWord 7 = .ok (.bipush 45, 2) := by decide +kernel
theorem dX9_spellsWord_9 : decode cX9_spellsWord 9 = .ok (.invokevirtual 342, 3) := by decide +kernel
theorem dX9_spellsWord_12 : decode cX9_spellsWord 12 = .ok (.goto 32, 3) := by decide +kernel
theorem dX9_spellsWord_15 : decode cX9_spellsWord 15 = .ok (.iconst 0, 1) := by decide +kernel
theorem dX9_spellsWord_16 : decode cX9_spellsWord 16 = .ok (.istore_n 3, 1) := by decide +kernel
theorem dX9_spellsWord_17 : decode cX9_spellsWord 17 = .ok (.iload_n 3, 1) := by decide +kernel
theorem dX9_spellsWord_18 : decode cX9_spellsWord 18 = .ok (.aload_n 0, 1) := by decide +kernel
theorem dX9_spellsWord_19 : decode cX9_spellsWord 19 = .ok (.iload_n 1, 1) := by decide +kernel
theorem dX9_spellsWord_20 : decode cX9_spellsWord 20 = .ok (.iload_n 2, 1) := by decide +kernel
theorem dX9_spellsWord_21 : decode cX9_spellsWord 21 = .ok (.invokevirtual 288, 3) := by decide +kernel
theorem dX9_spellsWord_24 : decode cX9_spellsWord 24 = .ok (.if_icmp .ge 20, 3) := by decide +kernel
theorem dX9_spellsWord_27 : decode cX9_spellsWord 27 = .ok (.aload_n 0, 1) := by decide +kernel
theorem dX9_spellsWord_28 : decode cX9_spellsWord 28 = .ok (.aload_n 0, 1) := by decide +kernel
theorem dX9_spellsWord_29 : decode cX9_spellsWord 29 = .ok (.iload_n 1, 1) := by decide +kernel
theorem dX9_spellsWord_30 : decode cX9_spellsWord 30 = .ok (.iload_n 2, 1) := by decide +kernel
theorem dX9_spellsWord_31 : decode cX9_spellsWord 31 = .ok (.iload_n 3, 1) := by decide +kernel
theorem dX9_spellsWord_32 : decode cX9_spellsWord 32 = .ok (.invokevirtual 300, 3) := by decide +kernel
theorem dX9_spellsWord_35 : decode cX9_spellsWord 35 = .ok (.invokevirtual 342, 3) := by decide +kernel
theorem dX9_spellsWord_38 : decode cX9_spellsWord 38 = .ok (.iinc 3 1, 3) := by decide +kernel
theorem dX9_spellsWord_41 : decode cX9_spellsWord 41 = .ok (.goto (-24), 3) := by decide +kernel
theorem dX9_spellsWord_44 : decode cX9_spellsWord 44 = .ok (.return_, 1) := by decide +kernel
def f_X9_spellsWord_L17_6 (p1 : Int32) (p2 : Int32) (K2 : (MoT → Option (MoT))) : Nat → Int32 → MoT → Option (MoT)
  | 0, _, _ => none
  | n7 + 1, x3_4, s0_5 => (f_X9_letters s0_5 p1 p2).bind fun r8 =>
  if r8 ≤ x3_4 then K2 s0_5
  else (f_X9_letterOf s0_5 p1 p2 x3_4).bind fun r11 =>
  (f_X9_spells s0_5 r11).bind fun r13 =>
  f_X9_spellsWord_L17_6 p1 p2 K2 n7 (x3_4 + (1 : Int32)) r13
def f_X9_spellsWord (s0 : MoT) (p1 : Int32) (p2 : Int32) : Option (MoT) :=
  if p2 = (8 : Int32) then (f_X9_spells s0 (45 : Int32)).bind fun r15 =>
  some (r15)
  else glt (fun (s0_3 : MoT) => some (s0_3)) fun K2 =>
  f_X9_spellsWord_L17_6 p1 p2 K2 10000 (0 : Int32) s0
abbrev rm_X9_spellsWord : Room := { frames := 2, cells := 0, slots := 0, locals := 46 }
set_option maxHeartbeats 4000000 in
set_option maxRecDepth 100000 in
theorem c_X9_spellsWord (l : Launch) (g : GK) (a0 : Nat → Nat) (s0 : MoT) (p1 : Int32) (p2 : Int32) (res : (MoT)) (hf : f_X9_spellsWord s0 p1 p2 = some res) : gM l yX9_spellsWord cX9_spellsWord 4 none rm_X9_spellsWord g [.ref (a0 0), .int p1, .int p2] (Mo_c g a0 s0) (fun _ : Unit => none) (fun _ => (Mo_c g a0 res)) 0 0 := by
  refine gM_introV RX9 (by decide) rfl (Nat.le_of_ble_eq_true rfl) (fun p e s m args below meth c Q H locs ls A hE hnm hZ hA hP hD hS hq hl => ?_)
  have hl : lv_has ls 4 [(0, .ref (a0 0)), (1, .int p1), (2, .int p2)] := hl
  have hx := hE.1
  have hb := hE.2.1
  rw [f_X9_spellsWord] at hf
  refine lv_iload_n hx hb dX9_spellsWord_0 rfl (lv_at hl 2 rfl) ?_
  refine lv_bipush hx hb dX9_spellsWord_1 kcb_8 ?_
  refine lv_icmp_ne hx hb dX9_spellsWord_3 (tgt := 15) rfl (fun h1 => ?_) (fun h1 => ?_)
  · have hf := gif_f h1 hf
    refine lv_iconst hx hb dX9_spellsWord_15 kci_0 ?_
    refine lv_istore_n hx hb dX9_spellsWord_16 rfl hl (by decide) (lv' := [(3, .int (0 : Int32)), (0, .ref (a0 0)), (1, .int p1), (2, .int p2)]) rfl (fun ls hl => ?_)
    obtain ⟨K2, eK2, hf⟩ := gltd hf
    have kK2 : ∀ (s0_3 : MoT) (ls : Array Slot) (H : Heap) (locs : List Loc), K2 s0_3 = some res → lv_has ls 4 [] → gP g (Mo_c g a0 s0_3) H → va_D A (Mo_c g a0 s0_3) → va_S A s.heap H locs → W p l e rm_X9_spellsWord s m args below meth c H locs 0 0 Q (F0 m 44 ls []) := by
      intro s0_3 ls H locs hf hl hP hD hS
      rw [eK2] at hf
      cases hf
      exact hq () rfl hP hD hS dX9_spellsWord_44
    have lpn7 : ∀ (n7 : Nat) (x3_4 : Int32) (s0_5 : MoT) (ls : Array Slot) (H : Heap) (locs : List Loc), f_X9_spellsWord_L17_6 p1 p2 K2 n7 x3_4 s0_5 = some res → lv_has ls 4 [(0, .ref (a0 0)), (1, .int p1), (2, .int p2), (3, .int x3_4)] → gP g (Mo_c g a0 s0_5) H → va_D A (Mo_c g a0 s0_5) → va_S A s.heap H locs → W p l e rm_X9_spellsWord s m args below meth c H locs 0 0 Q (F0 m 17 ls []) := by
      intro n7
      induction n7 with
      | zero => intro x3_4 s0_5 ls H locs hf hl hP hD hS; rw [f_X9_spellsWord_L17_6] at hf; cases hf
      | succ n7 ihn7 =>
        intro x3_4 s0_5 ls H locs hf hl hP hD hS
        rw [f_X9_spellsWord_L17_6] at hf
        refine lv_iload_n hx hb dX9_spellsWord_17 rfl (lv_at hl 3 rfl) ?_
        refine lv_aload_n hx hb dX9_spellsWord_18 rfl (lv_at hl 0 rfl) ?_
        refine lv_iload_n hx hb dX9_spellsWord_19 rfl (lv_at hl 1 rfl) ?_
        refine lv_iload_n hx hb dX9_spellsWord_20 rfl (lv_at hl 2 rfl) ?_
        obtain ⟨r8, hc9, hf⟩ := gbd hf
        refine gr_callV (As := [.int p1, .int p2]) (rest := [.int x3_4]) (st1 := [.int r8, .int x3_4]) hE hl.1 ml_X9_288 (c_X9_letters l g a0 s0_5 p1 p2 r8 hc9) hZ hS hP [(0, 14)] rfl okX9 rfl rfl rfl rfl ⟨rfl, rfl⟩ ⟨Nat.le_of_ble_eq_true rfl, Nat.le_of_ble_eq_true rfl⟩ ⟨Nat.le_refl _, Nat.le_refl _⟩ (Nat.le_of_ble_eq_true rfl) dX9_spellsWord_21 ?_
        refine lv_icmp_ge hx hb dX9_spellsWord_24 (tgt := 44) rfl (fun h10 => ?_) (fun h10 => ?_)
        · have hf := gif_t h10 hf
          exact kK2 s0_5 ls H locs hf (lv_sub hl [] rfl) hP hD hS
        · have hf := gif_f h10 hf
          refine lv_aload_n hx hb dX9_spellsWord_27 rfl (lv_at hl 0 rfl) ?_
          refine lv_aload_n hx hb dX9_spellsWord_28 rfl (lv_at hl 0 rfl) ?_
          refine lv_iload_n hx hb dX9_spellsWord_29 rfl (lv_at hl 1 rfl) ?_
          refine lv_iload_n hx hb dX9_spellsWord_30 rfl (lv_at hl 2 rfl) ?_
          refine lv_iload_n hx hb dX9_spellsWord_31 rfl (lv_at hl 3 rfl) ?_
          obtain ⟨r11, hc12, hf⟩ := gbd hf
          refine gr_callV (As := [.int p1, .int p2, .int x3_4]) (rest := [.ref (a0 0)]) (st1 := [.int r11, .ref (a0 0)]) hE hl.1 ml_X9_300 (c_X9_letterOf l g a0 s0_5 p1 p2 x3_4 r11 hc12) hZ hS hP [(0, 14)] rfl okX9 rfl rfl rfl rfl ⟨rfl, rfl⟩ ⟨Nat.le_of_ble_eq_true rfl, Nat.le_of_ble_eq_true rfl⟩ ⟨Nat.le_refl _, Nat.le_refl _⟩ (Nat.le_of_ble_eq_true rfl) dX9_spellsWord_32 ?_
          obtain ⟨r13, hc14, hf⟩ := gbd hf
          refine gm_callV1 (As := [.int r11]) (rest := []) (st1 := fun _ => []) (ws' := fun _ => (Mo_c g a0 r13)) hE hl.1 ml_X9_342 (c_X9_spells l g a0 s0_5 r11 r13 hc14) hZ hP hD hS hA 0 14 rfl (fun _ => rfl) okX9 rfl rfl rfl (fun _ => rfl) ⟨rfl, rfl⟩ ⟨Nat.le_of_ble_eq_true rfl, Nat.le_of_ble_eq_true rfl⟩ ⟨Nat.le_refl _, Nat.le_refl _⟩ (Nat.le_of_ble_eq_true rfl) dX9_spellsWord_35 (fun _ H locs hP hD hS => ?_)
          refine lv_iinc hx hb dX9_spellsWord_38 hl (k := 3) (x := x3_4) rfl (kinc_1 _) (by decide) (lv' := [(3, .int (x3_4 + (1 : Int32))), (0, .ref (a0 0)), (1, .int p1), (2, .int p2)]) rfl (fun ls hl => ?_)
          refine lv_goto hx hb dX9_spellsWord_41 (tgt := 17) rfl ?_
          exact ihn7 (x3_4 + (1 : Int32)) r13 ls H locs hf (lv_sub hl [1, 2, 3, 0] rfl) hP hD hS
    exact lpn7 10000 (0 : Int32) s0 ls H locs hf (lv_sub hl [1, 2, 3, 0] rfl) hP hD hS
  · have hf := gif_t h1 hf
    refine lv_aload_n hx hb dX9_spellsWord_6 rfl (lv_at hl 0 rfl) ?_
    refine lv_bipush hx hb dX9_spellsWord_7 kcb_45 ?_
    obtain ⟨r15, hc16, hf⟩ := gbd hf
    refine gm_callV1 (As := [.int (45 : Int32)]) (rest := []) (st1 := fun _ => []) (ws' := fun _ => (Mo_c g a0 r15)) hE hl.1 ml_X9_342 (c_X9_spells l g a0 s0 (45 : Int32) r15 hc16) hZ hP hD hS hA 0 14 rfl (fun _ => rfl) okX9 rfl rfl rfl (fun _ => rfl) ⟨rfl, rfl⟩ ⟨Nat.le_of_ble_eq_true rfl, Nat.le_of_ble_eq_true rfl⟩ ⟨Nat.le_refl _, Nat.le_refl _⟩ (Nat.le_of_ble_eq_true rfl) dX9_spellsWord_9 (fun _ H locs hP hD hS => ?_)
    refine lv_goto hx hb dX9_spellsWord_12 (tgt := 44) rfl ?_
    cases hf
    exact hq () rfl hP hD hS dX9_spellsWord_44
theorem dX9_spellsNumber_0 : decode cX9_spellsNumber 0 = .ok (.iload_n 1, 1) := by decide +kernel
theorem dX9_spellsNumber_1 : decode cX9_spellsNumber 1 = .ok (.ifCond .ge 9, 3) := by decide +kernel
theorem dX9_spellsNumber_4 : decode cX9_spellsNumber 4 = .ok (.aload_n 0, 1) := by decide +kernel
theorem dX9_spellsNumber_5 : decode cX9_spellsNumber 5 = .ok (.bipush 45, 2) := by decide +kernel
theorem dX9_spellsNumber_7 : decode cX9_spellsNumber 7 = .ok (.invokevirtual 342, 3) := by decide +kernel
theorem dX9_spellsNumber_10 : decode cX9_spellsNumber 10 = .ok (.iload_n 1, 1) := by decide +kernel
theorem dX9_spellsNumber_11 : decode cX9_spellsNumber 11 = .ok (.ifCond .ge 9, 3) := by decide +kernel
theorem dX9_spellsNumber_14 : decode cX9_spellsNumber 14 = .ok (.iload_n 1, 1) := by decide +kernel
theorem dX9_spellsNumber_15 : decode cX9_spellsNumber 15 = .ok (.i2l, 1) := by decide +kernel
theorem dX9_spellsNumber_16 : decode cX9_spellsNumber 16 = .ok (.lneg, 1) := by decide +kernel
theorem dX9_spellsNumber_17 : decode cX9_spellsNumber 17 = .ok (.goto 5, 3) := by decide +kernel
theorem dX9_spellsNumber_20 : decode cX9_spellsNumber 20 = .ok (.iload_n 1, 1) := by decide +kernel
theorem dX9_spellsNumber_21 : decode cX9_spellsNumber 21 = .ok (.i2l, 1) := by decide +kernel
theorem dX9_spellsNumber_22 : decode cX9_spellsNumber 22 = .ok (.lstore_n 2, 1) := by decide +kernel
theorem dX9_spellsNumber_23 : decode cX9_spellsNumber 23 = .ok (.lconst 1, 1) := by decide +kernel
theorem dX9_spellsNumber_24 : decode cX9_spellsNumber 24 = .ok (.lstore 4, 2) := by decide +kernel
theorem dX9_spellsNumber_26 : decode cX9_spellsNumber 26 = .ok (.lload_n 2, 1) := by decide +kernel
theorem dX9_spellsNumber_27 : decode cX9_spellsNumber 27 = .ok (.lload 4, 2) := by decide +kernel
theorem dX9_spellsNumber_29 : decode cX9_spellsNumber 29 = .ok (.ldiv, 1) := by decide +kernel
theorem dX9_spellsNumber_30 : decode cX9_spellsNumber 30 = .ok (.ldc2_w 345, 3) := by decide +kernel
theorem dX9_spellsNumber_33 : decode cX9_spellsNumber 33 = .ok (.lcmp, 1) := by decide +kernel
theorem dX9_spellsNumber_34 : decode cX9_spellsNumber 34 = .ok (.ifCond .le 14, 3) := by decide +kernel
theorem dX9_spellsNumber_37 : decode cX9_spellsNumber 37 = .ok (.lload 4, 2) := by decide +kernel
theorem dX9_spellsNumber_39 : decode cX9_spellsNumber 39 = .ok (.ldc2_w 347, 3) := by decide +kernel
theorem dX9_spellsNumber_42 : decode cX9_spellsNumber 42 = .ok (.lmul, 1) := by decide +kernel
theorem dX9_spellsNumber_43 : decode cX9_spellsNumber 43 = .ok (.lstore 4, 2) := by decide +kernel
theorem dX9_spellsNumber_45 : decode cX9_spellsNumber 45 = .ok (.goto (-19), 3) := by decide +kernel
theorem dX9_spellsNumber_48 : decode cX9_spellsNumber 48 = .ok (.lload 4, 2) := by decide +kernel
theorem dX9_spellsNumber_50 : decode cX9_spellsNumber 50 = .ok (.lconst 0, 1) := by decide +kernel
theorem dX9_spellsNumber_51 : decode cX9_spellsNumber 51 = .ok (.lcmp, 1) := by decide +kernel
theorem dX9_spellsNumber_52 : decode cX9_spellsNumber 52 = .ok (.ifCond .le 30, 3) := by decide +kernel
theorem dX9_spellsNumber_55 : decode cX9_spellsNumber 55 = .ok (.aload_n 0, 1) := by decide +kernel
theorem dX9_spellsNumber_56 : decode cX9_spellsNumber 56 = .ok (.bipush 48, 2) := by decide +kernel
theorem dX9_spellsNumber_58 : decode cX9_spellsNumber 58 = .ok (.lload_n 2, 1) := by decide +kernel
theorem dX9_spellsNumber_59 : decode cX9_spellsNumber 59 = .ok (.lload 4, 2) := by decide +kernel
theorem dX9_spellsNumber_61 : decode cX9_spellsNumber 61 = .ok (.ldiv, 1) := by decide +kernel
theorem dX9_spellsNumber_62 : decode cX9_spellsNumber 62 = .ok (.ldc2_w 347, 3) := by decide +kernel
theorem dX9_spellsNumber_65 : decode cX9_spellsNumber 65 = .ok (.lrem, 1) := by decide +kernel
theorem dX9_spellsNumber_66 : decode cX9_spellsNumber 66 = .ok (.l2i, 1) := by decide +kernel
theorem dX9_spellsNumber_67 : decode cX9_spellsNumber 67 = .ok (.iadd, 1) := by decide +kernel
theorem dX9_spellsNumber_68 : decode cX9_spellsNumber 68 = .ok (.invokevirtual 342, 3) := by decide +kernel
theorem dX9_spellsNumber_71 : decode cX9_spellsNumber 71 = .ok (.lload 4, 2) := by decide +kernel
theorem dX9_spellsNumber_73 : decode cX9_spellsNumber 73 = .ok (.ldc2_w 347, 3) := by decide +kernel
theorem dX9_spellsNumber_76 : decode cX9_spellsNumber 76 = .ok (.ldiv, 1) := by decide +kernel
theorem dX9_spellsNumber_77 : decode cX9_spellsNumber 77 = .ok (.lstore 4, 2) := by decide +kernel
theorem dX9_spellsNumber_79 : decode cX9_spellsNumber 79 = .ok (.goto (-31), 3) := by decide +kernel
theorem dX9_spellsNumber_82 : decode cX9_spellsNumber 82 = .ok (.return_, 1) := by decide +kernel
def f_X9_spellsNumber_L48_11 (y4 : Int64) (K7 : (MoT → Option (MoT))) : Nat → Int64 → MoT → Option (MoT)
  | 0, _, _ => none
  | n12 + 1, x4_9, s0_10 => if (lg_cmp x4_9 (0 : Int64)) ≤ 0 then K7 s0_10
  else if ¬ x4_9 = 0 then (f_X9_spells s0_10 ((48 : Int32) + (lrem (y4 / x4_9) (10 : Int64)).toInt32)).bind fun r15 =>
  f_X9_spellsNumber_L48_11 y4 K7 n12 (x4_9 / (10 : Int64)) r15 else none
def f_X9_spellsNumber_L26_18 (y4 : Int64) (K5 : (Int64 → Option (MoT))) : Nat → Int64 → Option (MoT)
  | 0, _ => none
  | n19 + 1, x4_17 => if ¬ x4_17 = 0 then if (lg_cmp (y4 / x4_17) (9 : Int64)) ≤ 0 then K5 x4_17
  else f_X9_spellsNumber_L26_18 y4 K5 n19 (x4_17 * (10 : Int64)) else none
def f_X9_spellsNumber (s0 : MoT) (p1 : Int32) : Option (MoT) :=
  glt (fun (s0_2 : MoT) => glt (fun (y4 : Int64) => glt (fun (x4_6 : Int64) => glt (fun (s0_8 : MoT) => some (s0_8)) fun K7 =>
  f_X9_spellsNumber_L48_11 y4 K7 10000 x4_6 s0_2) fun K5 =>
  f_X9_spellsNumber_L26_18 y4 K5 10000 (1 : Int64)) fun J3 =>
  if 0 ≤ p1 then J3 p1.toInt64
  else J3 (-p1.toInt64)) fun J1 =>
  if 0 ≤ p1 then J1 s0
  else (f_X9_spells s0 (45 : Int32)).bind fun r24 =>
  J1 r24
abbrev rm_X9_spellsNumber : Room := { frames := 1, cells := 0, slots := 0, locals := 21 }
set_option maxHeartbeats 4000000 in
set_option maxRecDepth 100000 in
theorem c_X9_spellsNumber (l : Launch) (g : GK) (a0 : Nat → Nat) (s0 : MoT) (p1 : Int32) (res : (MoT)) (hf : f_X9_spellsNumber s0 p1 = some res) : gM l yX9_spellsNumber cX9_spellsNumber 6 none rm_X9_spellsNumber g [.ref (a0 0), .int p1] (Mo_c g a0 s0) (fun _ : Unit => none) (fun _ => (Mo_c g a0 res)) 0 0 := by
  refine gM_introV RX9 (by decide) rfl (Nat.le_of_ble_eq_true rfl) (fun p e s m args below meth c Q H locs ls A hE hnm hZ hA hP hD hS hq hl => ?_)
  have hl : lv_has ls 6 [(0, .ref (a0 0)), (1, .int p1)] := hl
  have hx := hE.1
  have hb := hE.2.1
  rw [f_X9_spellsNumber] at hf
  refine lv_iload_n hx hb dX9_spellsNumber_0 rfl (lv_at hl 1 rfl) ?_
  obtain ⟨J1, eJ1, hf⟩ := gltd hf
  have kJ1 : ∀ (s0_2 : MoT) (ls : Array Slot) (H : Heap) (locs : List Loc), J1 s0_2 = some res → lv_has ls 6 [(0, .ref (a0 0)), (1, .int p1)] → gP g (Mo_c g a0 s0_2) H → va_D A (Mo_c g a0 s0_2) → va_S A s.heap H locs → W p l e rm_X9_spellsNumber s m args below meth c H locs 0 0 Q (F0 m 10 ls []) := by
    intro s0_2 ls H locs hf hl hP hD hS
    rw [eJ1] at hf
    refine lv_iload_n hx hb dX9_spellsNumber_10 rfl (lv_at hl 1 rfl) ?_
    obtain ⟨J3, eJ3, hf⟩ := gltd hf
    have kJ3 : ∀ (y4 : Int64) (ls : Array Slot) (H : Heap) (locs : List Loc), J3 y4 = some res → lv_has ls 6 [(0, .ref (a0 0))] → gP g (Mo_c g a0 s0_2) H → va_D A (Mo_c g a0 s0_2) → va_S A s.heap H locs → W p l e rm_X9_spellsNumber s m args below meth c H locs 0 0 Q (F0 m 22 ls [.long y4]) := by
      intro y4 ls H locs hf hl hP hD hS
      rw [eJ3] at hf
      refine lv_lstore_n hx hb dX9_spellsNumber_22 rfl hl (by decide) (lv' := [(2, .long y4), (0, .ref (a0 0))]) rfl (fun ls hl => ?_)
      refine lv_lconst hx hb dX9_spellsNumber_23 kcl_1 ?_
      refine lv_lstore hx hb dX9_spellsNumber_24 hl (by decide) (lv' := [(4, .long (1 : Int64)), (2, .long y4), (0, .ref (a0 0))]) rfl (fun ls hl => ?_)
      obtain ⟨K5, eK5, hf⟩ := gltd hf
      have kK5 : ∀ (x4_6 : Int64) (ls : Array Slot) (H : Heap) (locs : List Loc), K5 x4_6 = some res → lv_has ls 6 [(0, .ref (a0 0)), (2, .long y4), (4, .long x4_6)] → gP g (Mo_c g a0 s0_2) H → va_D A (Mo_c g a0 s0_2) → va_S A s.heap H locs → W p l e rm_X9_spellsNumber s m args below meth c H locs 0 0 Q (F0 m 48 ls []) := by
        intro x4_6 ls H locs hf hl hP hD hS
        rw [eK5] at hf
        obtain ⟨K7, eK7, hf⟩ := gltd hf
        have kK7 : ∀ (s0_8 : MoT) (ls : Array Slot) (H : Heap) (locs : List Loc), K7 s0_8 = some res → lv_has ls 6 [] → gP g (Mo_c g a0 s0_8) H → va_D A (Mo_c g a0 s0_8) → va_S A s.heap H locs → W p l e rm_X9_spellsNumber s m args below meth c H locs 0 0 Q (F0 m 82 ls []) := by
          intro s0_8 ls H locs hf hl hP hD hS
          rw [eK7] at hf
          cases hf
          exact hq () rfl hP hD hS dX9_spellsNumber_82
        have lpn12 : ∀ (n12 : Nat) (x4_9 : Int64) (s0_10 : MoT) (ls : Array Slot) (H : Heap) (locs : List Loc), f_X9_spellsNumber_L48_11 y4 K7 n12 x4_9 s0_10 = some res → lv_has ls 6 [(0, .ref (a0 0)), (2, .long y4), (4, .long x4_9)] → gP g (Mo_c g a0 s0_10) H → va_D A (Mo_c g a0 s0_10) → va_S A s.heap H locs → W p l e rm_X9_spellsNumber s m args below meth c H locs 0 0 Q (F0 m 48 ls []) := by
          intro n12
          induction n12 with
          | zero => intro x4_9 s0_10 ls H locs hf hl hP hD hS; rw [f_X9_spellsNumber_L48_11] at hf; cases hf
          | succ n12 ihn12 =>
            intro x4_9 s0_10 ls H locs hf hl hP hD hS
            rw [f_X9_spellsNumber_L48_11] at hf
            refine lv_lload hx hb dX9_spellsNumber_48 (lv_at hl 2 rfl) ?_
            refine lv_lconst hx hb dX9_spellsNumber_50 kcl_0 ?_
            refine W.lcmp hx hb dX9_spellsNumber_51 ?_
            refine lv_if_le hx hb dX9_spellsNumber_52 (tgt := 82) rfl (fun h13 => ?_) (fun h13 => ?_)
            · have hf := gif_t h13 hf
              exact kK7 s0_10 ls H locs hf (lv_sub hl [] rfl) hP hD hS
            · have hf := gif_f h13 hf
              refine lv_aload_n hx hb dX9_spellsNumber_55 rfl (lv_at hl 0 rfl) ?_
              refine lv_bipush hx hb dX9_spellsNumber_56 kcb_48 ?_
              refine lv_lload_n hx hb dX9_spellsNumber_58 rfl (lv_at hl 1 rfl) ?_
              refine lv_lload hx hb dX9_spellsNumber_59 (lv_at hl 2 rfl) ?_
              obtain ⟨hg14, hf⟩ := ggd hf
              refine lv_ldiv hx hb dX9_spellsNumber_61 hg14 ?_
              refine lv_ldc2 hx hb hE.2.2.2.2.2.1 (hE.2.2.2.2.2.2.1 _ kd_X9_347) dX9_spellsNumber_62 ?_
              refine lv_lrem hx hb dX9_spellsNumber_65 kne_L10 ?_
              refine lv_l2i hx hb dX9_spellsNumber_66 rfl ?_
              refine lv_iadd hx hb dX9_spellsNumber_67 ?_
              obtain ⟨r15, hc16, hf⟩ := gbd hf
              refine gm_callV1 (As := [.int ((48 : Int32) + (lrem (y4 / x4_9) (10 : Int64)).toInt32)]) (rest := []) (st1 := fun _ => []) (ws' := fun _ => (Mo_c g a0 r15)) hE hl.1 ml_X9_342 (c_X9_spells l g a0 s0_10 ((48 : Int32) + (lrem (y4 / x4_9) (10 : Int64)).toInt32) r15 hc16) hZ hP hD hS hA 0 14 rfl (fun _ => rfl) okX9 rfl rfl rfl (fun _ => rfl) ⟨rfl, rfl⟩ ⟨Nat.le_of_ble_eq_true rfl, Nat.le_of_ble_eq_true rfl⟩ ⟨Nat.le_refl _, Nat.le_refl _⟩ (Nat.le_of_ble_eq_true rfl) dX9_spellsNumber_68 (fun _ H locs hP hD hS => ?_)
              refine lv_lload hx hb dX9_spellsNumber_71 (lv_at hl 2 rfl) ?_
              refine lv_ldc2 hx hb hE.2.2.2.2.2.1 (hE.2.2.2.2.2.2.1 _ kd_X9_347) dX9_spellsNumber_73 ?_
              refine lv_ldiv hx hb dX9_spellsNumber_76 kne_L10 ?_
              refine lv_lstore hx hb dX9_spellsNumber_77 hl (by decide) (lv' := [(4, .long (x4_9 / (10 : Int64))), (0, .ref (a0 0)), (2, .long y4)]) rfl (fun ls hl => ?_)
              refine lv_goto hx hb dX9_spellsNumber_79 (tgt := 48) rfl ?_
              exact ihn12 (x4_9 / (10 : Int64)) r15 ls H locs hf (lv_sub hl [1, 2, 0] rfl) hP hD hS
        exact lpn12 10000 x4_6 s0_2 ls H locs hf (lv_sub hl [0, 1, 2] rfl) hP hD hS
      have lpn19 : ∀ (n19 : Nat) (x4_17 : Int64) (ls : Array Slot) (H : Heap) (locs : List Loc), f_X9_spellsNumber_L26_18 y4 K5 n19 x4_17 = some res → lv_has ls 6 [(0, .ref (a0 0)), (2, .long y4), (4, .long x4_17)] → gP g (Mo_c g a0 s0_2) H → va_D A (Mo_c g a0 s0_2) → va_S A s.heap H locs → W p l e rm_X9_spellsNumber s m args below meth c H locs 0 0 Q (F0 m 26 ls []) := by
        intro n19
        induction n19 with
        | zero => intro x4_17 ls H locs hf hl hP hD hS; rw [f_X9_spellsNumber_L26_18] at hf; cases hf
        | succ n19 ihn19 =>
          intro x4_17 ls H locs hf hl hP hD hS
          rw [f_X9_spellsNumber_L26_18] at hf
          refine lv_lload_n hx hb dX9_spellsNumber_26 rfl (lv_at hl 1 rfl) ?_
          refine lv_lload hx hb dX9_spellsNumber_27 (lv_at hl 2 rfl) ?_
          obtain ⟨hg20, hf⟩ := ggd hf
          refine lv_ldiv hx hb dX9_spellsNumber_29 hg20 ?_
          refine lv_ldc2 hx hb hE.2.2.2.2.2.1 (hE.2.2.2.2.2.2.1 _ kd_X9_345) dX9_spellsNumber_30 ?_
          refine W.lcmp hx hb dX9_spellsNumber_33 ?_
          refine lv_if_le hx hb dX9_spellsNumber_34 (tgt := 48) rfl (fun h21 => ?_) (fun h21 => ?_)
          · have hf := gif_t h21 hf
            exact kK5 x4_17 ls H locs hf (lv_sub hl [0, 1, 2] rfl) hP hD hS
          · have hf := gif_f h21 hf
            refine lv_lload hx hb dX9_spellsNumber_37 (lv_at hl 2 rfl) ?_
            refine lv_ldc2 hx hb hE.2.2.2.2.2.1 (hE.2.2.2.2.2.2.1 _ kd_X9_347) dX9_spellsNumber_39 ?_
            refine lv_lmul hx hb dX9_spellsNumber_42 ?_
            refine lv_lstore hx hb dX9_spellsNumber_43 hl (by decide) (lv' := [(4, .long (x4_17 * (10 : Int64))), (0, .ref (a0 0)), (2, .long y4)]) rfl (fun ls hl => ?_)
            refine lv_goto hx hb dX9_spellsNumber_45 (tgt := 26) rfl ?_
            exact ihn19 (x4_17 * (10 : Int64)) ls H locs hf (lv_sub hl [1, 2, 0] rfl) hP hD hS
      exact lpn19 10000 (1 : Int64) ls H locs hf (lv_sub hl [2, 1, 0] rfl) hP hD hS
    refine lv_if_ge hx hb dX9_spellsNumber_11 (tgt := 20) rfl (fun h22 => ?_) (fun h22 => ?_)
    · have hf := gif_t h22 hf
      refine lv_iload_n hx hb dX9_spellsNumber_20 rfl (lv_at hl 1 rfl) ?_
      refine lv_i2l hx hb dX9_spellsNumber_21 rfl ?_
      exact kJ3 p1.toInt64 ls H locs hf (lv_sub hl [0] rfl) hP hD hS
    · have hf := gif_f h22 hf
      refine lv_iload_n hx hb dX9_spellsNumber_14 rfl (lv_at hl 1 rfl) ?_
      refine lv_i2l hx hb dX9_spellsNumber_15 rfl ?_
      refine lv_lneg hx hb dX9_spellsNumber_16 ?_
      refine lv_goto hx hb dX9_spellsNumber_17 (tgt := 22) rfl ?_
      exact kJ3 (-p1.toInt64) ls H locs hf (lv_sub hl [0] rfl) hP hD hS
  refine lv_if_ge hx hb dX9_spellsNumber_1 (tgt := 10) rfl (fun h23 => ?_) (fun h23 => ?_)
  · have hf := gif_t h23 hf
    exact kJ1 s0 ls H locs hf (lv_sub hl [0, 1] rfl) hP hD hS
  · have hf := gif_f h23 hf
    refine lv_aload_n hx hb dX9_spellsNumber_4 rfl (lv_at hl 0 rfl) ?_
    refine lv_bipush hx hb dX9_spellsNumber_5 kcb_45 ?_
    obtain ⟨r24, hc25, hf⟩ := gbd hf
    refine gm_callV1 (As := [.int (45 : Int32)]) (rest := []) (st1 := fun _ => []) (ws' := fun _ => (Mo_c g a0 r24)) hE hl.1 ml_X9_342 (c_X9_spells l g a0 s0 (45 : Int32) r24 hc25) hZ hP hD hS hA 0 14 rfl (fun _ => rfl) okX9 rfl rfl rfl (fun _ => rfl) ⟨rfl, rfl⟩ ⟨Nat.le_of_ble_eq_true rfl, Nat.le_of_ble_eq_true rfl⟩ ⟨Nat.le_refl _, Nat.le_refl _⟩ (Nat.le_of_ble_eq_true rfl) dX9_spellsNumber_7 (fun _ H locs hP hD hS => ?_)
    exact kJ1 r24 ls H locs hf (lv_sub hl [0, 1] rfl) hP hD hS
theorem dX9_spell_0 : decode cX9_spell 0 = .ok (.aload_n 0, 1) := by decide +kernel
theorem dX9_spell_1 : decode cX9_spell 1 = .ok (.iconst 0, 1) := by decide +kernel
theorem dX9_spell_2 : decode cX9_spell 2 = .ok (.putfield 55, 3) := by decide +kernel
theorem dX9_spell_5 : decode cX9_spell 5 = .ok (.iload_n 2, 1) := by decide +kernel
theorem dX9_spell_6 : decode cX9_spell 6 = .ok (.ifCond .lt 11, 3) := by decide +kernel
theorem dX9_spell_9 : decode cX9_spell 9 = .ok (.aload_n 0, 1) := by decide +kernel
theorem dX9_spell_10 : decode cX9_spell 10 = .ok (.iload_n 1, 1) := by decide +kernel
theorem dX9_spell_11 : decode cX9_spell 11 = .ok (.invokevirtual 333, 3) := by decide +kernel
theorem dX9_spell_14 : decode cX9_spell 14 = .ok (.ifCond .ne 9, 3) := by decide +kernel
theorem dX9_spell_17 : decode cX9_spell 17 = .ok (.aload_n 0, 1) := by decide +kernel
theorem dX9_spell_18 : decode cX9_spell 18 = .ok (.iconst 1, 1) := by decide +kernel
theorem dX9_spell_19 : decode cX9_spell 19 = .ok (.invokevirtual 61, 3) := by decide +kernel
theorem dX9_spell_22 : decode cX9_spell 22 = .ok (.ireturn, 1) := by decide +kernel
theorem dX9_spell_23 : decode cX9_spell 23 = .ok (.aload_n 0, 1) := by decide +kernel
theorem dX9_spell_24 : decode cX9_spell 24 = .ok (.iconst 0, 1) := by decide +kernel
theorem dX9_spell_25 : decode cX9_spell 25 = .ok (.putfield 339, 3) := by decide +kernel
theorem dX9_spell_28 : decode cX9_spell 28 = .ok (.aload_n 0, 1) := by decide +kernel
theorem dX9_spell_29 : decode cX9_spell 29 = .ok (.iconst 0, 1) := by decide +kernel
theorem dX9_spell_30 : decode cX9_spell 30 = .ok (.aload_n 0, 1) := by decide +kernel
theorem dX9_spell_31 : decode cX9_spell 31 = .ok (.getfield 321, 3) := by decide +kernel
theorem dX9_spell_34 : decode cX9_spell 34 = .ok (.invokevirtual 349, 3) := by decide +kernel
theorem dX9_spell_37 : decode cX9_spell 37 = .ok (.aload_n 0, 1) := by decide +kernel
theorem dX9_spell_38 : decode cX9_spell 38 = .ok (.bipush 58, 2) := by decide +kernel
theorem dX9_spell_40 : decode cX9_spell 40 = .ok (.invokevirtual 342, 3) := by decide +kernel
theorem dX9_spell_43 : decode cX9_spell 43 = .ok (.aload_n 0, 1) := by decide +kernel
theorem dX9_spell_44 : decode cX9_spell 44 = .ok (.iconst 1, 1) := by decide +kernel
theorem dX9_spell_45 : decode cX9_spell 45 = .ok (.aload_n 0, 1) := by decide +kernel
theorem dX9_spell_46 : decode cX9_spell 46 = .ok (.getfield 324, 3) := by decide +kernel
theorem dX9_spell_49 : decode cX9_spell 49 = .ok (.invokevirtual 349, 3) := by decide +kernel
theorem dX9_spell_52 : decode cX9_spell 52 = .ok (.aload_n 0, 1) := by decide +kernel
theorem dX9_spell_53 : decode cX9_spell 53 = .ok (.bipush 124, 2) := by decide +kernel
theorem dX9_spell_55 : decode cX9_spell 55 = .ok (.invokevirtual 342, 3) := by decide +kernel
theorem dX9_spell_58 : decode cX9_spell 58 = .ok (.aload_n 0, 1) := by decide +kernel
theorem dX9_spell_59 : decode cX9_spell 59 = .ok (.iconst 1, 1) := by decide +kernel
theorem dX9_spell_60 : decode cX9_spell 60 = .ok (.aload_n 0, 1) := by decide +kernel
theorem dX9_spell_61 : decode cX9_spell 61 = .ok (.getfield 327, 3) := by decide +kernel
theorem dX9_spell_64 : decode cX9_spell 64 = .ok (.invokevirtual 349, 3) := by decide +kernel
theorem dX9_spell_67 : decode cX9_spell 67 = .ok (.aload_n 0, 1) := by decide +kernel
theorem dX9_spell_68 : decode cX9_spell 68 = .ok (.bipush 42, 2) := by decide +kernel
theorem dX9_spell_70 : decode cX9_spell 70 = .ok (.invokevirtual 342, 3) := by decide +kernel
theorem dX9_spell_73 : decode cX9_spell 73 = .ok (.aload_n 0, 1) := by decide +kernel
theorem dX9_spell_74 : decode cX9_spell 74 = .ok (.aload_n 0, 1) := by decide +kernel
theorem dX9_spell_75 : decode cX9_spell 75 = .ok (.iconst 0, 1) := by decide +kernel
theorem dX9_spell_76 : decode cX9_spell 76 = .ok (.aload_n 0, 1) := by decide +kernel
theorem dX9_spell_77 : decode cX9_spell 77 = .ok (.getfield 321, 3) := by decide +kernel
theorem dX9_spell_80 : decode cX9_spell 80 = .ok (.aload_n 0, 1) := by decide +kernel
theorem dX9_spell_81 : decode cX9_spell 81 = .ok (.getfield 324, 3) := by decide +kernel
theorem dX9_spell_84 : decode cX9_spell 84 = .ok (.aload_n 0, 1) := by decide +kernel
theorem dX9_spell_85 : decode cX9_spell 85 = .ok (.getfield 327, 3) := by decide +kernel
theorem dX9_spell_88 : decode cX9_spell 88 = .ok (.invokevirtual 315, 3) := by decide +kernel
theorem dX9_spell_91 : decode cX9_spell 91 = .ok (.invokevirtual 353, 3) := by decide +kernel
theorem dX9_spell_94 : decode cX9_spell 94 = .ok (.aload_n 0, 1) := by decide +kernel
theorem dX9_spell_95 : decode cX9_spell 95 = .ok (.iload_n 2, 1) := by decide +kernel
theorem dX9_spell_96 : decode cX9_spell 96 = .ok (.aload_n 0, 1) := by decide +kernel
theorem dX9_spell_97 : decode cX9_spell 97 = .ok (.getfield 339, 3) := by decide +kernel
theorem dX9_spell_100 : decode cX9_spell 100 = .ok (.if_icmp .ge 12, 3) := by decide +kernel
theorem dX9_spell_103 : decode cX9_spell 103 = .ok (.aload_n 0, 1) := by decide +kernel
theorem dX9_spell_104 : decode cX9_spell 104 = .ok (.getfield 49, 3) := by decide +kernel
theorem dX9_spell_107 : decode cX9_spell 107 = .ok (.iload_n 2, 1) := by decide +kernel
theorem dX9_spell_108 : decode cX9_spell 108 = .ok (.iaload, 1) := by decide +kernel
theorem dX9_spell_109 : decode cX9_spell 109 = .ok (.goto 4, 3) := by decide +kernel
theorem dX9_spell_112 : decode cX9_spell 112 = .ok (.iconst (-1), 1) := by decide +kernel
theorem dX9_spell_113 : decode cX9_spell 113 = .ok (.invokevirtual 230, 3) := by decide +kernel
theorem dX9_spell_116 : decode cX9_spell 116 = .ok (.ireturn, 1) := by decide +kernel
def f_X9_spell (s0 : MoT) (p1 : Int32) (p2 : Int32) : Option (Int32 × MoT) :=
  if p2 < 0 then (f_X9_refused (Mo_w_thrown s0 (0 : Int32)) (1 : Int32)).bind fun r2 =>
  some ((r2.1), (r2.2))
  else (f_X9_isFound (Mo_w_thrown s0 (0 : Int32)) p1).bind fun r4 =>
  if (r4.1) = 0 then (f_X9_refused (r4.2) (1 : Int32)).bind fun r29 =>
  some ((r29.1), (r29.2))
  else (f_X9_spellsWord (Mo_w_speltMany (r4.2) (0 : Int32)) (0 : Int32) (Mo_foundKey (r4.2))).bind fun r7 =>
  (f_X9_spells r7 (58 : Int32)).bind fun r9 =>
  (f_X9_spellsWord r9 (1 : Int32) (Mo_foundLeft r9)).bind fun r11 =>
  (f_X9_spells r11 (124 : Int32)).bind fun r13 =>
  (f_X9_spellsWord r13 (1 : Int32) (Mo_foundRight r13)).bind fun r15 =>
  (f_X9_spells r15 (42 : Int32)).bind fun r17 =>
  (f_X9_sentOf r17 (0 : Int32) (Mo_foundKey r17) (Mo_foundLeft r17) (Mo_foundRight r17)).bind fun r19 =>
  (f_X9_spellsNumber r17 r19).bind fun r21 =>
  if (Mo_speltMany r21) ≤ p2 then (f_X9_good r21 (-1 : Int32)).bind fun r24 =>
  some ((r24.1), (r24.2))
  else if inb p2 64 then (f_X9_good r21 ((Mo_spelt r21) (ix p2))).bind fun r27 =>
  some ((r27.1), (r27.2)) else none
abbrev rm_X9_spell : Room := { frames := 8, cells := 0, slots := 0, locals := 192 }
set_option maxHeartbeats 4000000 in
set_option maxRecDepth 100000 in
theorem c_X9_spell (l : Launch) (g : GK) (a0 : Nat → Nat) (s0 : MoT) (p1 : Int32) (p2 : Int32) (res : (Int32 × MoT)) (hf : f_X9_spell s0 p1 p2 = some res) : gM l yX9_spell cX9_spell 3 (some .int) rm_X9_spell g [.ref (a0 0), .int p1, .int p2] (Mo_c g a0 s0) (fun _ : Unit => (some (.int (res.1)))) (fun _ => (Mo_c g a0 (res.2))) 0 0 := by
  refine gM_introI RX9 (by decide) rfl (Nat.le_of_ble_eq_true rfl) (fun p e s m args below meth c Q H locs ls A hE hZ hA hP hD hS hq hl => ?_)
  have hl : lv_has ls 3 [(0, .ref (a0 0)), (1, .int p1), (2, .int p2)] := hl
  have hx := hE.1
  have hb := hE.2.1
  rw [f_X9_spell] at hf
  refine lv_aload_n hx hb dX9_spell_0 rfl (lv_at hl 0 rfl) ?_
  refine lv_iconst hx hb dX9_spell_1 kci_0 ?_
  refine g_put hE okX9 fl_X9_55 hP hD hS 0 rfl rfl rfl rfl (Nat.le_of_ble_eq_true rfl) (Mo_c g a0 (Mo_w_thrown s0 (0 : Int32))) rfl dX9_spell_2 (fun H locs hP hD hS => ?_)
  refine lv_iload_n hx hb dX9_spell_5 rfl (lv_at hl 2 rfl) ?_
  refine lv_if_lt hx hb dX9_spell_6 (tgt := 17) rfl (fun h1 => ?_) (fun h1 => ?_)
  · have hf := gif_t h1 hf
    refine lv_aload_n hx hb dX9_spell_17 rfl (lv_at hl 0 rfl) ?_
    refine lv_iconst hx hb dX9_spell_18 kci_1 ?_
    obtain ⟨r2, hc3, hf⟩ := gbd hf
    refine gm_callV1 (As := [.int (1 : Int32)]) (rest := []) (st1 := fun _ => [.int (r2.1)]) (ws' := fun _ => (Mo_c g a0 (r2.2))) hE hl.1 ml_X9_61 (c_X9_refused l g a0 (Mo_w_thrown s0 (0 : Int32)) (1 : Int32) r2 hc3) hZ hP hD hS hA 0 14 rfl (fun _ => rfl) okX9 rfl rfl rfl (fun _ => rfl) ⟨rfl, rfl⟩ ⟨Nat.le_of_ble_eq_true rfl, Nat.le_of_ble_eq_true rfl⟩ ⟨Nat.le_refl _, Nat.le_refl _⟩ (Nat.le_of_ble_eq_true rfl) dX9_spell_19 (fun _ H locs hP hD hS => ?_)
    cases hf
    exact hq () rfl hP hD hS dX9_spell_22
  · have hf := gif_f h1 hf
    refine lv_aload_n hx hb dX9_spell_9 rfl (lv_at hl 0 rfl) ?_
    refine lv_iload_n hx hb dX9_spell_10 rfl (lv_at hl 1 rfl) ?_
    obtain ⟨r4, hc5, hf⟩ := gbd hf
    refine gm_callV1 (As := [.int p1]) (rest := []) (st1 := fun _ => [.int (r4.1)]) (ws' := fun _ => (Mo_c g a0 (r4.2))) hE hl.1 ml_X9_333 (c_X9_isFound l g a0 (Mo_w_thrown s0 (0 : Int32)) p1 r4 hc5) hZ hP hD hS hA 0 14 rfl (fun _ => rfl) okX9 rfl rfl rfl (fun _ => rfl) ⟨rfl, rfl⟩ ⟨Nat.le_of_ble_eq_true rfl, Nat.le_of_ble_eq_true rfl⟩ ⟨Nat.le_refl _, Nat.le_refl _⟩ (Nat.le_of_ble_eq_true rfl) dX9_spell_11 (fun _ H locs hP hD hS => ?_)
    refine lv_if_ne hx hb dX9_spell_14 (tgt := 23) rfl (fun h6 => ?_) (fun h6 => ?_)
    · have hf := gif_f h6 hf
      refine lv_aload_n hx hb dX9_spell_23 rfl (lv_at hl 0 rfl) ?_
      refine lv_iconst hx hb dX9_spell_24 kci_0 ?_
      refine g_put hE okX9 fl_X9_339 hP hD hS 0 rfl rfl rfl rfl (Nat.le_of_ble_eq_true rfl) (Mo_c g a0 (Mo_w_speltMany (r4.2) (0 : Int32))) rfl dX9_spell_25 (fun H locs hP hD hS => ?_)
      refine lv_aload_n hx hb dX9_spell_28 rfl (lv_at hl 0 rfl) ?_
      refine lv_iconst hx hb dX9_spell_29 kci_0 ?_
      refine lv_aload_n hx hb dX9_spell_30 rfl (lv_at hl 0 rfl) ?_
      refine g_get hE okX9 fl_X9_321 hP 0 rfl (v := .int (Mo_foundKey (r4.2))) rfl dX9_spell_31 ?_
      obtain ⟨r7, hc8, hf⟩ := gbd hf
      refine gm_callV1 (As := [.int (0 : Int32), .int (Mo_foundKey (r4.2))]) (rest := []) (st1 := fun _ => []) (ws' := fun _ => (Mo_c g a0 r7)) hE hl.1 ml_X9_349 (c_X9_spellsWord l g a0 (Mo_w_speltMany (r4.2) (0 : Int32)) (0 : Int32) (Mo_foundKey (r4.2)) r7 hc8) hZ hP hD hS hA 0 14 rfl (fun _ => rfl) okX9 rfl rfl rfl (fun _ => rfl) ⟨rfl, rfl⟩ ⟨Nat.le_of_ble_eq_true rfl, Nat.le_of_ble_eq_true rfl⟩ ⟨Nat.le_refl _, Nat.le_refl _⟩ (Nat.le_of_ble_eq_true rfl) dX9_spell_34 (fun _ H locs hP hD hS => ?_)
      refine lv_aload_n hx hb dX9_spell_37 rfl (lv_at hl 0 rfl) ?_
      refine lv_bipush hx hb dX9_spell_38 kcb_58 ?_
      obtain ⟨r9, hc10, hf⟩ := gbd hf
      refine gm_callV1 (As := [.int (58 : Int32)]) (rest := []) (st1 := fun _ => []) (ws' := fun _ => (Mo_c g a0 r9)) hE hl.1 ml_X9_342 (c_X9_spells l g a0 r7 (58 : Int32) r9 hc10) hZ hP hD hS hA 0 14 rfl (fun _ => rfl) okX9 rfl rfl rfl (fun _ => rfl) ⟨rfl, rfl⟩ ⟨Nat.le_of_ble_eq_true rfl, Nat.le_of_ble_eq_true rfl⟩ ⟨Nat.le_refl _, Nat.le_refl _⟩ (Nat.le_of_ble_eq_true rfl) dX9_spell_40 (fun _ H locs hP hD hS => ?_)
      refine lv_aload_n hx hb dX9_spell_43 rfl (lv_at hl 0 rfl) ?_
      refine lv_iconst hx hb dX9_spell_44 kci_1 ?_
      refine lv_aload_n hx hb dX9_spell_45 rfl (lv_at hl 0 rfl) ?_
      refine g_get hE okX9 fl_X9_324 hP 0 rfl (v := .int (Mo_foundLeft r9)) rfl dX9_spell_46 ?_
      obtain ⟨r11, hc12, hf⟩ := gbd hf
      refine gm_callV1 (As := [.int (1 : Int32), .int (Mo_foundLeft r9)]) (rest := []) (st1 := fun _ => []) (ws' := fun _ => (Mo_c g a0 r11)) hE hl.1 ml_X9_349 (c_X9_spellsWord l g a0 r9 (1 : Int32) (Mo_foundLeft r9) r11 hc12) hZ hP hD hS hA 0 14 rfl (fun _ => rfl) okX9 rfl rfl rfl (fun _ => rfl) ⟨rfl, rfl⟩ ⟨Nat.le_of_ble_eq_true rfl, Nat.le_of_ble_eq_true rfl⟩ ⟨Nat.le_refl _, Nat.le_refl _⟩ (Nat.le_of_ble_eq_true rfl) dX9_spell_49 (fun _ H locs hP hD hS => ?_)
      refine lv_aload_n hx hb dX9_spell_52 rfl (lv_at hl 0 rfl) ?_
      refine lv_bipush hx hb dX9_spell_53 kcb_124 ?_
      obtain ⟨r13, hc14, hf⟩ := gbd hf
      refine gm_callV1 (As := [.int (124 : Int32)]) (rest := []) (st1 := fun _ => []) (ws' := fun _ => (Mo_c g a0 r13)) hE hl.1 ml_X9_342 (c_X9_spells l g a0 r11 (124 : Int32) r13 hc14) hZ hP hD hS hA 0 14 rfl (fun _ => rfl) okX9 rfl rfl rfl (fun _ => rfl) ⟨rfl, rfl⟩ ⟨Nat.le_of_ble_eq_true rfl, Nat.le_of_ble_eq_true rfl⟩ ⟨Nat.le_refl _, Nat.le_refl _⟩ (Nat.le_of_ble_eq_true rfl) dX9_spell_55 (fun _ H locs hP hD hS => ?_)
      refine lv_aload_n hx hb dX9_spell_58 rfl (lv_at hl 0 rfl) ?_
      refine lv_iconst hx hb dX9_spell_59 kci_1 ?_
      refine lv_aload_n hx hb dX9_spell_60 rfl (lv_at hl 0 rfl) ?_
      refine g_get hE okX9 fl_X9_327 hP 0 rfl (v := .int (Mo_foundRight r13)) rfl dX9_spell_61 ?_
      obtain ⟨r15, hc16, hf⟩ := gbd hf
      refine gm_callV1 (As := [.int (1 : Int32), .int (Mo_foundRight r13)]) (rest := []) (st1 := fun _ => []) (ws' := fun _ => (Mo_c g a0 r15)) hE hl.1 ml_X9_349 (c_X9_spellsWord l g a0 r13 (1 : Int32) (Mo_foundRight r13) r15 hc16) hZ hP hD hS hA 0 14 rfl (fun _ => rfl) okX9 rfl rfl rfl (fun _ => rfl) ⟨rfl, rfl⟩ ⟨Nat.le_of_ble_eq_true rfl, Nat.le_of_ble_eq_true rfl⟩ ⟨Nat.le_refl _, Nat.le_refl _⟩ (Nat.le_of_ble_eq_true rfl) dX9_spell_64 (fun _ H locs hP hD hS => ?_)
      refine lv_aload_n hx hb dX9_spell_67 rfl (lv_at hl 0 rfl) ?_
      refine lv_bipush hx hb dX9_spell_68 kcb_42 ?_
      obtain ⟨r17, hc18, hf⟩ := gbd hf
      refine gm_callV1 (As := [.int (42 : Int32)]) (rest := []) (st1 := fun _ => []) (ws' := fun _ => (Mo_c g a0 r17)) hE hl.1 ml_X9_342 (c_X9_spells l g a0 r15 (42 : Int32) r17 hc18) hZ hP hD hS hA 0 14 rfl (fun _ => rfl) okX9 rfl rfl rfl (fun _ => rfl) ⟨rfl, rfl⟩ ⟨Nat.le_of_ble_eq_true rfl, Nat.le_of_ble_eq_true rfl⟩ ⟨Nat.le_refl _, Nat.le_refl _⟩ (Nat.le_of_ble_eq_true rfl) dX9_spell_70 (fun _ H locs hP hD hS => ?_)
      refine lv_aload_n hx hb dX9_spell_73 rfl (lv_at hl 0 rfl) ?_
      refine lv_aload_n hx hb dX9_spell_74 rfl (lv_at hl 0 rfl) ?_
      refine lv_iconst hx hb dX9_spell_75 kci_0 ?_
      refine lv_aload_n hx hb dX9_spell_76 rfl (lv_at hl 0 rfl) ?_
      refine g_get hE okX9 fl_X9_321 hP 0 rfl (v := .int (Mo_foundKey r17)) rfl dX9_spell_77 ?_
      refine lv_aload_n hx hb dX9_spell_80 rfl (lv_at hl 0 rfl) ?_
      refine g_get hE okX9 fl_X9_324 hP 0 rfl (v := .int (Mo_foundLeft r17)) rfl dX9_spell_81 ?_
      refine lv_aload_n hx hb dX9_spell_84 rfl (lv_at hl 0 rfl) ?_
      refine g_get hE okX9 fl_X9_327 hP 0 rfl (v := .int (Mo_foundRight r17)) rfl dX9_spell_85 ?_
      obtain ⟨r19, hc20, hf⟩ := gbd hf
      refine gr_callV (As := [.int (0 : Int32), .int (Mo_foundKey r17), .int (Mo_foundLeft r17), .int (Mo_foundRight r17)]) (rest := [.ref (a0 0)]) (st1 := [.int r19, .ref (a0 0)]) hE hl.1 ml_X9_315 (c_X9_sentOf l g a0 r17 (0 : Int32) (Mo_foundKey r17) (Mo_foundLeft r17) (Mo_foundRight r17) r19 hc20) hZ hS hP [(0, 14)] rfl okX9 rfl rfl rfl rfl ⟨rfl, rfl⟩ ⟨Nat.le_of_ble_eq_true rfl, Nat.le_of_ble_eq_true rfl⟩ ⟨Nat.le_refl _, Nat.le_refl _⟩ (Nat.le_of_ble_eq_true rfl) dX9_spell_88 ?_
      obtain ⟨r21, hc22, hf⟩ := gbd hf
      refine gm_callV1 (As := [.int r19]) (rest := []) (st1 := fun _ => []) (ws' := fun _ => (Mo_c g a0 r21)) hE hl.1 ml_X9_353 (c_X9_spellsNumber l g a0 r17 r19 r21 hc22) hZ hP hD hS hA 0 14 rfl (fun _ => rfl) okX9 rfl rfl rfl (fun _ => rfl) ⟨rfl, rfl⟩ ⟨Nat.le_of_ble_eq_true rfl, Nat.le_of_ble_eq_true rfl⟩ ⟨Nat.le_refl _, Nat.le_refl _⟩ (Nat.le_of_ble_eq_true rfl) dX9_spell_91 (fun _ H locs hP hD hS => ?_)
      refine lv_aload_n hx hb dX9_spell_94 rfl (lv_at hl 0 rfl) ?_
      refine lv_iload_n hx hb dX9_spell_95 rfl (lv_at hl 2 rfl) ?_
      refine lv_aload_n hx hb dX9_spell_96 rfl (lv_at hl 0 rfl) ?_
      refine g_get hE okX9 fl_X9_339 hP 0 rfl (v := .int (Mo_speltMany r21)) rfl dX9_spell_97 ?_
      refine lv_icmp_ge hx hb dX9_spell_100 (tgt := 112) rfl (fun h23 => ?_) (fun h23 => ?_)
      · have hf := gif_t h23 hf
        refine lv_iconst hx hb dX9_spell_112 kci_m1 ?_
        obtain ⟨r24, hc25, hf⟩ := gbd hf
        refine gm_callV1 (As := [.int (-1 : Int32)]) (rest := []) (st1 := fun _ => [.int (r24.1)]) (ws' := fun _ => (Mo_c g a0 (r24.2))) hE hl.1 ml_X9_230 (c_X9_good l g a0 r21 (-1 : Int32) r24 hc25) hZ hP hD hS hA 0 14 rfl (fun _ => rfl) okX9 rfl rfl rfl (fun _ => rfl) ⟨rfl, rfl⟩ ⟨Nat.le_of_ble_eq_true rfl, Nat.le_of_ble_eq_true rfl⟩ ⟨Nat.le_refl _, Nat.le_refl _⟩ (Nat.le_of_ble_eq_true rfl) dX9_spell_113 (fun _ H locs hP hD hS => ?_)
        cases hf
        exact hq () rfl hP hD hS dX9_spell_116
      · have hf := gif_f h23 hf
        refine lv_aload_n hx hb dX9_spell_103 rfl (lv_at hl 0 rfl) ?_
        refine g_get hE okX9 fl_X9_49 hP 0 rfl (v := .ref (a0 12)) rfl dX9_spell_104 ?_
        refine lv_iload_n hx hb dX9_spell_107 rfl (lv_at hl 2 rfl) ?_
        obtain ⟨hg26, hf⟩ := ggd hf
        refine g_iald hE hP 12 (f := (Mo_spelt r21)) rfl hg26 dX9_spell_108 ?_
        refine lv_goto hx hb dX9_spell_109 (tgt := 113) rfl ?_
        obtain ⟨r27, hc28, hf⟩ := gbd hf
        refine gm_callV1 (As := [.int ((Mo_spelt r21) (ix p2))]) (rest := []) (st1 := fun _ => [.int (r27.1)]) (ws' := fun _ => (Mo_c g a0 (r27.2))) hE hl.1 ml_X9_230 (c_X9_good l g a0 r21 ((Mo_spelt r21) (ix p2)) r27 hc28) hZ hP hD hS hA 0 14 rfl (fun _ => rfl) okX9 rfl rfl rfl (fun _ => rfl) ⟨rfl, rfl⟩ ⟨Nat.le_of_ble_eq_true rfl, Nat.le_of_ble_eq_true rfl⟩ ⟨Nat.le_refl _, Nat.le_refl _⟩ (Nat.le_of_ble_eq_true rfl) dX9_spell_113 (fun _ H locs hP hD hS => ?_)
        cases hf
        exact hq () rfl hP hD hS dX9_spell_116
    · have hf := gif_t h6 hf
      refine lv_aload_n hx hb dX9_spell_17 rfl (lv_at hl 0 rfl) ?_
      refine lv_iconst hx hb dX9_spell_18 kci_1 ?_
      obtain ⟨r29, hc30, hf⟩ := gbd hf
      refine gm_callV1 (As := [.int (1 : Int32)]) (rest := []) (st1 := fun _ => [.int (r29.1)]) (ws' := fun _ => (Mo_c g a0 (r29.2))) hE hl.1 ml_X9_61 (c_X9_refused l g a0 (r4.2) (1 : Int32) r29 hc30) hZ hP hD hS hA 0 14 rfl (fun _ => rfl) okX9 rfl rfl rfl (fun _ => rfl) ⟨rfl, rfl⟩ ⟨Nat.le_of_ble_eq_true rfl, Nat.le_of_ble_eq_true rfl⟩ ⟨Nat.le_refl _, Nat.le_refl _⟩ (Nat.le_of_ble_eq_true rfl) dX9_spell_19 (fun _ H locs hP hD hS => ?_)
      cases hf
      exact hq () rfl hP hD hS dX9_spell_22
theorem dX9_traffic_0 : decode cX9_traffic 0 = .ok (.aload_n 0, 1) := by decide +kernel
theorem dX9_traffic_1 : decode cX9_traffic 1 = .ok (.iconst 0, 1) := by decide +kernel
theorem dX9_traffic_2 : decode cX9_traffic 2 = .ok (.putfield 55, 3) := by decide +kernel
theorem dX9_traffic_5 : decode cX9_traffic 5 = .ok (.aload_n 0, 1) := by decide +kernel
theorem dX9_traffic_6 : decode cX9_traffic 6 = .ok (.getfield 218, 3) := by decide +kernel
theorem dX9_traffic_9 : decode cX9_traffic 9 = .ok (.ifCond .eq 28, 3) := by decide +kernel
theorem dX9_traffic_12 : decode cX9_traffic 12 = .ok (.iload_n 1, 1) := by decide +kernel
theorem dX9_traffic_13 : decode cX9_traffic 13 = .ok (.iconst 0, 1) := by decide +kernel
theorem dX9_traffic_14 : decode cX9_traffic 14 = .ok (.iconst 3, 1) := by decide +kernel
theorem dX9_traffic_15 : decode cX9_traffic 15 = .ok (.invokestatic 90, 3) := by decide +kernel
theorem dX9_traffic_18 : decode cX9_traffic 18 = .ok (.ifCond .eq 19, 3) := by decide +kernel
theorem dX9_traffic_21 : decode cX9_traffic 21 = .ok (.aload_n 0, 1) := by decide +kernel
theorem dX9_traffic_22 : decode cX9_traffic 22 = .ok (.aload_n 0, 1) := by decide +kernel
theorem dX9_traffic_23 : decode cX9_traffic 23 = .ok (.iconst 0, 1) := by decide +kernel
theorem dX9_traffic_24 : decode cX9_traffic 24 = .ok (.bipush 9, 2) := by decide +kernel
theorem dX9_traffic_26 : decode cX9_traffic 26 = .ok (.iload_n 1, 1) := by decide +kernel
theorem dX9_traffic_27 : decode cX9_traffic 27 = .ok (.iadd, 1) := by decide +kernel
theorem dX9_traffic_28 : decode cX9_traffic 28 = .ok (.invokevirtual 200, 3) := by decide +kernel
theorem dX9_traffic_31 : decode cX9_traffic 31 = .ok (.invokevirtual 230, 3) := by decide +kernel
theorem dX9_traffic_34 : decode cX9_traffic 34 = .ok (.goto 8, 3) := by decide +kernel
theorem dX9_traffic_37 : decode cX9_traffic 37 = .ok (.aload_n 0, 1) := by decide +kernel
theorem dX9_traffic_38 : decode cX9_traffic 38 = .ok (.iconst 1, 1) := by decide +kernel
theorem dX9_traffic_39 : decode cX9_traffic 39 = .ok (.invokevirtual 61, 3) := by decide +kernel
theorem dX9_traffic_42 : decode cX9_traffic 42 = .ok (.ireturn, 1) := by decide +kernel
def f_X9_traffic (s0 : MoT) (p1 : Int32) : Option (Int32 × MoT) :=
  if (Mo_isThere s0) = 0 then (f_X9_refused (Mo_w_thrown s0 (0 : Int32)) (1 : Int32)).bind fun r2 =>
  some ((r2.1), (r2.2))
  else (f_X9_in p1 (0 : Int32) (3 : Int32)).bind fun r4 =>
  if r4 = 0 then (f_X9_refused (Mo_w_thrown s0 (0 : Int32)) (1 : Int32)).bind fun r7 =>
  some ((r7.1), (r7.2))
  else (f_X9_get (Mo_w_thrown s0 (0 : Int32)) (0 : Int32) ((9 : Int32) + p1)).bind fun r9 =>
  (f_X9_good (Mo_w_thrown s0 (0 : Int32)) r9).bind fun r11 =>
  some ((r11.1), (r11.2))
abbrev rm_X9_traffic : Room := { frames := 1, cells := 0, slots := 0, locals := 22 }
set_option maxHeartbeats 4000000 in
set_option maxRecDepth 100000 in
theorem c_X9_traffic (l : Launch) (g : GK) (a0 : Nat → Nat) (s0 : MoT) (p1 : Int32) (res : (Int32 × MoT)) (hf : f_X9_traffic s0 p1 = some res) : gM l yX9_traffic cX9_traffic 2 (some .int) rm_X9_traffic g [.ref (a0 0), .int p1] (Mo_c g a0 s0) (fun _ : Unit => (some (.int (res.1)))) (fun _ => (Mo_c g a0 (res.2))) 0 0 := by
  refine gM_introI RX9 (by decide) rfl (Nat.le_of_ble_eq_true rfl) (fun p e s m args below meth c Q H locs ls A hE hZ hA hP hD hS hq hl => ?_)
  have hl : lv_has ls 2 [(0, .ref (a0 0)), (1, .int p1)] := hl
  have hx := hE.1
  have hb := hE.2.1
  rw [f_X9_traffic] at hf
  refine lv_aload_n hx hb dX9_traffic_0 rfl (lv_at hl 0 rfl) ?_
  refine lv_iconst hx hb dX9_traffic_1 kci_0 ?_
  refine g_put hE okX9 fl_X9_55 hP hD hS 0 rfl rfl rfl rfl (Nat.le_of_ble_eq_true rfl) (Mo_c g a0 (Mo_w_thrown s0 (0 : Int32))) rfl dX9_traffic_2 (fun H locs hP hD hS => ?_)
  refine lv_aload_n hx hb dX9_traffic_5 rfl (lv_at hl 0 rfl) ?_
  refine g_get hE okX9 fl_X9_218 hP 0 rfl (v := .int (Mo_isThere s0)) rfl dX9_traffic_6 ?_
  refine lv_if_eq hx hb dX9_traffic_9 (tgt := 37) rfl (fun h1 => ?_) (fun h1 => ?_)
  · have hf := gif_t h1 hf
    refine lv_aload_n hx hb dX9_traffic_37 rfl (lv_at hl 0 rfl) ?_
    refine lv_iconst hx hb dX9_traffic_38 kci_1 ?_
    obtain ⟨r2, hc3, hf⟩ := gbd hf
    refine gm_callV1 (As := [.int (1 : Int32)]) (rest := []) (st1 := fun _ => [.int (r2.1)]) (ws' := fun _ => (Mo_c g a0 (r2.2))) hE hl.1 ml_X9_61 (c_X9_refused l g a0 (Mo_w_thrown s0 (0 : Int32)) (1 : Int32) r2 hc3) hZ hP hD hS hA 0 14 rfl (fun _ => rfl) okX9 rfl rfl rfl (fun _ => rfl) ⟨rfl, rfl⟩ ⟨Nat.le_of_ble_eq_true rfl, Nat.le_of_ble_eq_true rfl⟩ ⟨Nat.le_refl _, Nat.le_refl _⟩ (Nat.le_of_ble_eq_true rfl) dX9_traffic_39 (fun _ H locs hP hD hS => ?_)
    cases hf
    exact hq () rfl hP hD hS dX9_traffic_42
  · have hf := gif_f h1 hf
    refine lv_iload_n hx hb dX9_traffic_12 rfl (lv_at hl 1 rfl) ?_
    refine lv_iconst hx hb dX9_traffic_13 kci_0 ?_
    refine lv_iconst hx hb dX9_traffic_14 kci_3 ?_
    obtain ⟨r4, hc5, hf⟩ := gbd hf
    refine gr_callS (As := [.int p1, .int (0 : Int32), .int (3 : Int32)]) (rest := []) (st1 := [.int r4]) hE hl.1 ml_X9_90 (c_X9_in l g p1 (0 : Int32) (3 : Int32) r4 hc5) hZ hS hP [] rfl rfl rfl rfl ⟨rfl, rfl⟩ ⟨Nat.le_of_ble_eq_true rfl, Nat.le_of_ble_eq_true rfl⟩ ⟨Nat.le_refl _, Nat.le_refl _⟩ (Nat.le_of_ble_eq_true rfl) dX9_traffic_15 ?_
    refine lv_if_eq hx hb dX9_traffic_18 (tgt := 37) rfl (fun h6 => ?_) (fun h6 => ?_)
    · have hf := gif_t h6 hf
      refine lv_aload_n hx hb dX9_traffic_37 rfl (lv_at hl 0 rfl) ?_
      refine lv_iconst hx hb dX9_traffic_38 kci_1 ?_
      obtain ⟨r7, hc8, hf⟩ := gbd hf
      refine gm_callV1 (As := [.int (1 : Int32)]) (rest := []) (st1 := fun _ => [.int (r7.1)]) (ws' := fun _ => (Mo_c g a0 (r7.2))) hE hl.1 ml_X9_61 (c_X9_refused l g a0 (Mo_w_thrown s0 (0 : Int32)) (1 : Int32) r7 hc8) hZ hP hD hS hA 0 14 rfl (fun _ => rfl) okX9 rfl rfl rfl (fun _ => rfl) ⟨rfl, rfl⟩ ⟨Nat.le_of_ble_eq_true rfl, Nat.le_of_ble_eq_true rfl⟩ ⟨Nat.le_refl _, Nat.le_refl _⟩ (Nat.le_of_ble_eq_true rfl) dX9_traffic_39 (fun _ H locs hP hD hS => ?_)
      cases hf
      exact hq () rfl hP hD hS dX9_traffic_42
    · have hf := gif_f h6 hf
      refine lv_aload_n hx hb dX9_traffic_21 rfl (lv_at hl 0 rfl) ?_
      refine lv_aload_n hx hb dX9_traffic_22 rfl (lv_at hl 0 rfl) ?_
      refine lv_iconst hx hb dX9_traffic_23 kci_0 ?_
      refine lv_bipush hx hb dX9_traffic_24 kcb_9 ?_
      refine lv_iload_n hx hb dX9_traffic_26 rfl (lv_at hl 1 rfl) ?_
      refine lv_iadd hx hb dX9_traffic_27 ?_
      obtain ⟨r9, hc10, hf⟩ := gbd hf
      refine gr_callV (As := [.int (0 : Int32), .int ((9 : Int32) + p1)]) (rest := [.ref (a0 0)]) (st1 := [.int r9, .ref (a0 0)]) hE hl.1 ml_X9_200 (c_X9_get l g a0 (Mo_w_thrown s0 (0 : Int32)) (0 : Int32) ((9 : Int32) + p1) r9 hc10) hZ hS hP [(0, 14)] rfl okX9 rfl rfl rfl rfl ⟨rfl, rfl⟩ ⟨Nat.le_of_ble_eq_true rfl, Nat.le_of_ble_eq_true rfl⟩ ⟨Nat.le_refl _, Nat.le_refl _⟩ (Nat.le_of_ble_eq_true rfl) dX9_traffic_28 ?_
      obtain ⟨r11, hc12, hf⟩ := gbd hf
      refine gm_callV1 (As := [.int r9]) (rest := []) (st1 := fun _ => [.int (r11.1)]) (ws' := fun _ => (Mo_c g a0 (r11.2))) hE hl.1 ml_X9_230 (c_X9_good l g a0 (Mo_w_thrown s0 (0 : Int32)) r9 r11 hc12) hZ hP hD hS hA 0 14 rfl (fun _ => rfl) okX9 rfl rfl rfl (fun _ => rfl) ⟨rfl, rfl⟩ ⟨Nat.le_of_ble_eq_true rfl, Nat.le_of_ble_eq_true rfl⟩ ⟨Nat.le_refl _, Nat.le_refl _⟩ (Nat.le_of_ble_eq_true rfl) dX9_traffic_31 (fun _ H locs hP hD hS => ?_)
      refine lv_goto hx hb dX9_traffic_34 (tgt := 42) rfl ?_
      cases hf
      exact hq () rfl hP hD hS dX9_traffic_42
theorem dX9_logged_0 : decode cX9_logged 0 = .ok (.aload_n 0, 1) := by decide +kernel
theorem dX9_logged_1 : decode cX9_logged 1 = .ok (.iconst 0, 1) := by decide +kernel
theorem dX9_logged_2 : decode cX9_logged 2 = .ok (.bipush 11, 2) := by decide +kernel
theorem dX9_logged_4 : decode cX9_logged 4 = .ok (.invokevirtual 200, 3) := by decide +kernel
theorem dX9_logged_7 : decode cX9_logged 7 = .ok (.bipush 60, 2) := by decide +kernel
theorem dX9_logged_9 : decode cX9_logged 9 = .ok (.if_icmp .ge 13, 3) := by decide +kernel
theorem dX9_logged_12 : decode cX9_logged 12 = .ok (.aload_n 0, 1) := by decide +kernel
theorem dX9_logged_13 : decode cX9_logged 13 = .ok (.iconst 0, 1) := by decide +kernel
theorem dX9_logged_14 : decode cX9_logged 14 = .ok (.bipush 11, 2) := by decide +kernel
theorem dX9_logged_16 : decode cX9_logged 16 = .ok (.invokevirtual 200, 3) := by decide +kernel
theorem dX9_logged_19 : decode cX9_logged 19 = .ok (.goto 5, 3) := by decide +kernel
theorem dX9_logged_22 : decode cX9_logged 22 = .ok (.bipush 60, 2) := by decide +kernel
theorem dX9_logged_24 : decode cX9_logged 24 = .ok (.ireturn, 1) := by decide +kernel
def f_X9_logged (s0 : MoT) : Option (Int32) :=
  (f_X9_get s0 (0 : Int32) (11 : Int32)).bind fun r1 =>
  if (60 : Int32) ≤ r1 then some ((60 : Int32))
  else (f_X9_get s0 (0 : Int32) (11 : Int32)).bind fun r4 =>
  some (r4)
abbrev rm_X9_logged : Room := { frames := 1, cells := 0, slots := 0, locals := 22 }
set_option maxHeartbeats 4000000 in
set_option maxRecDepth 100000 in
theorem c_X9_logged (l : Launch) (g : GK) (a0 : Nat → Nat) (s0 : MoT) (res : (Int32)) (hf : f_X9_logged s0 = some res) : gR l yX9_logged cX9_logged 1 (some .int) rm_X9_logged g [.ref (a0 0)] (Mo_c g a0 s0) (some (.int res)) := by
  refine gR_introI RX9 (by decide) rfl (Nat.le_of_ble_eq_true rfl) (fun p e s m args below meth c Q H locs ls hE hP hZ hS hq hl => ?_)
  have hl : lv_has ls 1 [(0, .ref (a0 0))] := hl
  have hx := hE.1
  have hb := hE.2.1
  rw [f_X9_logged] at hf
  refine lv_aload_n hx hb dX9_logged_0 rfl (lv_at hl 0 rfl) ?_
  refine lv_iconst hx hb dX9_logged_1 kci_0 ?_
  refine lv_bipush hx hb dX9_logged_2 kcb_11 ?_
  obtain ⟨r1, hc2, hf⟩ := gbd hf
  refine gr_callV (As := [.int (0 : Int32), .int (11 : Int32)]) (rest := []) (st1 := [.int r1]) hE hl.1 ml_X9_200 (c_X9_get l g a0 s0 (0 : Int32) (11 : Int32) r1 hc2) hZ hS hP [(0, 14)] rfl okX9 rfl rfl rfl rfl ⟨rfl, rfl⟩ ⟨Nat.le_of_ble_eq_true rfl, Nat.le_of_ble_eq_true rfl⟩ ⟨Nat.le_refl _, Nat.le_refl _⟩ (Nat.le_of_ble_eq_true rfl) dX9_logged_4 ?_
  refine lv_bipush hx hb dX9_logged_7 kcb_60 ?_
  refine lv_icmp_ge hx hb dX9_logged_9 (tgt := 22) rfl (fun h3 => ?_) (fun h3 => ?_)
  · have hf := gif_t h3 hf
    refine lv_bipush hx hb dX9_logged_22 kcb_60 ?_
    cases hf
    exact hq rfl dX9_logged_24
  · have hf := gif_f h3 hf
    refine lv_aload_n hx hb dX9_logged_12 rfl (lv_at hl 0 rfl) ?_
    refine lv_iconst hx hb dX9_logged_13 kci_0 ?_
    refine lv_bipush hx hb dX9_logged_14 kcb_11 ?_
    obtain ⟨r4, hc5, hf⟩ := gbd hf
    refine gr_callV (As := [.int (0 : Int32), .int (11 : Int32)]) (rest := []) (st1 := [.int r4]) hE hl.1 ml_X9_200 (c_X9_get l g a0 s0 (0 : Int32) (11 : Int32) r4 hc5) hZ hS hP [(0, 14)] rfl okX9 rfl rfl rfl rfl ⟨rfl, rfl⟩ ⟨Nat.le_of_ble_eq_true rfl, Nat.le_of_ble_eq_true rfl⟩ ⟨Nat.le_refl _, Nat.le_refl _⟩ (Nat.le_of_ble_eq_true rfl) dX9_logged_16 ?_
    refine lv_goto hx hb dX9_logged_19 (tgt := 24) rfl ?_
    cases hf
    exact hq rfl dX9_logged_24
theorem dX9_log_0 : decode cX9_log 0 = .ok (.aload_n 0, 1) := by decide +kernel
theorem dX9_log_1 : decode cX9_log 1 = .ok (.iconst 0, 1) := by decide +kernel
theorem dX9_log_2 : decode cX9_log 2 = .ok (.putfield 55, 3) := by decide +kernel
theorem dX9_log_5 : decode cX9_log 5 = .ok (.aload_n 0, 1) := by decide +kernel
theorem dX9_log_6 : decode cX9_log 6 = .ok (.getfield 218, 3) := by decide +kernel
theorem dX9_log_9 : decode cX9_log 9 = .ok (.ifCond .eq 26, 3) := by decide +kernel
theorem dX9_log_12 : decode cX9_log 12 = .ok (.iload_n 1, 1) := by decide +kernel
theorem dX9_log_13 : decode cX9_log 13 = .ok (.iconst 0, 1) := by decide +kernel
theorem dX9_log_14 : decode cX9_log 14 = .ok (.aload_n 0, 1) := by decide +kernel
theorem dX9_log_15 : decode cX9_log 15 = .ok (.invokevirtual 356, 3) := by decide +kernel
theorem dX9_log_18 : decode cX9_log 18 = .ok (.iconst 1, 1) := by decide +kernel
theorem dX9_log_19 : decode cX9_log 19 = .ok (.isub, 1) := by decide +kernel
theorem dX9_log_20 : decode cX9_log 20 = .ok (.invokestatic 90, 3) := by decide +kernel
theorem dX9_log_23 : decode cX9_log 23 = .ok (.ifCond .eq 12, 3) := by decide +kernel
theorem dX9_log_26 : decode cX9_log 26 = .ok (.iload_n 2, 1) := by decide +kernel
theorem dX9_log_27 : decode cX9_log 27 = .ok (.iconst 0, 1) := by decide +kernel
theorem dX9_log_28 : decode cX9_log 28 = .ok (.iconst 4, 1) := by decide +kernel
theorem dX9_log_29 : decode cX9_log 29 = .ok (.invokestatic 90, 3) := by decide +kernel
theorem dX9_log_32 : decode cX9_log 32 = .ok (.ifCond .ne 9, 3) := by decide +kernel
theorem dX9_log_35 : decode cX9_log 35 = .ok (.aload_n 0, 1) := by decide +kernel
theorem dX9_log_36 : decode cX9_log 36 = .ok (.iconst 1, 1) := by decide +kernel
theorem dX9_log_37 : decode cX9_log 37 = .ok (.invokevirtual 306, 3) := by decide +kernel
theorem dX9_log_40 : decode cX9_log 40 = .ok (.ireturn, 1) := by decide +kernel
theorem dX9_log_41 : decode cX9_log 41 = .ok (.aload_n 0, 1) := by decide +kernel
theorem dX9_log_42 : decode cX9_log 42 = .ok (.iconst 0, 1) := by decide +kernel
theorem dX9_log_43 : decode cX9_log 43 = .ok (.sipush 823, 3) := by decide +kernel
theorem dX9_log_46 : decode cX9_log 46 = .ok (.iconst 5, 1) := by decide +kernel
theorem dX9_log_47 : decode cX9_log 47 = .ok (.aload_n 0, 1) := by decide +kernel
theorem dX9_log_48 : decode cX9_log 48 = .ok (.iconst 0, 1) := by decide +kernel
theorem dX9_log_49 : decode cX9_log 49 = .ok (.bipush 11, 2) := by decide +kernel
theorem dX9_log_51 : decode cX9_log 51 = .ok (.invokevirtual 200, 3) := by decide +kernel
theorem dX9_log_54 : decode cX9_log 54 = .ok (.iconst 1, 1) := by decide +kernel
theorem dX9_log_55 : decode cX9_log 55 = .ok (.isub, 1) := by decide +kernel
theorem dX9_log_56 : decode cX9_log 56 = .ok (.iload_n 1, 1) := by decide +kernel
theorem dX9_log_57 : decode cX9_log 57 = .ok (.isub, 1) := by decide +kernel
theorem dX9_log_58 : decode cX9_log 58 = .ok (.bipush 60, 2) := by decide +kernel
theorem dX9_log_60 : decode cX9_log 60 = .ok (.irem, 1) := by decide +kernel
theorem dX9_log_61 : decode cX9_log 61 = .ok (.imul, 1) := by decide +kernel
theorem dX9_log_62 : decode cX9_log 62 = .ok (.iadd, 1) := by decide +kernel
theorem dX9_log_63 : decode cX9_log 63 = .ok (.iload_n 2, 1) := by decide +kernel
theorem dX9_log_64 : decode cX9_log 64 = .ok (.iadd, 1) := by decide +kernel
theorem dX9_log_65 : decode cX9_log 65 = .ok (.invokevirtual 200, 3) := by decide +kernel
theorem dX9_log_68 : decode cX9_log 68 = .ok (.istore_n 3, 1) := by decide +kernel
theorem dX9_log_69 : decode cX9_log 69 = .ok (.aload_n 0, 1) := by decide +kernel
theorem dX9_log_70 : decode cX9_log 70 = .ok (.iload_n 2, 1) := by decide +kernel
theorem dX9_log_71 : decode cX9_log 71 = .ok (.iconst 1, 1) := by decide +kernel
theorem dX9_log_72 : decode cX9_log 72 = .ok (.if_icmp .eq 8, 3) := by decide +kernel
theorem dX9_log_75 : decode cX9_log 75 = .ok (.iload_n 2, 1) := by decide +kernel
theorem dX9_log_76 : decode cX9_log 76 = .ok (.iconst 2, 1) := by decide +kernel
theorem dX9_log_77 : decode cX9_log 77 = .ok (.if_icmp .ne 10, 3) := by decide +kernel
theorem dX9_log_80 : decode cX9_log 80 = .ok (.iload_n 3, 1) := by decide +kernel
theorem dX9_log_81 : decode cX9_log 81 = .ok (.invokestatic 336, 3) := by decide +kernel
theorem dX9_log_84 : decode cX9_log 84 = .ok (.goto 4, 3) := by decide +kernel
theorem dX9_log_87 : decode cX9_log 87 = .ok (.iload_n 3, 1) := by decide +kernel
theorem dX9_log_88 : decode cX9_log 88 = .ok (.invokevirtual 230, 3) := by decide +kernel
theorem dX9_log_91 : decode cX9_log 91 = .ok (.ireturn, 1) := by decide +kernel
def f_X9_log (s0 : MoT) (p1 : Int32) (p2 : Int32) : Option (Int32 × MoT) :=
  if (Mo_isThere s0) = 0 then (f_X9_refusedLow (Mo_w_thrown s0 (0 : Int32)) (1 : Int32)).bind fun r2 =>
  some ((r2.1), (r2.2))
  else (f_X9_logged (Mo_w_thrown s0 (0 : Int32))).bind fun r4 =>
  (f_X9_in p1 (0 : Int32) (r4 - (1 : Int32))).bind fun r6 =>
  if r6 = 0 then (f_X9_refusedLow (Mo_w_thrown s0 (0 : Int32)) (1 : Int32)).bind fun r9 =>
  some ((r9.1), (r9.2))
  else (f_X9_in p2 (0 : Int32) (4 : Int32)).bind fun r11 =>
  if r11 = 0 then (f_X9_refusedLow (Mo_w_thrown s0 (0 : Int32)) (1 : Int32)).bind fun r30 =>
  some ((r30.1), (r30.2))
  else (f_X9_get (Mo_w_thrown s0 (0 : Int32)) (0 : Int32) (11 : Int32)).bind fun r14 =>
  (f_X9_get (Mo_w_thrown s0 (0 : Int32)) (0 : Int32) (((823 : Int32) + ((5 : Int32) * (irem ((r14 - (1 : Int32)) - p1) (60 : Int32)))) + p2)).bind fun r16 =>
  if p2 = (1 : Int32) then (f_X9_told r16).bind fun r19 =>
  (f_X9_good (Mo_w_thrown s0 (0 : Int32)) r19).bind fun r21 =>
  some ((r21.1), (r21.2))
  else if p2 = (2 : Int32) then (f_X9_told r16).bind fun r26 =>
  (f_X9_good (Mo_w_thrown s0 (0 : Int32)) r26).bind fun r28 =>
  some ((r28.1), (r28.2))
  else (f_X9_good (Mo_w_thrown s0 (0 : Int32)) r16).bind fun r24 =>
  some ((r24.1), (r24.2))
abbrev rm_X9_log : Room := { frames := 2, cells := 0, slots := 0, locals := 42 }
set_option maxHeartbeats 4000000 in
set_option maxRecDepth 100000 in
theorem c_X9_log (l : Launch) (g : GK) (a0 : Nat → Nat) (s0 : MoT) (p1 : Int32) (p2 : Int32) (res : (Int32 × MoT)) (hf : f_X9_log s0 p1 p2 = some res) : gM l yX9_log cX9_log 4 (some .int) rm_X9_log g [.ref (a0 0), .int p1, .int p2] (Mo_c g a0 s0) (fun _ : Unit => (some (.int (res.1)))) (fun _ => (Mo_c g a0 (res.2))) 0 0 := by
  refine gM_introI RX9 (by decide) rfl (Nat.le_of_ble_eq_true rfl) (fun p e s m args below meth c Q H locs ls A hE hZ hA hP hD hS hq hl => ?_)
  have hl : lv_has ls 4 [(0, .ref (a0 0)), (1, .int p1), (2, .int p2)] := hl
  have hx := hE.1
  have hb := hE.2.1
  rw [f_X9_log] at hf
  refine lv_aload_n hx hb dX9_log_0 rfl (lv_at hl 0 rfl) ?_
  refine lv_iconst hx hb dX9_log_1 kci_0 ?_
  refine g_put hE okX9 fl_X9_55 hP hD hS 0 rfl rfl rfl rfl (Nat.le_of_ble_eq_true rfl) (Mo_c g a0 (Mo_w_thrown s0 (0 : Int32))) rfl dX9_log_2 (fun H locs hP hD hS => ?_)
  refine lv_aload_n hx hb dX9_log_5 rfl (lv_at hl 0 rfl) ?_
  refine g_get hE okX9 fl_X9_218 hP 0 rfl (v := .int (Mo_isThere s0)) rfl dX9_log_6 ?_
  refine lv_if_eq hx hb dX9_log_9 (tgt := 35) rfl (fun h1 => ?_) (fun h1 => ?_)
  · have hf := gif_t h1 hf
    refine lv_aload_n hx hb dX9_log_35 rfl (lv_at hl 0 rfl) ?_
    refine lv_iconst hx hb dX9_log_36 kci_1 ?_
    obtain ⟨r2, hc3, hf⟩ := gbd hf
    refine gm_callV1 (As := [.int (1 : Int32)]) (rest := []) (st1 := fun _ => [.int (r2.1)]) (ws' := fun _ => (Mo_c g a0 (r2.2))) hE hl.1 ml_X9_306 (c_X9_refusedLow l g a0 (Mo_w_thrown s0 (0 : Int32)) (1 : Int32) r2 hc3) hZ hP hD hS hA 0 14 rfl (fun _ => rfl) okX9 rfl rfl rfl (fun _ => rfl) ⟨rfl, rfl⟩ ⟨Nat.le_of_ble_eq_true rfl, Nat.le_of_ble_eq_true rfl⟩ ⟨Nat.le_refl _, Nat.le_refl _⟩ (Nat.le_of_ble_eq_true rfl) dX9_log_37 (fun _ H locs hP hD hS => ?_)
    cases hf
    exact hq () rfl hP hD hS dX9_log_40
  · have hf := gif_f h1 hf
    refine lv_iload_n hx hb dX9_log_12 rfl (lv_at hl 1 rfl) ?_
    refine lv_iconst hx hb dX9_log_13 kci_0 ?_
    refine lv_aload_n hx hb dX9_log_14 rfl (lv_at hl 0 rfl) ?_
    obtain ⟨r4, hc5, hf⟩ := gbd hf
    refine gr_callV (As := []) (rest := [.int (0 : Int32), .int p1]) (st1 := [.int r4, .int (0 : Int32), .int p1]) hE hl.1 ml_X9_356 (c_X9_logged l g a0 (Mo_w_thrown s0 (0 : Int32)) r4 hc5) hZ hS hP [(0, 14)] rfl okX9 rfl rfl rfl rfl ⟨rfl, rfl⟩ ⟨Nat.le_of_ble_eq_true rfl, Nat.le_of_ble_eq_true rfl⟩ ⟨Nat.le_refl _, Nat.le_refl _⟩ (Nat.le_of_ble_eq_true rfl) dX9_log_15 ?_
    refine lv_iconst hx hb dX9_log_18 kci_1 ?_
    refine lv_isub hx hb dX9_log_19 ?_
    obtain ⟨r6, hc7, hf⟩ := gbd hf
    refine gr_callS (As := [.int p1, .int (0 : Int32), .int (r4 - (1 : Int32))]) (rest := []) (st1 := [.int r6]) hE hl.1 ml_X9_90 (c_X9_in l g p1 (0 : Int32) (r4 - (1 : Int32)) r6 hc7) hZ hS hP [] rfl rfl rfl rfl ⟨rfl, rfl⟩ ⟨Nat.le_of_ble_eq_true rfl, Nat.le_of_ble_eq_true rfl⟩ ⟨Nat.le_refl _, Nat.le_refl _⟩ (Nat.le_of_ble_eq_true rfl) dX9_log_20 ?_
    refine lv_if_eq hx hb dX9_log_23 (tgt := 35) rfl (fun h8 => ?_) (fun h8 => ?_)
    · have hf := gif_t h8 hf
      refine lv_aload_n hx hb dX9_log_35 rfl (lv_at hl 0 rfl) ?_
      refine lv_iconst hx hb dX9_log_36 kci_1 ?_
      obtain ⟨r9, hc10, hf⟩ := gbd hf
      refine gm_callV1 (As := [.int (1 : Int32)]) (rest := []) (st1 := fun _ => [.int (r9.1)]) (ws' := fun _ => (Mo_c g a0 (r9.2))) hE hl.1 ml_X9_306 (c_X9_refusedLow l g a0 (Mo_w_thrown s0 (0 : Int32)) (1 : Int32) r9 hc10) hZ hP hD hS hA 0 14 rfl (fun _ => rfl) okX9 rfl rfl rfl (fun _ => rfl) ⟨rfl, rfl⟩ ⟨Nat.le_of_ble_eq_true rfl, Nat.le_of_ble_eq_true rfl⟩ ⟨Nat.le_refl _, Nat.le_refl _⟩ (Nat.le_of_ble_eq_true rfl) dX9_log_37 (fun _ H locs hP hD hS => ?_)
      cases hf
      exact hq () rfl hP hD hS dX9_log_40
    · have hf := gif_f h8 hf
      refine lv_iload_n hx hb dX9_log_26 rfl (lv_at hl 2 rfl) ?_
      refine lv_iconst hx hb dX9_log_27 kci_0 ?_
      refine lv_iconst hx hb dX9_log_28 kci_4 ?_
      obtain ⟨r11, hc12, hf⟩ := gbd hf
      refine gr_callS (As := [.int p2, .int (0 : Int32), .int (4 : Int32)]) (rest := []) (st1 := [.int r11]) hE hl.1 ml_X9_90 (c_X9_in l g p2 (0 : Int32) (4 : Int32) r11 hc12) hZ hS hP [] rfl rfl rfl rfl ⟨rfl, rfl⟩ ⟨Nat.le_of_ble_eq_true rfl, Nat.le_of_ble_eq_true rfl⟩ ⟨Nat.le_refl _, Nat.le_refl _⟩ (Nat.le_of_ble_eq_true rfl) dX9_log_29 ?_
      refine lv_if_ne hx hb dX9_log_32 (tgt := 41) rfl (fun h13 => ?_) (fun h13 => ?_)
      · have hf := gif_f h13 hf
        refine lv_aload_n hx hb dX9_log_41 rfl (lv_at hl 0 rfl) ?_
        refine lv_iconst hx hb dX9_log_42 kci_0 ?_
        refine lv_sipush hx hb dX9_log_43 kcs_823 ?_
        refine lv_iconst hx hb dX9_log_46 kci_5 ?_
        refine lv_aload_n hx hb dX9_log_47 rfl (lv_at hl 0 rfl) ?_
        refine lv_iconst hx hb dX9_log_48 kci_0 ?_
        refine lv_bipush hx hb dX9_log_49 kcb_11 ?_
        obtain ⟨r14, hc15, hf⟩ := gbd hf
        refine gr_callV (As := [.int (0 : Int32), .int (11 : Int32)]) (rest := [.int (5 : Int32), .int (823 : Int32), .int (0 : Int32), .ref (a0 0)]) (st1 := [.int r14, .int (5 : Int32), .int (823 : Int32), .int (0 : Int32), .ref (a0 0)]) hE hl.1 ml_X9_200 (c_X9_get l g a0 (Mo_w_thrown s0 (0 : Int32)) (0 : Int32) (11 : Int32) r14 hc15) hZ hS hP [(0, 14)] rfl okX9 rfl rfl rfl rfl ⟨rfl, rfl⟩ ⟨Nat.le_of_ble_eq_true rfl, Nat.le_of_ble_eq_true rfl⟩ ⟨Nat.le_refl _, Nat.le_refl _⟩ (Nat.le_of_ble_eq_true rfl) dX9_log_51 ?_
        refine lv_iconst hx hb dX9_log_54 kci_1 ?_
        refine lv_isub hx hb dX9_log_55 ?_
        refine lv_iload_n hx hb dX9_log_56 rfl (lv_at hl 1 rfl) ?_
        refine lv_isub hx hb dX9_log_57 ?_
        refine lv_bipush hx hb dX9_log_58 kcb_60 ?_
        refine lv_irem hx hb dX9_log_60 kne_60 ?_
        refine lv_imul hx hb dX9_log_61 ?_
        refine lv_iadd hx hb dX9_log_62 ?_
        refine lv_iload_n hx hb dX9_log_63 rfl (lv_at hl 2 rfl) ?_
        refine lv_iadd hx hb dX9_log_64 ?_
        obtain ⟨r16, hc17, hf⟩ := gbd hf
        refine gr_callV (As := [.int (0 : Int32), .int (((823 : Int32) + ((5 : Int32) * (irem ((r14 - (1 : Int32)) - p1) (60 : Int32)))) + p2)]) (rest := []) (st1 := [.int r16]) hE hl.1 ml_X9_200 (c_X9_get l g a0 (Mo_w_thrown s0 (0 : Int32)) (0 : Int32) (((823 : Int32) + ((5 : Int32) * (irem ((r14 - (1 : Int32)) - p1) (60 : Int32)))) + p2) r16 hc17) hZ hS hP [(0, 14)] rfl okX9 rfl rfl rfl rfl ⟨rfl, rfl⟩ ⟨Nat.le_of_ble_eq_true rfl, Nat.le_of_ble_eq_true rfl⟩ ⟨Nat.le_refl _, Nat.le_refl _⟩ (Nat.le_of_ble_eq_true rfl) dX9_log_65 ?_
        refine lv_istore_n hx hb dX9_log_68 rfl hl (by decide) (lv' := [(3, .int r16), (0, .ref (a0 0)), (1, .int p1), (2, .int p2)]) rfl (fun ls hl => ?_)
        refine lv_aload_n hx hb dX9_log_69 rfl (lv_at hl 1 rfl) ?_
        refine lv_iload_n hx hb dX9_log_70 rfl (lv_at hl 3 rfl) ?_
        refine lv_iconst hx hb dX9_log_71 kci_1 ?_
        refine lv_icmp_eq hx hb dX9_log_72 (tgt := 80) rfl (fun h18 => ?_) (fun h18 => ?_)
        · have hf := gif_t h18 hf
          refine lv_iload_n hx hb dX9_log_80 rfl (lv_at hl 0 rfl) ?_
          obtain ⟨r19, hc20, hf⟩ := gbd hf
          refine gr_callS (As := [.int r16]) (rest := [.ref (a0 0)]) (st1 := [.int r19, .ref (a0 0)]) hE hl.1 ml_X9_336 (c_X9_told l g r16 r19 hc20) hZ hS hP [] rfl rfl rfl rfl ⟨rfl, rfl⟩ ⟨Nat.le_of_ble_eq_true rfl, Nat.le_of_ble_eq_true rfl⟩ ⟨Nat.le_refl _, Nat.le_refl _⟩ (Nat.le_of_ble_eq_true rfl) dX9_log_81 ?_
          refine lv_goto hx hb dX9_log_84 (tgt := 88) rfl ?_
          obtain ⟨r21, hc22, hf⟩ := gbd hf
          refine gm_callV1 (As := [.int r19]) (rest := []) (st1 := fun _ => [.int (r21.1)]) (ws' := fun _ => (Mo_c g a0 (r21.2))) hE hl.1 ml_X9_230 (c_X9_good l g a0 (Mo_w_thrown s0 (0 : Int32)) r19 r21 hc22) hZ hP hD hS hA 0 14 rfl (fun _ => rfl) okX9 rfl rfl rfl (fun _ => rfl) ⟨rfl, rfl⟩ ⟨Nat.le_of_ble_eq_true rfl, Nat.le_of_ble_eq_true rfl⟩ ⟨Nat.le_refl _, Nat.le_refl _⟩ (Nat.le_of_ble_eq_true rfl) dX9_log_88 (fun _ H locs hP hD hS => ?_)
          cases hf
          exact hq () rfl hP hD hS dX9_log_91
        · have hf := gif_f h18 hf
          refine lv_iload_n hx hb dX9_log_75 rfl (lv_at hl 3 rfl) ?_
          refine lv_iconst hx hb dX9_log_76 kci_2 ?_
          refine lv_icmp_ne hx hb dX9_log_77 (tgt := 87) rfl (fun h23 => ?_) (fun h23 => ?_)
          · have hf := gif_f h23 hf
            refine lv_iload_n hx hb dX9_log_87 rfl (lv_at hl 0 rfl) ?_
            obtain ⟨r24, hc25, hf⟩ := gbd hf
            refine gm_callV1 (As := [.int r16]) (rest := []) (st1 := fun _ => [.int (r24.1)]) (ws' := fun _ => (Mo_c g a0 (r24.2))) hE hl.1 ml_X9_230 (c_X9_good l g a0 (Mo_w_thrown s0 (0 : Int32)) r16 r24 hc25) hZ hP hD hS hA 0 14 rfl (fun _ => rfl) okX9 rfl rfl rfl (fun _ => rfl) ⟨rfl, rfl⟩ ⟨Nat.le_of_ble_eq_true rfl, Nat.le_of_ble_eq_true rfl⟩ ⟨Nat.le_refl _, Nat.le_refl _⟩ (Nat.le_of_ble_eq_true rfl) dX9_log_88 (fun _ H locs hP hD hS => ?_)
            cases hf
            exact hq () rfl hP hD hS dX9_log_91
          · have hf := gif_t h23 hf
            refine lv_iload_n hx hb dX9_log_80 rfl (lv_at hl 0 rfl) ?_
            obtain ⟨r26, hc27, hf⟩ := gbd hf
            refine gr_callS (As := [.int r16]) (rest := [.ref (a0 0)]) (st1 := [.int r26, .ref (a0 0)]) hE hl.1 ml_X9_336 (c_X9_told l g r16 r26 hc27) hZ hS hP [] rfl rfl rfl rfl ⟨rfl, rfl⟩ ⟨Nat.le_of_ble_eq_true rfl, Nat.le_of_ble_eq_true rfl⟩ ⟨Nat.le_refl _, Nat.le_refl _⟩ (Nat.le_of_ble_eq_true rfl) dX9_log_81 ?_
            refine lv_goto hx hb dX9_log_84 (tgt := 88) rfl ?_
            obtain ⟨r28, hc29, hf⟩ := gbd hf
            refine gm_callV1 (As := [.int r26]) (rest := []) (st1 := fun _ => [.int (r28.1)]) (ws' := fun _ => (Mo_c g a0 (r28.2))) hE hl.1 ml_X9_230 (c_X9_good l g a0 (Mo_w_thrown s0 (0 : Int32)) r26 r28 hc29) hZ hP hD hS hA 0 14 rfl (fun _ => rfl) okX9 rfl rfl rfl (fun _ => rfl) ⟨rfl, rfl⟩ ⟨Nat.le_of_ble_eq_true rfl, Nat.le_of_ble_eq_true rfl⟩ ⟨Nat.le_refl _, Nat.le_refl _⟩ (Nat.le_of_ble_eq_true rfl) dX9_log_88 (fun _ H locs hP hD hS => ?_)
            cases hf
            exact hq () rfl hP hD hS dX9_log_91
      · have hf := gif_t h13 hf
        refine lv_aload_n hx hb dX9_log_35 rfl (lv_at hl 0 rfl) ?_
        refine lv_iconst hx hb dX9_log_36 kci_1 ?_
        obtain ⟨r30, hc31, hf⟩ := gbd hf
        refine gm_callV1 (As := [.int (1 : Int32)]) (rest := []) (st1 := fun _ => [.int (r30.1)]) (ws' := fun _ => (Mo_c g a0 (r30.2))) hE hl.1 ml_X9_306 (c_X9_refusedLow l g a0 (Mo_w_thrown s0 (0 : Int32)) (1 : Int32) r30 hc31) hZ hP hD hS hA 0 14 rfl (fun _ => rfl) okX9 rfl rfl rfl (fun _ => rfl) ⟨rfl, rfl⟩ ⟨Nat.le_of_ble_eq_true rfl, Nat.le_of_ble_eq_true rfl⟩ ⟨Nat.le_refl _, Nat.le_refl _⟩ (Nat.le_of_ble_eq_true rfl) dX9_log_37 (fun _ H locs hP hD hS => ?_)
        cases hf
        exact hq () rfl hP hD hS dX9_log_40
theorem dX9_flips_0 : decode cX9_flips 0 = .ok (.aload_n 0, 1) := by decide +kernel
theorem dX9_flips_1 : decode cX9_flips 1 = .ok (.iconst 0, 1) := by decide +kernel
theorem dX9_flips_2 : decode cX9_flips 2 = .ok (.putfield 55, 3) := by decide +kernel
theorem dX9_flips_5 : decode cX9_flips 5 = .ok (.iload_n 1, 1) := by decide +kernel
theorem dX9_flips_6 : decode cX9_flips 6 = .ok (.invokestatic 303, 3) := by decide +kernel
theorem dX9_flips_9 : decode cX9_flips 9 = .ok (.ifCond .eq 33, 3) := by decide +kernel
theorem dX9_flips_12 : decode cX9_flips 12 = .ok (.aload_n 0, 1) := by decide +kernel
theorem dX9_flips_13 : decode cX9_flips 13 = .ok (.iload_n 2, 1) := by decide +kernel
theorem dX9_flips_14 : decode cX9_flips 14 = .ok (.invokevirtual 293, 3) := by decide +kernel
theorem dX9_flips_17 : decode cX9_flips 17 = .ok (.ifCond .eq 25, 3) := by decide +kernel
theorem dX9_flips_20 : decode cX9_flips 20 = .ok (.aload_n 0, 1) := by decide +kernel
theorem dX9_flips_21 : decode cX9_flips 21 = .ok (.aload_n 0, 1) := by decide +kernel
theorem dX9_flips_22 : decode cX9_flips 22 = .ok (.iconst 0, 1) := by decide +kernel
theorem dX9_flips_23 : decode cX9_flips 23 = .ok (.sipush 1363, 3) := by decide +kernel
theorem dX9_flips_26 : decode cX9_flips 26 = .ok (.bipush 8, 2) := by decide +kernel
theorem dX9_flips_28 : decode cX9_flips 28 = .ok (.iload_n 1, 1) := by decide +kernel
theorem dX9_flips_29 : decode cX9_flips 29 = .ok (.imul, 1) := by decide +kernel
theorem dX9_flips_30 : decode cX9_flips 30 = .ok (.iadd, 1) := by decide +kernel
theorem dX9_flips_31 : decode cX9_flips 31 = .ok (.iload_n 2, 1) := by decide +kernel
theorem dX9_flips_32 : decode cX9_flips 32 = .ok (.iadd, 1) := by decide +kernel
theorem dX9_flips_33 : decode cX9_flips 33 = .ok (.invokevirtual 200, 3) := by decide +kernel
theorem dX9_flips_36 : decode cX9_flips 36 = .ok (.invokevirtual 230, 3) := by decide +kernel
theorem dX9_flips_39 : decode cX9_flips 39 = .ok (.goto 8, 3) := by decide +kernel
theorem dX9_flips_42 : decode cX9_flips 42 = .ok (.aload_n 0, 1) := by decide +kernel
theorem dX9_flips_43 : decode cX9_flips 43 = .ok (.iconst 1, 1) := by decide +kernel
theorem dX9_flips_44 : decode cX9_flips 44 = .ok (.invokevirtual 61, 3) := by decide +kernel
theorem dX9_flips_47 : decode cX9_flips 47 = .ok (.ireturn, 1) := by decide +kernel
def f_X9_flips (s0 : MoT) (p1 : Int32) (p2 : Int32) : Option (Int32 × MoT) :=
  (f_X9_isSide p1).bind fun r1 =>
  if r1 = 0 then (f_X9_refused (Mo_w_thrown s0 (0 : Int32)) (1 : Int32)).bind fun r4 =>
  some ((r4.1), (r4.2))
  else (f_X9_isKey (Mo_w_thrown s0 (0 : Int32)) p2).bind fun r6 =>
  if r6 = 0 then (f_X9_refused (Mo_w_thrown s0 (0 : Int32)) (1 : Int32)).bind fun r9 =>
  some ((r9.1), (r9.2))
  else (f_X9_get (Mo_w_thrown s0 (0 : Int32)) (0 : Int32) (((1363 : Int32) + ((8 : Int32) * p1)) + p2)).bind fun r11 =>
  (f_X9_good (Mo_w_thrown s0 (0 : Int32)) r11).bind fun r13 =>
  some ((r13.1), (r13.2))
abbrev rm_X9_flips : Room := { frames := 2, cells := 0, slots := 0, locals := 43 }
set_option maxHeartbeats 4000000 in
set_option maxRecDepth 100000 in
theorem c_X9_flips (l : Launch) (g : GK) (a0 : Nat → Nat) (s0 : MoT) (p1 : Int32) (p2 : Int32) (res : (Int32 × MoT)) (hf : f_X9_flips s0 p1 p2 = some res) : gM l yX9_flips cX9_flips 3 (some .int) rm_X9_flips g [.ref (a0 0), .int p1, .int p2] (Mo_c g a0 s0) (fun _ : Unit => (some (.int (res.1)))) (fun _ => (Mo_c g a0 (res.2))) 0 0 := by
  refine gM_introI RX9 (by decide) rfl (Nat.le_of_ble_eq_true rfl) (fun p e s m args below meth c Q H locs ls A hE hZ hA hP hD hS hq hl => ?_)
  have hl : lv_has ls 3 [(0, .ref (a0 0)), (1, .int p1), (2, .int p2)] := hl
  have hx := hE.1
  have hb := hE.2.1
  rw [f_X9_flips] at hf
  refine lv_aload_n hx hb dX9_flips_0 rfl (lv_at hl 0 rfl) ?_
  refine lv_iconst hx hb dX9_flips_1 kci_0 ?_
  refine g_put hE okX9 fl_X9_55 hP hD hS 0 rfl rfl rfl rfl (Nat.le_of_ble_eq_true rfl) (Mo_c g a0 (Mo_w_thrown s0 (0 : Int32))) rfl dX9_flips_2 (fun H locs hP hD hS => ?_)
  refine lv_iload_n hx hb dX9_flips_5 rfl (lv_at hl 1 rfl) ?_
  obtain ⟨r1, hc2, hf⟩ := gbd hf
  refine gr_callS (As := [.int p1]) (rest := []) (st1 := [.int r1]) hE hl.1 ml_X9_303 (c_X9_isSide l g p1 r1 hc2) hZ hS hP [] rfl rfl rfl rfl ⟨rfl, rfl⟩ ⟨Nat.le_of_ble_eq_true rfl, Nat.le_of_ble_eq_true rfl⟩ ⟨Nat.le_refl _, Nat.le_refl _⟩ (Nat.le_of_ble_eq_true rfl) dX9_flips_6 ?_
  refine lv_if_eq hx hb dX9_flips_9 (tgt := 42) rfl (fun h3 => ?_) (fun h3 => ?_)
  · have hf := gif_t h3 hf
    refine lv_aload_n hx hb dX9_flips_42 rfl (lv_at hl 0 rfl) ?_
    refine lv_iconst hx hb dX9_flips_43 kci_1 ?_
    obtain ⟨r4, hc5, hf⟩ := gbd hf
    refine gm_callV1 (As := [.int (1 : Int32)]) (rest := []) (st1 := fun _ => [.int (r4.1)]) (ws' := fun _ => (Mo_c g a0 (r4.2))) hE hl.1 ml_X9_61 (c_X9_refused l g a0 (Mo_w_thrown s0 (0 : Int32)) (1 : Int32) r4 hc5) hZ hP hD hS hA 0 14 rfl (fun _ => rfl) okX9 rfl rfl rfl (fun _ => rfl) ⟨rfl, rfl⟩ ⟨Nat.le_of_ble_eq_true rfl, Nat.le_of_ble_eq_true rfl⟩ ⟨Nat.le_refl _, Nat.le_refl _⟩ (Nat.le_of_ble_eq_true rfl) dX9_flips_44 (fun _ H locs hP hD hS => ?_)
    cases hf
    exact hq () rfl hP hD hS dX9_flips_47
  · have hf := gif_f h3 hf
    refine lv_aload_n hx hb dX9_flips_12 rfl (lv_at hl 0 rfl) ?_
    refine lv_iload_n hx hb dX9_flips_13 rfl (lv_at hl 2 rfl) ?_
    obtain ⟨r6, hc7, hf⟩ := gbd hf
    refine gr_callV (As := [.int p2]) (rest := []) (st1 := [.int r6]) hE hl.1 ml_X9_293 (c_X9_isKey l g a0 (Mo_w_thrown s0 (0 : Int32)) p2 r6 hc7) hZ hS hP [(0, 14)] rfl okX9 rfl rfl rfl rfl ⟨rfl, rfl⟩ ⟨Nat.le_of_ble_eq_true rfl, Nat.le_of_ble_eq_true rfl⟩ ⟨Nat.le_refl _, Nat.le_refl _⟩ (Nat.le_of_ble_eq_true rfl) dX9_flips_14 ?_
    refine lv_if_eq hx hb dX9_flips_17 (tgt := 42) rfl (fun h8 => ?_) (fun h8 => ?_)
    · have hf := gif_t h8 hf
      refine lv_aload_n hx hb dX9_flips_42 rfl (lv_at hl 0 rfl) ?_
      refine lv_iconst hx hb dX9_flips_43 kci_1 ?_
      obtain ⟨r9, hc10, hf⟩ := gbd hf
      refine gm_callV1 (As := [.int (1 : Int32)]) (rest := []) (st1 := fun _ => [.int (r9.1)]) (ws' := fun _ => (Mo_c g a0 (r9.2))) hE hl.1 ml_X9_61 (c_X9_refused l g a0 (Mo_w_thrown s0 (0 : Int32)) (1 : Int32) r9 hc10) hZ hP hD hS hA 0 14 rfl (fun _ => rfl) okX9 rfl rfl rfl (fun _ => rfl) ⟨rfl, rfl⟩ ⟨Nat.le_of_ble_eq_true rfl, Nat.le_of_ble_eq_true rfl⟩ ⟨Nat.le_refl _, Nat.le_refl _⟩ (Nat.le_of_ble_eq_true rfl) dX9_flips_44 (fun _ H locs hP hD hS => ?_)
      cases hf
      exact hq () rfl hP hD hS dX9_flips_47
    · have hf := gif_f h8 hf
      refine lv_aload_n hx hb dX9_flips_20 rfl (lv_at hl 0 rfl) ?_
      refine lv_aload_n hx hb dX9_flips_21 rfl (lv_at hl 0 rfl) ?_
      refine lv_iconst hx hb dX9_flips_22 kci_0 ?_
      refine lv_sipush hx hb dX9_flips_23 kcs_1363 ?_
      refine lv_bipush hx hb dX9_flips_26 kcb_8 ?_
      refine lv_iload_n hx hb dX9_flips_28 rfl (lv_at hl 1 rfl) ?_
      refine lv_imul hx hb dX9_flips_29 ?_
      refine lv_iadd hx hb dX9_flips_30 ?_
      refine lv_iload_n hx hb dX9_flips_31 rfl (lv_at hl 2 rfl) ?_
      refine lv_iadd hx hb dX9_flips_32 ?_
      obtain ⟨r11, hc12, hf⟩ := gbd hf
      refine gr_callV (As := [.int (0 : Int32), .int (((1363 : Int32) + ((8 : Int32) * p1)) + p2)]) (rest := [.ref (a0 0)]) (st1 := [.int r11, .ref (a0 0)]) hE hl.1 ml_X9_200 (c_X9_get l g a0 (Mo_w_thrown s0 (0 : Int32)) (0 : Int32) (((1363 : Int32) + ((8 : Int32) * p1)) + p2) r11 hc12) hZ hS hP [(0, 14)] rfl okX9 rfl rfl rfl rfl ⟨rfl, rfl⟩ ⟨Nat.le_of_ble_eq_true rfl, Nat.le_of_ble_eq_true rfl⟩ ⟨Nat.le_refl _, Nat.le_refl _⟩ (Nat.le_of_ble_eq_true rfl) dX9_flips_33 ?_
      obtain ⟨r13, hc14, hf⟩ := gbd hf
      refine gm_callV1 (As := [.int r11]) (rest := []) (st1 := fun _ => [.int (r13.1)]) (ws' := fun _ => (Mo_c g a0 (r13.2))) hE hl.1 ml_X9_230 (c_X9_good l g a0 (Mo_w_thrown s0 (0 : Int32)) r11 r13 hc14) hZ hP hD hS hA 0 14 rfl (fun _ => rfl) okX9 rfl rfl rfl (fun _ => rfl) ⟨rfl, rfl⟩ ⟨Nat.le_of_ble_eq_true rfl, Nat.le_of_ble_eq_true rfl⟩ ⟨Nat.le_refl _, Nat.le_refl _⟩ (Nat.le_of_ble_eq_true rfl) dX9_flips_36 (fun _ H locs hP hD hS => ?_)
      refine lv_goto hx hb dX9_flips_39 (tgt := 47) rfl ?_
      cases hf
      exact hq () rfl hP hD hS dX9_flips_47
theorem dX9_busiest_0 : decode cX9_busiest 0 = .ok (.aload_n 0, 1) := by decide +kernel
theorem dX9_busiest_1 : decode cX9_busiest 1 = .ok (.iconst 0, 1) := by decide +kernel
theorem dX9_busiest_2 : decode cX9_busiest 2 = .ok (.putfield 55, 3) := by decide +kernel
theorem dX9_busiest_5 : decode cX9_busiest 5 = .ok (.aload_n 0, 1) := by decide +kernel
theorem dX9_busiest_6 : decode cX9_busiest 6 = .ok (.getfield 218, 3) := by decide +kernel
theorem dX9_busiest_9 : decode cX9_busiest 9 = .ok (.ifCond .ne 9, 3) := by decide +kernel
theorem dX9_busiest_12 : decode cX9_busiest 12 = .ok (.aload_n 0, 1) := by decide +kernel
theorem dX9_busiest_13 : decode cX9_busiest 13 = .ok (.iconst 1, 1) := by decide +kernel
theorem dX9_busiest_14 : decode cX9_busiest 14 = .ok (.invokevirtual 61, 3) := by decide +kernel
theorem dX9_busiest_17 : decode cX9_busiest 17 = .ok (.ireturn, 1) := by decide +kernel
theorem dX9_busiest_18 : decode cX9_busiest 18 = .ok (.bipush (-2), 2) := by decide +kernel
theorem dX9_busiest_20 : decode cX9_busiest 20 = .ok (.istore_n 1, 1) := by decide +kernel
theorem dX9_busiest_21 : decode cX9_busiest 21 = .ok (.iconst 0, 1) := by decide +kernel
theorem dX9_busiest_22 : decode cX9_busiest 22 = .ok (.istore_n 2, 1) := by decide +kernel
theorem dX9_busiest_23 : decode cX9_busiest 23 = .ok (.iconst 0, 1) := by decide +kernel
theorem dX9_busiest_24 : decode cX9_busiest 24 = .ok (.istore_n 3, 1) := by decide +kernel
theorem dX9_busiest_25 : decode cX9_busiest 25 = .ok (.iload_n 3, 1) := by decide +kernel
theorem dX9_busiest_26 : decode cX9_busiest 26 = .ok (.bipush 8, 2) := by decide +kernel
theorem dX9_busiest_28 : decode cX9_busiest 28 = .ok (.if_icmp .ge 39, 3) := by decide +kernel
theorem dX9_busiest_31 : decode cX9_busiest 31 = .ok (.aload_n 0, 1) := by decide +kernel
theorem dX9_busiest_32 : decode cX9_busiest 32 = .ok (.iconst 0, 1) := by decide +kernel
theorem dX9_busiest_33 : decode cX9_busiest 33 = .ok (.sipush 167, 3) := by decide +kernel
theorem dX9_busiest_36 : decode cX9_busiest 36 = .ok (.iload_n 3, 1) := by decide +kernel
theorem dX9_busiest_37 : decode cX9_busiest 37 = .ok (.iadd, 1) := by decide +kernel
theorem dX9_busiest_38 : decode cX9_busiest 38 = .ok (.invokevirtual 200, 3) := by decide +kernel
theorem dX9_busiest_41 : decode cX9_busiest 41 = .ok (.iload_n 2, 1) := by decide +kernel
theorem dX9_busiest_42 : decode cX9_busiest 42 = .ok (.if_icmp .gt 6, 3) := by decide +kernel
theorem dX9_busiest_45 : decode cX9_busiest 45 = .ok (.goto 16, 3) := by decide +kernel
theorem dX9_busiest_48 : decode cX9_busiest 48 = .ok (.aload_n 0, 1) := by decide +kernel
theorem dX9_busiest_49 : decode cX9_busiest 49 = .ok (.iconst 0, 1) := by decide +kernel
theorem dX9_busiest_50 : decode cX9_busiest 50 = .ok (.sipush 167, 3) := by decide +kernel
theorem dX9_busiest_53 : decode cX9_busiest 53 = .ok (.iload_n 3, 1) := by decide +kernel
theorem dX9_busiest_54 : decode cX9_busiest 54 = .ok (.iadd, 1) := by decide +kernel
theorem dX9_busiest_55 : decode cX9_busiest 55 = .ok (.invokevirtual 200, 3) := by decide +kernel
theorem dX9_busiest_58 : decode cX9_busiest 58 = .ok (.istore_n 2, 1) := by decide +kernel
theorem dX9_busiest_59 : decode cX9_busiest 59 = .ok (.iload_n 3, 1) := by decide +kernel
theorem dX9_busiest_60 : decode cX9_busiest 60 = .ok (.istore_n 1, 1) := by decide +kernel
theorem dX9_busiest_61 : decode cX9_busiest 61 = .ok (.iinc 3 1, 3) := by decide +kernel
theorem dX9_busiest_64 : decode cX9_busiest 64 = .ok (.goto (-39), 3) := by decide +kernel
theorem dX9_busiest_67 : decode cX9_busiest 67 = .ok (.aload_n 0, 1) := by decide +kernel
theorem dX9_busiest_68 : decode cX9_busiest 68 = .ok (.iload_n 1, 1) := by decide +kernel
theorem dX9_busiest_69 : decode cX9_busiest 69 = .ok (.invokevirtual 230, 3) := by decide +kernel
theorem dX9_busiest_72 : decode cX9_busiest 72 = .ok (.ireturn, 1) := by decide +kernel
def f_X9_busiest_L25_9 (s0 : MoT) (K2 : (Int32 → Option (Int32 × MoT))) : Nat → Int32 → Int32 → Int32 → Option (Int32 × MoT)
  | 0, _, _, _ => none
  | n10 + 1, x1_6, x2_7, x3_8 => if (8 : Int32) ≤ x3_8 then K2 x1_6
  else (f_X9_get (Mo_w_thrown s0 (0 : Int32)) (0 : Int32) ((167 : Int32) + x3_8)).bind fun r12 =>
  if x2_7 < r12 then (f_X9_get (Mo_w_thrown s0 (0 : Int32)) (0 : Int32) ((167 : Int32) + x3_8)).bind fun r15 =>
  f_X9_busiest_L25_9 s0 K2 n10 x3_8 r15 (x3_8 + (1 : Int32))
  else f_X9_busiest_L25_9 s0 K2 n10 x1_6 x2_7 (x3_8 + (1 : Int32))
def f_X9_busiest (s0 : MoT) : Option (Int32 × MoT) :=
  if (Mo_isThere s0) = 0 then (f_X9_refused (Mo_w_thrown s0 (0 : Int32)) (1 : Int32)).bind fun r17 =>
  some ((r17.1), (r17.2))
  else glt (fun (x1_3 : Int32) => (f_X9_good (Mo_w_thrown s0 (0 : Int32)) x1_3).bind fun r4 =>
  some ((r4.1), (r4.2))) fun K2 =>
  f_X9_busiest_L25_9 s0 K2 10000 (-2 : Int32) (0 : Int32) (0 : Int32)
abbrev rm_X9_busiest : Room := { frames := 1, cells := 0, slots := 0, locals := 22 }
set_option maxHeartbeats 4000000 in
set_option maxRecDepth 100000 in
theorem c_X9_busiest (l : Launch) (g : GK) (a0 : Nat → Nat) (s0 : MoT) (res : (Int32 × MoT)) (hf : f_X9_busiest s0 = some res) : gM l yX9_busiest cX9_busiest 4 (some .int) rm_X9_busiest g [.ref (a0 0)] (Mo_c g a0 s0) (fun _ : Unit => (some (.int (res.1)))) (fun _ => (Mo_c g a0 (res.2))) 0 0 := by
  refine gM_introI RX9 (by decide) rfl (Nat.le_of_ble_eq_true rfl) (fun p e s m args below meth c Q H locs ls A hE hZ hA hP hD hS hq hl => ?_)
  have hl : lv_has ls 4 [(0, .ref (a0 0))] := hl
  have hx := hE.1
  have hb := hE.2.1
  rw [f_X9_busiest] at hf
  refine lv_aload_n hx hb dX9_busiest_0 rfl (lv_at hl 0 rfl) ?_
  refine lv_iconst hx hb dX9_busiest_1 kci_0 ?_
  refine g_put hE okX9 fl_X9_55 hP hD hS 0 rfl rfl rfl rfl (Nat.le_of_ble_eq_true rfl) (Mo_c g a0 (Mo_w_thrown s0 (0 : Int32))) rfl dX9_busiest_2 (fun H locs hP hD hS => ?_)
  refine lv_aload_n hx hb dX9_busiest_5 rfl (lv_at hl 0 rfl) ?_
  refine g_get hE okX9 fl_X9_218 hP 0 rfl (v := .int (Mo_isThere s0)) rfl dX9_busiest_6 ?_
  refine lv_if_ne hx hb dX9_busiest_9 (tgt := 18) rfl (fun h1 => ?_) (fun h1 => ?_)
  · have hf := gif_f h1 hf
    refine lv_bipush hx hb dX9_busiest_18 kcb_m2 ?_
    refine lv_istore_n hx hb dX9_busiest_20 rfl hl (by decide) (lv' := [(1, .int (-2 : Int32)), (0, .ref (a0 0))]) rfl (fun ls hl => ?_)
    refine lv_iconst hx hb dX9_busiest_21 kci_0 ?_
    refine lv_istore_n hx hb dX9_busiest_22 rfl hl (by decide) (lv' := [(2, .int (0 : Int32)), (1, .int (-2 : Int32)), (0, .ref (a0 0))]) rfl (fun ls hl => ?_)
    refine lv_iconst hx hb dX9_busiest_23 kci_0 ?_
    refine lv_istore_n hx hb dX9_busiest_24 rfl hl (by decide) (lv' := [(3, .int (0 : Int32)), (2, .int (0 : Int32)), (1, .int (-2 : Int32)), (0, .ref (a0 0))]) rfl (fun ls hl => ?_)
    obtain ⟨K2, eK2, hf⟩ := gltd hf
    have kK2 : ∀ (x1_3 : Int32) (ls : Array Slot) (H : Heap) (locs : List Loc), K2 x1_3 = some res → lv_has ls 4 [(0, .ref (a0 0)), (1, .int x1_3)] → gP g (Mo_c g a0 (Mo_w_thrown s0 (0 : Int32))) H → va_D A (Mo_c g a0 (Mo_w_thrown s0 (0 : Int32))) → va_S A s.heap H locs → W p l e rm_X9_busiest s m args below meth c H locs 0 0 Q (F0 m 67 ls []) := by
      intro x1_3 ls H locs hf hl hP hD hS
      rw [eK2] at hf
      refine lv_aload_n hx hb dX9_busiest_67 rfl (lv_at hl 0 rfl) ?_
      refine lv_iload_n hx hb dX9_busiest_68 rfl (lv_at hl 1 rfl) ?_
      obtain ⟨r4, hc5, hf⟩ := gbd hf
      refine gm_callV1 (As := [.int x1_3]) (rest := []) (st1 := fun _ => [.int (r4.1)]) (ws' := fun _ => (Mo_c g a0 (r4.2))) hE hl.1 ml_X9_230 (c_X9_good l g a0 (Mo_w_thrown s0 (0 : Int32)) x1_3 r4 hc5) hZ hP hD hS hA 0 14 rfl (fun _ => rfl) okX9 rfl rfl rfl (fun _ => rfl) ⟨rfl, rfl⟩ ⟨Nat.le_of_ble_eq_true rfl, Nat.le_of_ble_eq_true rfl⟩ ⟨Nat.le_refl _, Nat.le_refl _⟩ (Nat.le_of_ble_eq_true rfl) dX9_busiest_69 (fun _ H locs hP hD hS => ?_)
      cases hf
      exact hq () rfl hP hD hS dX9_busiest_72
    have lpn10 : ∀ (n10 : Nat) (x1_6 : Int32) (x2_7 : Int32) (x3_8 : Int32) (ls : Array Slot) (H : Heap) (locs : List Loc), f_X9_busiest_L25_9 s0 K2 n10 x1_6 x2_7 x3_8 = some res → lv_has ls 4 [(0, .ref (a0 0)), (1, .int x1_6), (2, .int x2_7), (3, .int x3_8)] → gP g (Mo_c g a0 (Mo_w_thrown s0 (0 : Int32))) H → va_D A (Mo_c g a0 (Mo_w_thrown s0 (0 : Int32))) → va_S A s.heap H locs → W p l e rm_X9_busiest s m args below meth c H locs 0 0 Q (F0 m 25 ls []) := by
      intro n10
      induction n10 with
      | zero => intro x1_6 x2_7 x3_8 ls H locs hf hl hP hD hS; rw [f_X9_busiest_L25_9] at hf; cases hf
      | succ n10 ihn10 =>
        intro x1_6 x2_7 x3_8 ls H locs hf hl hP hD hS
        rw [f_X9_busiest_L25_9] at hf
        refine lv_iload_n hx hb dX9_busiest_25 rfl (lv_at hl 3 rfl) ?_
        refine lv_bipush hx hb dX9_busiest_26 kcb_8 ?_
        refine lv_icmp_ge hx hb dX9_busiest_28 (tgt := 67) rfl (fun h11 => ?_) (fun h11 => ?_)
        · have hf := gif_t h11 hf
          exact kK2 x1_6 ls H locs hf (lv_sub hl [0, 1] rfl) hP hD hS
        · have hf := gif_f h11 hf
          refine lv_aload_n hx hb dX9_busiest_31 rfl (lv_at hl 0 rfl) ?_
          refine lv_iconst hx hb dX9_busiest_32 kci_0 ?_
          refine lv_sipush hx hb dX9_busiest_33 kcs_167 ?_
          refine lv_iload_n hx hb dX9_busiest_36 rfl (lv_at hl 3 rfl) ?_
          refine lv_iadd hx hb dX9_busiest_37 ?_
          obtain ⟨r12, hc13, hf⟩ := gbd hf
          refine gr_callV (As := [.int (0 : Int32), .int ((167 : Int32) + x3_8)]) (rest := []) (st1 := [.int r12]) hE hl.1 ml_X9_200 (c_X9_get l g a0 (Mo_w_thrown s0 (0 : Int32)) (0 : Int32) ((167 : Int32) + x3_8) r12 hc13) hZ hS hP [(0, 14)] rfl okX9 rfl rfl rfl rfl ⟨rfl, rfl⟩ ⟨Nat.le_of_ble_eq_true rfl, Nat.le_of_ble_eq_true rfl⟩ ⟨Nat.le_refl _, Nat.le_refl _⟩ (Nat.le_of_ble_eq_true rfl) dX9_busiest_38 ?_
          refine lv_iload_n hx hb dX9_busiest_41 rfl (lv_at hl 2 rfl) ?_
          refine lv_icmp_gt hx hb dX9_busiest_42 (tgt := 48) rfl (fun h14 => ?_) (fun h14 => ?_)
          · have hf := gif_t h14 hf
            refine lv_aload_n hx hb dX9_busiest_48 rfl (lv_at hl 0 rfl) ?_
            refine lv_iconst hx hb dX9_busiest_49 kci_0 ?_
            refine lv_sipush hx hb dX9_busiest_50 kcs_167 ?_
            refine lv_iload_n hx hb dX9_busiest_53 rfl (lv_at hl 3 rfl) ?_
            refine lv_iadd hx hb dX9_busiest_54 ?_
            obtain ⟨r15, hc16, hf⟩ := gbd hf
            refine gr_callV (As := [.int (0 : Int32), .int ((167 : Int32) + x3_8)]) (rest := []) (st1 := [.int r15]) hE hl.1 ml_X9_200 (c_X9_get l g a0 (Mo_w_thrown s0 (0 : Int32)) (0 : Int32) ((167 : Int32) + x3_8) r15 hc16) hZ hS hP [(0, 14)] rfl okX9 rfl rfl rfl rfl ⟨rfl, rfl⟩ ⟨Nat.le_of_ble_eq_true rfl, Nat.le_of_ble_eq_true rfl⟩ ⟨Nat.le_refl _, Nat.le_refl _⟩ (Nat.le_of_ble_eq_true rfl) dX9_busiest_55 ?_
            refine lv_istore_n hx hb dX9_busiest_58 rfl hl (by decide) (lv' := [(2, .int r15), (0, .ref (a0 0)), (1, .int x1_6), (3, .int x3_8)]) rfl (fun ls hl => ?_)
            refine lv_iload_n hx hb dX9_busiest_59 rfl (lv_at hl 3 rfl) ?_
            refine lv_istore_n hx hb dX9_busiest_60 rfl hl (by decide) (lv' := [(1, .int x3_8), (2, .int r15), (0, .ref (a0 0)), (3, .int x3_8)]) rfl (fun ls hl => ?_)
            refine lv_iinc hx hb dX9_busiest_61 hl (k := 3) (x := x3_8) rfl (kinc_1 _) (by decide) (lv' := [(3, .int (x3_8 + (1 : Int32))), (1, .int x3_8), (2, .int r15), (0, .ref (a0 0))]) rfl (fun ls hl => ?_)
            refine lv_goto hx hb dX9_busiest_64 (tgt := 25) rfl ?_
            exact ihn10 x3_8 r15 (x3_8 + (1 : Int32)) ls H locs hf (lv_sub hl [3, 1, 2, 0] rfl) hP hD hS
          · have hf := gif_f h14 hf
            refine lv_goto hx hb dX9_busiest_45 (tgt := 61) rfl ?_
            refine lv_iinc hx hb dX9_busiest_61 hl (k := 3) (x := x3_8) rfl (kinc_1 _) (by decide) (lv' := [(3, .int (x3_8 + (1 : Int32))), (0, .ref (a0 0)), (1, .int x1_6), (2, .int x2_7)]) rfl (fun ls hl => ?_)
            refine lv_goto hx hb dX9_busiest_64 (tgt := 25) rfl ?_
            exact ihn10 x1_6 x2_7 (x3_8 + (1 : Int32)) ls H locs hf (lv_sub hl [1, 2, 3, 0] rfl) hP hD hS
    exact lpn10 10000 (-2 : Int32) (0 : Int32) (0 : Int32) ls H locs hf (lv_sub hl [3, 2, 1, 0] rfl) hP hD hS
  · have hf := gif_t h1 hf
    refine lv_aload_n hx hb dX9_busiest_12 rfl (lv_at hl 0 rfl) ?_
    refine lv_iconst hx hb dX9_busiest_13 kci_1 ?_
    obtain ⟨r17, hc18, hf⟩ := gbd hf
    refine gm_callV1 (As := [.int (1 : Int32)]) (rest := []) (st1 := fun _ => [.int (r17.1)]) (ws' := fun _ => (Mo_c g a0 (r17.2))) hE hl.1 ml_X9_61 (c_X9_refused l g a0 (Mo_w_thrown s0 (0 : Int32)) (1 : Int32) r17 hc18) hZ hP hD hS hA 0 14 rfl (fun _ => rfl) okX9 rfl rfl rfl (fun _ => rfl) ⟨rfl, rfl⟩ ⟨Nat.le_of_ble_eq_true rfl, Nat.le_of_ble_eq_true rfl⟩ ⟨Nat.le_refl _, Nat.le_refl _⟩ (Nat.le_of_ble_eq_true rfl) dX9_busiest_14 (fun _ H locs hP hD hS => ?_)
    cases hf
    exact hq () rfl hP hD hS dX9_busiest_17
theorem dX9_dearest_0 : decode cX9_dearest 0 = .ok (.aload_n 0, 1) := by decide +kernel
theorem dX9_dearest_1 : decode cX9_dearest 1 = .ok (.iconst 0, 1) := by decide +kernel
theorem dX9_dearest_2 : decode cX9_dearest 2 = .ok (.putfield 55, 3) := by decide +kernel
theorem dX9_dearest_5 : decode cX9_dearest 5 = .ok (.aload_n 0, 1) := by decide +kernel
theorem dX9_dearest_6 : decode cX9_dearest 6 = .ok (.getfield 218, 3) := by decide +kernel
theorem dX9_dearest_9 : decode cX9_dearest 9 = .ok (.ifCond .ne 9, 3) := by decide +kernel
theorem dX9_dearest_12 : decode cX9_dearest 12 = .ok (.aload_n 0, 1) := by decide +kernel
theorem dX9_dearest_13 : decode cX9_dearest 13 = .ok (.iconst 1, 1) := by decide +kernel
theorem dX9_dearest_14 : decode cX9_dearest 14 = .ok (.invokevirtual 61, 3) := by decide +kernel
theorem dX9_dearest_17 : decode cX9_dearest 17 = .ok (.ireturn, 1) := by decide +kernel
theorem dX9_dearest_18 : decode cX9_dearest 18 = .ok (.aload_n 0, 1) := by decide +kernel
theorem dX9_dearest_19 : decode cX9_dearest 19 = .ok (.aload_n 0, 1) := by decide +kernel
theorem dX9_dearest_20 : decode cX9_dearest 20 = .ok (.iconst 0, 1) := by decide +kernel
theorem dX9_dearest_21 : decode cX9_dearest 21 = .ok (.bipush 12, 2) := by decide +kernel
theorem dX9_dearest_23 : decode cX9_dearest 23 = .ok (.invokevirtual 200, 3) := by decide +kernel
theorem dX9_dearest_26 : decode cX9_dearest 26 = .ok (.ifCond .ne 8, 3) := by decide +kernel
theorem dX9_dearest_29 : decode cX9_dearest 29 = .ok (.bipush (-2), 2) := by decide +kernel
theorem dX9_dearest_31 : decode cX9_dearest 31 = .ok (.goto 10, 3) := by decide +kernel
theorem dX9_dearest_34 : decode cX9_dearest 34 = .ok (.aload_n 0, 1) := by decide +kernel
theorem dX9_dearest_35 : decode cX9_dearest 35 = .ok (.iconst 0, 1) := by decide +kernel
theorem dX9_dearest_36 : decode cX9_dearest 36 = .ok (.bipush 14, 2) := by decide +kernel
theorem dX9_dearest_38 : decode cX9_dearest 38 = .ok (.invokevirtual 200, 3) := by decide +kernel
theorem dX9_dearest_41 : decode cX9_dearest 41 = .ok (.invokevirtual 230, 3) := by decide +kernel
theorem dX9_dearest_44 : decode cX9_dearest 44 = .ok (.ireturn, 1) := by decide +kernel
def f_X9_dearest (s0 : MoT) : Option (Int32 × MoT) :=
  if (Mo_isThere s0) = 0 then (f_X9_refused (Mo_w_thrown s0 (0 : Int32)) (1 : Int32)).bind fun r11 =>
  some ((r11.1), (r11.2))
  else (f_X9_get (Mo_w_thrown s0 (0 : Int32)) (0 : Int32) (12 : Int32)).bind fun r2 =>
  if r2 = 0 then (f_X9_good (Mo_w_thrown s0 (0 : Int32)) (-2 : Int32)).bind fun r9 =>
  some ((r9.1), (r9.2))
  else (f_X9_get (Mo_w_thrown s0 (0 : Int32)) (0 : Int32) (14 : Int32)).bind fun r5 =>
  (f_X9_good (Mo_w_thrown s0 (0 : Int32)) r5).bind fun r7 =>
  some ((r7.1), (r7.2))
abbrev rm_X9_dearest : Room := { frames := 1, cells := 0, slots := 0, locals := 22 }
set_option maxHeartbeats 4000000 in
set_option maxRecDepth 100000 in
theorem c_X9_dearest (l : Launch) (g : GK) (a0 : Nat → Nat) (s0 : MoT) (res : (Int32 × MoT)) (hf : f_X9_dearest s0 = some res) : gM l yX9_dearest cX9_dearest 1 (some .int) rm_X9_dearest g [.ref (a0 0)] (Mo_c g a0 s0) (fun _ : Unit => (some (.int (res.1)))) (fun _ => (Mo_c g a0 (res.2))) 0 0 := by
  refine gM_introI RX9 (by decide) rfl (Nat.le_of_ble_eq_true rfl) (fun p e s m args below meth c Q H locs ls A hE hZ hA hP hD hS hq hl => ?_)
  have hl : lv_has ls 1 [(0, .ref (a0 0))] := hl
  have hx := hE.1
  have hb := hE.2.1
  rw [f_X9_dearest] at hf
  refine lv_aload_n hx hb dX9_dearest_0 rfl (lv_at hl 0 rfl) ?_
  refine lv_iconst hx hb dX9_dearest_1 kci_0 ?_
  refine g_put hE okX9 fl_X9_55 hP hD hS 0 rfl rfl rfl rfl (Nat.le_of_ble_eq_true rfl) (Mo_c g a0 (Mo_w_thrown s0 (0 : Int32))) rfl dX9_dearest_2 (fun H locs hP hD hS => ?_)
  refine lv_aload_n hx hb dX9_dearest_5 rfl (lv_at hl 0 rfl) ?_
  refine g_get hE okX9 fl_X9_218 hP 0 rfl (v := .int (Mo_isThere s0)) rfl dX9_dearest_6 ?_
  refine lv_if_ne hx hb dX9_dearest_9 (tgt := 18) rfl (fun h1 => ?_) (fun h1 => ?_)
  · have hf := gif_f h1 hf
    refine lv_aload_n hx hb dX9_dearest_18 rfl (lv_at hl 0 rfl) ?_
    refine lv_aload_n hx hb dX9_dearest_19 rfl (lv_at hl 0 rfl) ?_
    refine lv_iconst hx hb dX9_dearest_20 kci_0 ?_
    refine lv_bipush hx hb dX9_dearest_21 kcb_12 ?_
    obtain ⟨r2, hc3, hf⟩ := gbd hf
    refine gr_callV (As := [.int (0 : Int32), .int (12 : Int32)]) (rest := [.ref (a0 0)]) (st1 := [.int r2, .ref (a0 0)]) hE hl.1 ml_X9_200 (c_X9_get l g a0 (Mo_w_thrown s0 (0 : Int32)) (0 : Int32) (12 : Int32) r2 hc3) hZ hS hP [(0, 14)] rfl okX9 rfl rfl rfl rfl ⟨rfl, rfl⟩ ⟨Nat.le_of_ble_eq_true rfl, Nat.le_of_ble_eq_true rfl⟩ ⟨Nat.le_refl _, Nat.le_refl _⟩ (Nat.le_of_ble_eq_true rfl) dX9_dearest_23 ?_
    refine lv_if_ne hx hb dX9_dearest_26 (tgt := 34) rfl (fun h4 => ?_) (fun h4 => ?_)
    · have hf := gif_f h4 hf
      refine lv_aload_n hx hb dX9_dearest_34 rfl (lv_at hl 0 rfl) ?_
      refine lv_iconst hx hb dX9_dearest_35 kci_0 ?_
      refine lv_bipush hx hb dX9_dearest_36 kcb_14 ?_
      obtain ⟨r5, hc6, hf⟩ := gbd hf
      refine gr_callV (As := [.int (0 : Int32), .int (14 : Int32)]) (rest := [.ref (a0 0)]) (st1 := [.int r5, .ref (a0 0)]) hE hl.1 ml_X9_200 (c_X9_get l g a0 (Mo_w_thrown s0 (0 : Int32)) (0 : Int32) (14 : Int32) r5 hc6) hZ hS hP [(0, 14)] rfl okX9 rfl rfl rfl rfl ⟨rfl, rfl⟩ ⟨Nat.le_of_ble_eq_true rfl, Nat.le_of_ble_eq_true rfl⟩ ⟨Nat.le_refl _, Nat.le_refl _⟩ (Nat.le_of_ble_eq_true rfl) dX9_dearest_38 ?_
      obtain ⟨r7, hc8, hf⟩ := gbd hf
      refine gm_callV1 (As := [.int r5]) (rest := []) (st1 := fun _ => [.int (r7.1)]) (ws' := fun _ => (Mo_c g a0 (r7.2))) hE hl.1 ml_X9_230 (c_X9_good l g a0 (Mo_w_thrown s0 (0 : Int32)) r5 r7 hc8) hZ hP hD hS hA 0 14 rfl (fun _ => rfl) okX9 rfl rfl rfl (fun _ => rfl) ⟨rfl, rfl⟩ ⟨Nat.le_of_ble_eq_true rfl, Nat.le_of_ble_eq_true rfl⟩ ⟨Nat.le_refl _, Nat.le_refl _⟩ (Nat.le_of_ble_eq_true rfl) dX9_dearest_41 (fun _ H locs hP hD hS => ?_)
      cases hf
      exact hq () rfl hP hD hS dX9_dearest_44
    · have hf := gif_t h4 hf
      refine lv_bipush hx hb dX9_dearest_29 kcb_m2 ?_
      refine lv_goto hx hb dX9_dearest_31 (tgt := 41) rfl ?_
      obtain ⟨r9, hc10, hf⟩ := gbd hf
      refine gm_callV1 (As := [.int (-2 : Int32)]) (rest := []) (st1 := fun _ => [.int (r9.1)]) (ws' := fun _ => (Mo_c g a0 (r9.2))) hE hl.1 ml_X9_230 (c_X9_good l g a0 (Mo_w_thrown s0 (0 : Int32)) (-2 : Int32) r9 hc10) hZ hP hD hS hA 0 14 rfl (fun _ => rfl) okX9 rfl rfl rfl (fun _ => rfl) ⟨rfl, rfl⟩ ⟨Nat.le_of_ble_eq_true rfl, Nat.le_of_ble_eq_true rfl⟩ ⟨Nat.le_refl _, Nat.le_refl _⟩ (Nat.le_of_ble_eq_true rfl) dX9_dearest_41 (fun _ H locs hP hD hS => ?_)
      cases hf
      exact hq () rfl hP hD hS dX9_dearest_44
  · have hf := gif_t h1 hf
    refine lv_aload_n hx hb dX9_dearest_12 rfl (lv_at hl 0 rfl) ?_
    refine lv_iconst hx hb dX9_dearest_13 kci_1 ?_
    obtain ⟨r11, hc12, hf⟩ := gbd hf
    refine gm_callV1 (As := [.int (1 : Int32)]) (rest := []) (st1 := fun _ => [.int (r11.1)]) (ws' := fun _ => (Mo_c g a0 (r11.2))) hE hl.1 ml_X9_61 (c_X9_refused l g a0 (Mo_w_thrown s0 (0 : Int32)) (1 : Int32) r11 hc12) hZ hP hD hS hA 0 14 rfl (fun _ => rfl) okX9 rfl rfl rfl (fun _ => rfl) ⟨rfl, rfl⟩ ⟨Nat.le_of_ble_eq_true rfl, Nat.le_of_ble_eq_true rfl⟩ ⟨Nat.le_refl _, Nat.le_refl _⟩ (Nat.le_of_ble_eq_true rfl) dX9_dearest_14 (fun _ H locs hP hD hS => ?_)
    cases hf
    exact hq () rfl hP hD hS dX9_dearest_17
theorem dX9_subAt_0 : decode cX9_subAt 0 = .ok (.sipush 1379, 3) := by decide +kernel
theorem dX9_subAt_3 : decode cX9_subAt 3 = .ok (.sipush 1298, 3) := by decide +kernel
theorem dX9_subAt_6 : decode cX9_subAt 6 = .ok (.iload_n 0, 1) := by decide +kernel
theorem dX9_subAt_7 : decode cX9_subAt 7 = .ok (.imul, 1) := by decide +kernel
theorem dX9_subAt_8 : decode cX9_subAt 8 = .ok (.iadd, 1) := by decide +kernel
theorem dX9_subAt_9 : decode cX9_subAt 9 = .ok (.iload_n 1, 1) := by decide +kernel
theorem dX9_subAt_10 : decode cX9_subAt 10 = .ok (.iadd, 1) := by decide +kernel
theorem dX9_subAt_11 : decode cX9_subAt 11 = .ok (.ireturn, 1) := by decide +kernel
def f_X9_subAt (p1 : Int32) (p2 : Int32) : Option (Int32) :=
  some ((((1379 : Int32) + ((1298 : Int32) * p1)) + p2))
abbrev rm_X9_subAt : Room := { frames := 0, cells := 0, slots := 0, locals := 0 }
set_option maxHeartbeats 4000000 in
set_option maxRecDepth 100000 in
theorem c_X9_subAt (l : Launch) (g : GK) (p1 : Int32) (p2 : Int32) (res : (Int32)) (hf : f_X9_subAt p1 p2 = some res) : gR l yX9_subAt cX9_subAt 2 (some .int) rm_X9_subAt g [.int p1, .int p2] [] (some (.int res)) := by
  refine gR_introI RX9 (by decide) rfl (Nat.le_of_ble_eq_true rfl) (fun p e s m args below meth c Q H locs ls hE hP hZ hS hq hl => ?_)
  have hl : lv_has ls 2 [(0, .int p1), (1, .int p2)] := hl
  have hx := hE.1
  have hb := hE.2.1
  rw [f_X9_subAt] at hf
  refine lv_sipush hx hb dX9_subAt_0 kcs_1379 ?_
  refine lv_sipush hx hb dX9_subAt_3 kcs_1298 ?_
  refine lv_iload_n hx hb dX9_subAt_6 rfl (lv_at hl 0 rfl) ?_
  refine lv_imul hx hb dX9_subAt_7 ?_
  refine lv_iadd hx hb dX9_subAt_8 ?_
  refine lv_iload_n hx hb dX9_subAt_9 rfl (lv_at hl 1 rfl) ?_
  refine lv_iadd hx hb dX9_subAt_10 ?_
  cases hf
  exact hq rfl dX9_subAt_11
