theorem kcs_128 : (Int16.ofInt (128)).toInt32 = (128 : Int32) := by decide
theorem kcs_19713 : (Int16.ofInt (19713)).toInt32 = (19713 : Int32) := by decide
theorem kcs_200 : (Int16.ofInt (200)).toInt32 = (200 : Int32) := by decide
theorem cl_X0_21 : Cond.classLink RX0 21 RX2 ∈ TBL := tb (in1 (List.mem_of_getElem? (i := 147) (by decide +kernel))) (by decide +kernel)
theorem cl_X1_21 : Cond.classLink RX1 21 RX0 ∈ TBL := tb (in2 (List.mem_of_getElem? (i := 149) (by decide +kernel))) (by decide +kernel)
theorem cl_X1_28 : Cond.classLink RX1 28 RX4 ∈ TBL := tb (in2 (List.mem_of_getElem? (i := 151) (by decide +kernel))) (by decide +kernel)
theorem cl_X1_35 : Cond.classLink RX1 35 RX5 ∈ TBL := tb (in2 (List.mem_of_getElem? (i := 179) (by decide +kernel))) (by decide +kernel)
theorem cl_X1_9 : Cond.classLink RX1 9 RX7 ∈ TBL := tb (in2 (List.mem_of_getElem? (i := 147) (by decide +kernel))) (by decide +kernel)
theorem cl_X3_18 : Cond.classLink RX3 18 RX7 ∈ TBL := tb (in1 (List.mem_of_getElem? (i := 78) (by decide +kernel))) (by decide +kernel)
theorem cl_X3_9 : Cond.classLink RX3 9 RX6 ∈ TBL := tb (in1 (List.mem_of_getElem? (i := 41) (by decide +kernel))) (by decide +kernel)
theorem cl_X8_11 : Cond.classLink RX8 11 RX3 ∈ TBL := tb (in1 (List.mem_of_getElem? (i := 35) (by decide +kernel))) (by decide +kernel)
theorem cl_X8_18 : Cond.classLink RX8 18 RX0 ∈ TBL := tb (in1 (List.mem_of_getElem? (i := 141) (by decide +kernel))) (by decide +kernel)
theorem ko_X0_3 : Cond.methodLink RX0 3 Lib.objectInit ∈ TBL := tb (in1 (List.mem_of_getElem? (i := 146) (by decide +kernel))) (by decide +kernel)
theorem ko_X1_3 : Cond.methodLink RX1 3 Lib.objectInit ∈ TBL := tb (in2 (List.mem_of_getElem? (i := 146) (by decide +kernel))) (by decide +kernel)
theorem ko_X2_3 : Cond.methodLink RX2 3 Lib.objectInit ∈ TBL := tb (in1 (List.mem_of_getElem? (i := 152) (by decide +kernel))) (by decide +kernel)
theorem ko_X3_3 : Cond.methodLink RX3 3 Lib.objectInit ∈ TBL := tb (in1 (List.mem_of_getElem? (i := 40) (by decide +kernel))) (by decide +kernel)
theorem ko_X4_1 : Cond.methodLink RX4 1 Lib.objectInit ∈ TBL := tb (in2 (List.mem_of_getElem? (i := 156) (by decide +kernel))) (by decide +kernel)
theorem ko_X5_3 : Cond.methodLink RX5 3 Lib.objectInit ∈ TBL := tb (in2 (List.mem_of_getElem? (i := 184) (by decide +kernel))) (by decide +kernel)
theorem ko_X6_1 : Cond.methodLink RX6 1 Lib.objectInit ∈ TBL := tb (in1 (List.mem_of_getElem? (i := 46) (by decide +kernel))) (by decide +kernel)
theorem ko_X7_3 : Cond.methodLink RX7 3 Lib.objectInit ∈ TBL := tb (in1 (List.mem_of_getElem? (i := 83) (by decide +kernel))) (by decide +kernel)
theorem ko_X8_5 : Cond.methodLink RX8 5 Lib.objectInit ∈ TBL := tb (in1 (List.mem_of_getElem? (i := 32) (by decide +kernel))) (by decide +kernel)
theorem ko_X9_3 : Cond.methodLink RX9 3 Lib.objectInit ∈ TBL := tb (in6 (List.mem_of_getElem? (i := 26) (by decide +kernel))) (by decide +kernel)
theorem inst_X0 : Cond.instantiable RX0 5 ∈ TBL := tb (in1 (List.mem_of_getElem? (i := 142) (by decide +kernel))) (by decide +kernel)
theorem ini_X0 : Cond.initialized RX0 ∈ TBL := tb (in1 (List.mem_of_getElem? (i := 5) (by decide +kernel))) (by decide +kernel)
theorem inst_X2 : Cond.instantiable RX2 11 ∈ TBL := tb (in1 (List.mem_of_getElem? (i := 148) (by decide +kernel))) (by decide +kernel)
theorem ini_X2 : Cond.initialized RX2 ∈ TBL := tb (in1 (List.mem_of_getElem? (i := 6) (by decide +kernel))) (by decide +kernel)
theorem inst_X3 : Cond.instantiable RX3 12 ∈ TBL := tb (in1 (List.mem_of_getElem? (i := 36) (by decide +kernel))) (by decide +kernel)
theorem ini_X3 : Cond.initialized RX3 ∈ TBL := tb (in1 (List.mem_of_getElem? (i := 2) (by decide +kernel))) (by decide +kernel)
theorem inst_X4 : Cond.instantiable RX4 5 ∈ TBL := tb (in2 (List.mem_of_getElem? (i := 152) (by decide +kernel))) (by decide +kernel)
theorem ini_X4 : Cond.initialized RX4 ∈ TBL := tb (in1 (List.mem_of_getElem? (i := 9) (by decide +kernel))) (by decide +kernel)
theorem inst_X5 : Cond.instantiable RX5 3 ∈ TBL := tb (in2 (List.mem_of_getElem? (i := 180) (by decide +kernel))) (by decide +kernel)
theorem ini_X5 : Cond.initialized RX5 ∈ TBL := tb (in1 (List.mem_of_getElem? (i := 10) (by decide +kernel))) (by decide +kernel)
theorem inst_X6 : Cond.instantiable RX6 8 ∈ TBL := tb (in1 (List.mem_of_getElem? (i := 42) (by decide +kernel))) (by decide +kernel)
theorem ini_X6 : Cond.initialized RX6 ∈ TBL := tb (in1 (List.mem_of_getElem? (i := 3) (by decide +kernel))) (by decide +kernel)
theorem inst_X7 : Cond.instantiable RX7 2 ∈ TBL := tb (in1 (List.mem_of_getElem? (i := 79) (by decide +kernel))) (by decide +kernel)
theorem ini_X7 : Cond.initialized RX7 ∈ TBL := tb (in1 (List.mem_of_getElem? (i := 4) (by decide +kernel))) (by decide +kernel)
theorem inst_X8 : Cond.instantiable RX8 9 ∈ TBL := tb (in1 (List.mem_of_getElem? (i := 28) (by decide +kernel))) (by decide +kernel)
theorem ini_X8 : Cond.initialized RX8 ∈ TBL := tb (in1 (List.mem_of_getElem? (i := 1) (by decide +kernel))) (by decide +kernel)
theorem inst_X9 : Cond.instantiable RX9 36 ∈ TBL := tb (in6 (List.mem_of_getElem? (i := 22) (by decide +kernel))) (by decide +kernel)
theorem ini_X9 : Cond.initialized RX9 ∈ TBL := tb (in1 (List.mem_of_getElem? (i := 7) (by decide +kernel))) (by decide +kernel)
theorem dX7_init_0 : decode cX7_init 0 = .ok (.aload_n 0, 1) := by decide +kernel
theorem dX7_init_1 : decode cX7_init 1 = .ok (.invokespecial 3, 3) := by decide +kernel
theorem dX7_init_4 : decode cX7_init 4 = .ok (.aload_n 0, 1) := by decide +kernel
theorem dX7_init_5 : decode cX7_init 5 = .ok (.bipush 8, 2) := by decide +kernel
theorem dX7_init_7 : decode cX7_init 7 = .ok (.newarray .long, 2) := by decide +kernel
theorem dX7_init_9 : decode cX7_init 9 = .ok (.putfield 9, 3) := by decide +kernel
theorem dX7_init_12 : decode cX7_init 12 = .ok (.aload_n 0, 1) := by decide +kernel
theorem dX7_init_13 : decode cX7_init 13 = .ok (.iconst 0, 1) := by decide +kernel
theorem dX7_init_14 : decode cX7_init 14 = .ok (.putfield 15, 3) := by decide +kernel
theorem dX7_init_17 : decode cX7_init 17 = .ok (.return_, 1) := by decide +kernel
abbrev Wd_0 : WdT := Wd_mk (fun _ => 0) (0 : Int32)
theorem dfX7 : ∀ j, j < 2 → defaultValue (tyX7 j) = vp_V [.null, .int 0] j := by decide
abbrev rm_X7_init : Room := { frames := 1, cells := 1, slots := 8, locals := 12 }
set_option maxHeartbeats 4000000 in
set_option maxRecDepth 100000 in
theorem c_X7_init (l : Launch) (g : GK) (h0 : Nat) : gM l yX7_init cX7_init 1 none rm_X7_init g [.ref h0] [(h0, .inr (8, [.null, .int 0]))] (fun _ : Nat → Nat => none) (fun x => Wd_c g (fun k => if k = 0 then h0 else x k) Wd_0) 1 8 := by
  refine gM_introV RX7 (by decide) rfl (Nat.le_of_ble_eq_true rfl) (fun p e s m args below meth c Q H locs ls A hE hnm hZ hA hP hD hS hq hl => ?_)
  have hl : lv_has ls 1 [(0, .ref h0)] := hl
  have hx := hE.1
  have hb := hE.2.1
  refine lv_aload_n hx hb dX7_init_0 rfl (lv_at hl 0 rfl) ?_
  refine g_obj hE hl.1 ko_X7_3 (Nat.le_of_ble_eq_true rfl) (Nat.le_of_ble_eq_true rfl) dX7_init_1 ?_
  refine lv_aload_n hx hb dX7_init_4 rfl (lv_at hl 0 rfl) ?_
  refine lv_bipush hx hb dX7_init_5 kcb_8 ?_
  refine g_newl hE hP hD hS hA (N := 8) (by decide) (by decide) (by decide) (Nat.le_of_ble_eq_true rfl) (Nat.le_of_ble_eq_true rfl) dX7_init_7 (fun q7 H hP hD hS => ?_)
  refine g_putF hE hnm okX7 fl_X7_9 hP hD hS 0 rfl rfl rfl rfl rfl (Nat.le_of_ble_eq_true rfl) ([(h0, .inr (8, [.ref q7, .int 0]))] ++ [(q7, .inl (g.2.2.1, 8, .inr (.inl (fun _ => 0))))]) rfl dX7_init_9 (fun H locs hP hD hS => ?_)
  refine lv_aload_n hx hb dX7_init_12 rfl (lv_at hl 0 rfl) ?_
  refine lv_iconst hx hb dX7_init_13 kci_0 ?_
  refine g_put hE okX7 fl_X7_15 hP hD hS 0 rfl rfl rfl rfl (Nat.le_of_ble_eq_true rfl) ([(h0, .inr (8, [.ref q7, .int (0 : Int32)]))] ++ [(q7, .inl (g.2.2.1, 8, .inr (.inl (fun _ => 0))))]) rfl dX7_init_14 (fun H locs hP hD hS => ?_)
  refine W.widen (k := 1) (n := 8) (Nat.le_of_ble_eq_true rfl) (Nat.le_of_ble_eq_true rfl) ?_
  exact hq (fun k => if k = 1 then q7 else 0) rfl hP hD hS dX7_init_17
theorem dX6_init_0 : decode cX6_init 0 = .ok (.aload_n 0, 1) := by decide +kernel
theorem dX6_init_1 : decode cX6_init 1 = .ok (.invokespecial 1, 3) := by decide +kernel
theorem dX6_init_4 : decode cX6_init 4 = .ok (.aload_n 0, 1) := by decide +kernel
theorem dX6_init_5 : decode cX6_init 5 = .ok (.sipush 900, 3) := by decide +kernel
theorem dX6_init_8 : decode cX6_init 8 = .ok (.newarray .byte, 2) := by decide +kernel
theorem dX6_init_10 : decode cX6_init 10 = .ok (.putfield 9, 3) := by decide +kernel
theorem dX6_init_13 : decode cX6_init 13 = .ok (.aload_n 0, 1) := by decide +kernel
theorem dX6_init_14 : decode cX6_init 14 = .ok (.iconst 0, 1) := by decide +kernel
theorem dX6_init_15 : decode cX6_init 15 = .ok (.putfield 13, 3) := by decide +kernel
theorem dX6_init_18 : decode cX6_init 18 = .ok (.aload_n 0, 1) := by decide +kernel
theorem dX6_init_19 : decode cX6_init 19 = .ok (.iconst 0, 1) := by decide +kernel
theorem dX6_init_20 : decode cX6_init 20 = .ok (.putfield 17, 3) := by decide +kernel
theorem dX6_init_23 : decode cX6_init 23 = .ok (.aload_n 0, 1) := by decide +kernel
theorem dX6_init_24 : decode cX6_init 24 = .ok (.iconst 0, 1) := by decide +kernel
theorem dX6_init_25 : decode cX6_init 25 = .ok (.putfield 20, 3) := by decide +kernel
theorem dX6_init_28 : decode cX6_init 28 = .ok (.aload_n 0, 1) := by decide +kernel
theorem dX6_init_29 : decode cX6_init 29 = .ok (.iconst 0, 1) := by decide +kernel
theorem dX6_init_30 : decode cX6_init 30 = .ok (.putfield 23, 3) := by decide +kernel
theorem dX6_init_33 : decode cX6_init 33 = .ok (.aload_n 0, 1) := by decide +kernel
theorem dX6_init_34 : decode cX6_init 34 = .ok (.iconst 0, 1) := by decide +kernel
theorem dX6_init_35 : decode cX6_init 35 = .ok (.putfield 26, 3) := by decide +kernel
theorem dX6_init_38 : decode cX6_init 38 = .ok (.aload_n 0, 1) := by decide +kernel
theorem dX6_init_39 : decode cX6_init 39 = .ok (.lconst 0, 1) := by decide +kernel
theorem dX6_init_40 : decode cX6_init 40 = .ok (.putfield 29, 3) := by decide +kernel
theorem dX6_init_43 : decode cX6_init 43 = .ok (.aload_n 0, 1) := by decide +kernel
theorem dX6_init_44 : decode cX6_init 44 = .ok (.iconst 0, 1) := by decide +kernel
theorem dX6_init_45 : decode cX6_init 45 = .ok (.putfield 33, 3) := by decide +kernel
theorem dX6_init_48 : decode cX6_init 48 = .ok (.return_, 1) := by decide +kernel
abbrev Tp_0 : TpT := Tp_mk (fun _ => 0) (0 : Int32) (0 : Int32) (0 : Int32) (0 : Int32) (0 : Int32) (0 : Int64) (0 : Int32)
theorem dfX6 : ∀ j, j < 8 → defaultValue (tyX6 j) = vp_V [.null, .int 0, .int 0, .int 0, .int 0, .int 0, .long 0, .int 0] j := by decide
abbrev rm_X6_init : Room := { frames := 1, cells := 1, slots := 900, locals := 12 }
set_option maxHeartbeats 4000000 in
set_option maxRecDepth 100000 in
theorem c_X6_init (l : Launch) (g : GK) (h0 : Nat) : gM l yX6_init cX6_init 1 none rm_X6_init g [.ref h0] [(h0, .inr (7, [.null, .int 0, .int 0, .int 0, .int 0, .int 0, .long 0, .int 0]))] (fun _ : Nat → Nat => none) (fun x => Tp_c g (fun k => if k = 0 then h0 else x k) Tp_0) 1 900 := by
  refine gM_introV RX6 (by decide) rfl (Nat.le_of_ble_eq_true rfl) (fun p e s m args below meth c Q H locs ls A hE hnm hZ hA hP hD hS hq hl => ?_)
  have hl : lv_has ls 1 [(0, .ref h0)] := hl
  have hx := hE.1
  have hb := hE.2.1
  refine lv_aload_n hx hb dX6_init_0 rfl (lv_at hl 0 rfl) ?_
  refine g_obj hE hl.1 ko_X6_1 (Nat.le_of_ble_eq_true rfl) (Nat.le_of_ble_eq_true rfl) dX6_init_1 ?_
  refine lv_aload_n hx hb dX6_init_4 rfl (lv_at hl 0 rfl) ?_
  refine lv_sipush hx hb dX6_init_5 kcs_900 ?_
  refine g_newb hE hP hD hS hA (N := 900) (by decide) (by decide) (by decide) (Nat.le_of_ble_eq_true rfl) (Nat.le_of_ble_eq_true rfl) dX6_init_8 (fun q8 H hP hD hS => ?_)
  refine g_putF hE hnm okX6 fl_X6_9 hP hD hS 0 rfl rfl rfl rfl rfl (Nat.le_of_ble_eq_true rfl) ([(h0, .inr (7, [.ref q8, .int 0, .int 0, .int 0, .int 0, .int 0, .long 0, .int 0]))] ++ [(q8, .inl (g.2.2.2.1, 900, .inl (fun _ => 0)))]) rfl dX6_init_10 (fun H locs hP hD hS => ?_)
  refine lv_aload_n hx hb dX6_init_13 rfl (lv_at hl 0 rfl) ?_
  refine lv_iconst hx hb dX6_init_14 kci_0 ?_
  refine g_put hE okX6 fl_X6_13 hP hD hS 0 rfl rfl rfl rfl (Nat.le_of_ble_eq_true rfl) ([(h0, .inr (7, [.ref q8, .int (0 : Int32), .int 0, .int 0, .int 0, .int 0, .long 0, .int 0]))] ++ [(q8, .inl (g.2.2.2.1, 900, .inl (fun _ => 0)))]) rfl dX6_init_15 (fun H locs hP hD hS => ?_)
  refine lv_aload_n hx hb dX6_init_18 rfl (lv_at hl 0 rfl) ?_
  refine lv_iconst hx hb dX6_init_19 kci_0 ?_
  refine g_put hE okX6 fl_X6_17 hP hD hS 0 rfl rfl rfl rfl (Nat.le_of_ble_eq_true rfl) ([(h0, .inr (7, [.ref q8, .int (0 : Int32), .int (0 : Int32), .int 0, .int 0, .int 0, .long 0, .int 0]))] ++ [(q8, .inl (g.2.2.2.1, 900, .inl (fun _ => 0)))]) rfl dX6_init_20 (fun H locs hP hD hS => ?_)
  refine lv_aload_n hx hb dX6_init_23 rfl (lv_at hl 0 rfl) ?_
  refine lv_iconst hx hb dX6_init_24 kci_0 ?_
  refine g_put hE okX6 fl_X6_20 hP hD hS 0 rfl rfl rfl rfl (Nat.le_of_ble_eq_true rfl) ([(h0, .inr (7, [.ref q8, .int (0 : Int32), .int (0 : Int32), .int (0 : Int32), .int 0, .int 0, .long 0, .int 0]))] ++ [(q8, .inl (g.2.2.2.1, 900, .inl (fun _ => 0)))]) rfl dX6_init_25 (fun H locs hP hD hS => ?_)
  refine lv_aload_n hx hb dX6_init_28 rfl (lv_at hl 0 rfl) ?_
  refine lv_iconst hx hb dX6_init_29 kci_0 ?_
  refine g_put hE okX6 fl_X6_23 hP hD hS 0 rfl rfl rfl rfl (Nat.le_of_ble_eq_true rfl) ([(h0, .inr (7, [.ref q8, .int (0 : Int32), .int (0 : Int32), .int (0 : Int32), .int (0 : Int32), .int 0, .long 0, .int 0]))] ++ [(q8, .inl (g.2.2.2.1, 900, .inl (fun _ => 0)))]) rfl dX6_init_30 (fun H locs hP hD hS => ?_)
  refine lv_aload_n hx hb dX6_init_33 rfl (lv_at hl 0 rfl) ?_
  refine lv_iconst hx hb dX6_init_34 kci_0 ?_
  refine g_put hE okX6 fl_X6_26 hP hD hS 0 rfl rfl rfl rfl (Nat.le_of_ble_eq_true rfl) ([(h0, .inr (7, [.ref q8, .int (0 : Int32), .int (0 : Int32), .int (0 : Int32), .int (0 : Int32), .int (0 : Int32), .long 0, .int 0]))] ++ [(q8, .inl (g.2.2.2.1, 900, .inl (fun _ => 0)))]) rfl dX6_init_35 (fun H locs hP hD hS => ?_)
  refine lv_aload_n hx hb dX6_init_38 rfl (lv_at hl 0 rfl) ?_
  refine lv_lconst hx hb dX6_init_39 kcl_0 ?_
  refine g_put hE okX6 fl_X6_29 hP hD hS 0 rfl rfl rfl rfl (Nat.le_of_ble_eq_true rfl) ([(h0, .inr (7, [.ref q8, .int (0 : Int32), .int (0 : Int32), .int (0 : Int32), .int (0 : Int32), .int (0 : Int32), .long (0 : Int64), .int 0]))] ++ [(q8, .inl (g.2.2.2.1, 900, .inl (fun _ => 0)))]) rfl dX6_init_40 (fun H locs hP hD hS => ?_)
  refine lv_aload_n hx hb dX6_init_43 rfl (lv_at hl 0 rfl) ?_
  refine lv_iconst hx hb dX6_init_44 kci_0 ?_
  refine g_put hE okX6 fl_X6_33 hP hD hS 0 rfl rfl rfl rfl (Nat.le_of_ble_eq_true rfl) ([(h0, .inr (7, [.ref q8, .int (0 : Int32), .int (0 : Int32), .int (0 : Int32), .int (0 : Int32), .int (0 : Int32), .long (0 : Int64), .int (0 : Int32)]))] ++ [(q8, .inl (g.2.2.2.1, 900, .inl (fun _ => 0)))]) rfl dX6_init_45 (fun H locs hP hD hS => ?_)
  refine W.widen (k := 1) (n := 900) (Nat.le_of_ble_eq_true rfl) (Nat.le_of_ble_eq_true rfl) ?_
  exact hq (fun k => if k = 1 then q8 else 0) rfl hP hD hS dX6_init_48
theorem dX4_init_0 : decode cX4_init 0 = .ok (.aload_n 0, 1) := by decide +kernel
theorem dX4_init_1 : decode cX4_init 1 = .ok (.invokespecial 1, 3) := by decide +kernel
theorem dX4_init_4 : decode cX4_init 4 = .ok (.aload_n 0, 1) := by decide +kernel
theorem dX4_init_5 : decode cX4_init 5 = .ok (.bipush 60, 2) := by decide +kernel
theorem dX4_init_7 : decode cX4_init 7 = .ok (.newarray .int, 2) := by decide +kernel
theorem dX4_init_9 : decode cX4_init 9 = .ok (.putfield 9, 3) := by decide +kernel
theorem dX4_init_12 : decode cX4_init 12 = .ok (.aload_n 0, 1) := by decide +kernel
theorem dX4_init_13 : decode cX4_init 13 = .ok (.bipush 60, 2) := by decide +kernel
theorem dX4_init_15 : decode cX4_init 15 = .ok (.newarray .int, 2) := by decide +kernel
theorem dX4_init_17 : decode cX4_init 17 = .ok (.putfield 13, 3) := by decide +kernel
theorem dX4_init_20 : decode cX4_init 20 = .ok (.aload_n 0, 1) := by decide +kernel
theorem dX4_init_21 : decode cX4_init 21 = .ok (.bipush 60, 2) := by decide +kernel
theorem dX4_init_23 : decode cX4_init 23 = .ok (.newarray .int, 2) := by decide +kernel
theorem dX4_init_25 : decode cX4_init 25 = .ok (.putfield 16, 3) := by decide +kernel
theorem dX4_init_28 : decode cX4_init 28 = .ok (.aload_n 0, 1) := by decide +kernel
theorem dX4_init_29 : decode cX4_init 29 = .ok (.bipush 60, 2) := by decide +kernel
theorem dX4_init_31 : decode cX4_init 31 = .ok (.newarray .int, 2) := by decide +kernel
theorem dX4_init_33 : decode cX4_init 33 = .ok (.putfield 19, 3) := by decide +kernel
theorem dX4_init_36 : decode cX4_init 36 = .ok (.aload_n 0, 1) := by decide +kernel
theorem dX4_init_37 : decode cX4_init 37 = .ok (.iconst 0, 1) := by decide +kernel
theorem dX4_init_38 : decode cX4_init 38 = .ok (.putfield 22, 3) := by decide +kernel
theorem dX4_init_41 : decode cX4_init 41 = .ok (.return_, 1) := by decide +kernel
abbrev St_0 : StT := St_mk (fun _ => 0) (fun _ => 0) (fun _ => 0) (fun _ => 0) (0 : Int32)
theorem dfX4 : ∀ j, j < 5 → defaultValue (tyX4 j) = vp_V [.null, .null, .null, .null, .int 0] j := by decide
abbrev rm_X4_init : Room := { frames := 1, cells := 4, slots := 240, locals := 12 }
set_option maxHeartbeats 4000000 in
set_option maxRecDepth 100000 in
theorem c_X4_init (l : Launch) (g : GK) (h0 : Nat) : gM l yX4_init cX4_init 1 none rm_X4_init g [.ref h0] [(h0, .inr (5, [.null, .null, .null, .null, .int 0]))] (fun _ : Nat → Nat => none) (fun x => St_c g (fun k => if k = 0 then h0 else x k) St_0) 4 240 := by
  refine gM_introV RX4 (by decide) rfl (Nat.le_of_ble_eq_true rfl) (fun p e s m args below meth c Q H locs ls A hE hnm hZ hA hP hD hS hq hl => ?_)
  have hl : lv_has ls 1 [(0, .ref h0)] := hl
  have hx := hE.1
  have hb := hE.2.1
  refine lv_aload_n hx hb dX4_init_0 rfl (lv_at hl 0 rfl) ?_
  refine g_obj hE hl.1 ko_X4_1 (Nat.le_of_ble_eq_true rfl) (Nat.le_of_ble_eq_true rfl) dX4_init_1 ?_
  refine lv_aload_n hx hb dX4_init_4 rfl (lv_at hl 0 rfl) ?_
  refine lv_bipush hx hb dX4_init_5 kcb_60 ?_
  refine g_newi hE hP hD hS hA (N := 60) (by decide) (by decide) (by decide) (Nat.le_of_ble_eq_true rfl) (Nat.le_of_ble_eq_true rfl) dX4_init_7 (fun q7 H hP hD hS => ?_)
  refine g_putF hE hnm okX4 fl_X4_9 hP hD hS 0 rfl rfl rfl rfl rfl (Nat.le_of_ble_eq_true rfl) ([(h0, .inr (5, [.ref q7, .null, .null, .null, .int 0]))] ++ [(q7, .inl (g.2.1, 60, .inl (fun _ => 0)))]) rfl dX4_init_9 (fun H locs hP hD hS => ?_)
  refine lv_aload_n hx hb dX4_init_12 rfl (lv_at hl 0 rfl) ?_
  refine lv_bipush hx hb dX4_init_13 kcb_60 ?_
  refine g_newi hE hP hD hS hA (N := 60) (by decide) (by decide) (by decide) (Nat.le_of_ble_eq_true rfl) (Nat.le_of_ble_eq_true rfl) dX4_init_15 (fun q15 H hP hD hS => ?_)
  refine g_putF hE hnm okX4 fl_X4_13 hP hD hS 0 rfl rfl rfl rfl rfl (Nat.le_of_ble_eq_true rfl) ([(h0, .inr (5, [.ref q7, .ref q15, .null, .null, .int 0]))] ++ [(q7, .inl (g.2.1, 60, .inl (fun _ => 0)))] ++ [(q15, .inl (g.2.1, 60, .inl (fun _ => 0)))]) rfl dX4_init_17 (fun H locs hP hD hS => ?_)
  refine lv_aload_n hx hb dX4_init_20 rfl (lv_at hl 0 rfl) ?_
  refine lv_bipush hx hb dX4_init_21 kcb_60 ?_
  refine g_newi hE hP hD hS hA (N := 60) (by decide) (by decide) (by decide) (Nat.le_of_ble_eq_true rfl) (Nat.le_of_ble_eq_true rfl) dX4_init_23 (fun q23 H hP hD hS => ?_)
  refine g_putF hE hnm okX4 fl_X4_16 hP hD hS 0 rfl rfl rfl rfl rfl (Nat.le_of_ble_eq_true rfl) ([(h0, .inr (5, [.ref q7, .ref q15, .ref q23, .null, .int 0]))] ++ [(q7, .inl (g.2.1, 60, .inl (fun _ => 0)))] ++ [(q15, .inl (g.2.1, 60, .inl (fun _ => 0)))] ++ [(q23, .inl (g.2.1, 60, .inl (fun _ => 0)))]) rfl dX4_init_25 (fun H locs hP hD hS => ?_)
  refine lv_aload_n hx hb dX4_init_28 rfl (lv_at hl 0 rfl) ?_
  refine lv_bipush hx hb dX4_init_29 kcb_60 ?_
  refine g_newi hE hP hD hS hA (N := 60) (by decide) (by decide) (by decide) (Nat.le_of_ble_eq_true rfl) (Nat.le_of_ble_eq_true rfl) dX4_init_31 (fun q31 H hP hD hS => ?_)
  refine g_putF hE hnm okX4 fl_X4_19 hP hD hS 0 rfl rfl rfl rfl rfl (Nat.le_of_ble_eq_true rfl) ([(h0, .inr (5, [.ref q7, .ref q15, .ref q23, .ref q31, .int 0]))] ++ [(q7, .inl (g.2.1, 60, .inl (fun _ => 0)))] ++ [(q15, .inl (g.2.1, 60, .inl (fun _ => 0)))] ++ [(q23, .inl (g.2.1, 60, .inl (fun _ => 0)))] ++ [(q31, .inl (g.2.1, 60, .inl (fun _ => 0)))]) rfl dX4_init_33 (fun H locs hP hD hS => ?_)
  refine lv_aload_n hx hb dX4_init_36 rfl (lv_at hl 0 rfl) ?_
  refine lv_iconst hx hb dX4_init_37 kci_0 ?_
  refine g_put hE okX4 fl_X4_22 hP hD hS 0 rfl rfl rfl rfl (Nat.le_of_ble_eq_true rfl) ([(h0, .inr (5, [.ref q7, .ref q15, .ref q23, .ref q31, .int (0 : Int32)]))] ++ [(q7, .inl (g.2.1, 60, .inl (fun _ => 0)))] ++ [(q15, .inl (g.2.1, 60, .inl (fun _ => 0)))] ++ [(q23, .inl (g.2.1, 60, .inl (fun _ => 0)))] ++ [(q31, .inl (g.2.1, 60, .inl (fun _ => 0)))]) rfl dX4_init_38 (fun H locs hP hD hS => ?_)
  refine W.widen (k := 4) (n := 240) (Nat.le_of_ble_eq_true rfl) (Nat.le_of_ble_eq_true rfl) ?_
  exact hq (fun k => if k = 1 then q7 else if k = 2 then q15 else if k = 3 then q23 else if k = 4 then q31 else 0) rfl hP hD hS dX4_init_41
theorem dX5_init_0 : decode cX5_init 0 = .ok (.aload_n 0, 1) := by decide +kernel
theorem dX5_init_1 : decode cX5_init 1 = .ok (.invokespecial 3, 3) := by decide +kernel
theorem dX5_init_4 : decode cX5_init 4 = .ok (.aload_n 0, 1) := by decide +kernel
theorem dX5_init_5 : decode cX5_init 5 = .ok (.iconst 4, 1) := by decide +kernel
theorem dX5_init_6 : decode cX5_init 6 = .ok (.newarray .int, 2) := by decide +kernel
theorem dX5_init_8 : decode cX5_init 8 = .ok (.putfield 11, 3) := by decide +kernel
theorem dX5_init_11 : decode cX5_init 11 = .ok (.aload_n 0, 1) := by decide +kernel
theorem dX5_init_12 : decode cX5_init 12 = .ok (.sipush 2592, 3) := by decide +kernel
theorem dX5_init_15 : decode cX5_init 15 = .ok (.newarray .int, 2) := by decide +kernel
theorem dX5_init_17 : decode cX5_init 17 = .ok (.putfield 15, 3) := by decide +kernel
theorem dX5_init_20 : decode cX5_init 20 = .ok (.aload_n 0, 1) := by decide +kernel
theorem dX5_init_21 : decode cX5_init 21 = .ok (.sipush 2592, 3) := by decide +kernel
theorem dX5_init_24 : decode cX5_init 24 = .ok (.newarray .int, 2) := by decide +kernel
theorem dX5_init_26 : decode cX5_init 26 = .ok (.putfield 18, 3) := by decide +kernel
theorem dX5_init_29 : decode cX5_init 29 = .ok (.return_, 1) := by decide +kernel
abbrev Sb_0 : SbT := Sb_mk (fun _ => 0) (fun _ => 0) (fun _ => 0)
theorem dfX5 : ∀ j, j < 3 → defaultValue (tyX5 j) = vp_V [.null, .null, .null] j := by decide
abbrev rm_X5_init : Room := { frames := 1, cells := 3, slots := 5188, locals := 12 }
set_option maxHeartbeats 4000000 in
set_option maxRecDepth 100000 in
theorem c_X5_init (l : Launch) (g : GK) (h0 : Nat) : gM l yX5_init cX5_init 1 none rm_X5_init g [.ref h0] [(h0, .inr (6, [.null, .null, .null]))] (fun _ : Nat → Nat => none) (fun x => Sb_c g (fun k => if k = 0 then h0 else x k) Sb_0) 3 5188 := by
  refine gM_introV RX5 (by decide) rfl (Nat.le_of_ble_eq_true rfl) (fun p e s m args below meth c Q H locs ls A hE hnm hZ hA hP hD hS hq hl => ?_)
  have hl : lv_has ls 1 [(0, .ref h0)] := hl
  have hx := hE.1
  have hb := hE.2.1
  refine lv_aload_n hx hb dX5_init_0 rfl (lv_at hl 0 rfl) ?_
  refine g_obj hE hl.1 ko_X5_3 (Nat.le_of_ble_eq_true rfl) (Nat.le_of_ble_eq_true rfl) dX5_init_1 ?_
  refine lv_aload_n hx hb dX5_init_4 rfl (lv_at hl 0 rfl) ?_
  refine lv_iconst hx hb dX5_init_5 kci_4 ?_
  refine g_newi hE hP hD hS hA (N := 4) (by decide) (by decide) (by decide) (Nat.le_of_ble_eq_true rfl) (Nat.le_of_ble_eq_true rfl) dX5_init_6 (fun q6 H hP hD hS => ?_)
  refine g_putF hE hnm okX5 fl_X5_11 hP hD hS 0 rfl rfl rfl rfl rfl (Nat.le_of_ble_eq_true rfl) ([(h0, .inr (6, [.ref q6, .null, .null]))] ++ [(q6, .inl (g.2.1, 4, .inl (fun _ => 0)))]) rfl dX5_init_8 (fun H locs hP hD hS => ?_)
  refine lv_aload_n hx hb dX5_init_11 rfl (lv_at hl 0 rfl) ?_
  refine lv_sipush hx hb dX5_init_12 kcs_2592 ?_
  refine g_newi hE hP hD hS hA (N := 2592) (by decide) (by decide) (by decide) (Nat.le_of_ble_eq_true rfl) (Nat.le_of_ble_eq_true rfl) dX5_init_15 (fun q15 H hP hD hS => ?_)
  refine g_putF hE hnm okX5 fl_X5_15 hP hD hS 0 rfl rfl rfl rfl rfl (Nat.le_of_ble_eq_true rfl) ([(h0, .inr (6, [.ref q6, .ref q15, .null]))] ++ [(q6, .inl (g.2.1, 4, .inl (fun _ => 0)))] ++ [(q15, .inl (g.2.1, 2592, .inl (fun _ => 0)))]) rfl dX5_init_17 (fun H locs hP hD hS => ?_)
  refine lv_aload_n hx hb dX5_init_20 rfl (lv_at hl 0 rfl) ?_
  refine lv_sipush hx hb dX5_init_21 kcs_2592 ?_
  refine g_newi hE hP hD hS hA (N := 2592) (by decide) (by decide) (by decide) (Nat.le_of_ble_eq_true rfl) (Nat.le_of_ble_eq_true rfl) dX5_init_24 (fun q24 H hP hD hS => ?_)
  refine g_putF hE hnm okX5 fl_X5_18 hP hD hS 0 rfl rfl rfl rfl rfl (Nat.le_of_ble_eq_true rfl) ([(h0, .inr (6, [.ref q6, .ref q15, .ref q24]))] ++ [(q6, .inl (g.2.1, 4, .inl (fun _ => 0)))] ++ [(q15, .inl (g.2.1, 2592, .inl (fun _ => 0)))] ++ [(q24, .inl (g.2.1, 2592, .inl (fun _ => 0)))]) rfl dX5_init_26 (fun H locs hP hD hS => ?_)
  refine W.widen (k := 3) (n := 5188) (Nat.le_of_ble_eq_true rfl) (Nat.le_of_ble_eq_true rfl) ?_
  exact hq (fun k => if k = 1 then q6 else if k = 2 then q15 else if k = 3 then q24 else 0) rfl hP hD hS dX5_init_29
theorem dX2_init_0 : decode cX2_init 0 = .ok (.aload_n 0, 1) := by decide +kernel
theorem dX2_init_1 : decode cX2_init 1 = .ok (.invokespecial 3, 3) := by decide +kernel
theorem dX2_init_4 : decode cX2_init 4 = .ok (.aload_n 0, 1) := by decide +kernel
theorem dX2_init_5 : decode cX2_init 5 = .ok (.bipush 60, 2) := by decide +kernel
theorem dX2_init_7 : decode cX2_init 7 = .ok (.newarray .int, 2) := by decide +kernel
theorem dX2_init_9 : decode cX2_init 9 = .ok (.putfield 11, 3) := by decide +kernel
theorem dX2_init_12 : decode cX2_init 12 = .ok (.aload_n 0, 1) := by decide +kernel
theorem dX2_init_13 : decode cX2_init 13 = .ok (.bipush 60, 2) := by decide +kernel
theorem dX2_init_15 : decode cX2_init 15 = .ok (.newarray .int, 2) := by decide +kernel
theorem dX2_init_17 : decode cX2_init 17 = .ok (.putfield 15, 3) := by decide +kernel
theorem dX2_init_20 : decode cX2_init 20 = .ok (.aload_n 0, 1) := by decide +kernel
theorem dX2_init_21 : decode cX2_init 21 = .ok (.bipush 60, 2) := by decide +kernel
theorem dX2_init_23 : decode cX2_init 23 = .ok (.newarray .int, 2) := by decide +kernel
theorem dX2_init_25 : decode cX2_init 25 = .ok (.putfield 18, 3) := by decide +kernel
theorem dX2_init_28 : decode cX2_init 28 = .ok (.aload_n 0, 1) := by decide +kernel
theorem dX2_init_29 : decode cX2_init 29 = .ok (.bipush 8, 2) := by decide +kernel
theorem dX2_init_31 : decode cX2_init 31 = .ok (.newarray .int, 2) := by decide +kernel
theorem dX2_init_33 : decode cX2_init 33 = .ok (.putfield 21, 3) := by decide +kernel
theorem dX2_init_36 : decode cX2_init 36 = .ok (.aload_n 0, 1) := by decide +kernel
theorem dX2_init_37 : decode cX2_init 37 = .ok (.iconst 0, 1) := by decide +kernel
theorem dX2_init_38 : decode cX2_init 38 = .ok (.putfield 24, 3) := by decide +kernel
theorem dX2_init_41 : decode cX2_init 41 = .ok (.aload_n 0, 1) := by decide +kernel
theorem dX2_init_42 : decode cX2_init 42 = .ok (.iconst 0, 1) := by decide +kernel
theorem dX2_init_43 : decode cX2_init 43 = .ok (.putfield 28, 3) := by decide +kernel
theorem dX2_init_46 : decode cX2_init 46 = .ok (.aload_n 0, 1) := by decide +kernel
theorem dX2_init_47 : decode cX2_init 47 = .ok (.iconst 0, 1) := by decide +kernel
theorem dX2_init_48 : decode cX2_init 48 = .ok (.putfield 31, 3) := by decide +kernel
theorem dX2_init_51 : decode cX2_init 51 = .ok (.aload_n 0, 1) := by decide +kernel
theorem dX2_init_52 : decode cX2_init 52 = .ok (.iconst 0, 1) := by decide +kernel
theorem dX2_init_53 : decode cX2_init 53 = .ok (.putfield 34, 3) := by decide +kernel
theorem dX2_init_56 : decode cX2_init 56 = .ok (.aload_n 0, 1) := by decide +kernel
theorem dX2_init_57 : decode cX2_init 57 = .ok (.iconst 0, 1) := by decide +kernel
theorem dX2_init_58 : decode cX2_init 58 = .ok (.putfield 37, 3) := by decide +kernel
theorem dX2_init_61 : decode cX2_init 61 = .ok (.aload_n 0, 1) := by decide +kernel
theorem dX2_init_62 : decode cX2_init 62 = .ok (.iconst 0, 1) := by decide +kernel
theorem dX2_init_63 : decode cX2_init 63 = .ok (.putfield 40, 3) := by decide +kernel
theorem dX2_init_66 : decode cX2_init 66 = .ok (.aload_n 0, 1) := by decide +kernel
theorem dX2_init_67 : decode cX2_init 67 = .ok (.bipush (-2), 2) := by decide +kernel
theorem dX2_init_69 : decode cX2_init 69 = .ok (.putfield 43, 3) := by decide +kernel
theorem dX2_init_72 : decode cX2_init 72 = .ok (.return_, 1) := by decide +kernel
abbrev Lg_0 : LgT := Lg_mk (fun _ => 0) (fun _ => 0) (fun _ => 0) (fun _ => 0) (0 : Int32) (0 : Int32) (0 : Int32) (0 : Int32) (0 : Int32) (0 : Int32) (-2 : Int32)
theorem dfX2 : ∀ j, j < 11 → defaultValue (tyX2 j) = vp_V [.null, .null, .null, .null, .int 0, .int 0, .int 0, .int 0, .int 0, .int 0, .int 0] j := by decide
abbrev rm_X2_init : Room := { frames := 1, cells := 4, slots := 188, locals := 12 }
set_option maxHeartbeats 4000000 in
set_option maxRecDepth 100000 in
theorem c_X2_init (l : Launch) (g : GK) (h0 : Nat) : gM l yX2_init cX2_init 1 none rm_X2_init g [.ref h0] [(h0, .inr (3, [.null, .null, .null, .null, .int 0, .int 0, .int 0, .int 0, .int 0, .int 0, .int 0]))] (fun _ : Nat → Nat => none) (fun x => Lg_c g (fun k => if k = 0 then h0 else x k) Lg_0) 4 188 := by
  refine gM_introV RX2 (by decide) rfl (Nat.le_of_ble_eq_true rfl) (fun p e s m args below meth c Q H locs ls A hE hnm hZ hA hP hD hS hq hl => ?_)
  have hl : lv_has ls 1 [(0, .ref h0)] := hl
  have hx := hE.1
  have hb := hE.2.1
  refine lv_aload_n hx hb dX2_init_0 rfl (lv_at hl 0 rfl) ?_
  refine g_obj hE hl.1 ko_X2_3 (Nat.le_of_ble_eq_true rfl) (Nat.le_of_ble_eq_true rfl) dX2_init_1 ?_
  refine lv_aload_n hx hb dX2_init_4 rfl (lv_at hl 0 rfl) ?_
  refine lv_bipush hx hb dX2_init_5 kcb_60 ?_
  refine g_newi hE hP hD hS hA (N := 60) (by decide) (by decide) (by decide) (Nat.le_of_ble_eq_true rfl) (Nat.le_of_ble_eq_true rfl) dX2_init_7 (fun q7 H hP hD hS => ?_)
  refine g_putF hE hnm okX2 fl_X2_11 hP hD hS 0 rfl rfl rfl rfl rfl (Nat.le_of_ble_eq_true rfl) ([(h0, .inr (3, [.ref q7, .null, .null, .null, .int 0, .int 0, .int 0, .int 0, .int 0, .int 0, .int 0]))] ++ [(q7, .inl (g.2.1, 60, .inl (fun _ => 0)))]) rfl dX2_init_9 (fun H locs hP hD hS => ?_)
  refine lv_aload_n hx hb dX2_init_12 rfl (lv_at hl 0 rfl) ?_
  refine lv_bipush hx hb dX2_init_13 kcb_60 ?_
  refine g_newi hE hP hD hS hA (N := 60) (by decide) (by decide) (by decide) (Nat.le_of_ble_eq_true rfl) (Nat.le_of_ble_eq_true rfl) dX2_init_15 (fun q15 H hP hD hS => ?_)
  refine g_putF hE hnm okX2 fl_X2_15 hP hD hS 0 rfl rfl rfl rfl rfl (Nat.le_of_ble_eq_true rfl) ([(h0, .inr (3, [.ref q7, .ref q15, .null, .null, .int 0, .int 0, .int 0, .int 0, .int 0, .int 0, .int 0]))] ++ [(q7, .inl (g.2.1, 60, .inl (fun _ => 0)))] ++ [(q15, .inl (g.2.1, 60, .inl (fun _ => 0)))]) rfl dX2_init_17 (fun H locs hP hD hS => ?_)
  refine lv_aload_n hx hb dX2_init_20 rfl (lv_at hl 0 rfl) ?_
  refine lv_bipush hx hb dX2_init_21 kcb_60 ?_
  refine g_newi hE hP hD hS hA (N := 60) (by decide) (by decide) (by decide) (Nat.le_of_ble_eq_true rfl) (Nat.le_of_ble_eq_true rfl) dX2_init_23 (fun q23 H hP hD hS => ?_)
  refine g_putF hE hnm okX2 fl_X2_18 hP hD hS 0 rfl rfl rfl rfl rfl (Nat.le_of_ble_eq_true rfl) ([(h0, .inr (3, [.ref q7, .ref q15, .ref q23, .null, .int 0, .int 0, .int 0, .int 0, .int 0, .int 0, .int 0]))] ++ [(q7, .inl (g.2.1, 60, .inl (fun _ => 0)))] ++ [(q15, .inl (g.2.1, 60, .inl (fun _ => 0)))] ++ [(q23, .inl (g.2.1, 60, .inl (fun _ => 0)))]) rfl dX2_init_25 (fun H locs hP hD hS => ?_)
  refine lv_aload_n hx hb dX2_init_28 rfl (lv_at hl 0 rfl) ?_
  refine lv_bipush hx hb dX2_init_29 kcb_8 ?_
  refine g_newi hE hP hD hS hA (N := 8) (by decide) (by decide) (by decide) (Nat.le_of_ble_eq_true rfl) (Nat.le_of_ble_eq_true rfl) dX2_init_31 (fun q31 H hP hD hS => ?_)
  refine g_putF hE hnm okX2 fl_X2_21 hP hD hS 0 rfl rfl rfl rfl rfl (Nat.le_of_ble_eq_true rfl) ([(h0, .inr (3, [.ref q7, .ref q15, .ref q23, .ref q31, .int 0, .int 0, .int 0, .int 0, .int 0, .int 0, .int 0]))] ++ [(q7, .inl (g.2.1, 60, .inl (fun _ => 0)))] ++ [(q15, .inl (g.2.1, 60, .inl (fun _ => 0)))] ++ [(q23, .inl (g.2.1, 60, .inl (fun _ => 0)))] ++ [(q31, .inl (g.2.1, 8, .inl (fun _ => 0)))]) rfl dX2_init_33 (fun H locs hP hD hS => ?_)
  refine lv_aload_n hx hb dX2_init_36 rfl (lv_at hl 0 rfl) ?_
  refine lv_iconst hx hb dX2_init_37 kci_0 ?_
  refine g_put hE okX2 fl_X2_24 hP hD hS 0 rfl rfl rfl rfl (Nat.le_of_ble_eq_true rfl) ([(h0, .inr (3, [.ref q7, .ref q15, .ref q23, .ref q31, .int (0 : Int32), .int 0, .int 0, .int 0, .int 0, .int 0, .int 0]))] ++ [(q7, .inl (g.2.1, 60, .inl (fun _ => 0)))] ++ [(q15, .inl (g.2.1, 60, .inl (fun _ => 0)))] ++ [(q23, .inl (g.2.1, 60, .inl (fun _ => 0)))] ++ [(q31, .inl (g.2.1, 8, .inl (fun _ => 0)))]) rfl dX2_init_38 (fun H locs hP hD hS => ?_)
  refine lv_aload_n hx hb dX2_init_41 rfl (lv_at hl 0 rfl) ?_
  refine lv_iconst hx hb dX2_init_42 kci_0 ?_
  refine g_put hE okX2 fl_X2_28 hP hD hS 0 rfl rfl rfl rfl (Nat.le_of_ble_eq_true rfl) ([(h0, .inr (3, [.ref q7, .ref q15, .ref q23, .ref q31, .int (0 : Int32), .int (0 : Int32), .int 0, .int 0, .int 0, .int 0, .int 0]))] ++ [(q7, .inl (g.2.1, 60, .inl (fun _ => 0)))] ++ [(q15, .inl (g.2.1, 60, .inl (fun _ => 0)))] ++ [(q23, .inl (g.2.1, 60, .inl (fun _ => 0)))] ++ [(q31, .inl (g.2.1, 8, .inl (fun _ => 0)))]) rfl dX2_init_43 (fun H locs hP hD hS => ?_)
  refine lv_aload_n hx hb dX2_init_46 rfl (lv_at hl 0 rfl) ?_
  refine lv_iconst hx hb dX2_init_47 kci_0 ?_
  refine g_put hE okX2 fl_X2_31 hP hD hS 0 rfl rfl rfl rfl (Nat.le_of_ble_eq_true rfl) ([(h0, .inr (3, [.ref q7, .ref q15, .ref q23, .ref q31, .int (0 : Int32), .int (0 : Int32), .int (0 : Int32), .int 0, .int 0, .int 0, .int 0]))] ++ [(q7, .inl (g.2.1, 60, .inl (fun _ => 0)))] ++ [(q15, .inl (g.2.1, 60, .inl (fun _ => 0)))] ++ [(q23, .inl (g.2.1, 60, .inl (fun _ => 0)))] ++ [(q31, .inl (g.2.1, 8, .inl (fun _ => 0)))]) rfl dX2_init_48 (fun H locs hP hD hS => ?_)
  refine lv_aload_n hx hb dX2_init_51 rfl (lv_at hl 0 rfl) ?_
  refine lv_iconst hx hb dX2_init_52 kci_0 ?_
  refine g_put hE okX2 fl_X2_34 hP hD hS 0 rfl rfl rfl rfl (Nat.le_of_ble_eq_true rfl) ([(h0, .inr (3, [.ref q7, .ref q15, .ref q23, .ref q31, .int (0 : Int32), .int (0 : Int32), .int (0 : Int32), .int (0 : Int32), .int 0, .int 0, .int 0]))] ++ [(q7, .inl (g.2.1, 60, .inl (fun _ => 0)))] ++ [(q15, .inl (g.2.1, 60, .inl (fun _ => 0)))] ++ [(q23, .inl (g.2.1, 60, .inl (fun _ => 0)))] ++ [(q31, .inl (g.2.1, 8, .inl (fun _ => 0)))]) rfl dX2_init_53 (fun H locs hP hD hS => ?_)
  refine lv_aload_n hx hb dX2_init_56 rfl (lv_at hl 0 rfl) ?_
  refine lv_iconst hx hb dX2_init_57 kci_0 ?_
  refine g_put hE okX2 fl_X2_37 hP hD hS 0 rfl rfl rfl rfl (Nat.le_of_ble_eq_true rfl) ([(h0, .inr (3, [.ref q7, .ref q15, .ref q23, .ref q31, .int (0 : Int32), .int (0 : Int32), .int (0 : Int32), .int (0 : Int32), .int (0 : Int32), .int 0, .int 0]))] ++ [(q7, .inl (g.2.1, 60, .inl (fun _ => 0)))] ++ [(q15, .inl (g.2.1, 60, .inl (fun _ => 0)))] ++ [(q23, .inl (g.2.1, 60, .inl (fun _ => 0)))] ++ [(q31, .inl (g.2.1, 8, .inl (fun _ => 0)))]) rfl dX2_init_58 (fun H locs hP hD hS => ?_)
  refine lv_aload_n hx hb dX2_init_61 rfl (lv_at hl 0 rfl) ?_
  refine lv_iconst hx hb dX2_init_62 kci_0 ?_
  refine g_put hE okX2 fl_X2_40 hP hD hS 0 rfl rfl rfl rfl (Nat.le_of_ble_eq_true rfl) ([(h0, .inr (3, [.ref q7, .ref q15, .ref q23, .ref q31, .int (0 : Int32), .int (0 : Int32), .int (0 : Int32), .int (0 : Int32), .int (0 : Int32), .int (0 : Int32), .int 0]))] ++ [(q7, .inl (g.2.1, 60, .inl (fun _ => 0)))] ++ [(q15, .inl (g.2.1, 60, .inl (fun _ => 0)))] ++ [(q23, .inl (g.2.1, 60, .inl (fun _ => 0)))] ++ [(q31, .inl (g.2.1, 8, .inl (fun _ => 0)))]) rfl dX2_init_63 (fun H locs hP hD hS => ?_)
  refine lv_aload_n hx hb dX2_init_66 rfl (lv_at hl 0 rfl) ?_
  refine lv_bipush hx hb dX2_init_67 kcb_m2 ?_
  refine g_put hE okX2 fl_X2_43 hP hD hS 0 rfl rfl rfl rfl (Nat.le_of_ble_eq_true rfl) ([(h0, .inr (3, [.ref q7, .ref q15, .ref q23, .ref q31, .int (0 : Int32), .int (0 : Int32), .int (0 : Int32), .int (0 : Int32), .int (0 : Int32), .int (0 : Int32), .int (-2 : Int32)]))] ++ [(q7, .inl (g.2.1, 60, .inl (fun _ => 0)))] ++ [(q15, .inl (g.2.1, 60, .inl (fun _ => 0)))] ++ [(q23, .inl (g.2.1, 60, .inl (fun _ => 0)))] ++ [(q31, .inl (g.2.1, 8, .inl (fun _ => 0)))]) rfl dX2_init_69 (fun H locs hP hD hS => ?_)
  refine W.widen (k := 4) (n := 188) (Nat.le_of_ble_eq_true rfl) (Nat.le_of_ble_eq_true rfl) ?_
  exact hq (fun k => if k = 1 then q7 else if k = 2 then q15 else if k = 3 then q23 else if k = 4 then q31 else 0) rfl hP hD hS dX2_init_72
theorem dX0_init_0 : decode cX0_init 0 = .ok (.aload_n 0, 1) := by decide +kernel
theorem dX0_init_1 : decode cX0_init 1 = .ok (.invokespecial 3, 3) := by decide +kernel
theorem dX0_init_4 : decode cX0_init 4 = .ok (.aload_n 0, 1) := by decide +kernel
theorem dX0_init_5 : decode cX0_init 5 = .ok (.sipush 128, 3) := by decide +kernel
theorem dX0_init_8 : decode cX0_init 8 = .ok (.newarray .int, 2) := by decide +kernel
theorem dX0_init_10 : decode cX0_init 10 = .ok (.putfield 9, 3) := by decide +kernel
theorem dX0_init_13 : decode cX0_init 13 = .ok (.aload_n 0, 1) := by decide +kernel
theorem dX0_init_14 : decode cX0_init 14 = .ok (.sipush 648, 3) := by decide +kernel
theorem dX0_init_17 : decode cX0_init 17 = .ok (.newarray .int, 2) := by decide +kernel
theorem dX0_init_19 : decode cX0_init 19 = .ok (.putfield 15, 3) := by decide +kernel
theorem dX0_init_22 : decode cX0_init 22 = .ok (.aload_n 0, 1) := by decide +kernel
theorem dX0_init_23 : decode cX0_init 23 = .ok (.bipush 16, 2) := by decide +kernel
theorem dX0_init_25 : decode cX0_init 25 = .ok (.newarray .int, 2) := by decide +kernel
theorem dX0_init_27 : decode cX0_init 27 = .ok (.putfield 18, 3) := by decide +kernel
theorem dX0_init_30 : decode cX0_init 30 = .ok (.aload_n 0, 1) := by decide +kernel
theorem dX0_init_31 : decode cX0_init 31 = .ok (.new 21, 3) := by decide +kernel
theorem dX0_init_34 : decode cX0_init 34 = .ok (.dup, 1) := by decide +kernel
theorem dX0_init_35 : decode cX0_init 35 = .ok (.invokespecial 23, 3) := by decide +kernel
theorem dX0_init_38 : decode cX0_init 38 = .ok (.putfield 24, 3) := by decide +kernel
theorem dX0_init_41 : decode cX0_init 41 = .ok (.aload_n 0, 1) := by decide +kernel
theorem dX0_init_42 : decode cX0_init 42 = .ok (.iconst 0, 1) := by decide +kernel
theorem dX0_init_43 : decode cX0_init 43 = .ok (.putfield 28, 3) := by decide +kernel
theorem dX0_init_46 : decode cX0_init 46 = .ok (.return_, 1) := by decide +kernel
abbrev Bd_0 : BdT := Bd_mk (fun _ => 0) (fun _ => 0) (fun _ => 0) Lg_0 (0 : Int32)
theorem dfX0 : ∀ j, j < 5 → defaultValue (tyX0 j) = vp_V [.null, .null, .null, .null, .int 0] j := by decide
abbrev rm_X0_init : Room := { frames := 2, cells := 8, slots := 991, locals := 32 }
set_option maxHeartbeats 4000000 in
set_option maxRecDepth 100000 in
theorem c_X0_init (l : Launch) (g : GK) (h0 : Nat) : gM l yX0_init cX0_init 1 none rm_X0_init g [.ref h0] [(h0, .inr (1, [.null, .null, .null, .null, .int 0]))] (fun _ : Nat → Nat => none) (fun x => Bd_c g (fun k => if k = 0 then h0 else x k) Bd_0) 8 991 := by
  refine gM_introV RX0 (by decide) rfl (Nat.le_of_ble_eq_true rfl) (fun p e s m args below meth c Q H locs ls A hE hnm hZ hA hP hD hS hq hl => ?_)
  have hl : lv_has ls 1 [(0, .ref h0)] := hl
  have hx := hE.1
  have hb := hE.2.1
  refine lv_aload_n hx hb dX0_init_0 rfl (lv_at hl 0 rfl) ?_
  refine g_obj hE hl.1 ko_X0_3 (Nat.le_of_ble_eq_true rfl) (Nat.le_of_ble_eq_true rfl) dX0_init_1 ?_
  refine lv_aload_n hx hb dX0_init_4 rfl (lv_at hl 0 rfl) ?_
  refine lv_sipush hx hb dX0_init_5 kcs_128 ?_
  refine g_newi hE hP hD hS hA (N := 128) (by decide) (by decide) (by decide) (Nat.le_of_ble_eq_true rfl) (Nat.le_of_ble_eq_true rfl) dX0_init_8 (fun q8 H hP hD hS => ?_)
  refine g_putF hE hnm okX0 fl_X0_9 hP hD hS 0 rfl rfl rfl rfl rfl (Nat.le_of_ble_eq_true rfl) ([(h0, .inr (1, [.ref q8, .null, .null, .null, .int 0]))] ++ [(q8, .inl (g.2.1, 128, .inl (fun _ => 0)))]) rfl dX0_init_10 (fun H locs hP hD hS => ?_)
  refine lv_aload_n hx hb dX0_init_13 rfl (lv_at hl 0 rfl) ?_
  refine lv_sipush hx hb dX0_init_14 kcs_648 ?_
  refine g_newi hE hP hD hS hA (N := 648) (by decide) (by decide) (by decide) (Nat.le_of_ble_eq_true rfl) (Nat.le_of_ble_eq_true rfl) dX0_init_17 (fun q17 H hP hD hS => ?_)
  refine g_putF hE hnm okX0 fl_X0_15 hP hD hS 0 rfl rfl rfl rfl rfl (Nat.le_of_ble_eq_true rfl) ([(h0, .inr (1, [.ref q8, .ref q17, .null, .null, .int 0]))] ++ [(q8, .inl (g.2.1, 128, .inl (fun _ => 0)))] ++ [(q17, .inl (g.2.1, 648, .inl (fun _ => 0)))]) rfl dX0_init_19 (fun H locs hP hD hS => ?_)
  refine lv_aload_n hx hb dX0_init_22 rfl (lv_at hl 0 rfl) ?_
  refine lv_bipush hx hb dX0_init_23 kcb_16 ?_
  refine g_newi hE hP hD hS hA (N := 16) (by decide) (by decide) (by decide) (Nat.le_of_ble_eq_true rfl) (Nat.le_of_ble_eq_true rfl) dX0_init_25 (fun q25 H hP hD hS => ?_)
  refine g_putF hE hnm okX0 fl_X0_18 hP hD hS 0 rfl rfl rfl rfl rfl (Nat.le_of_ble_eq_true rfl) ([(h0, .inr (1, [.ref q8, .ref q17, .ref q25, .null, .int 0]))] ++ [(q8, .inl (g.2.1, 128, .inl (fun _ => 0)))] ++ [(q17, .inl (g.2.1, 648, .inl (fun _ => 0)))] ++ [(q25, .inl (g.2.1, 16, .inl (fun _ => 0)))]) rfl dX0_init_27 (fun H locs hP hD hS => ?_)
  refine lv_aload_n hx hb dX0_init_30 rfl (lv_at hl 0 rfl) ?_
  refine g_new hE okX2 cl_X0_21 inst_X2 ini_X2 hP hD hS hA (fs := [.null, .null, .null, .null, .int 0, .int 0, .int 0, .int 0, .int 0, .int 0, .int 0]) dfX2 (Nat.le_of_ble_eq_true rfl) (Nat.le_of_ble_eq_true rfl) dX0_init_31 (fun q31 H hP hD hS => ?_)
  refine lv_dup hx hb dX0_init_34 rfl ?_
  refine gm_callIN1 (As := []) (rest := [.ref q31, .ref h0]) (st1 := fun _ => [.ref q31, .ref h0]) (ws' := fun x35 => ([(h0, .inr (1, [.ref q8, .ref q17, .ref q25, .null, .int 0]))] ++ [(q8, .inl (g.2.1, 128, .inl (fun _ => 0)))] ++ [(q17, .inl (g.2.1, 648, .inl (fun _ => 0)))] ++ [(q25, .inl (g.2.1, 16, .inl (fun _ => 0)))] ++ Lg_c g (fun k => if k = 0 then q31 else x35 k) Lg_0)) hE hl.1 ml_X0_23 (c_X2_init l g q31) hZ hP hD hS hA 4 5 rfl (fun _ => rfl) rfl rfl (fun _ => rfl) ⟨rfl, rfl⟩ ⟨Nat.le_of_ble_eq_true rfl, Nat.le_of_ble_eq_true rfl⟩ ⟨Nat.le_of_ble_eq_true rfl, Nat.le_of_ble_eq_true rfl⟩ (Nat.le_of_ble_eq_true rfl) dX0_init_35 (fun x35 H locs hP hD hS => ?_)
  refine g_putF hE hnm okX0 fl_X0_24 hP hD hS 0 rfl rfl rfl rfl rfl (Nat.le_of_ble_eq_true rfl) ([(h0, .inr (1, [.ref q8, .ref q17, .ref q25, .ref q31, .int 0]))] ++ [(q8, .inl (g.2.1, 128, .inl (fun _ => 0)))] ++ [(q17, .inl (g.2.1, 648, .inl (fun _ => 0)))] ++ [(q25, .inl (g.2.1, 16, .inl (fun _ => 0)))] ++ Lg_c g (fun k => if k = 0 then q31 else x35 k) Lg_0) rfl dX0_init_38 (fun H locs hP hD hS => ?_)
  refine lv_aload_n hx hb dX0_init_41 rfl (lv_at hl 0 rfl) ?_
  refine lv_iconst hx hb dX0_init_42 kci_0 ?_
  refine g_put hE okX0 fl_X0_28 hP hD hS 0 rfl rfl rfl rfl (Nat.le_of_ble_eq_true rfl) ([(h0, .inr (1, [.ref q8, .ref q17, .ref q25, .ref q31, .int (0 : Int32)]))] ++ [(q8, .inl (g.2.1, 128, .inl (fun _ => 0)))] ++ [(q17, .inl (g.2.1, 648, .inl (fun _ => 0)))] ++ [(q25, .inl (g.2.1, 16, .inl (fun _ => 0)))] ++ Lg_c g (fun k => if k = 0 then q31 else x35 k) Lg_0) rfl dX0_init_43 (fun H locs hP hD hS => ?_)
  refine W.widen (k := 8) (n := 991) (Nat.le_of_ble_eq_true rfl) (Nat.le_of_ble_eq_true rfl) ?_
  exact hq (fun k => if k = 1 then q8 else if k = 2 then q17 else if k = 3 then q25 else if k = 4 then q31 else if k < 9 then x35 (k - 4) else 0) rfl hP hD hS dX0_init_46
theorem dX3_init_0 : decode cX3_init 0 = .ok (.aload_n 0, 1) := by decide +kernel
theorem dX3_init_1 : decode cX3_init 1 = .ok (.invokespecial 3, 3) := by decide +kernel
theorem dX3_init_4 : decode cX3_init 4 = .ok (.aload_n 0, 1) := by decide +kernel
theorem dX3_init_5 : decode cX3_init 5 = .ok (.new 9, 3) := by decide +kernel
theorem dX3_init_8 : decode cX3_init 8 = .ok (.dup, 1) := by decide +kernel
theorem dX3_init_9 : decode cX3_init 9 = .ok (.invokespecial 11, 3) := by decide +kernel
theorem dX3_init_12 : decode cX3_init 12 = .ok (.putfield 12, 3) := by decide +kernel
theorem dX3_init_15 : decode cX3_init 15 = .ok (.aload_n 0, 1) := by decide +kernel
theorem dX3_init_16 : decode cX3_init 16 = .ok (.new 18, 3) := by decide +kernel
theorem dX3_init_19 : decode cX3_init 19 = .ok (.dup, 1) := by decide +kernel
theorem dX3_init_20 : decode cX3_init 20 = .ok (.invokespecial 20, 3) := by decide +kernel
theorem dX3_init_23 : decode cX3_init 23 = .ok (.putfield 21, 3) := by decide +kernel
theorem dX3_init_26 : decode cX3_init 26 = .ok (.aload_n 0, 1) := by decide +kernel
theorem dX3_init_27 : decode cX3_init 27 = .ok (.new 18, 3) := by decide +kernel
theorem dX3_init_30 : decode cX3_init 30 = .ok (.dup, 1) := by decide +kernel
theorem dX3_init_31 : decode cX3_init 31 = .ok (.invokespecial 20, 3) := by decide +kernel
theorem dX3_init_34 : decode cX3_init 34 = .ok (.putfield 25, 3) := by decide +kernel
theorem dX3_init_37 : decode cX3_init 37 = .ok (.aload_n 0, 1) := by decide +kernel
theorem dX3_init_38 : decode cX3_init 38 = .ok (.sipush 200, 3) := by decide +kernel
theorem dX3_init_41 : decode cX3_init 41 = .ok (.newarray .int, 2) := by decide +kernel
theorem dX3_init_43 : decode cX3_init 43 = .ok (.putfield 28, 3) := by decide +kernel
theorem dX3_init_46 : decode cX3_init 46 = .ok (.aload_n 0, 1) := by decide +kernel
theorem dX3_init_47 : decode cX3_init 47 = .ok (.iconst 0, 1) := by decide +kernel
theorem dX3_init_48 : decode cX3_init 48 = .ok (.putfield 32, 3) := by decide +kernel
theorem dX3_init_51 : decode cX3_init 51 = .ok (.aload_n 0, 1) := by decide +kernel
theorem dX3_init_52 : decode cX3_init 52 = .ok (.iconst 0, 1) := by decide +kernel
theorem dX3_init_53 : decode cX3_init 53 = .ok (.putfield 36, 3) := by decide +kernel
theorem dX3_init_56 : decode cX3_init 56 = .ok (.aload_n 0, 1) := by decide +kernel
theorem dX3_init_57 : decode cX3_init 57 = .ok (.iconst 0, 1) := by decide +kernel
theorem dX3_init_58 : decode cX3_init 58 = .ok (.putfield 40, 3) := by decide +kernel
theorem dX3_init_61 : decode cX3_init 61 = .ok (.aload_n 0, 1) := by decide +kernel
theorem dX3_init_62 : decode cX3_init 62 = .ok (.iconst 0, 1) := by decide +kernel
theorem dX3_init_63 : decode cX3_init 63 = .ok (.putfield 43, 3) := by decide +kernel
theorem dX3_init_66 : decode cX3_init 66 = .ok (.aload_n 0, 1) := by decide +kernel
theorem dX3_init_67 : decode cX3_init 67 = .ok (.iconst 0, 1) := by decide +kernel
theorem dX3_init_68 : decode cX3_init 68 = .ok (.putfield 46, 3) := by decide +kernel
theorem dX3_init_71 : decode cX3_init 71 = .ok (.aload_n 0, 1) := by decide +kernel
theorem dX3_init_72 : decode cX3_init 72 = .ok (.iconst 0, 1) := by decide +kernel
theorem dX3_init_73 : decode cX3_init 73 = .ok (.putfield 49, 3) := by decide +kernel
theorem dX3_init_76 : decode cX3_init 76 = .ok (.aload_n 0, 1) := by decide +kernel
theorem dX3_init_77 : decode cX3_init 77 = .ok (.iconst 0, 1) := by decide +kernel
theorem dX3_init_78 : decode cX3_init 78 = .ok (.putfield 52, 3) := by decide +kernel
theorem dX3_init_81 : decode cX3_init 81 = .ok (.aload_n 0, 1) := by decide +kernel
theorem dX3_init_82 : decode cX3_init 82 = .ok (.iconst (-1), 1) := by decide +kernel
theorem dX3_init_83 : decode cX3_init 83 = .ok (.putfield 55, 3) := by decide +kernel
theorem dX3_init_86 : decode cX3_init 86 = .ok (.return_, 1) := by decide +kernel
abbrev Rd_0 : RdT := Rd_mk Tp_0 Wd_0 Wd_0 (fun _ => 0) (0 : Int32) (0 : Int32) (0 : Int32) (0 : Int32) (0 : Int32) (0 : Int32) (0 : Int32) (-1 : Int32)
theorem dfX3 : ∀ j, j < 12 → defaultValue (tyX3 j) = vp_V [.null, .null, .null, .null, .int 0, .int 0, .int 0, .int 0, .int 0, .int 0, .int 0, .int 0] j := by decide
abbrev rm_X3_init : Room := { frames := 2, cells := 7, slots := 1128, locals := 32 }
set_option maxHeartbeats 4000000 in
set_option maxRecDepth 100000 in
theorem c_X3_init (l : Launch) (g : GK) (h0 : Nat) : gM l yX3_init cX3_init 1 none rm_X3_init g [.ref h0] [(h0, .inr (4, [.null, .null, .null, .null, .int 0, .int 0, .int 0, .int 0, .int 0, .int 0, .int 0, .int 0]))] (fun _ : Nat → Nat => none) (fun x => Rd_c g (fun k => if k = 0 then h0 else x k) Rd_0) 7 1128 := by
  refine gM_introV RX3 (by decide) rfl (Nat.le_of_ble_eq_true rfl) (fun p e s m args below meth c Q H locs ls A hE hnm hZ hA hP hD hS hq hl => ?_)
  have hl : lv_has ls 1 [(0, .ref h0)] := hl
  have hx := hE.1
  have hb := hE.2.1
  refine lv_aload_n hx hb dX3_init_0 rfl (lv_at hl 0 rfl) ?_
  refine g_obj hE hl.1 ko_X3_3 (Nat.le_of_ble_eq_true rfl) (Nat.le_of_ble_eq_true rfl) dX3_init_1 ?_
  refine lv_aload_n hx hb dX3_init_4 rfl (lv_at hl 0 rfl) ?_
  refine g_new hE okX6 cl_X3_9 inst_X6 ini_X6 hP hD hS hA (fs := [.null, .int 0, .int 0, .int 0, .int 0, .int 0, .long 0, .int 0]) dfX6 (Nat.le_of_ble_eq_true rfl) (Nat.le_of_ble_eq_true rfl) dX3_init_5 (fun q5 H hP hD hS => ?_)
  refine lv_dup hx hb dX3_init_8 rfl ?_
  refine gm_callIN1 (As := []) (rest := [.ref q5, .ref h0]) (st1 := fun _ => [.ref q5, .ref h0]) (ws' := fun x9 => ([(h0, .inr (4, [.null, .null, .null, .null, .int 0, .int 0, .int 0, .int 0, .int 0, .int 0, .int 0, .int 0]))] ++ Tp_c g (fun k => if k = 0 then q5 else x9 k) Tp_0)) hE hl.1 ml_X3_11 (c_X6_init l g q5) hZ hP hD hS hA 1 2 rfl (fun _ => rfl) rfl rfl (fun _ => rfl) ⟨rfl, rfl⟩ ⟨Nat.le_of_ble_eq_true rfl, Nat.le_of_ble_eq_true rfl⟩ ⟨Nat.le_of_ble_eq_true rfl, Nat.le_of_ble_eq_true rfl⟩ (Nat.le_of_ble_eq_true rfl) dX3_init_9 (fun x9 H locs hP hD hS => ?_)
  refine g_putF hE hnm okX3 fl_X3_12 hP hD hS 0 rfl rfl rfl rfl rfl (Nat.le_of_ble_eq_true rfl) ([(h0, .inr (4, [.ref q5, .null, .null, .null, .int 0, .int 0, .int 0, .int 0, .int 0, .int 0, .int 0, .int 0]))] ++ Tp_c g (fun k => if k = 0 then q5 else x9 k) Tp_0) rfl dX3_init_12 (fun H locs hP hD hS => ?_)
  refine lv_aload_n hx hb dX3_init_15 rfl (lv_at hl 0 rfl) ?_
  refine g_new hE okX7 cl_X3_18 inst_X7 ini_X7 hP hD hS hA (fs := [.null, .int 0]) dfX7 (Nat.le_of_ble_eq_true rfl) (Nat.le_of_ble_eq_true rfl) dX3_init_16 (fun q16 H hP hD hS => ?_)
  refine lv_dup hx hb dX3_init_19 rfl ?_
  refine gm_callIN1 (As := []) (rest := [.ref q16, .ref h0]) (st1 := fun _ => [.ref q16, .ref h0]) (ws' := fun x20 => ([(h0, .inr (4, [.ref q5, .null, .null, .null, .int 0, .int 0, .int 0, .int 0, .int 0, .int 0, .int 0, .int 0]))] ++ Tp_c g (fun k => if k = 0 then q5 else x9 k) Tp_0 ++ Wd_c g (fun k => if k = 0 then q16 else x20 k) Wd_0)) hE hl.1 ml_X3_20 (c_X7_init l g q16) hZ hP hD hS hA 3 4 rfl (fun _ => rfl) rfl rfl (fun _ => rfl) ⟨rfl, rfl⟩ ⟨Nat.le_of_ble_eq_true rfl, Nat.le_of_ble_eq_true rfl⟩ ⟨Nat.le_of_ble_eq_true rfl, Nat.le_of_ble_eq_true rfl⟩ (Nat.le_of_ble_eq_true rfl) dX3_init_20 (fun x20 H locs hP hD hS => ?_)
  refine g_putF hE hnm okX3 fl_X3_21 hP hD hS 0 rfl rfl rfl rfl rfl (Nat.le_of_ble_eq_true rfl) ([(h0, .inr (4, [.ref q5, .ref q16, .null, .null, .int 0, .int 0, .int 0, .int 0, .int 0, .int 0, .int 0, .int 0]))] ++ Tp_c g (fun k => if k = 0 then q5 else x9 k) Tp_0 ++ Wd_c g (fun k => if k = 0 then q16 else x20 k) Wd_0) rfl dX3_init_23 (fun H locs hP hD hS => ?_)
  refine lv_aload_n hx hb dX3_init_26 rfl (lv_at hl 0 rfl) ?_
  refine g_new hE okX7 cl_X3_18 inst_X7 ini_X7 hP hD hS hA (fs := [.null, .int 0]) dfX7 (Nat.le_of_ble_eq_true rfl) (Nat.le_of_ble_eq_true rfl) dX3_init_27 (fun q27 H hP hD hS => ?_)
  refine lv_dup hx hb dX3_init_30 rfl ?_
  refine gm_callIN1 (As := []) (rest := [.ref q27, .ref h0]) (st1 := fun _ => [.ref q27, .ref h0]) (ws' := fun x31 => ([(h0, .inr (4, [.ref q5, .ref q16, .null, .null, .int 0, .int 0, .int 0, .int 0, .int 0, .int 0, .int 0, .int 0]))] ++ Tp_c g (fun k => if k = 0 then q5 else x9 k) Tp_0 ++ Wd_c g (fun k => if k = 0 then q16 else x20 k) Wd_0 ++ Wd_c g (fun k => if k = 0 then q27 else x31 k) Wd_0)) hE hl.1 ml_X3_20 (c_X7_init l g q27) hZ hP hD hS hA 5 6 rfl (fun _ => rfl) rfl rfl (fun _ => rfl) ⟨rfl, rfl⟩ ⟨Nat.le_of_ble_eq_true rfl, Nat.le_of_ble_eq_true rfl⟩ ⟨Nat.le_of_ble_eq_true rfl, Nat.le_of_ble_eq_true rfl⟩ (Nat.le_of_ble_eq_true rfl) dX3_init_31 (fun x31 H locs hP hD hS => ?_)
  refine g_putF hE hnm okX3 fl_X3_25 hP hD hS 0 rfl rfl rfl rfl rfl (Nat.le_of_ble_eq_true rfl) ([(h0, .inr (4, [.ref q5, .ref q16, .ref q27, .null, .int 0, .int 0, .int 0, .int 0, .int 0, .int 0, .int 0, .int 0]))] ++ Tp_c g (fun k => if k = 0 then q5 else x9 k) Tp_0 ++ Wd_c g (fun k => if k = 0 then q16 else x20 k) Wd_0 ++ Wd_c g (fun k => if k = 0 then q27 else x31 k) Wd_0) rfl dX3_init_34 (fun H locs hP hD hS => ?_)
  refine lv_aload_n hx hb dX3_init_37 rfl (lv_at hl 0 rfl) ?_
  refine lv_sipush hx hb dX3_init_38 kcs_200 ?_
  refine g_newi hE hP hD hS hA (N := 200) (by decide) (by decide) (by decide) (Nat.le_of_ble_eq_true rfl) (Nat.le_of_ble_eq_true rfl) dX3_init_41 (fun q41 H hP hD hS => ?_)
  refine g_putF hE hnm okX3 fl_X3_28 hP hD hS 0 rfl rfl rfl rfl rfl (Nat.le_of_ble_eq_true rfl) ([(h0, .inr (4, [.ref q5, .ref q16, .ref q27, .ref q41, .int 0, .int 0, .int 0, .int 0, .int 0, .int 0, .int 0, .int 0]))] ++ Tp_c g (fun k => if k = 0 then q5 else x9 k) Tp_0 ++ Wd_c g (fun k => if k = 0 then q16 else x20 k) Wd_0 ++ Wd_c g (fun k => if k = 0 then q27 else x31 k) Wd_0 ++ [(q41, .inl (g.2.1, 200, .inl (fun _ => 0)))]) rfl dX3_init_43 (fun H locs hP hD hS => ?_)
  refine lv_aload_n hx hb dX3_init_46 rfl (lv_at hl 0 rfl) ?_
  refine lv_iconst hx hb dX3_init_47 kci_0 ?_
  refine g_put hE okX3 fl_X3_32 hP hD hS 0 rfl rfl rfl rfl (Nat.le_of_ble_eq_true rfl) ([(h0, .inr (4, [.ref q5, .ref q16, .ref q27, .ref q41, .int (0 : Int32), .int 0, .int 0, .int 0, .int 0, .int 0, .int 0, .int 0]))] ++ Tp_c g (fun k => if k = 0 then q5 else x9 k) Tp_0 ++ Wd_c g (fun k => if k = 0 then q16 else x20 k) Wd_0 ++ Wd_c g (fun k => if k = 0 then q27 else x31 k) Wd_0 ++ [(q41, .inl (g.2.1, 200, .inl (fun _ => 0)))]) rfl dX3_init_48 (fun H locs hP hD hS => ?_)
  refine lv_aload_n hx hb dX3_init_51 rfl (lv_at hl 0 rfl) ?_
  refine lv_iconst hx hb dX3_init_52 kci_0 ?_
  refine g_put hE okX3 fl_X3_36 hP hD hS 0 rfl rfl rfl rfl (Nat.le_of_ble_eq_true rfl) ([(h0, .inr (4, [.ref q5, .ref q16, .ref q27, .ref q41, .int (0 : Int32), .int (0 : Int32), .int 0, .int 0, .int 0, .int 0, .int 0, .int 0]))] ++ Tp_c g (fun k => if k = 0 then q5 else x9 k) Tp_0 ++ Wd_c g (fun k => if k = 0 then q16 else x20 k) Wd_0 ++ Wd_c g (fun k => if k = 0 then q27 else x31 k) Wd_0 ++ [(q41, .inl (g.2.1, 200, .inl (fun _ => 0)))]) rfl dX3_init_53 (fun H locs hP hD hS => ?_)
  refine lv_aload_n hx hb dX3_init_56 rfl (lv_at hl 0 rfl) ?_
  refine lv_iconst hx hb dX3_init_57 kci_0 ?_
  refine g_put hE okX3 fl_X3_40 hP hD hS 0 rfl rfl rfl rfl (Nat.le_of_ble_eq_true rfl) ([(h0, .inr (4, [.ref q5, .ref q16, .ref q27, .ref q41, .int (0 : Int32), .int (0 : Int32), .int (0 : Int32), .int 0, .int 0, .int 0, .int 0, .int 0]))] ++ Tp_c g (fun k => if k = 0 then q5 else x9 k) Tp_0 ++ Wd_c g (fun k => if k = 0 then q16 else x20 k) Wd_0 ++ Wd_c g (fun k => if k = 0 then q27 else x31 k) Wd_0 ++ [(q41, .inl (g.2.1, 200, .inl (fun _ => 0)))]) rfl dX3_init_58 (fun H locs hP hD hS => ?_)
  refine lv_aload_n hx hb dX3_init_61 rfl (lv_at hl 0 rfl) ?_
  refine lv_iconst hx hb dX3_init_62 kci_0 ?_
  refine g_put hE okX3 fl_X3_43 hP hD hS 0 rfl rfl rfl rfl (Nat.le_of_ble_eq_true rfl) ([(h0, .inr (4, [.ref q5, .ref q16, .ref q27, .ref q41, .int (0 : Int32), .int (0 : Int32), .int (0 : Int32), .int (0 : Int32), .int 0, .int 0, .int 0, .int 0]))] ++ Tp_c g (fun k => if k = 0 then q5 else x9 k) Tp_0 ++ Wd_c g (fun k => if k = 0 then q16 else x20 k) Wd_0 ++ Wd_c g (fun k => if k = 0 then q27 else x31 k) Wd_0 ++ [(q41, .inl (g.2.1, 200, .inl (fun _ => 0)))]) rfl dX3_init_63 (fun H locs hP hD hS => ?_)
  refine lv_aload_n hx hb dX3_init_66 rfl (lv_at hl 0 rfl) ?_
  refine lv_iconst hx hb dX3_init_67 kci_0 ?_
  refine g_put hE okX3 fl_X3_46 hP hD hS 0 rfl rfl rfl rfl (Nat.le_of_ble_eq_true rfl) ([(h0, .inr (4, [.ref q5, .ref q16, .ref q27, .ref q41, .int (0 : Int32), .int (0 : Int32), .int (0 : Int32), .int (0 : Int32), .int (0 : Int32), .int 0, .int 0, .int 0]))] ++ Tp_c g (fun k => if k = 0 then q5 else x9 k) Tp_0 ++ Wd_c g (fun k => if k = 0 then q16 else x20 k) Wd_0 ++ Wd_c g (fun k => if k = 0 then q27 else x31 k) Wd_0 ++ [(q41, .inl (g.2.1, 200, .inl (fun _ => 0)))]) rfl dX3_init_68 (fun H locs hP hD hS => ?_)
  refine lv_aload_n hx hb dX3_init_71 rfl (lv_at hl 0 rfl) ?_
  refine lv_iconst hx hb dX3_init_72 kci_0 ?_
  refine g_put hE okX3 fl_X3_49 hP hD hS 0 rfl rfl rfl rfl (Nat.le_of_ble_eq_true rfl) ([(h0, .inr (4, [.ref q5, .ref q16, .ref q27, .ref q41, .int (0 : Int32), .int (0 : Int32), .int (0 : Int32), .int (0 : Int32), .int (0 : Int32), .int (0 : Int32), .int 0, .int 0]))] ++ Tp_c g (fun k => if k = 0 then q5 else x9 k) Tp_0 ++ Wd_c g (fun k => if k = 0 then q16 else x20 k) Wd_0 ++ Wd_c g (fun k => if k = 0 then q27 else x31 k) Wd_0 ++ [(q41, .inl (g.2.1, 200, .inl (fun _ => 0)))]) rfl dX3_init_73 (fun H locs hP hD hS => ?_)
  refine lv_aload_n hx hb dX3_init_76 rfl (lv_at hl 0 rfl) ?_
  refine lv_iconst hx hb dX3_init_77 kci_0 ?_
  refine g_put hE okX3 fl_X3_52 hP hD hS 0 rfl rfl rfl rfl (Nat.le_of_ble_eq_true rfl) ([(h0, .inr (4, [.ref q5, .ref q16, .ref q27, .ref q41, .int (0 : Int32), .int (0 : Int32), .int (0 : Int32), .int (0 : Int32), .int (0 : Int32), .int (0 : Int32), .int (0 : Int32), .int 0]))] ++ Tp_c g (fun k => if k = 0 then q5 else x9 k) Tp_0 ++ Wd_c g (fun k => if k = 0 then q16 else x20 k) Wd_0 ++ Wd_c g (fun k => if k = 0 then q27 else x31 k) Wd_0 ++ [(q41, .inl (g.2.1, 200, .inl (fun _ => 0)))]) rfl dX3_init_78 (fun H locs hP hD hS => ?_)
  refine lv_aload_n hx hb dX3_init_81 rfl (lv_at hl 0 rfl) ?_
  refine lv_iconst hx hb dX3_init_82 kci_m1 ?_
  refine g_put hE okX3 fl_X3_55 hP hD hS 0 rfl rfl rfl rfl (Nat.le_of_ble_eq_true rfl) ([(h0, .inr (4, [.ref q5, .ref q16, .ref q27, .ref q41, .int (0 : Int32), .int (0 : Int32), .int (0 : Int32), .int (0 : Int32), .int (0 : Int32), .int (0 : Int32), .int (0 : Int32), .int (-1 : Int32)]))] ++ Tp_c g (fun k => if k = 0 then q5 else x9 k) Tp_0 ++ Wd_c g (fun k => if k = 0 then q16 else x20 k) Wd_0 ++ Wd_c g (fun k => if k = 0 then q27 else x31 k) Wd_0 ++ [(q41, .inl (g.2.1, 200, .inl (fun _ => 0)))]) rfl dX3_init_83 (fun H locs hP hD hS => ?_)
  refine W.widen (k := 7) (n := 1128) (Nat.le_of_ble_eq_true rfl) (Nat.le_of_ble_eq_true rfl) ?_
  exact hq (fun k => if k = 1 then q5 else if k < 3 then x9 (k - 1) else if k = 3 then q16 else if k < 5 then x20 (k - 3) else if k = 5 then q27 else if k < 7 then x31 (k - 5) else if k = 7 then q41 else 0) rfl hP hD hS dX3_init_86
theorem dX1_init_0 : decode cX1_init 0 = .ok (.aload_n 0, 1) := by decide +kernel
theorem dX1_init_1 : decode cX1_init 1 = .ok (.invokespecial 3, 3) := by decide +kernel
theorem dX1_init_4 : decode cX1_init 4 = .ok (.aload_n 0, 1) := by decide +kernel
theorem dX1_init_5 : decode cX1_init 5 = .ok (.new 9, 3) := by decide +kernel
theorem dX1_init_8 : decode cX1_init 8 = .ok (.dup, 1) := by decide +kernel
theorem dX1_init_9 : decode cX1_init 9 = .ok (.invokespecial 11, 3) := by decide +kernel
theorem dX1_init_12 : decode cX1_init 12 = .ok (.putfield 12, 3) := by decide +kernel
theorem dX1_init_15 : decode cX1_init 15 = .ok (.aload_n 0, 1) := by decide +kernel
theorem dX1_init_16 : decode cX1_init 16 = .ok (.new 9, 3) := by decide +kernel
theorem dX1_init_19 : decode cX1_init 19 = .ok (.dup, 1) := by decide +kernel
theorem dX1_init_20 : decode cX1_init 20 = .ok (.invokespecial 11, 3) := by decide +kernel
theorem dX1_init_23 : decode cX1_init 23 = .ok (.putfield 18, 3) := by decide +kernel
theorem dX1_init_26 : decode cX1_init 26 = .ok (.aload_n 0, 1) := by decide +kernel
theorem dX1_init_27 : decode cX1_init 27 = .ok (.new 21, 3) := by decide +kernel
theorem dX1_init_30 : decode cX1_init 30 = .ok (.dup, 1) := by decide +kernel
theorem dX1_init_31 : decode cX1_init 31 = .ok (.invokespecial 23, 3) := by decide +kernel
theorem dX1_init_34 : decode cX1_init 34 = .ok (.putfield 24, 3) := by decide +kernel
theorem dX1_init_37 : decode cX1_init 37 = .ok (.aload_n 0, 1) := by decide +kernel
theorem dX1_init_38 : decode cX1_init 38 = .ok (.new 28, 3) := by decide +kernel
theorem dX1_init_41 : decode cX1_init 41 = .ok (.dup, 1) := by decide +kernel
theorem dX1_init_42 : decode cX1_init 42 = .ok (.invokespecial 30, 3) := by decide +kernel
theorem dX1_init_45 : decode cX1_init 45 = .ok (.putfield 31, 3) := by decide +kernel
theorem dX1_init_48 : decode cX1_init 48 = .ok (.aload_n 0, 1) := by decide +kernel
theorem dX1_init_49 : decode cX1_init 49 = .ok (.new 35, 3) := by decide +kernel
theorem dX1_init_52 : decode cX1_init 52 = .ok (.dup, 1) := by decide +kernel
theorem dX1_init_53 : decode cX1_init 53 = .ok (.invokespecial 37, 3) := by decide +kernel
theorem dX1_init_56 : decode cX1_init 56 = .ok (.putfield 38, 3) := by decide +kernel
theorem dX1_init_59 : decode cX1_init 59 = .ok (.aload_n 0, 1) := by decide +kernel
theorem dX1_init_60 : decode cX1_init 60 = .ok (.bipush 8, 2) := by decide +kernel
theorem dX1_init_62 : decode cX1_init 62 = .ok (.newarray .int, 2) := by decide +kernel
theorem dX1_init_64 : decode cX1_init 64 = .ok (.putfield 42, 3) := by decide +kernel
theorem dX1_init_67 : decode cX1_init 67 = .ok (.aload_n 0, 1) := by decide +kernel
theorem dX1_init_68 : decode cX1_init 68 = .ok (.bipush 8, 2) := by decide +kernel
theorem dX1_init_70 : decode cX1_init 70 = .ok (.newarray .int, 2) := by decide +kernel
theorem dX1_init_72 : decode cX1_init 72 = .ok (.putfield 46, 3) := by decide +kernel
theorem dX1_init_75 : decode cX1_init 75 = .ok (.aload_n 0, 1) := by decide +kernel
theorem dX1_init_76 : decode cX1_init 76 = .ok (.iconst 0, 1) := by decide +kernel
theorem dX1_init_77 : decode cX1_init 77 = .ok (.putfield 49, 3) := by decide +kernel
theorem dX1_init_80 : decode cX1_init 80 = .ok (.aload_n 0, 1) := by decide +kernel
theorem dX1_init_81 : decode cX1_init 81 = .ok (.iconst 0, 1) := by decide +kernel
theorem dX1_init_82 : decode cX1_init 82 = .ok (.putfield 53, 3) := by decide +kernel
theorem dX1_init_85 : decode cX1_init 85 = .ok (.aload_n 0, 1) := by decide +kernel
theorem dX1_init_86 : decode cX1_init 86 = .ok (.iconst 0, 1) := by decide +kernel
theorem dX1_init_87 : decode cX1_init 87 = .ok (.putfield 56, 3) := by decide +kernel
theorem dX1_init_90 : decode cX1_init 90 = .ok (.aload_n 0, 1) := by decide +kernel
theorem dX1_init_91 : decode cX1_init 91 = .ok (.iconst 0, 1) := by decide +kernel
theorem dX1_init_92 : decode cX1_init 92 = .ok (.putfield 59, 3) := by decide +kernel
theorem dX1_init_95 : decode cX1_init 95 = .ok (.aload_n 0, 1) := by decide +kernel
theorem dX1_init_96 : decode cX1_init 96 = .ok (.iconst 0, 1) := by decide +kernel
theorem dX1_init_97 : decode cX1_init 97 = .ok (.putfield 62, 3) := by decide +kernel
theorem dX1_init_100 : decode cX1_init 100 = .ok (.return_, 1) := by decide +kernel
abbrev Bk_0 : BkT := Bk_mk Wd_0 Wd_0 Bd_0 St_0 Sb_0 (fun _ => 0) (fun _ => 0) (0 : Int32) (0 : Int32) (0 : Int32) (0 : Int32) (0 : Int32)
theorem dfX1 : ∀ j, j < 12 → defaultValue (tyX1 j) = vp_V [.null, .null, .null, .null, .null, .null, .null, .int 0, .int 0, .int 0, .int 0, .int 0] j := by decide
abbrev rm_X1_init : Room := { frames := 3, cells := 24, slots := 6468, locals := 52 }
set_option maxHeartbeats 4000000 in
set_option maxRecDepth 100000 in
theorem c_X1_init (l : Launch) (g : GK) (h0 : Nat) : gM l yX1_init cX1_init 1 none rm_X1_init g [.ref h0] [(h0, .inr (2, [.null, .null, .null, .null, .null, .null, .null, .int 0, .int 0, .int 0, .int 0, .int 0]))] (fun _ : Nat → Nat => none) (fun x => Bk_c g (fun k => if k = 0 then h0 else x k) Bk_0) 24 6468 := by
  refine gM_introV RX1 (by decide) rfl (Nat.le_of_ble_eq_true rfl) (fun p e s m args below meth c Q H locs ls A hE hnm hZ hA hP hD hS hq hl => ?_)
  have hl : lv_has ls 1 [(0, .ref h0)] := hl
  have hx := hE.1
  have hb := hE.2.1
  refine lv_aload_n hx hb dX1_init_0 rfl (lv_at hl 0 rfl) ?_
  refine g_obj hE hl.1 ko_X1_3 (Nat.le_of_ble_eq_true rfl) (Nat.le_of_ble_eq_true rfl) dX1_init_1 ?_
  refine lv_aload_n hx hb dX1_init_4 rfl (lv_at hl 0 rfl) ?_
  refine g_new hE okX7 cl_X1_9 inst_X7 ini_X7 hP hD hS hA (fs := [.null, .int 0]) dfX7 (Nat.le_of_ble_eq_true rfl) (Nat.le_of_ble_eq_true rfl) dX1_init_5 (fun q5 H hP hD hS => ?_)
  refine lv_dup hx hb dX1_init_8 rfl ?_
  refine gm_callIN1 (As := []) (rest := [.ref q5, .ref h0]) (st1 := fun _ => [.ref q5, .ref h0]) (ws' := fun x9 => ([(h0, .inr (2, [.null, .null, .null, .null, .null, .null, .null, .int 0, .int 0, .int 0, .int 0, .int 0]))] ++ Wd_c g (fun k => if k = 0 then q5 else x9 k) Wd_0)) hE hl.1 ml_X1_11 (c_X7_init l g q5) hZ hP hD hS hA 1 2 rfl (fun _ => rfl) rfl rfl (fun _ => rfl) ⟨rfl, rfl⟩ ⟨Nat.le_of_ble_eq_true rfl, Nat.le_of_ble_eq_true rfl⟩ ⟨Nat.le_of_ble_eq_true rfl, Nat.le_of_ble_eq_true rfl⟩ (Nat.le_of_ble_eq_true rfl) dX1_init_9 (fun x9 H locs hP hD hS => ?_)
  refine g_putF hE hnm okX1 fl_X1_12 hP hD hS 0 rfl rfl rfl rfl rfl (Nat.le_of_ble_eq_true rfl) ([(h0, .inr (2, [.ref q5, .null, .null, .null, .null, .null, .null, .int 0, .int 0, .int 0, .int 0, .int 0]))] ++ Wd_c g (fun k => if k = 0 then q5 else x9 k) Wd_0) rfl dX1_init_12 (fun H locs hP hD hS => ?_)
  refine lv_aload_n hx hb dX1_init_15 rfl (lv_at hl 0 rfl) ?_
  refine g_new hE okX7 cl_X1_9 inst_X7 ini_X7 hP hD hS hA (fs := [.null, .int 0]) dfX7 (Nat.le_of_ble_eq_true rfl) (Nat.le_of_ble_eq_true rfl) dX1_init_16 (fun q16 H hP hD hS => ?_)
  refine lv_dup hx hb dX1_init_19 rfl ?_
  refine gm_callIN1 (As := []) (rest := [.ref q16, .ref h0]) (st1 := fun _ => [.ref q16, .ref h0]) (ws' := fun x20 => ([(h0, .inr (2, [.ref q5, .null, .null, .null, .null, .null, .null, .int 0, .int 0, .int 0, .int 0, .int 0]))] ++ Wd_c g (fun k => if k = 0 then q5 else x9 k) Wd_0 ++ Wd_c g (fun k => if k = 0 then q16 else x20 k) Wd_0)) hE hl.1 ml_X1_11 (c_X7_init l g q16) hZ hP hD hS hA 3 4 rfl (fun _ => rfl) rfl rfl (fun _ => rfl) ⟨rfl, rfl⟩ ⟨Nat.le_of_ble_eq_true rfl, Nat.le_of_ble_eq_true rfl⟩ ⟨Nat.le_of_ble_eq_true rfl, Nat.le_of_ble_eq_true rfl⟩ (Nat.le_of_ble_eq_true rfl) dX1_init_20 (fun x20 H locs hP hD hS => ?_)
  refine g_putF hE hnm okX1 fl_X1_18 hP hD hS 0 rfl rfl rfl rfl rfl (Nat.le_of_ble_eq_true rfl) ([(h0, .inr (2, [.ref q5, .ref q16, .null, .null, .null, .null, .null, .int 0, .int 0, .int 0, .int 0, .int 0]))] ++ Wd_c g (fun k => if k = 0 then q5 else x9 k) Wd_0 ++ Wd_c g (fun k => if k = 0 then q16 else x20 k) Wd_0) rfl dX1_init_23 (fun H locs hP hD hS => ?_)
  refine lv_aload_n hx hb dX1_init_26 rfl (lv_at hl 0 rfl) ?_
  refine g_new hE okX0 cl_X1_21 inst_X0 ini_X0 hP hD hS hA (fs := [.null, .null, .null, .null, .int 0]) dfX0 (Nat.le_of_ble_eq_true rfl) (Nat.le_of_ble_eq_true rfl) dX1_init_27 (fun q27 H hP hD hS => ?_)
  refine lv_dup hx hb dX1_init_30 rfl ?_
  refine gm_callIN1 (As := []) (rest := [.ref q27, .ref h0]) (st1 := fun _ => [.ref q27, .ref h0]) (ws' := fun x31 => ([(h0, .inr (2, [.ref q5, .ref q16, .null, .null, .null, .null, .null, .int 0, .int 0, .int 0, .int 0, .int 0]))] ++ Wd_c g (fun k => if k = 0 then q5 else x9 k) Wd_0 ++ Wd_c g (fun k => if k = 0 then q16 else x20 k) Wd_0 ++ Bd_c g (fun k => if k = 0 then q27 else x31 k) Bd_0)) hE hl.1 ml_X1_23 (c_X0_init l g q27) hZ hP hD hS hA 5 6 rfl (fun _ => rfl) rfl rfl (fun _ => rfl) ⟨rfl, rfl⟩ ⟨Nat.le_of_ble_eq_true rfl, Nat.le_of_ble_eq_true rfl⟩ ⟨Nat.le_of_ble_eq_true rfl, Nat.le_of_ble_eq_true rfl⟩ (Nat.le_of_ble_eq_true rfl) dX1_init_31 (fun x31 H locs hP hD hS => ?_)
  refine g_putF hE hnm okX1 fl_X1_24 hP hD hS 0 rfl rfl rfl rfl rfl (Nat.le_of_ble_eq_true rfl) ([(h0, .inr (2, [.ref q5, .ref q16, .ref q27, .null, .null, .null, .null, .int 0, .int 0, .int 0, .int 0, .int 0]))] ++ Wd_c g (fun k => if k = 0 then q5 else x9 k) Wd_0 ++ Wd_c g (fun k => if k = 0 then q16 else x20 k) Wd_0 ++ Bd_c g (fun k => if k = 0 then q27 else x31 k) Bd_0) rfl dX1_init_34 (fun H locs hP hD hS => ?_)
  refine lv_aload_n hx hb dX1_init_37 rfl (lv_at hl 0 rfl) ?_
  refine g_new hE okX4 cl_X1_28 inst_X4 ini_X4 hP hD hS hA (fs := [.null, .null, .null, .null, .int 0]) dfX4 (Nat.le_of_ble_eq_true rfl) (Nat.le_of_ble_eq_true rfl) dX1_init_38 (fun q38 H hP hD hS => ?_)
  refine lv_dup hx hb dX1_init_41 rfl ?_
  refine gm_callIN1 (As := []) (rest := [.ref q38, .ref h0]) (st1 := fun _ => [.ref q38, .ref h0]) (ws' := fun x42 => ([(h0, .inr (2, [.ref q5, .ref q16, .ref q27, .null, .null, .null, .null, .int 0, .int 0, .int 0, .int 0, .int 0]))] ++ Wd_c g (fun k => if k = 0 then q5 else x9 k) Wd_0 ++ Wd_c g (fun k => if k = 0 then q16 else x20 k) Wd_0 ++ Bd_c g (fun k => if k = 0 then q27 else x31 k) Bd_0 ++ St_c g (fun k => if k = 0 then q38 else x42 k) St_0)) hE hl.1 ml_X1_30 (c_X4_init l g q38) hZ hP hD hS hA 14 15 rfl (fun _ => rfl) rfl rfl (fun _ => rfl) ⟨rfl, rfl⟩ ⟨Nat.le_of_ble_eq_true rfl, Nat.le_of_ble_eq_true rfl⟩ ⟨Nat.le_of_ble_eq_true rfl, Nat.le_of_ble_eq_true rfl⟩ (Nat.le_of_ble_eq_true rfl) dX1_init_42 (fun x42 H locs hP hD hS => ?_)
  refine g_putF hE hnm okX1 fl_X1_31 hP hD hS 0 rfl rfl rfl rfl rfl (Nat.le_of_ble_eq_true rfl) ([(h0, .inr (2, [.ref q5, .ref q16, .ref q27, .ref q38, .null, .null, .null, .int 0, .int 0, .int 0, .int 0, .int 0]))] ++ Wd_c g (fun k => if k = 0 then q5 else x9 k) Wd_0 ++ Wd_c g (fun k => if k = 0 then q16 else x20 k) Wd_0 ++ Bd_c g (fun k => if k = 0 then q27 else x31 k) Bd_0 ++ St_c g (fun k => if k = 0 then q38 else x42 k) St_0) rfl dX1_init_45 (fun H locs hP hD hS => ?_)
  refine lv_aload_n hx hb dX1_init_48 rfl (lv_at hl 0 rfl) ?_
  refine g_new hE okX5 cl_X1_35 inst_X5 ini_X5 hP hD hS hA (fs := [.null, .null, .null]) dfX5 (Nat.le_of_ble_eq_true rfl) (Nat.le_of_ble_eq_true rfl) dX1_init_49 (fun q49 H hP hD hS => ?_)
  refine lv_dup hx hb dX1_init_52 rfl ?_
  refine gm_callIN1 (As := []) (rest := [.ref q49, .ref h0]) (st1 := fun _ => [.ref q49, .ref h0]) (ws' := fun x53 => ([(h0, .inr (2, [.ref q5, .ref q16, .ref q27, .ref q38, .null, .null, .null, .int 0, .int 0, .int 0, .int 0, .int 0]))] ++ Wd_c g (fun k => if k = 0 then q5 else x9 k) Wd_0 ++ Wd_c g (fun k => if k = 0 then q16 else x20 k) Wd_0 ++ Bd_c g (fun k => if k = 0 then q27 else x31 k) Bd_0 ++ St_c g (fun k => if k = 0 then q38 else x42 k) St_0 ++ Sb_c g (fun k => if k = 0 then q49 else x53 k) Sb_0)) hE hl.1 ml_X1_37 (c_X5_init l g q49) hZ hP hD hS hA 19 20 rfl (fun _ => rfl) rfl rfl (fun _ => rfl) ⟨rfl, rfl⟩ ⟨Nat.le_of_ble_eq_true rfl, Nat.le_of_ble_eq_true rfl⟩ ⟨Nat.le_of_ble_eq_true rfl, Nat.le_of_ble_eq_true rfl⟩ (Nat.le_of_ble_eq_true rfl) dX1_init_53 (fun x53 H locs hP hD hS => ?_)
  refine g_putF hE hnm okX1 fl_X1_38 hP hD hS 0 rfl rfl rfl rfl rfl (Nat.le_of_ble_eq_true rfl) ([(h0, .inr (2, [.ref q5, .ref q16, .ref q27, .ref q38, .ref q49, .null, .null, .int 0, .int 0, .int 0, .int 0, .int 0]))] ++ Wd_c g (fun k => if k = 0 then q5 else x9 k) Wd_0 ++ Wd_c g (fun k => if k = 0 then q16 else x20 k) Wd_0 ++ Bd_c g (fun k => if k = 0 then q27 else x31 k) Bd_0 ++ St_c g (fun k => if k = 0 then q38 else x42 k) St_0 ++ Sb_c g (fun k => if k = 0 then q49 else x53 k) Sb_0) rfl dX1_init_56 (fun H locs hP hD hS => ?_)
  refine lv_aload_n hx hb dX1_init_59 rfl (lv_at hl 0 rfl) ?_
  refine lv_bipush hx hb dX1_init_60 kcb_8 ?_
  refine g_newi hE hP hD hS hA (N := 8) (by decide) (by decide) (by decide) (Nat.le_of_ble_eq_true rfl) (Nat.le_of_ble_eq_true rfl) dX1_init_62 (fun q62 H hP hD hS => ?_)
  refine g_putF hE hnm okX1 fl_X1_42 hP hD hS 0 rfl rfl rfl rfl rfl (Nat.le_of_ble_eq_true rfl) ([(h0, .inr (2, [.ref q5, .ref q16, .ref q27, .ref q38, .ref q49, .ref q62, .null, .int 0, .int 0, .int 0, .int 0, .int 0]))] ++ Wd_c g (fun k => if k = 0 then q5 else x9 k) Wd_0 ++ Wd_c g (fun k => if k = 0 then q16 else x20 k) Wd_0 ++ Bd_c g (fun k => if k = 0 then q27 else x31 k) Bd_0 ++ St_c g (fun k => if k = 0 then q38 else x42 k) St_0 ++ Sb_c g (fun k => if k = 0 then q49 else x53 k) Sb_0 ++ [(q62, .inl (g.2.1, 8, .inl (fun _ => 0)))]) rfl dX1_init_64 (fun H locs hP hD hS => ?_)
  refine lv_aload_n hx hb dX1_init_67 rfl (lv_at hl 0 rfl) ?_
  refine lv_bipush hx hb dX1_init_68 kcb_8 ?_
  refine g_newi hE hP hD hS hA (N := 8) (by decide) (by decide) (by decide) (Nat.le_of_ble_eq_true rfl) (Nat.le_of_ble_eq_true rfl) dX1_init_70 (fun q70 H hP hD hS => ?_)
  refine g_putF hE hnm okX1 fl_X1_46 hP hD hS 0 rfl rfl rfl rfl rfl (Nat.le_of_ble_eq_true rfl) ([(h0, .inr (2, [.ref q5, .ref q16, .ref q27, .ref q38, .ref q49, .ref q62, .ref q70, .int 0, .int 0, .int 0, .int 0, .int 0]))] ++ Wd_c g (fun k => if k = 0 then q5 else x9 k) Wd_0 ++ Wd_c g (fun k => if k = 0 then q16 else x20 k) Wd_0 ++ Bd_c g (fun k => if k = 0 then q27 else x31 k) Bd_0 ++ St_c g (fun k => if k = 0 then q38 else x42 k) St_0 ++ Sb_c g (fun k => if k = 0 then q49 else x53 k) Sb_0 ++ [(q62, .inl (g.2.1, 8, .inl (fun _ => 0)))] ++ [(q70, .inl (g.2.1, 8, .inl (fun _ => 0)))]) rfl dX1_init_72 (fun H locs hP hD hS => ?_)
  refine lv_aload_n hx hb dX1_init_75 rfl (lv_at hl 0 rfl) ?_
  refine lv_iconst hx hb dX1_init_76 kci_0 ?_
  refine g_put hE okX1 fl_X1_49 hP hD hS 0 rfl rfl rfl rfl (Nat.le_of_ble_eq_true rfl) ([(h0, .inr (2, [.ref q5, .ref q16, .ref q27, .ref q38, .ref q49, .ref q62, .ref q70, .int (0 : Int32), .int 0, .int 0, .int 0, .int 0]))] ++ Wd_c g (fun k => if k = 0 then q5 else x9 k) Wd_0 ++ Wd_c g (fun k => if k = 0 then q16 else x20 k) Wd_0 ++ Bd_c g (fun k => if k = 0 then q27 else x31 k) Bd_0 ++ St_c g (fun k => if k = 0 then q38 else x42 k) St_0 ++ Sb_c g (fun k => if k = 0 then q49 else x53 k) Sb_0 ++ [(q62, .inl (g.2.1, 8, .inl (fun _ => 0)))] ++ [(q70, .inl (g.2.1, 8, .inl (fun _ => 0)))]) rfl dX1_init_77 (fun H locs hP hD hS => ?_)
  refine lv_aload_n hx hb dX1_init_80 rfl (lv_at hl 0 rfl) ?_
  refine lv_iconst hx hb dX1_init_81 kci_0 ?_
  refine g_put hE okX1 fl_X1_53 hP hD hS 0 rfl rfl rfl rfl (Nat.le_of_ble_eq_true rfl) ([(h0, .inr (2, [.ref q5, .ref q16, .ref q27, .ref q38, .ref q49, .ref q62, .ref q70, .int (0 : Int32), .int (0 : Int32), .int 0, .int 0, .int 0]))] ++ Wd_c g (fun k => if k = 0 then q5 else x9 k) Wd_0 ++ Wd_c g (fun k => if k = 0 then q16 else x20 k) Wd_0 ++ Bd_c g (fun k => if k = 0 then q27 else x31 k) Bd_0 ++ St_c g (fun k => if k = 0 then q38 else x42 k) St_0 ++ Sb_c g (fun k => if k = 0 then q49 else x53 k) Sb_0 ++ [(q62, .inl (g.2.1, 8, .inl (fun _ => 0)))] ++ [(q70, .inl (g.2.1, 8, .inl (fun _ => 0)))]) rfl dX1_init_82 (fun H locs hP hD hS => ?_)
  refine lv_aload_n hx hb dX1_init_85 rfl (lv_at hl 0 rfl) ?_
  refine lv_iconst hx hb dX1_init_86 kci_0 ?_
  refine g_put hE okX1 fl_X1_56 hP hD hS 0 rfl rfl rfl rfl (Nat.le_of_ble_eq_true rfl) ([(h0, .inr (2, [.ref q5, .ref q16, .ref q27, .ref q38, .ref q49, .ref q62, .ref q70, .int (0 : Int32), .int (0 : Int32), .int (0 : Int32), .int 0, .int 0]))] ++ Wd_c g (fun k => if k = 0 then q5 else x9 k) Wd_0 ++ Wd_c g (fun k => if k = 0 then q16 else x20 k) Wd_0 ++ Bd_c g (fun k => if k = 0 then q27 else x31 k) Bd_0 ++ St_c g (fun k => if k = 0 then q38 else x42 k) St_0 ++ Sb_c g (fun k => if k = 0 then q49 else x53 k) Sb_0 ++ [(q62, .inl (g.2.1, 8, .inl (fun _ => 0)))] ++ [(q70, .inl (g.2.1, 8, .inl (fun _ => 0)))]) rfl dX1_init_87 (fun H locs hP hD hS => ?_)
  refine lv_aload_n hx hb dX1_init_90 rfl (lv_at hl 0 rfl) ?_
  refine lv_iconst hx hb dX1_init_91 kci_0 ?_
  refine g_put hE okX1 fl_X1_59 hP hD hS 0 rfl rfl rfl rfl (Nat.le_of_ble_eq_true rfl) ([(h0, .inr (2, [.ref q5, .ref q16, .ref q27, .ref q38, .ref q49, .ref q62, .ref q70, .int (0 : Int32), .int (0 : Int32), .int (0 : Int32), .int (0 : Int32), .int 0]))] ++ Wd_c g (fun k => if k = 0 then q5 else x9 k) Wd_0 ++ Wd_c g (fun k => if k = 0 then q16 else x20 k) Wd_0 ++ Bd_c g (fun k => if k = 0 then q27 else x31 k) Bd_0 ++ St_c g (fun k => if k = 0 then q38 else x42 k) St_0 ++ Sb_c g (fun k => if k = 0 then q49 else x53 k) Sb_0 ++ [(q62, .inl (g.2.1, 8, .inl (fun _ => 0)))] ++ [(q70, .inl (g.2.1, 8, .inl (fun _ => 0)))]) rfl dX1_init_92 (fun H locs hP hD hS => ?_)
  refine lv_aload_n hx hb dX1_init_95 rfl (lv_at hl 0 rfl) ?_
  refine lv_iconst hx hb dX1_init_96 kci_0 ?_
  refine g_put hE okX1 fl_X1_62 hP hD hS 0 rfl rfl rfl rfl (Nat.le_of_ble_eq_true rfl) ([(h0, .inr (2, [.ref q5, .ref q16, .ref q27, .ref q38, .ref q49, .ref q62, .ref q70, .int (0 : Int32), .int (0 : Int32), .int (0 : Int32), .int (0 : Int32), .int (0 : Int32)]))] ++ Wd_c g (fun k => if k = 0 then q5 else x9 k) Wd_0 ++ Wd_c g (fun k => if k = 0 then q16 else x20 k) Wd_0 ++ Bd_c g (fun k => if k = 0 then q27 else x31 k) Bd_0 ++ St_c g (fun k => if k = 0 then q38 else x42 k) St_0 ++ Sb_c g (fun k => if k = 0 then q49 else x53 k) Sb_0 ++ [(q62, .inl (g.2.1, 8, .inl (fun _ => 0)))] ++ [(q70, .inl (g.2.1, 8, .inl (fun _ => 0)))]) rfl dX1_init_97 (fun H locs hP hD hS => ?_)
  refine W.widen (k := 24) (n := 6468) (Nat.le_of_ble_eq_true rfl) (Nat.le_of_ble_eq_true rfl) ?_
  exact hq (fun k => if k = 1 then q5 else if k < 3 then x9 (k - 1) else if k = 3 then q16 else if k < 5 then x20 (k - 3) else if k = 5 then q27 else if k < 14 then x31 (k - 5) else if k = 14 then q38 else if k < 19 then x42 (k - 14) else if k = 19 then q49 else if k < 23 then x53 (k - 19) else if k = 23 then q62 else if k = 24 then q70 else 0) rfl hP hD hS dX1_init_100
theorem dX8_init_0 : decode cX8_init 0 = .ok (.aload_n 0, 1) := by decide +kernel
theorem dX8_init_1 : decode cX8_init 1 = .ok (.invokespecial 5, 3) := by decide +kernel
theorem dX8_init_4 : decode cX8_init 4 = .ok (.aload_n 0, 1) := by decide +kernel
theorem dX8_init_5 : decode cX8_init 5 = .ok (.new 11, 3) := by decide +kernel
theorem dX8_init_8 : decode cX8_init 8 = .ok (.dup, 1) := by decide +kernel
theorem dX8_init_9 : decode cX8_init 9 = .ok (.invokespecial 13, 3) := by decide +kernel
theorem dX8_init_12 : decode cX8_init 12 = .ok (.putfield 14, 3) := by decide +kernel
theorem dX8_init_15 : decode cX8_init 15 = .ok (.aload_n 0, 1) := by decide +kernel
theorem dX8_init_16 : decode cX8_init 16 = .ok (.new 18, 3) := by decide +kernel
theorem dX8_init_19 : decode cX8_init 19 = .ok (.dup, 1) := by decide +kernel
theorem dX8_init_20 : decode cX8_init 20 = .ok (.invokespecial 20, 3) := by decide +kernel
theorem dX8_init_23 : decode cX8_init 23 = .ok (.putfield 21, 3) := by decide +kernel
theorem dX8_init_26 : decode cX8_init 26 = .ok (.aload_n 0, 1) := by decide +kernel
theorem dX8_init_27 : decode cX8_init 27 = .ok (.bipush 60, 2) := by decide +kernel
theorem dX8_init_29 : decode cX8_init 29 = .ok (.newarray .int, 2) := by decide +kernel
theorem dX8_init_31 : decode cX8_init 31 = .ok (.putfield 27, 3) := by decide +kernel
theorem dX8_init_34 : decode cX8_init 34 = .ok (.aload_n 0, 1) := by decide +kernel
theorem dX8_init_35 : decode cX8_init 35 = .ok (.aconst_null, 1) := by decide +kernel
theorem dX8_init_36 : decode cX8_init 36 = .ok (.putfield 31, 3) := by decide +kernel
theorem dX8_init_39 : decode cX8_init 39 = .ok (.aload_n 0, 1) := by decide +kernel
theorem dX8_init_40 : decode cX8_init 40 = .ok (.aconst_null, 1) := by decide +kernel
theorem dX8_init_41 : decode cX8_init 41 = .ok (.putfield 35, 3) := by decide +kernel
theorem dX8_init_44 : decode cX8_init 44 = .ok (.aload_n 0, 1) := by decide +kernel
theorem dX8_init_45 : decode cX8_init 45 = .ok (.iconst 0, 1) := by decide +kernel
theorem dX8_init_46 : decode cX8_init 46 = .ok (.putfield 38, 3) := by decide +kernel
theorem dX8_init_49 : decode cX8_init 49 = .ok (.aload_n 0, 1) := by decide +kernel
theorem dX8_init_50 : decode cX8_init 50 = .ok (.iconst 0, 1) := by decide +kernel
theorem dX8_init_51 : decode cX8_init 51 = .ok (.putfield 42, 3) := by decide +kernel
theorem dX8_init_54 : decode cX8_init 54 = .ok (.aload_n 0, 1) := by decide +kernel
theorem dX8_init_55 : decode cX8_init 55 = .ok (.iconst 0, 1) := by decide +kernel
theorem dX8_init_56 : decode cX8_init 56 = .ok (.putfield 46, 3) := by decide +kernel
theorem dX8_init_59 : decode cX8_init 59 = .ok (.aload_n 0, 1) := by decide +kernel
theorem dX8_init_60 : decode cX8_init 60 = .ok (.iconst (-1), 1) := by decide +kernel
theorem dX8_init_61 : decode cX8_init 61 = .ok (.putfield 49, 3) := by decide +kernel
theorem dX8_init_64 : decode cX8_init 64 = .ok (.return_, 1) := by decide +kernel
abbrev OuN_0 : OuNT := OuN_mk Rd_0 Bd_0 (fun _ => 0) (0 : Int32) (0 : Int32) (0 : Int32) (-1 : Int32)
theorem dfX8 : ∀ j, j < 9 → defaultValue (tyX8 j) = vp_V [.null, .null, .null, .null, .null, .int 0, .int 0, .int 0, .int 0] j := by decide
abbrev rm_X8_init : Room := { frames := 3, cells := 18, slots := 2196, locals := 52 }
set_option maxHeartbeats 4000000 in
set_option maxRecDepth 100000 in
theorem c_X8_init (l : Launch) (g : GK) (h0 : Nat) : gM l yX8_init cX8_init 1 none rm_X8_init g [.ref h0] [(h0, .inr (9, [.null, .null, .null, .null, .null, .int 0, .int 0, .int 0, .int 0]))] (fun _ : Nat → Nat => none) (fun x => OuN_c g (fun k => if k = 0 then h0 else x k) OuN_0) 18 2196 := by
  refine gM_introV RX8 (by decide) rfl (Nat.le_of_ble_eq_true rfl) (fun p e s m args below meth c Q H locs ls A hE hnm hZ hA hP hD hS hq hl => ?_)
  have hl : lv_has ls 1 [(0, .ref h0)] := hl
  have hx := hE.1
  have hb := hE.2.1
  refine lv_aload_n hx hb dX8_init_0 rfl (lv_at hl 0 rfl) ?_
  refine g_obj hE hl.1 ko_X8_5 (Nat.le_of_ble_eq_true rfl) (Nat.le_of_ble_eq_true rfl) dX8_init_1 ?_
  refine lv_aload_n hx hb dX8_init_4 rfl (lv_at hl 0 rfl) ?_
  refine g_new hE okX3 cl_X8_11 inst_X3 ini_X3 hP hD hS hA (fs := [.null, .null, .null, .null, .int 0, .int 0, .int 0, .int 0, .int 0, .int 0, .int 0, .int 0]) dfX3 (Nat.le_of_ble_eq_true rfl) (Nat.le_of_ble_eq_true rfl) dX8_init_5 (fun q5 H hP hD hS => ?_)
  refine lv_dup hx hb dX8_init_8 rfl ?_
  refine gm_callIN1 (As := []) (rest := [.ref q5, .ref h0]) (st1 := fun _ => [.ref q5, .ref h0]) (ws' := fun x9 => ([(h0, .inr (9, [.null, .null, .null, .null, .null, .int 0, .int 0, .int 0, .int 0]))] ++ Rd_c g (fun k => if k = 0 then q5 else x9 k) Rd_0)) hE hl.1 ml_X8_13 (c_X3_init l g q5) hZ hP hD hS hA 1 2 rfl (fun _ => rfl) rfl rfl (fun _ => rfl) ⟨rfl, rfl⟩ ⟨Nat.le_of_ble_eq_true rfl, Nat.le_of_ble_eq_true rfl⟩ ⟨Nat.le_of_ble_eq_true rfl, Nat.le_of_ble_eq_true rfl⟩ (Nat.le_of_ble_eq_true rfl) dX8_init_9 (fun x9 H locs hP hD hS => ?_)
  refine g_putF hE hnm okX8 fl_X8_14 hP hD hS 0 rfl rfl rfl rfl rfl (Nat.le_of_ble_eq_true rfl) ([(h0, .inr (9, [.ref q5, .null, .null, .null, .null, .int 0, .int 0, .int 0, .int 0]))] ++ Rd_c g (fun k => if k = 0 then q5 else x9 k) Rd_0) rfl dX8_init_12 (fun H locs hP hD hS => ?_)
  refine lv_aload_n hx hb dX8_init_15 rfl (lv_at hl 0 rfl) ?_
  refine g_new hE okX0 cl_X8_18 inst_X0 ini_X0 hP hD hS hA (fs := [.null, .null, .null, .null, .int 0]) dfX0 (Nat.le_of_ble_eq_true rfl) (Nat.le_of_ble_eq_true rfl) dX8_init_16 (fun q16 H hP hD hS => ?_)
  refine lv_dup hx hb dX8_init_19 rfl ?_
  refine gm_callIN1 (As := []) (rest := [.ref q16, .ref h0]) (st1 := fun _ => [.ref q16, .ref h0]) (ws' := fun x20 => ([(h0, .inr (9, [.ref q5, .null, .null, .null, .null, .int 0, .int 0, .int 0, .int 0]))] ++ Rd_c g (fun k => if k = 0 then q5 else x9 k) Rd_0 ++ Bd_c g (fun k => if k = 0 then q16 else x20 k) Bd_0)) hE hl.1 ml_X8_20 (c_X0_init l g q16) hZ hP hD hS hA 9 10 rfl (fun _ => rfl) rfl rfl (fun _ => rfl) ⟨rfl, rfl⟩ ⟨Nat.le_of_ble_eq_true rfl, Nat.le_of_ble_eq_true rfl⟩ ⟨Nat.le_of_ble_eq_true rfl, Nat.le_of_ble_eq_true rfl⟩ (Nat.le_of_ble_eq_true rfl) dX8_init_20 (fun x20 H locs hP hD hS => ?_)
  refine g_putF hE hnm okX8 fl_X8_21 hP hD hS 0 rfl rfl rfl rfl rfl (Nat.le_of_ble_eq_true rfl) ([(h0, .inr (9, [.ref q5, .ref q16, .null, .null, .null, .int 0, .int 0, .int 0, .int 0]))] ++ Rd_c g (fun k => if k = 0 then q5 else x9 k) Rd_0 ++ Bd_c g (fun k => if k = 0 then q16 else x20 k) Bd_0) rfl dX8_init_23 (fun H locs hP hD hS => ?_)
  refine lv_aload_n hx hb dX8_init_26 rfl (lv_at hl 0 rfl) ?_
  refine lv_bipush hx hb dX8_init_27 kcb_60 ?_
  refine g_newi hE hP hD hS hA (N := 60) (by decide) (by decide) (by decide) (Nat.le_of_ble_eq_true rfl) (Nat.le_of_ble_eq_true rfl) dX8_init_29 (fun q29 H hP hD hS => ?_)
  refine g_putF hE hnm okX8 fl_X8_27 hP hD hS 0 rfl rfl rfl rfl rfl (Nat.le_of_ble_eq_true rfl) ([(h0, .inr (9, [.ref q5, .ref q16, .ref q29, .null, .null, .int 0, .int 0, .int 0, .int 0]))] ++ Rd_c g (fun k => if k = 0 then q5 else x9 k) Rd_0 ++ Bd_c g (fun k => if k = 0 then q16 else x20 k) Bd_0 ++ [(q29, .inl (g.2.1, 60, .inl (fun _ => 0)))]) rfl dX8_init_31 (fun H locs hP hD hS => ?_)
  refine lv_aload_n hx hb dX8_init_34 rfl (lv_at hl 0 rfl) ?_
  refine lv_null hx hb dX8_init_35 ?_
  refine g_put hE okX8 fl_X8_31 hP hD hS 0 rfl rfl rfl rfl (Nat.le_of_ble_eq_true rfl) ([(h0, .inr (9, [.ref q5, .ref q16, .ref q29, .null, .null, .int 0, .int 0, .int 0, .int 0]))] ++ Rd_c g (fun k => if k = 0 then q5 else x9 k) Rd_0 ++ Bd_c g (fun k => if k = 0 then q16 else x20 k) Bd_0 ++ [(q29, .inl (g.2.1, 60, .inl (fun _ => 0)))]) rfl dX8_init_36 (fun H locs hP hD hS => ?_)
  refine lv_aload_n hx hb dX8_init_39 rfl (lv_at hl 0 rfl) ?_
  refine lv_null hx hb dX8_init_40 ?_
  refine g_put hE okX8 fl_X8_35 hP hD hS 0 rfl rfl rfl rfl (Nat.le_of_ble_eq_true rfl) ([(h0, .inr (9, [.ref q5, .ref q16, .ref q29, .null, .null, .int 0, .int 0, .int 0, .int 0]))] ++ Rd_c g (fun k => if k = 0 then q5 else x9 k) Rd_0 ++ Bd_c g (fun k => if k = 0 then q16 else x20 k) Bd_0 ++ [(q29, .inl (g.2.1, 60, .inl (fun _ => 0)))]) rfl dX8_init_41 (fun H locs hP hD hS => ?_)
  refine lv_aload_n hx hb dX8_init_44 rfl (lv_at hl 0 rfl) ?_
  refine lv_iconst hx hb dX8_init_45 kci_0 ?_
  refine g_put hE okX8 fl_X8_38 hP hD hS 0 rfl rfl rfl rfl (Nat.le_of_ble_eq_true rfl) ([(h0, .inr (9, [.ref q5, .ref q16, .ref q29, .null, .null, .int (0 : Int32), .int 0, .int 0, .int 0]))] ++ Rd_c g (fun k => if k = 0 then q5 else x9 k) Rd_0 ++ Bd_c g (fun k => if k = 0 then q16 else x20 k) Bd_0 ++ [(q29, .inl (g.2.1, 60, .inl (fun _ => 0)))]) rfl dX8_init_46 (fun H locs hP hD hS => ?_)
  refine lv_aload_n hx hb dX8_init_49 rfl (lv_at hl 0 rfl) ?_
  refine lv_iconst hx hb dX8_init_50 kci_0 ?_
  refine g_put hE okX8 fl_X8_42 hP hD hS 0 rfl rfl rfl rfl (Nat.le_of_ble_eq_true rfl) ([(h0, .inr (9, [.ref q5, .ref q16, .ref q29, .null, .null, .int (0 : Int32), .int (0 : Int32), .int 0, .int 0]))] ++ Rd_c g (fun k => if k = 0 then q5 else x9 k) Rd_0 ++ Bd_c g (fun k => if k = 0 then q16 else x20 k) Bd_0 ++ [(q29, .inl (g.2.1, 60, .inl (fun _ => 0)))]) rfl dX8_init_51 (fun H locs hP hD hS => ?_)
  refine lv_aload_n hx hb dX8_init_54 rfl (lv_at hl 0 rfl) ?_
  refine lv_iconst hx hb dX8_init_55 kci_0 ?_
  refine g_put hE okX8 fl_X8_46 hP hD hS 0 rfl rfl rfl rfl (Nat.le_of_ble_eq_true rfl) ([(h0, .inr (9, [.ref q5, .ref q16, .ref q29, .null, .null, .int (0 : Int32), .int (0 : Int32), .int (0 : Int32), .int 0]))] ++ Rd_c g (fun k => if k = 0 then q5 else x9 k) Rd_0 ++ Bd_c g (fun k => if k = 0 then q16 else x20 k) Bd_0 ++ [(q29, .inl (g.2.1, 60, .inl (fun _ => 0)))]) rfl dX8_init_56 (fun H locs hP hD hS => ?_)
  refine lv_aload_n hx hb dX8_init_59 rfl (lv_at hl 0 rfl) ?_
  refine lv_iconst hx hb dX8_init_60 kci_m1 ?_
  refine g_put hE okX8 fl_X8_49 hP hD hS 0 rfl rfl rfl rfl (Nat.le_of_ble_eq_true rfl) ([(h0, .inr (9, [.ref q5, .ref q16, .ref q29, .null, .null, .int (0 : Int32), .int (0 : Int32), .int (0 : Int32), .int (-1 : Int32)]))] ++ Rd_c g (fun k => if k = 0 then q5 else x9 k) Rd_0 ++ Bd_c g (fun k => if k = 0 then q16 else x20 k) Bd_0 ++ [(q29, .inl (g.2.1, 60, .inl (fun _ => 0)))]) rfl dX8_init_61 (fun H locs hP hD hS => ?_)
  refine W.widen (k := 18) (n := 2196) (Nat.le_of_ble_eq_true rfl) (Nat.le_of_ble_eq_true rfl) ?_
  exact hq (fun k => if k = 1 then q5 else if k < 9 then x9 (k - 1) else if k = 9 then q16 else if k < 18 then x20 (k - 9) else if k = 18 then q29 else 0) rfl hP hD hS dX8_init_64
theorem dX9_init_0 : decode cX9_init 0 = .ok (.aload_n 0, 1) := by decide +kernel
theorem dX9_init_1 : decode cX9_init 1 = .ok (.invokespecial 3, 3) := by decide +kernel
theorem dX9_init_4 : decode cX9_init 4 = .ok (.aload_n 0, 1) := by decide +kernel
theorem dX9_init_5 : decode cX9_init 5 = .ok (.iconst (-1), 1) := by decide +kernel
theorem dX9_init_6 : decode cX9_init 6 = .ok (.putfield 9, 3) := by decide +kernel
theorem dX9_init_9 : decode cX9_init 9 = .ok (.aload_n 0, 1) := by decide +kernel
theorem dX9_init_10 : decode cX9_init 10 = .ok (.sipush 19713, 3) := by decide +kernel
theorem dX9_init_13 : decode cX9_init 13 = .ok (.newarray .int, 2) := by decide +kernel
theorem dX9_init_15 : decode cX9_init 15 = .ok (.putfield 13, 3) := by decide +kernel
theorem dX9_init_18 : decode cX9_init 18 = .ok (.aload_n 0, 1) := by decide +kernel
theorem dX9_init_19 : decode cX9_init 19 = .ok (.sipush 900, 3) := by decide +kernel
theorem dX9_init_22 : decode cX9_init 22 = .ok (.newarray .byte, 2) := by decide +kernel
theorem dX9_init_24 : decode cX9_init 24 = .ok (.putfield 17, 3) := by decide +kernel
theorem dX9_init_27 : decode cX9_init 27 = .ok (.aload_n 0, 1) := by decide +kernel
theorem dX9_init_28 : decode cX9_init 28 = .ok (.bipush 16, 2) := by decide +kernel
theorem dX9_init_30 : decode cX9_init 30 = .ok (.newarray .long, 2) := by decide +kernel
theorem dX9_init_32 : decode cX9_init 32 = .ok (.putfield 21, 3) := by decide +kernel
theorem dX9_init_35 : decode cX9_init 35 = .ok (.aload_n 0, 1) := by decide +kernel
theorem dX9_init_36 : decode cX9_init 36 = .ok (.bipush 16, 2) := by decide +kernel
theorem dX9_init_38 : decode cX9_init 38 = .ok (.newarray .long, 2) := by decide +kernel
theorem dX9_init_40 : decode cX9_init 40 = .ok (.putfield 25, 3) := by decide +kernel
theorem dX9_init_43 : decode cX9_init 43 = .ok (.aload_n 0, 1) := by decide +kernel
theorem dX9_init_44 : decode cX9_init 44 = .ok (.iconst 2, 1) := by decide +kernel
theorem dX9_init_45 : decode cX9_init 45 = .ok (.newarray .int, 2) := by decide +kernel
theorem dX9_init_47 : decode cX9_init 47 = .ok (.putfield 28, 3) := by decide +kernel
theorem dX9_init_50 : decode cX9_init 50 = .ok (.aload_n 0, 1) := by decide +kernel
theorem dX9_init_51 : decode cX9_init 51 = .ok (.bipush 40, 2) := by decide +kernel
theorem dX9_init_53 : decode cX9_init 53 = .ok (.newarray .int, 2) := by decide +kernel
theorem dX9_init_55 : decode cX9_init 55 = .ok (.putfield 31, 3) := by decide +kernel
theorem dX9_init_58 : decode cX9_init 58 = .ok (.aload_n 0, 1) := by decide +kernel
theorem dX9_init_59 : decode cX9_init 59 = .ok (.bipush 40, 2) := by decide +kernel
theorem dX9_init_61 : decode cX9_init 61 = .ok (.newarray .int, 2) := by decide +kernel
theorem dX9_init_63 : decode cX9_init 63 = .ok (.putfield 34, 3) := by decide +kernel
theorem dX9_init_66 : decode cX9_init 66 = .ok (.aload_n 0, 1) := by decide +kernel
theorem dX9_init_67 : decode cX9_init 67 = .ok (.bipush 40, 2) := by decide +kernel
theorem dX9_init_69 : decode cX9_init 69 = .ok (.newarray .int, 2) := by decide +kernel
theorem dX9_init_71 : decode cX9_init 71 = .ok (.putfield 37, 3) := by decide +kernel
theorem dX9_init_74 : decode cX9_init 74 = .ok (.aload_n 0, 1) := by decide +kernel
theorem dX9_init_75 : decode cX9_init 75 = .ok (.bipush 40, 2) := by decide +kernel
theorem dX9_init_77 : decode cX9_init 77 = .ok (.newarray .int, 2) := by decide +kernel
theorem dX9_init_79 : decode cX9_init 79 = .ok (.putfield 40, 3) := by decide +kernel
theorem dX9_init_82 : decode cX9_init 82 = .ok (.aload_n 0, 1) := by decide +kernel
theorem dX9_init_83 : decode cX9_init 83 = .ok (.bipush 40, 2) := by decide +kernel
theorem dX9_init_85 : decode cX9_init 85 = .ok (.newarray .int, 2) := by decide +kernel
theorem dX9_init_87 : decode cX9_init 87 = .ok (.putfield 43, 3) := by decide +kernel
theorem dX9_init_90 : decode cX9_init 90 = .ok (.aload_n 0, 1) := by decide +kernel
theorem dX9_init_91 : decode cX9_init 91 = .ok (.bipush 40, 2) := by decide +kernel
theorem dX9_init_93 : decode cX9_init 93 = .ok (.newarray .int, 2) := by decide +kernel
theorem dX9_init_95 : decode cX9_init 95 = .ok (.putfield 46, 3) := by decide +kernel
theorem dX9_init_98 : decode cX9_init 98 = .ok (.aload_n 0, 1) := by decide +kernel
theorem dX9_init_99 : decode cX9_init 99 = .ok (.bipush 64, 2) := by decide +kernel
theorem dX9_init_101 : decode cX9_init 101 = .ok (.newarray .int, 2) := by decide +kernel
theorem dX9_init_103 : decode cX9_init 103 = .ok (.putfield 49, 3) := by decide +kernel
theorem dX9_init_106 : decode cX9_init 106 = .ok (.aload_n 0, 1) := by decide +kernel
theorem dX9_init_107 : decode cX9_init 107 = .ok (.bipush 60, 2) := by decide +kernel
theorem dX9_init_109 : decode cX9_init 109 = .ok (.newarray .int, 2) := by decide +kernel
theorem dX9_init_111 : decode cX9_init 111 = .ok (.putfield 52, 3) := by decide +kernel
theorem dX9_init_114 : decode cX9_init 114 = .ok (.return_, 1) := by decide +kernel
abbrev Mo_0 : MoT := Mo_mk (0 : Int32) (0 : Int32) (-1 : Int32) (fun _ => 0) (0 : Int32) (0 : Int32) (fun _ => 0) (0 : Int32) (0 : Int32) (0 : Int32) (0 : Int32) (0 : Int32) (0 : Int32) (0 : Int32) (0 : Int64) (fun _ => 0) (fun _ => 0) (fun _ => 0) (fun _ => 0) (fun _ => 0) (fun _ => 0) (fun _ => 0) (fun _ => 0) (fun _ => 0) (0 : Int32) (0 : Int32) (0 : Int32) (0 : Int32) (0 : Int32) (0 : Int32) (0 : Int32) (0 : Int32) (0 : Int32) (fun _ => 0) (0 : Int32) (fun _ => 0)
theorem dfX9 : ∀ j, j < 36 → defaultValue (tyX9 j) = vp_V [.int 0, .int 0, .int 0, .null, .int 0, .int 0, .null, .int 0, .int 0, .int 0, .int 0, .int 0, .int 0, .int 0, .long 0, .null, .null, .null, .null, .null, .null, .null, .null, .null, .int 0, .int 0, .int 0, .int 0, .int 0, .int 0, .int 0, .int 0, .int 0, .null, .int 0, .null] j := by decide
abbrev rm_X9_init : Room := { frames := 1, cells := 13, slots := 21011, locals := 12 }
set_option maxHeartbeats 4000000 in
set_option maxRecDepth 100000 in
theorem c_X9_init (l : Launch) (g : GK) (h0 : Nat) : gM l yX9_init cX9_init 1 none rm_X9_init g [.ref h0] [(h0, .inr (10, [.int 0, .int 0, .int 0, .null, .int 0, .int 0, .null, .int 0, .int 0, .int 0, .int 0, .int 0, .int 0, .int 0, .long 0, .null, .null, .null, .null, .null, .null, .null, .null, .null, .int 0, .int 0, .int 0, .int 0, .int 0, .int 0, .int 0, .int 0, .int 0, .null, .int 0, .null]))] (fun _ : Nat → Nat => none) (fun x => Mo_c g (fun k => if k = 0 then h0 else x k) Mo_0) 13 21011 := by
  refine gM_introV RX9 (by decide) rfl (Nat.le_of_ble_eq_true rfl) (fun p e s m args below meth c Q H locs ls A hE hnm hZ hA hP hD hS hq hl => ?_)
  have hl : lv_has ls 1 [(0, .ref h0)] := hl
  have hx := hE.1
  have hb := hE.2.1
  refine lv_aload_n hx hb dX9_init_0 rfl (lv_at hl 0 rfl) ?_
  refine g_obj hE hl.1 ko_X9_3 (Nat.le_of_ble_eq_true rfl) (Nat.le_of_ble_eq_true rfl) dX9_init_1 ?_
  refine lv_aload_n hx hb dX9_init_4 rfl (lv_at hl 0 rfl) ?_
  refine lv_iconst hx hb dX9_init_5 kci_m1 ?_
  refine g_put hE okX9 fl_X9_9 hP hD hS 0 rfl rfl rfl rfl (Nat.le_of_ble_eq_true rfl) ([(h0, .inr (10, [.int 0, .int 0, .int (-1 : Int32), .null, .int 0, .int 0, .null, .int 0, .int 0, .int 0, .int 0, .int 0, .int 0, .int 0, .long 0, .null, .null, .null, .null, .null, .null, .null, .null, .null, .int 0, .int 0, .int 0, .int 0, .int 0, .int 0, .int 0, .int 0, .int 0, .null, .int 0, .null]))]) rfl dX9_init_6 (fun H locs hP hD hS => ?_)
  refine lv_aload_n hx hb dX9_init_9 rfl (lv_at hl 0 rfl) ?_
  refine lv_sipush hx hb dX9_init_10 kcs_19713 ?_
  refine g_newi hE hP hD hS hA (N := 19713) (by decide) (by decide) (by decide) (Nat.le_of_ble_eq_true rfl) (Nat.le_of_ble_eq_true rfl) dX9_init_13 (fun q13 H hP hD hS => ?_)
  refine g_putF hE hnm okX9 fl_X9_13 hP hD hS 0 rfl rfl rfl rfl rfl (Nat.le_of_ble_eq_true rfl) ([(h0, .inr (10, [.int 0, .int 0, .int (-1 : Int32), .ref q13, .int 0, .int 0, .null, .int 0, .int 0, .int 0, .int 0, .int 0, .int 0, .int 0, .long 0, .null, .null, .null, .null, .null, .null, .null, .null, .null, .int 0, .int 0, .int 0, .int 0, .int 0, .int 0, .int 0, .int 0, .int 0, .null, .int 0, .null]))] ++ [(q13, .inl (g.2.1, 19713, .inl (fun _ => 0)))]) rfl dX9_init_15 (fun H locs hP hD hS => ?_)
  refine lv_aload_n hx hb dX9_init_18 rfl (lv_at hl 0 rfl) ?_
  refine lv_sipush hx hb dX9_init_19 kcs_900 ?_
  refine g_newb hE hP hD hS hA (N := 900) (by decide) (by decide) (by decide) (Nat.le_of_ble_eq_true rfl) (Nat.le_of_ble_eq_true rfl) dX9_init_22 (fun q22 H hP hD hS => ?_)
  refine g_putF hE hnm okX9 fl_X9_17 hP hD hS 0 rfl rfl rfl rfl rfl (Nat.le_of_ble_eq_true rfl) ([(h0, .inr (10, [.int 0, .int 0, .int (-1 : Int32), .ref q13, .int 0, .int 0, .ref q22, .int 0, .int 0, .int 0, .int 0, .int 0, .int 0, .int 0, .long 0, .null, .null, .null, .null, .null, .null, .null, .null, .null, .int 0, .int 0, .int 0, .int 0, .int 0, .int 0, .int 0, .int 0, .int 0, .null, .int 0, .null]))] ++ [(q13, .inl (g.2.1, 19713, .inl (fun _ => 0)))] ++ [(q22, .inl (g.2.2.2.1, 900, .inl (fun _ => 0)))]) rfl dX9_init_24 (fun H locs hP hD hS => ?_)
  refine lv_aload_n hx hb dX9_init_27 rfl (lv_at hl 0 rfl) ?_
  refine lv_bipush hx hb dX9_init_28 kcb_16 ?_
  refine g_newl hE hP hD hS hA (N := 16) (by decide) (by decide) (by decide) (Nat.le_of_ble_eq_true rfl) (Nat.le_of_ble_eq_true rfl) dX9_init_30 (fun q30 H hP hD hS => ?_)
  refine g_putF hE hnm okX9 fl_X9_21 hP hD hS 0 rfl rfl rfl rfl rfl (Nat.le_of_ble_eq_true rfl) ([(h0, .inr (10, [.int 0, .int 0, .int (-1 : Int32), .ref q13, .int 0, .int 0, .ref q22, .int 0, .int 0, .int 0, .int 0, .int 0, .int 0, .int 0, .long 0, .ref q30, .null, .null, .null, .null, .null, .null, .null, .null, .int 0, .int 0, .int 0, .int 0, .int 0, .int 0, .int 0, .int 0, .int 0, .null, .int 0, .null]))] ++ [(q13, .inl (g.2.1, 19713, .inl (fun _ => 0)))] ++ [(q22, .inl (g.2.2.2.1, 900, .inl (fun _ => 0)))] ++ [(q30, .inl (g.2.2.1, 16, .inr (.inl (fun _ => 0))))]) rfl dX9_init_32 (fun H locs hP hD hS => ?_)
  refine lv_aload_n hx hb dX9_init_35 rfl (lv_at hl 0 rfl) ?_
  refine lv_bipush hx hb dX9_init_36 kcb_16 ?_
  refine g_newl hE hP hD hS hA (N := 16) (by decide) (by decide) (by decide) (Nat.le_of_ble_eq_true rfl) (Nat.le_of_ble_eq_true rfl) dX9_init_38 (fun q38 H hP hD hS => ?_)
  refine g_putF hE hnm okX9 fl_X9_25 hP hD hS 0 rfl rfl rfl rfl rfl (Nat.le_of_ble_eq_true rfl) ([(h0, .inr (10, [.int 0, .int 0, .int (-1 : Int32), .ref q13, .int 0, .int 0, .ref q22, .int 0, .int 0, .int 0, .int 0, .int 0, .int 0, .int 0, .long 0, .ref q30, .ref q38, .null, .null, .null, .null, .null, .null, .null, .int 0, .int 0, .int 0, .int 0, .int 0, .int 0, .int 0, .int 0, .int 0, .null, .int 0, .null]))] ++ [(q13, .inl (g.2.1, 19713, .inl (fun _ => 0)))] ++ [(q22, .inl (g.2.2.2.1, 900, .inl (fun _ => 0)))] ++ [(q30, .inl (g.2.2.1, 16, .inr (.inl (fun _ => 0))))] ++ [(q38, .inl (g.2.2.1, 16, .inr (.inl (fun _ => 0))))]) rfl dX9_init_40 (fun H locs hP hD hS => ?_)
  refine lv_aload_n hx hb dX9_init_43 rfl (lv_at hl 0 rfl) ?_
  refine lv_iconst hx hb dX9_init_44 kci_2 ?_
  refine g_newi hE hP hD hS hA (N := 2) (by decide) (by decide) (by decide) (Nat.le_of_ble_eq_true rfl) (Nat.le_of_ble_eq_true rfl) dX9_init_45 (fun q45 H hP hD hS => ?_)
  refine g_putF hE hnm okX9 fl_X9_28 hP hD hS 0 rfl rfl rfl rfl rfl (Nat.le_of_ble_eq_true rfl) ([(h0, .inr (10, [.int 0, .int 0, .int (-1 : Int32), .ref q13, .int 0, .int 0, .ref q22, .int 0, .int 0, .int 0, .int 0, .int 0, .int 0, .int 0, .long 0, .ref q30, .ref q38, .ref q45, .null, .null, .null, .null, .null, .null, .int 0, .int 0, .int 0, .int 0, .int 0, .int 0, .int 0, .int 0, .int 0, .null, .int 0, .null]))] ++ [(q13, .inl (g.2.1, 19713, .inl (fun _ => 0)))] ++ [(q22, .inl (g.2.2.2.1, 900, .inl (fun _ => 0)))] ++ [(q30, .inl (g.2.2.1, 16, .inr (.inl (fun _ => 0))))] ++ [(q38, .inl (g.2.2.1, 16, .inr (.inl (fun _ => 0))))] ++ [(q45, .inl (g.2.1, 2, .inl (fun _ => 0)))]) rfl dX9_init_47 (fun H locs hP hD hS => ?_)
  refine lv_aload_n hx hb dX9_init_50 rfl (lv_at hl 0 rfl) ?_
  refine lv_bipush hx hb dX9_init_51 kcb_40 ?_
  refine g_newi hE hP hD hS hA (N := 40) (by decide) (by decide) (by decide) (Nat.le_of_ble_eq_true rfl) (Nat.le_of_ble_eq_true rfl) dX9_init_53 (fun q53 H hP hD hS => ?_)
  refine g_putF hE hnm okX9 fl_X9_31 hP hD hS 0 rfl rfl rfl rfl rfl (Nat.le_of_ble_eq_true rfl) ([(h0, .inr (10, [.int 0, .int 0, .int (-1 : Int32), .ref q13, .int 0, .int 0, .ref q22, .int 0, .int 0, .int 0, .int 0, .int 0, .int 0, .int 0, .long 0, .ref q30, .ref q38, .ref q45, .ref q53, .null, .null, .null, .null, .null, .int 0, .int 0, .int 0, .int 0, .int 0, .int 0, .int 0, .int 0, .int 0, .null, .int 0, .null]))] ++ [(q13, .inl (g.2.1, 19713, .inl (fun _ => 0)))] ++ [(q22, .inl (g.2.2.2.1, 900, .inl (fun _ => 0)))] ++ [(q30, .inl (g.2.2.1, 16, .inr (.inl (fun _ => 0))))] ++ [(q38, .inl (g.2.2.1, 16, .inr (.inl (fun _ => 0))))] ++ [(q45, .inl (g.2.1, 2, .inl (fun _ => 0)))] ++ [(q53, .inl (g.2.1, 40, .inl (fun _ => 0)))]) rfl dX9_init_55 (fun H locs hP hD hS => ?_)
  refine lv_aload_n hx hb dX9_init_58 rfl (lv_at hl 0 rfl) ?_
  refine lv_bipush hx hb dX9_init_59 kcb_40 ?_
  refine g_newi hE hP hD hS hA (N := 40) (by decide) (by decide) (by decide) (Nat.le_of_ble_eq_true rfl) (Nat.le_of_ble_eq_true rfl) dX9_init_61 (fun q61 H hP hD hS => ?_)
  refine g_putF hE hnm okX9 fl_X9_34 hP hD hS 0 rfl rfl rfl rfl rfl (Nat.le_of_ble_eq_true rfl) ([(h0, .inr (10, [.int 0, .int 0, .int (-1 : Int32), .ref q13, .int 0, .int 0, .ref q22, .int 0, .int 0, .int 0, .int 0, .int 0, .int 0, .int 0, .long 0, .ref q30, .ref q38, .ref q45, .ref q53, .ref q61, .null, .null, .null, .null, .int 0, .int 0, .int 0, .int 0, .int 0, .int 0, .int 0, .int 0, .int 0, .null, .int 0, .null]))] ++ [(q13, .inl (g.2.1, 19713, .inl (fun _ => 0)))] ++ [(q22, .inl (g.2.2.2.1, 900, .inl (fun _ => 0)))] ++ [(q30, .inl (g.2.2.1, 16, .inr (.inl (fun _ => 0))))] ++ [(q38, .inl (g.2.2.1, 16, .inr (.inl (fun _ => 0))))] ++ [(q45, .inl (g.2.1, 2, .inl (fun _ => 0)))] ++ [(q53, .inl (g.2.1, 40, .inl (fun _ => 0)))] ++ [(q61, .inl (g.2.1, 40, .inl (fun _ => 0)))]) rfl dX9_init_63 (fun H locs hP hD hS => ?_)
  refine lv_aload_n hx hb dX9_init_66 rfl (lv_at hl 0 rfl) ?_
  refine lv_bipush hx hb dX9_init_67 kcb_40 ?_
  refine g_newi hE hP hD hS hA (N := 40) (by decide) (by decide) (by decide) (Nat.le_of_ble_eq_true rfl) (Nat.le_of_ble_eq_true rfl) dX9_init_69 (fun q69 H hP hD hS => ?_)
  refine g_putF hE hnm okX9 fl_X9_37 hP hD hS 0 rfl rfl rfl rfl rfl (Nat.le_of_ble_eq_true rfl) ([(h0, .inr (10, [.int 0, .int 0, .int (-1 : Int32), .ref q13, .int 0, .int 0, .ref q22, .int 0, .int 0, .int 0, .int 0, .int 0, .int 0, .int 0, .long 0, .ref q30, .ref q38, .ref q45, .ref q53, .ref q61, .ref q69, .null, .null, .null, .int 0, .int 0, .int 0, .int 0, .int 0, .int 0, .int 0, .int 0, .int 0, .null, .int 0, .null]))] ++ [(q13, .inl (g.2.1, 19713, .inl (fun _ => 0)))] ++ [(q22, .inl (g.2.2.2.1, 900, .inl (fun _ => 0)))] ++ [(q30, .inl (g.2.2.1, 16, .inr (.inl (fun _ => 0))))] ++ [(q38, .inl (g.2.2.1, 16, .inr (.inl (fun _ => 0))))] ++ [(q45, .inl (g.2.1, 2, .inl (fun _ => 0)))] ++ [(q53, .inl (g.2.1, 40, .inl (fun _ => 0)))] ++ [(q61, .inl (g.2.1, 40, .inl (fun _ => 0)))] ++ [(q69, .inl (g.2.1, 40, .inl (fun _ => 0)))]) rfl dX9_init_71 (fun H locs hP hD hS => ?_)
  refine lv_aload_n hx hb dX9_init_74 rfl (lv_at hl 0 rfl) ?_
  refine lv_bipush hx hb dX9_init_75 kcb_40 ?_
  refine g_newi hE hP hD hS hA (N := 40) (by decide) (by decide) (by decide) (Nat.le_of_ble_eq_true rfl) (Nat.le_of_ble_eq_true rfl) dX9_init_77 (fun q77 H hP hD hS => ?_)
  refine g_putF hE hnm okX9 fl_X9_40 hP hD hS 0 rfl rfl rfl rfl rfl (Nat.le_of_ble_eq_true rfl) ([(h0, .inr (10, [.int 0, .int 0, .int (-1 : Int32), .ref q13, .int 0, .int 0, .ref q22, .int 0, .int 0, .int 0, .int 0, .int 0, .int 0, .int 0, .long 0, .ref q30, .ref q38, .ref q45, .ref q53, .ref q61, .ref q69, .ref q77, .null, .null, .int 0, .int 0, .int 0, .int 0, .int 0, .int 0, .int 0, .int 0, .int 0, .null, .int 0, .null]))] ++ [(q13, .inl (g.2.1, 19713, .inl (fun _ => 0)))] ++ [(q22, .inl (g.2.2.2.1, 900, .inl (fun _ => 0)))] ++ [(q30, .inl (g.2.2.1, 16, .inr (.inl (fun _ => 0))))] ++ [(q38, .inl (g.2.2.1, 16, .inr (.inl (fun _ => 0))))] ++ [(q45, .inl (g.2.1, 2, .inl (fun _ => 0)))] ++ [(q53, .inl (g.2.1, 40, .inl (fun _ => 0)))] ++ [(q61, .inl (g.2.1, 40, .inl (fun _ => 0)))] ++ [(q69, .inl (g.2.1, 40, .inl (fun _ => 0)))] ++ [(q77, .inl (g.2.1, 40, .inl (fun _ => 0)))]) rfl dX9_init_79 (fun H locs hP hD hS => ?_)
  refine lv_aload_n hx hb dX9_init_82 rfl (lv_at hl 0 rfl) ?_
  refine lv_bipush hx hb dX9_init_83 kcb_40 ?_
  refine g_newi hE hP hD hS hA (N := 40) (by decide) (by decide) (by decide) (Nat.le_of_ble_eq_true rfl) (Nat.le_of_ble_eq_true rfl) dX9_init_85 (fun q85 H hP hD hS => ?_)
  refine g_putF hE hnm okX9 fl_X9_43 hP hD hS 0 rfl rfl rfl rfl rfl (Nat.le_of_ble_eq_true rfl) ([(h0, .inr (10, [.int 0, .int 0, .int (-1 : Int32), .ref q13, .int 0, .int 0, .ref q22, .int 0, .int 0, .int 0, .int 0, .int 0, .int 0, .int 0, .long 0, .ref q30, .ref q38, .ref q45, .ref q53, .ref q61, .ref q69, .ref q77, .ref q85, .null, .int 0, .int 0, .int 0, .int 0, .int 0, .int 0, .int 0, .int 0, .int 0, .null, .int 0, .null]))] ++ [(q13, .inl (g.2.1, 19713, .inl (fun _ => 0)))] ++ [(q22, .inl (g.2.2.2.1, 900, .inl (fun _ => 0)))] ++ [(q30, .inl (g.2.2.1, 16, .inr (.inl (fun _ => 0))))] ++ [(q38, .inl (g.2.2.1, 16, .inr (.inl (fun _ => 0))))] ++ [(q45, .inl (g.2.1, 2, .inl (fun _ => 0)))] ++ [(q53, .inl (g.2.1, 40, .inl (fun _ => 0)))] ++ [(q61, .inl (g.2.1, 40, .inl (fun _ => 0)))] ++ [(q69, .inl (g.2.1, 40, .inl (fun _ => 0)))] ++ [(q77, .inl (g.2.1, 40, .inl (fun _ => 0)))] ++ [(q85, .inl (g.2.1, 40, .inl (fun _ => 0)))]) rfl dX9_init_87 (fun H locs hP hD hS => ?_)
  refine lv_aload_n hx hb dX9_init_90 rfl (lv_at hl 0 rfl) ?_
  refine lv_bipush hx hb dX9_init_91 kcb_40 ?_
  refine g_newi hE hP hD hS hA (N := 40) (by decide) (by decide) (by decide) (Nat.le_of_ble_eq_true rfl) (Nat.le_of_ble_eq_true rfl) dX9_init_93 (fun q93 H hP hD hS => ?_)
  refine g_putF hE hnm okX9 fl_X9_46 hP hD hS 0 rfl rfl rfl rfl rfl (Nat.le_of_ble_eq_true rfl) ([(h0, .inr (10, [.int 0, .int 0, .int (-1 : Int32), .ref q13, .int 0, .int 0, .ref q22, .int 0, .int 0, .int 0, .int 0, .int 0, .int 0, .int 0, .long 0, .ref q30, .ref q38, .ref q45, .ref q53, .ref q61, .ref q69, .ref q77, .ref q85, .ref q93, .int 0, .int 0, .int 0, .int 0, .int 0, .int 0, .int 0, .int 0, .int 0, .null, .int 0, .null]))] ++ [(q13, .inl (g.2.1, 19713, .inl (fun _ => 0)))] ++ [(q22, .inl (g.2.2.2.1, 900, .inl (fun _ => 0)))] ++ [(q30, .inl (g.2.2.1, 16, .inr (.inl (fun _ => 0))))] ++ [(q38, .inl (g.2.2.1, 16, .inr (.inl (fun _ => 0))))] ++ [(q45, .inl (g.2.1, 2, .inl (fun _ => 0)))] ++ [(q53, .inl (g.2.1, 40, .inl (fun _ => 0)))] ++ [(q61, .inl (g.2.1, 40, .inl (fun _ => 0)))] ++ [(q69, .inl (g.2.1, 40, .inl (fun _ => 0)))] ++ [(q77, .inl (g.2.1, 40, .inl (fun _ => 0)))] ++ [(q85, .inl (g.2.1, 40, .inl (fun _ => 0)))] ++ [(q93, .inl (g.2.1, 40, .inl (fun _ => 0)))]) rfl dX9_init_95 (fun H locs hP hD hS => ?_)
  refine lv_aload_n hx hb dX9_init_98 rfl (lv_at hl 0 rfl) ?_
  refine lv_bipush hx hb dX9_init_99 kcb_64 ?_
  refine g_newi hE hP hD hS hA (N := 64) (by decide) (by decide) (by decide) (Nat.le_of_ble_eq_true rfl) (Nat.le_of_ble_eq_true rfl) dX9_init_101 (fun q101 H hP hD hS => ?_)
  refine g_putF hE hnm okX9 fl_X9_49 hP hD hS 0 rfl rfl rfl rfl rfl (Nat.le_of_ble_eq_true rfl) ([(h0, .inr (10, [.int 0, .int 0, .int (-1 : Int32), .ref q13, .int 0, .int 0, .ref q22, .int 0, .int 0, .int 0, .int 0, .int 0, .int 0, .int 0, .long 0, .ref q30, .ref q38, .ref q45, .ref q53, .ref q61, .ref q69, .ref q77, .ref q85, .ref q93, .int 0, .int 0, .int 0, .int 0, .int 0, .int 0, .int 0, .int 0, .int 0, .ref q101, .int 0, .null]))] ++ [(q13, .inl (g.2.1, 19713, .inl (fun _ => 0)))] ++ [(q22, .inl (g.2.2.2.1, 900, .inl (fun _ => 0)))] ++ [(q30, .inl (g.2.2.1, 16, .inr (.inl (fun _ => 0))))] ++ [(q38, .inl (g.2.2.1, 16, .inr (.inl (fun _ => 0))))] ++ [(q45, .inl (g.2.1, 2, .inl (fun _ => 0)))] ++ [(q53, .inl (g.2.1, 40, .inl (fun _ => 0)))] ++ [(q61, .inl (g.2.1, 40, .inl (fun _ => 0)))] ++ [(q69, .inl (g.2.1, 40, .inl (fun _ => 0)))] ++ [(q77, .inl (g.2.1, 40, .inl (fun _ => 0)))] ++ [(q85, .inl (g.2.1, 40, .inl (fun _ => 0)))] ++ [(q93, .inl (g.2.1, 40, .inl (fun _ => 0)))] ++ [(q101, .inl (g.2.1, 64, .inl (fun _ => 0)))]) rfl dX9_init_103 (fun H locs hP hD hS => ?_)
  refine lv_aload_n hx hb dX9_init_106 rfl (lv_at hl 0 rfl) ?_
  refine lv_bipush hx hb dX9_init_107 kcb_60 ?_
  refine g_newi hE hP hD hS hA (N := 60) (by decide) (by decide) (by decide) (Nat.le_of_ble_eq_true rfl) (Nat.le_of_ble_eq_true rfl) dX9_init_109 (fun q109 H hP hD hS => ?_)
  refine g_putF hE hnm okX9 fl_X9_52 hP hD hS 0 rfl rfl rfl rfl rfl (Nat.le_of_ble_eq_true rfl) ([(h0, .inr (10, [.int 0, .int 0, .int (-1 : Int32), .ref q13, .int 0, .int 0, .ref q22, .int 0, .int 0, .int 0, .int 0, .int 0, .int 0, .int 0, .long 0, .ref q30, .ref q38, .ref q45, .ref q53, .ref q61, .ref q69, .ref q77, .ref q85, .ref q93, .int 0, .int 0, .int 0, .int 0, .int 0, .int 0, .int 0, .int 0, .int 0, .ref q101, .int 0, .ref q109]))] ++ [(q13, .inl (g.2.1, 19713, .inl (fun _ => 0)))] ++ [(q22, .inl (g.2.2.2.1, 900, .inl (fun _ => 0)))] ++ [(q30, .inl (g.2.2.1, 16, .inr (.inl (fun _ => 0))))] ++ [(q38, .inl (g.2.2.1, 16, .inr (.inl (fun _ => 0))))] ++ [(q45, .inl (g.2.1, 2, .inl (fun _ => 0)))] ++ [(q53, .inl (g.2.1, 40, .inl (fun _ => 0)))] ++ [(q61, .inl (g.2.1, 40, .inl (fun _ => 0)))] ++ [(q69, .inl (g.2.1, 40, .inl (fun _ => 0)))] ++ [(q77, .inl (g.2.1, 40, .inl (fun _ => 0)))] ++ [(q85, .inl (g.2.1, 40, .inl (fun _ => 0)))] ++ [(q93, .inl (g.2.1, 40, .inl (fun _ => 0)))] ++ [(q101, .inl (g.2.1, 64, .inl (fun _ => 0)))] ++ [(q109, .inl (g.2.1, 60, .inl (fun _ => 0)))]) rfl dX9_init_111 (fun H locs hP hD hS => ?_)
  refine W.widen (k := 13) (n := 21011) (Nat.le_of_ble_eq_true rfl) (Nat.le_of_ble_eq_true rfl) ?_
  exact hq (fun k => if k = 1 then q13 else if k = 2 then q22 else if k = 3 then q30 else if k = 4 then q38 else if k = 5 then q45 else if k = 6 then q53 else if k = 7 then q61 else if k = 8 then q69 else if k = 9 then q77 else if k = 10 then q85 else if k = 11 then q93 else if k = 12 then q101 else if k = 13 then q109 else 0) rfl hP hD hS dX9_init_114
