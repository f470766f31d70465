abbrev RdT : Type := TpT × WdT × WdT × (Nat → Int32) × Int32 × Int32 × Int32 × Int32 × Int32 × Int32 × Int32 × Int32
abbrev Rd_tape (s : RdT) : TpT := s.1
abbrev Rd_keys (s : RdT) : WdT := s.2.1
abbrev Rd_values (s : RdT) : WdT := s.2.2.1
abbrev Rd_lines (s : RdT) : (Nat → Int32) := s.2.2.2.1
abbrev Rd_count (s : RdT) : Int32 := s.2.2.2.2.1
abbrev Rd_hasDesk (s : RdT) : Int32 := s.2.2.2.2.2.1
abbrev Rd_how (s : RdT) : Int32 := s.2.2.2.2.2.2.1
abbrev Rd_keep (s : RdT) : Int32 := s.2.2.2.2.2.2.2.1
abbrev Rd_late (s : RdT) : Int32 := s.2.2.2.2.2.2.2.2.1
abbrev Rd_number (s : RdT) : Int32 := s.2.2.2.2.2.2.2.2.2.1
abbrev Rd_fault (s : RdT) : Int32 := s.2.2.2.2.2.2.2.2.2.2.1
abbrev Rd_place (s : RdT) : Int32 := s.2.2.2.2.2.2.2.2.2.2.2
abbrev Rd_mk (x0 : TpT) (x1 : WdT) (x2 : WdT) (x3 : (Nat → Int32)) (x4 : Int32) (x5 : Int32) (x6 : Int32) (x7 : Int32) (x8 : Int32) (x9 : Int32) (x10 : Int32) (x11 : Int32) : RdT := (x0, x1, x2, x3, x4, x5, x6, x7, x8, x9, x10, x11)
abbrev Rd_w_tape (s : RdT) (v : TpT) : RdT := (v, s.2.1, s.2.2.1, s.2.2.2.1, s.2.2.2.2.1, s.2.2.2.2.2.1, s.2.2.2.2.2.2.1, s.2.2.2.2.2.2.2.1, s.2.2.2.2.2.2.2.2.1, s.2.2.2.2.2.2.2.2.2.1, s.2.2.2.2.2.2.2.2.2.2.1, s.2.2.2.2.2.2.2.2.2.2.2)
abbrev Rd_w_keys (s : RdT) (v : WdT) : RdT := (s.1, v, s.2.2.1, s.2.2.2.1, s.2.2.2.2.1, s.2.2.2.2.2.1, s.2.2.2.2.2.2.1, s.2.2.2.2.2.2.2.1, s.2.2.2.2.2.2.2.2.1, s.2.2.2.2.2.2.2.2.2.1, s.2.2.2.2.2.2.2.2.2.2.1, s.2.2.2.2.2.2.2.2.2.2.2)
abbrev Rd_w_values (s : RdT) (v : WdT) : RdT := (s.1, s.2.1, v, s.2.2.2.1, s.2.2.2.2.1, s.2.2.2.2.2.1, s.2.2.2.2.2.2.1, s.2.2.2.2.2.2.2.1, s.2.2.2.2.2.2.2.2.1, s.2.2.2.2.2.2.2.2.2.1, s.2.2.2.2.2.2.2.2.2.2.1, s.2.2.2.2.2.2.2.2.2.2.2)
abbrev Rd_w_lines (s : RdT) (v : (Nat → Int32)) : RdT := (s.1, s.2.1, s.2.2.1, v, s.2.2.2.2.1, s.2.2.2.2.2.1, s.2.2.2.2.2.2.1, s.2.2.2.2.2.2.2.1, s.2.2.2.2.2.2.2.2.1, s.2.2.2.2.2.2.2.2.2.1, s.2.2.2.2.2.2.2.2.2.2.1, s.2.2.2.2.2.2.2.2.2.2.2)
abbrev Rd_w_count (s : RdT) (v : Int32) : RdT := (s.1, s.2.1, s.2.2.1, s.2.2.2.1, v, s.2.2.2.2.2.1, s.2.2.2.2.2.2.1, s.2.2.2.2.2.2.2.1, s.2.2.2.2.2.2.2.2.1, s.2.2.2.2.2.2.2.2.2.1, s.2.2.2.2.2.2.2.2.2.2.1, s.2.2.2.2.2.2.2.2.2.2.2)
abbrev Rd_w_hasDesk (s : RdT) (v : Int32) : RdT := (s.1, s.2.1, s.2.2.1, s.2.2.2.1, s.2.2.2.2.1, v, s.2.2.2.2.2.2.1, s.2.2.2.2.2.2.2.1, s.2.2.2.2.2.2.2.2.1, s.2.2.2.2.2.2.2.2.2.1, s.2.2.2.2.2.2.2.2.2.2.1, s.2.2.2.2.2.2.2.2.2.2.2)
abbrev Rd_w_how (s : RdT) (v : Int32) : RdT := (s.1, s.2.1, s.2.2.1, s.2.2.2.1, s.2.2.2.2.1, s.2.2.2.2.2.1, v, s.2.2.2.2.2.2.2.1, s.2.2.2.2.2.2.2.2.1, s.2.2.2.2.2.2.2.2.2.1, s.2.2.2.2.2.2.2.2.2.2.1, s.2.2.2.2.2.2.2.2.2.2.2)
abbrev Rd_w_keep (s : RdT) (v : Int32) : RdT := (s.1, s.2.1, s.2.2.1, s.2.2.2.1, s.2.2.2.2.1, s.2.2.2.2.2.1, s.2.2.2.2.2.2.1, v, s.2.2.2.2.2.2.2.2.1, s.2.2.2.2.2.2.2.2.2.1, s.2.2.2.2.2.2.2.2.2.2.1, s.2.2.2.2.2.2.2.2.2.2.2)
abbrev Rd_w_late (s : RdT) (v : Int32) : RdT := (s.1, s.2.1, s.2.2.1, s.2.2.2.1, s.2.2.2.2.1, s.2.2.2.2.2.1, s.2.2.2.2.2.2.1, s.2.2.2.2.2.2.2.1, v, s.2.2.2.2.2.2.2.2.2.1, s.2.2.2.2.2.2.2.2.2.2.1, s.2.2.2.2.2.2.2.2.2.2.2)
abbrev Rd_w_number (s : RdT) (v : Int32) : RdT := (s.1, s.2.1, s.2.2.1, s.2.2.2.1, s.2.2.2.2.1, s.2.2.2.2.2.1, s.2.2.2.2.2.2.1, s.2.2.2.2.2.2.2.1, s.2.2.2.2.2.2.2.2.1, v, s.2.2.2.2.2.2.2.2.2.2.1, s.2.2.2.2.2.2.2.2.2.2.2)
abbrev Rd_w_fault (s : RdT) (v : Int32) : RdT := (s.1, s.2.1, s.2.2.1, s.2.2.2.1, s.2.2.2.2.1, s.2.2.2.2.2.1, s.2.2.2.2.2.2.1, s.2.2.2.2.2.2.2.1, s.2.2.2.2.2.2.2.2.1, s.2.2.2.2.2.2.2.2.2.1, v, s.2.2.2.2.2.2.2.2.2.2.2)
abbrev Rd_w_place (s : RdT) (v : Int32) : RdT := (s.1, s.2.1, s.2.2.1, s.2.2.2.1, s.2.2.2.2.1, s.2.2.2.2.2.1, s.2.2.2.2.2.2.1, s.2.2.2.2.2.2.2.1, s.2.2.2.2.2.2.2.2.1, s.2.2.2.2.2.2.2.2.2.1, s.2.2.2.2.2.2.2.2.2.2.1, v)
abbrev Rd_c (g : GK) (a : Nat → Nat) (s : RdT) : va_W := [(a 0, .inr (4, [.ref (a 1), .ref (a 3), .ref (a 5), .ref (a 7), .int (Rd_count s), .int (Rd_hasDesk s), .int (Rd_how s), .int (Rd_keep s), .int (Rd_late s), .int (Rd_number s), .int (Rd_fault s), .int (Rd_place s)])), (a 1, .inr (7, [.ref (a 2), .int (Tp_length (Rd_tape s)), .int (Tp_end (Rd_tape s)), .int (Tp_at (Rd_tape s)), .int (Tp_kind (Rd_tape s)), .int (Tp_start (Rd_tape s)), .long (Tp_word (Rd_tape s)), .int (Tp_whole (Rd_tape s))])), (a 2, .inl (g.2.2.2.1, 900, .inl (Tp_bytes (Rd_tape s)))), (a 3, .inr (8, [.ref (a 4), .int (Wd_count (Rd_keys s))])), (a 4, .inl (g.2.2.1, 8, .inr (.inl (Wd_packs (Rd_keys s))))), (a 5, .inr (8, [.ref (a 6), .int (Wd_count (Rd_values s))])), (a 6, .inl (g.2.2.1, 8, .inr (.inl (Wd_packs (Rd_values s))))), (a 7, .inl (g.2.1, 200, .inl (Rd_lines s)))]
theorem kcb_40 : (Int8.ofInt (40)).toInt32 = (40 : Int32) := by decide
theorem kcs_999 : (Int16.ofInt (999)).toInt32 = (999 : Int32) := by decide
theorem kd_X3_110 : Cond.constantLong RX3 110 (1885693291 : Int64) ∈ TBL := tb (in2 (List.mem_of_getElem? (i := 85) (by decide +kernel))) (by decide +kernel)
theorem kd_X3_119 : Cond.constantLong RX3 119 (1702125932 : Int64) ∈ TBL := tb (in2 (List.mem_of_getElem? (i := 94) (by decide +kernel))) (by decide +kernel)
theorem kd_X3_132 : Cond.constantLong RX3 132 (31074 : Int64) ∈ TBL := tb (in2 (List.mem_of_getElem? (i := 122) (by decide +kernel))) (by decide +kernel)
theorem kd_X3_134 : Cond.constantLong RX3 134 (29793 : Int64) ∈ TBL := tb (in2 (List.mem_of_getElem? (i := 123) (by decide +kernel))) (by decide +kernel)
theorem kd_X3_139 : Cond.constantLong RX3 139 (1952867692 : Int64) ∈ TBL := tb (in2 (List.mem_of_getElem? (i := 82) (by decide +kernel))) (by decide +kernel)
theorem kd_X3_141 : Cond.constantLong RX3 141 (499967814002 : Int64) ∈ TBL := tb (in2 (List.mem_of_getElem? (i := 83) (by decide +kernel))) (by decide +kernel)
theorem kd_X3_143 : Cond.constantLong RX3 143 (491328007785 : Int64) ∈ TBL := tb (in2 (List.mem_of_getElem? (i := 81) (by decide +kernel))) (by decide +kernel)
theorem kd_X3_145 : Cond.constantLong RX3 145 (1819047270 : Int64) ∈ TBL := tb (in2 (List.mem_of_getElem? (i := 84) (by decide +kernel))) (by decide +kernel)
theorem kd_X3_86 : Cond.constantLong RX3 86 (1802724708 : Int64) ∈ TBL := tb (in2 (List.mem_of_getElem? (i := 63) (by decide +kernel))) (by decide +kernel)
theorem kd_X3_95 : Cond.constantLong RX3 95 (7632240 : Int64) ∈ TBL := tb (in2 (List.mem_of_getElem? (i := 95) (by decide +kernel))) (by decide +kernel)
theorem kd_X3_97 : Cond.constantLong RX3 97 (1801677172 : Int64) ∈ TBL := tb (in2 (List.mem_of_getElem? (i := 96) (by decide +kernel))) (by decide +kernel)
theorem kd_X3_99 : Cond.constantLong RX3 99 (1801675106 : Int64) ∈ TBL := tb (in2 (List.mem_of_getElem? (i := 97) (by decide +kernel))) (by decide +kernel)
theorem dX3_expectDesk_0 : decode cX3_expectDesk 0 = .ok (.aload_n 0, 1) := by decide +kernel
theorem dX3_expectDesk_1 : decode cX3_expectDesk 1 = .ok (.getfield 21, 3) := by decide +kernel
theorem dX3_expectDesk_4 : decode cX3_expectDesk 4 = .ok (.invokevirtual 58, 3) := by decide +kernel
theorem dX3_expectDesk_7 : decode cX3_expectDesk 7 = .ok (.aload_n 0, 1) := by decide +kernel
theorem dX3_expectDesk_8 : decode cX3_expectDesk 8 = .ok (.getfield 25, 3) := by decide +kernel
theorem dX3_expectDesk_11 : decode cX3_expectDesk 11 = .ok (.invokevirtual 58, 3) := by decide +kernel
theorem dX3_expectDesk_14 : decode cX3_expectDesk 14 = .ok (.aload_n 0, 1) := by decide +kernel
theorem dX3_expectDesk_15 : decode cX3_expectDesk 15 = .ok (.iconst 0, 1) := by decide +kernel
theorem dX3_expectDesk_16 : decode cX3_expectDesk 16 = .ok (.putfield 36, 3) := by decide +kernel
theorem dX3_expectDesk_19 : decode cX3_expectDesk 19 = .ok (.return_, 1) := by decide +kernel
def f_X3_expectDesk (s0 : RdT) : Option (RdT) :=
  (f_X7_clear (Rd_keys s0)).bind fun r1 =>
  (f_X7_clear (Rd_values s0)).bind fun r3 =>
  some ((Rd_w_hasDesk (Rd_w_values (Rd_w_keys s0 r1) r3) (0 : Int32)))
abbrev rm_X3_expectDesk : Room := { frames := 1, cells := 0, slots := 0, locals := 20 }
set_option maxHeartbeats 4000000 in
set_option maxRecDepth 100000 in
theorem c_X3_expectDesk (l : Launch) (g : GK) (a0 : Nat → Nat) (s0 : RdT) (res : (RdT)) (hf : f_X3_expectDesk s0 = some res) : gM l yX3_expectDesk cX3_expectDesk 1 none rm_X3_expectDesk g [.ref (a0 0)] (Rd_c g a0 s0) (fun _ : Unit => none) (fun _ => (Rd_c g a0 res)) 0 0 := by
  refine gM_introV RX3 (by decide) rfl (Nat.le_of_ble_eq_true rfl) (fun p e s m args below meth c Q H locs ls A hE hnm hZ hA hP hD hS hq hl => ?_)
  have hl : lv_has ls 1 [(0, .ref (a0 0))] := hl
  have hx := hE.1
  have hb := hE.2.1
  rw [f_X3_expectDesk] at hf
  refine lv_aload_n hx hb dX3_expectDesk_0 rfl (lv_at hl 0 rfl) ?_
  refine g_get hE okX3 fl_X3_21 hP 0 rfl (v := .ref (a0 3)) rfl dX3_expectDesk_1 ?_
  obtain ⟨r1, hc2, hf⟩ := gbd hf
  refine gm_callV1 (As := []) (rest := []) (st1 := fun _ => []) (ws' := fun _ => (Rd_c g a0 (Rd_w_keys s0 r1))) hE hl.1 ml_X3_58 (c_X7_clear l g (fun k => a0 (k + 3)) (Rd_keys s0) r1 hc2) hZ hP hD hS hA 3 5 rfl (fun _ => rfl) okX7 rfl rfl rfl (fun _ => rfl) ⟨rfl, rfl⟩ ⟨Nat.le_of_ble_eq_true rfl, Nat.le_of_ble_eq_true rfl⟩ ⟨Nat.le_refl _, Nat.le_refl _⟩ (Nat.le_of_ble_eq_true rfl) dX3_expectDesk_4 (fun _ H locs hP hD hS => ?_)
  refine lv_aload_n hx hb dX3_expectDesk_7 rfl (lv_at hl 0 rfl) ?_
  refine g_get hE okX3 fl_X3_25 hP 0 rfl (v := .ref (a0 5)) rfl dX3_expectDesk_8 ?_
  obtain ⟨r3, hc4, hf⟩ := gbd hf
  refine gm_callV1 (As := []) (rest := []) (st1 := fun _ => []) (ws' := fun _ => (Rd_c g a0 (Rd_w_values (Rd_w_keys s0 r1) r3))) hE hl.1 ml_X3_58 (c_X7_clear l g (fun k => a0 (k + 5)) (Rd_values s0) r3 hc4) hZ hP hD hS hA 5 7 rfl (fun _ => rfl) okX7 rfl rfl rfl (fun _ => rfl) ⟨rfl, rfl⟩ ⟨Nat.le_of_ble_eq_true rfl, Nat.le_of_ble_eq_true rfl⟩ ⟨Nat.le_refl _, Nat.le_refl _⟩ (Nat.le_of_ble_eq_true rfl) dX3_expectDesk_11 (fun _ H locs hP hD hS => ?_)
  refine lv_aload_n hx hb dX3_expectDesk_14 rfl (lv_at hl 0 rfl) ?_
  refine lv_iconst hx hb dX3_expectDesk_15 kci_0 ?_
  refine g_put hE okX3 fl_X3_36 hP hD hS 0 rfl rfl rfl rfl (Nat.le_of_ble_eq_true rfl) (Rd_c g a0 (Rd_w_hasDesk (Rd_w_values (Rd_w_keys s0 r1) r3) (0 : Int32))) rfl dX3_expectDesk_16 (fun H locs hP hD hS => ?_)
  cases hf
  exact hq () rfl hP hD hS dX3_expectDesk_19
theorem dX3_expectMore_0 : decode cX3_expectMore 0 = .ok (.aload_n 0, 1) := by decide +kernel
theorem dX3_expectMore_1 : decode cX3_expectMore 1 = .ok (.getfield 21, 3) := by decide +kernel
theorem dX3_expectMore_4 : decode cX3_expectMore 4 = .ok (.aload_n 1, 1) := by decide +kernel
theorem dX3_expectMore_5 : decode cX3_expectMore 5 = .ok (.invokevirtual 61, 3) := by decide +kernel
theorem dX3_expectMore_8 : decode cX3_expectMore 8 = .ok (.aload_n 0, 1) := by decide +kernel
theorem dX3_expectMore_9 : decode cX3_expectMore 9 = .ok (.getfield 25, 3) := by decide +kernel
theorem dX3_expectMore_12 : decode cX3_expectMore 12 = .ok (.aload_n 2, 1) := by decide +kernel
theorem dX3_expectMore_13 : decode cX3_expectMore 13 = .ok (.invokevirtual 61, 3) := by decide +kernel
theorem dX3_expectMore_16 : decode cX3_expectMore 16 = .ok (.aload_n 0, 1) := by decide +kernel
theorem dX3_expectMore_17 : decode cX3_expectMore 17 = .ok (.iconst 1, 1) := by decide +kernel
theorem dX3_expectMore_18 : decode cX3_expectMore 18 = .ok (.putfield 36, 3) := by decide +kernel
theorem dX3_expectMore_21 : decode cX3_expectMore 21 = .ok (.return_, 1) := by decide +kernel
def f_X3_expectMore (s0 : RdT) (s1 : WdT) (s2 : WdT) : Option (RdT) :=
  (f_X7_copyFrom (Rd_keys s0) s1).bind fun r1 =>
  (f_X7_copyFrom (Rd_values s0) s2).bind fun r3 =>
  some ((Rd_w_hasDesk (Rd_w_values (Rd_w_keys s0 r1) r3) (1 : Int32)))
abbrev rm_X3_expectMore : Room := { frames := 2, cells := 0, slots := 0, locals := 61 }
set_option maxHeartbeats 4000000 in
set_option maxRecDepth 100000 in
theorem c_X3_expectMore (l : Launch) (g : GK) (a0 : Nat → Nat) (s0 : RdT) (a1 : Nat → Nat) (s1 : WdT) (a2 : Nat → Nat) (s2 : WdT) (res : (RdT)) (hf : f_X3_expectMore s0 s1 s2 = some res) : gM l yX3_expectMore cX3_expectMore 3 none rm_X3_expectMore g [.ref (a0 0), .ref (a1 0), .ref (a2 0)] (Rd_c g a0 s0 ++ Wd_c g a1 s1 ++ Wd_c g a2 s2) (fun _ : Unit => none) (fun _ => (Rd_c g a0 res ++ Wd_c g a1 s1 ++ Wd_c g a2 s2)) 0 0 := by
  refine gM_introV RX3 (by decide) rfl (Nat.le_of_ble_eq_true rfl) (fun p e s m args below meth c Q H locs ls A hE hnm hZ hA hP hD hS hq hl => ?_)
  have hl : lv_has ls 3 [(0, .ref (a0 0)), (1, .ref (a1 0)), (2, .ref (a2 0))] := hl
  have hx := hE.1
  have hb := hE.2.1
  rw [f_X3_expectMore] at hf
  refine lv_aload_n hx hb dX3_expectMore_0 rfl (lv_at hl 0 rfl) ?_
  refine g_get hE okX3 fl_X3_21 hP 0 rfl (v := .ref (a0 3)) rfl dX3_expectMore_1 ?_
  refine lv_aload_n hx hb dX3_expectMore_4 rfl (lv_at hl 1 rfl) ?_
  obtain ⟨r1, hc2, hf⟩ := gbd hf
  refine gm_callV2 (As := [.ref (a1 0)]) (rest := []) (st1 := fun _ => []) (ws' := fun _ => (Rd_c g a0 (Rd_w_keys s0 r1) ++ Wd_c g a1 s1 ++ Wd_c g a2 s2)) hE hl.1 ml_X3_61 (c_X7_copyFrom l g (fun k => a0 (k + 3)) (Rd_keys s0) a1 s1 r1 hc2) hZ hP hD hS hA 3 5 3 10 rfl (fun _ => rfl) okX7 rfl rfl rfl (fun _ => rfl) ⟨rfl, rfl⟩ ⟨Nat.le_of_ble_eq_true rfl, Nat.le_of_ble_eq_true rfl⟩ ⟨Nat.le_refl _, Nat.le_refl _⟩ (Nat.le_of_ble_eq_true rfl) dX3_expectMore_5 (fun _ H locs hP hD hS => ?_)
  refine lv_aload_n hx hb dX3_expectMore_8 rfl (lv_at hl 0 rfl) ?_
  refine g_get hE okX3 fl_X3_25 hP 0 rfl (v := .ref (a0 5)) rfl dX3_expectMore_9 ?_
  refine lv_aload_n hx hb dX3_expectMore_12 rfl (lv_at hl 2 rfl) ?_
  obtain ⟨r3, hc4, hf⟩ := gbd hf
  refine gm_callV2 (As := [.ref (a2 0)]) (rest := []) (st1 := fun _ => []) (ws' := fun _ => (Rd_c g a0 (Rd_w_values (Rd_w_keys s0 r1) r3) ++ Wd_c g a1 s1 ++ Wd_c g a2 s2)) hE hl.1 ml_X3_61 (c_X7_copyFrom l g (fun k => a0 (k + 5)) (Rd_values s0) a2 s2 r3 hc4) hZ hP hD hS hA 5 7 3 12 rfl (fun _ => rfl) okX7 rfl rfl rfl (fun _ => rfl) ⟨rfl, rfl⟩ ⟨Nat.le_of_ble_eq_true rfl, Nat.le_of_ble_eq_true rfl⟩ ⟨Nat.le_refl _, Nat.le_refl _⟩ (Nat.le_of_ble_eq_true rfl) dX3_expectMore_13 (fun _ H locs hP hD hS => ?_)
  refine lv_aload_n hx hb dX3_expectMore_16 rfl (lv_at hl 0 rfl) ?_
  refine lv_iconst hx hb dX3_expectMore_17 kci_1 ?_
  refine g_put hE okX3 fl_X3_36 hP hD hS 0 rfl rfl rfl rfl (Nat.le_of_ble_eq_true rfl) (Rd_c g a0 (Rd_w_hasDesk (Rd_w_values (Rd_w_keys s0 r1) r3) (1 : Int32)) ++ Wd_c g a1 s1 ++ Wd_c g a2 s2) rfl dX3_expectMore_18 (fun H locs hP hD hS => ?_)
  cases hf
  exact hq () rfl hP hD hS dX3_expectMore_21
theorem dX3_fail_0 : decode cX3_fail 0 = .ok (.aload_n 0, 1) := by decide +kernel
theorem dX3_fail_1 : decode cX3_fail 1 = .ok (.iload_n 1, 1) := by decide +kernel
theorem dX3_fail_2 : decode cX3_fail 2 = .ok (.putfield 52, 3) := by decide +kernel
theorem dX3_fail_5 : decode cX3_fail 5 = .ok (.aload_n 0, 1) := by decide +kernel
theorem dX3_fail_6 : decode cX3_fail 6 = .ok (.aload_n 0, 1) := by decide +kernel
theorem dX3_fail_7 : decode cX3_fail 7 = .ok (.getfield 12, 3) := by decide +kernel
theorem dX3_fail_10 : decode cX3_fail 10 = .ok (.getfield 83, 3) := by decide +kernel
theorem dX3_fail_13 : decode cX3_fail 13 = .ok (.putfield 55, 3) := by decide +kernel
theorem dX3_fail_16 : decode cX3_fail 16 = .ok (.iconst 0, 1) := by decide +kernel
theorem dX3_fail_17 : decode cX3_fail 17 = .ok (.ireturn, 1) := by decide +kernel
def f_X3_fail (s0 : RdT) (p1 : Int32) : Option (Int32 × RdT) :=
  some ((0 : Int32), (Rd_w_place (Rd_w_fault s0 p1) (Tp_start (Rd_tape s0))))
abbrev rm_X3_fail : Room := { frames := 0, cells := 0, slots := 0, locals := 0 }
set_option maxHeartbeats 4000000 in
set_option maxRecDepth 100000 in
theorem c_X3_fail (l : Launch) (g : GK) (a0 : Nat → Nat) (s0 : RdT) (p1 : Int32) (res : (Int32 × RdT)) (hf : f_X3_fail s0 p1 = some res) : gM l yX3_fail cX3_fail 2 (some .boolean) rm_X3_fail g [.ref (a0 0), .int p1] (Rd_c g a0 s0) (fun _ : Unit => (some (.int (res.1)))) (fun _ => (Rd_c g a0 (res.2))) 0 0 := by
  refine gM_introZ RX3 (by decide) rfl (Nat.le_of_ble_eq_true rfl) (fun p e s m args below meth c Q H locs ls A hE hZ hA hP hD hS hq hl => ?_)
  have hl : lv_has ls 2 [(0, .ref (a0 0)), (1, .int p1)] := hl
  have hx := hE.1
  have hb := hE.2.1
  rw [f_X3_fail] at hf
  refine lv_aload_n hx hb dX3_fail_0 rfl (lv_at hl 0 rfl) ?_
  refine lv_iload_n hx hb dX3_fail_1 rfl (lv_at hl 1 rfl) ?_
  refine g_put hE okX3 fl_X3_52 hP hD hS 0 rfl rfl rfl rfl (Nat.le_of_ble_eq_true rfl) (Rd_c g a0 (Rd_w_fault s0 p1)) rfl dX3_fail_2 (fun H locs hP hD hS => ?_)
  refine lv_aload_n hx hb dX3_fail_5 rfl (lv_at hl 0 rfl) ?_
  refine lv_aload_n hx hb dX3_fail_6 rfl (lv_at hl 0 rfl) ?_
  refine g_get hE okX3 fl_X3_12 hP 0 rfl (v := .ref (a0 1)) rfl dX3_fail_7 ?_
  refine g_get hE okX6 fl_X3_83 hP 1 rfl (v := .int (Tp_start (Rd_tape s0))) rfl dX3_fail_10 ?_
  refine g_put hE okX3 fl_X3_55 hP hD hS 0 rfl rfl rfl rfl (Nat.le_of_ble_eq_true rfl) (Rd_c g a0 (Rd_w_place (Rd_w_fault s0 p1) (Tp_start (Rd_tape s0)))) rfl dX3_fail_13 (fun H locs hP hD hS => ?_)
  refine lv_iconst hx hb dX3_fail_16 kci_0 ?_
  cases hf
  exact hq () (by decide) rfl hP hD hS dX3_fail_17
theorem dX3_isReserved_0 : decode cX3_isReserved 0 = .ok (.aload_n 0, 1) := by decide +kernel
theorem dX3_isReserved_1 : decode cX3_isReserved 1 = .ok (.getfield 12, 3) := by decide +kernel
theorem dX3_isReserved_4 : decode cX3_isReserved 4 = .ok (.ldc2_w 86, 3) := by decide +kernel
theorem dX3_isReserved_7 : decode cX3_isReserved 7 = .ok (.invokevirtual 88, 3) := by decide +kernel
theorem dX3_isReserved_10 : decode cX3_isReserved 10 = .ok (.ifCond .ne 68, 3) := by decide +kernel
theorem dX3_isReserved_13 : decode cX3_isReserved 13 = .ok (.aload_n 0, 1) := by decide +kernel
theorem dX3_isReserved_14 : decode cX3_isReserved 14 = .ok (.getfield 12, 3) := by decide +kernel
theorem dX3_isReserved_17 : decode cX3_isReserved 17 = .ok (.ldc2_w 95, 3) := by decide +kernel
theorem dX3_isReserved_20 : decode cX3_isReserved 20 = .ok (.invokevirtual 88, 3) := by decide +kernel
theorem dX3_isReserved_23 : decode cX3_isReserved 23 = .ok (.ifCond .ne 55, 3) := by decide +kernel
theorem dX3_isReserved_26 : decode cX3_isReserved 26 = .ok (.aload_n 0, 1) := by decide +kernel
theorem dX3_isReserved_27 : decode cX3_isReserved 27 = .ok (.getfield 12, 3) := by decide +kernel
theorem dX3_isReserved_30 : decode cX3_isReserved 30 = .ok (.ldc2_w 99, 3) := by decide +kernel
theorem dX3_isReserved_33 : decode cX3_isReserved 33 = .ok (.invokevirtual 88, 3) := by decide +kernel
theorem dX3_isReserved_36 : decode cX3_isReserved 36 = .ok (.ifCond .ne 42, 3) := by decide +kernel
theorem dX3_isReserved_39 : decode cX3_isReserved 39 = .ok (.aload_n 0, 1) := by decide +kernel
theorem dX3_isReserved_40 : decode cX3_isReserved 40 = .ok (.getfield 12, 3) := by decide +kernel
theorem dX3_isReserved_43 : decode cX3_isReserved 43 = .ok (.ldc2_w 97, 3) := by decide +kernel
theorem dX3_isReserved_46 : decode cX3_isReserved 46 = .ok (.invokevirtual 88, 3) := by decide +kernel
theorem dX3_isReserved_49 : decode cX3_isReserved 49 = .ok (.ifCond .ne 29, 3) := by decide +kernel
theorem dX3_isReserved_52 : decode cX3_isReserved 52 = .ok (.aload_n 0, 1) := by decide +kernel
theorem dX3_isReserved_53 : decode cX3_isReserved 53 = .ok (.getfield 12, 3) := by decide +kernel
theorem dX3_isReserved_56 : decode cX3_isReserved 56 = .ok (.ldc2_w 132, 3) := by decide +kernel
theorem dX3_isReserved_59 : decode cX3_isReserved 59 = .ok (.invokevirtual 88, 3) := by decide +kernel
theorem dX3_isReserved_62 : decode cX3_isReserved 62 = .ok (.ifCond .ne 16, 3) := by decide +kernel
theorem dX3_isReserved_65 : decode cX3_isReserved 65 = .ok (.aload_n 0, 1) := by decide +kernel
theorem dX3_isReserved_66 : decode cX3_isReserved 66 = .ok (.getfield 12, 3) := by decide +kernel
theorem dX3_isReserved_69 : decode cX3_isReserved 69 = .ok (.ldc2_w 134, 3) := by decide +kernel
theorem dX3_isReserved_72 : decode cX3_isReserved 72 = .ok (.invokevirtual 88, 3) := by decide +kernel
theorem dX3_isReserved_75 : decode cX3_isReserved 75 = .ok (.ifCond .eq 7, 3) := by decide +kernel
theorem dX3_isReserved_78 : decode cX3_isReserved 78 = .ok (.iconst 1, 1) := by decide +kernel
theorem dX3_isReserved_79 : decode cX3_isReserved 79 = .ok (.goto 4, 3) := by decide +kernel
theorem dX3_isReserved_82 : decode cX3_isReserved 82 = .ok (.iconst 0, 1) := by decide +kernel
theorem dX3_isReserved_83 : decode cX3_isReserved 83 = .ok (.ireturn, 1) := by decide +kernel
def f_X3_isReserved (s0 : RdT) : Option (Int32) :=
  (f_X6_says (Rd_tape s0) (1802724708 : Int64)).bind fun r1 =>
  if r1 = 0 then (f_X6_says (Rd_tape s0) (7632240 : Int64)).bind fun r4 =>
  if r4 = 0 then (f_X6_says (Rd_tape s0) (1801675106 : Int64)).bind fun r7 =>
  if r7 = 0 then (f_X6_says (Rd_tape s0) (1801677172 : Int64)).bind fun r10 =>
  if r10 = 0 then (f_X6_says (Rd_tape s0) (31074 : Int64)).bind fun r13 =>
  if r13 = 0 then (f_X6_says (Rd_tape s0) (29793 : Int64)).bind fun r16 =>
  if r16 = 0 then some ((0 : Int32))
  else some ((1 : Int32))
  else some ((1 : Int32))
  else some ((1 : Int32))
  else some ((1 : Int32))
  else some ((1 : Int32))
  else some ((1 : Int32))
abbrev rm_X3_isReserved : Room := { frames := 1, cells := 0, slots := 0, locals := 22 }
set_option maxHeartbeats 4000000 in
set_option maxRecDepth 100000 in
theorem c_X3_isReserved (l : Launch) (g : GK) (a0 : Nat → Nat) (s0 : RdT) (res : (Int32)) (hf : f_X3_isReserved s0 = some res) : gR l yX3_isReserved cX3_isReserved 1 (some .boolean) rm_X3_isReserved g [.ref (a0 0)] (Rd_c g a0 s0) (some (.int res)) := by
  refine gR_introZ RX3 (by decide) rfl (Nat.le_of_ble_eq_true rfl) (fun p e s m args below meth c Q H locs ls hE hP hZ hS hq hl => ?_)
  have hl : lv_has ls 1 [(0, .ref (a0 0))] := hl
  have hx := hE.1
  have hb := hE.2.1
  rw [f_X3_isReserved] at hf
  refine lv_aload_n hx hb dX3_isReserved_0 rfl (lv_at hl 0 rfl) ?_
  refine g_get hE okX3 fl_X3_12 hP 0 rfl (v := .ref (a0 1)) rfl dX3_isReserved_1 ?_
  refine lv_ldc2 hx hb hE.2.2.2.2.2.1 (hE.2.2.2.2.2.2.1 _ kd_X3_86) dX3_isReserved_4 ?_
  obtain ⟨r1, hc2, hf⟩ := gbd hf
  refine gr_callV (As := [.long (1802724708 : Int64)]) (rest := []) (st1 := [.int r1]) hE hl.1 ml_X3_88 (c_X6_says l g (fun k => a0 (k + 1)) (Rd_tape s0) (1802724708 : Int64) r1 hc2) hZ hS hP [(1, 2)] rfl okX6 rfl rfl rfl rfl ⟨rfl, rfl⟩ ⟨Nat.le_of_ble_eq_true rfl, Nat.le_of_ble_eq_true rfl⟩ ⟨Nat.le_refl _, Nat.le_refl _⟩ (Nat.le_of_ble_eq_true rfl) dX3_isReserved_7 ?_
  refine lv_if_ne hx hb dX3_isReserved_10 (tgt := 78) rfl (fun h3 => ?_) (fun h3 => ?_)
  · have hf := gif_f h3 hf
    refine lv_iconst hx hb dX3_isReserved_78 kci_1 ?_
    refine lv_goto hx hb dX3_isReserved_79 (tgt := 83) rfl ?_
    cases hf
    exact hq (by decide) rfl dX3_isReserved_83
  · have hf := gif_t h3 hf
    refine lv_aload_n hx hb dX3_isReserved_13 rfl (lv_at hl 0 rfl) ?_
    refine g_get hE okX3 fl_X3_12 hP 0 rfl (v := .ref (a0 1)) rfl dX3_isReserved_14 ?_
    refine lv_ldc2 hx hb hE.2.2.2.2.2.1 (hE.2.2.2.2.2.2.1 _ kd_X3_95) dX3_isReserved_17 ?_
    obtain ⟨r4, hc5, hf⟩ := gbd hf
    refine gr_callV (As := [.long (7632240 : Int64)]) (rest := []) (st1 := [.int r4]) hE hl.1 ml_X3_88 (c_X6_says l g (fun k => a0 (k + 1)) (Rd_tape s0) (7632240 : Int64) r4 hc5) hZ hS hP [(1, 2)] rfl okX6 rfl rfl rfl rfl ⟨rfl, rfl⟩ ⟨Nat.le_of_ble_eq_true rfl, Nat.le_of_ble_eq_true rfl⟩ ⟨Nat.le_refl _, Nat.le_refl _⟩ (Nat.le_of_ble_eq_true rfl) dX3_isReserved_20 ?_
    refine lv_if_ne hx hb dX3_isReserved_23 (tgt := 78) rfl (fun h6 => ?_) (fun h6 => ?_)
    · have hf := gif_f h6 hf
      refine lv_iconst hx hb dX3_isReserved_78 kci_1 ?_
      refine lv_goto hx hb dX3_isReserved_79 (tgt := 83) rfl ?_
      cases hf
      exact hq (by decide) rfl dX3_isReserved_83
    · have hf := gif_t h6 hf
      refine lv_aload_n hx hb dX3_isReserved_26 rfl (lv_at hl 0 rfl) ?_
      refine g_get hE okX3 fl_X3_12 hP 0 rfl (v := .ref (a0 1)) rfl dX3_isReserved_27 ?_
      refine lv_ldc2 hx hb hE.2.2.2.2.2.1 (hE.2.2.2.2.2.2.1 _ kd_X3_99) dX3_isReserved_30 ?_
      obtain ⟨r7, hc8, hf⟩ := gbd hf
      refine gr_callV (As := [.long (1801675106 : Int64)]) (rest := []) (st1 := [.int r7]) hE hl.1 ml_X3_88 (c_X6_says l g (fun k => a0 (k + 1)) (Rd_tape s0) (1801675106 : Int64) r7 hc8) hZ hS hP [(1, 2)] rfl okX6 rfl rfl rfl rfl ⟨rfl, rfl⟩ ⟨Nat.le_of_ble_eq_true rfl, Nat.le_of_ble_eq_true rfl⟩ ⟨Nat.le_refl _, Nat.le_refl _⟩ (Nat.le_of_ble_eq_true rfl) dX3_isReserved_33 ?_
      refine lv_if_ne hx hb dX3_isReserved_36 (tgt := 78) rfl (fun h9 => ?_) (fun h9 => ?_)
      · have hf := gif_f h9 hf
        refine lv_iconst hx hb dX3_isReserved_78 kci_1 ?_
        refine lv_goto hx hb dX3_isReserved_79 (tgt := 83) rfl ?_
        cases hf
        exact hq (by decide) rfl dX3_isReserved_83
      · have hf := gif_t h9 hf
        refine lv_aload_n hx hb dX3_isReserved_39 rfl (lv_at hl 0 rfl) ?_
        refine g_get hE okX3 fl_X3_12 hP 0 rfl (v := .ref (a0 1)) rfl dX3_isReserved_40 ?_
        refine lv_ldc2 hx hb hE.2.2.2.2.2.1 (hE.2.2.2.2.2.2.1 _ kd_X3_97) dX3_isReserved_43 ?_
        obtain ⟨r10, hc11, hf⟩ := gbd hf
        refine gr_callV (As := [.long (1801677172 : Int64)]) (rest := []) (st1 := [.int r10]) hE hl.1 ml_X3_88 (c_X6_says l g (fun k => a0 (k + 1)) (Rd_tape s0) (1801677172 : Int64) r10 hc11) hZ hS hP [(1, 2)] rfl okX6 rfl rfl rfl rfl ⟨rfl, rfl⟩ ⟨Nat.le_of_ble_eq_true rfl, Nat.le_of_ble_eq_true rfl⟩ ⟨Nat.le_refl _, Nat.le_refl _⟩ (Nat.le_of_ble_eq_true rfl) dX3_isReserved_46 ?_
        refine lv_if_ne hx hb dX3_isReserved_49 (tgt := 78) rfl (fun h12 => ?_) (fun h12 => ?_)
        · have hf := gif_f h12 hf
          refine lv_iconst hx hb dX3_isReserved_78 kci_1 ?_
          refine lv_goto hx hb dX3_isReserved_79 (tgt := 83) rfl ?_
          cases hf
          exact hq (by decide) rfl dX3_isReserved_83
        · have hf := gif_t h12 hf
          refine lv_aload_n hx hb dX3_isReserved_52 rfl (lv_at hl 0 rfl) ?_
          refine g_get hE okX3 fl_X3_12 hP 0 rfl (v := .ref (a0 1)) rfl dX3_isReserved_53 ?_
          refine lv_ldc2 hx hb hE.2.2.2.2.2.1 (hE.2.2.2.2.2.2.1 _ kd_X3_132) dX3_isReserved_56 ?_
          obtain ⟨r13, hc14, hf⟩ := gbd hf
          refine gr_callV (As := [.long (31074 : Int64)]) (rest := []) (st1 := [.int r13]) hE hl.1 ml_X3_88 (c_X6_says l g (fun k => a0 (k + 1)) (Rd_tape s0) (31074 : Int64) r13 hc14) hZ hS hP [(1, 2)] rfl okX6 rfl rfl rfl rfl ⟨rfl, rfl⟩ ⟨Nat.le_of_ble_eq_true rfl, Nat.le_of_ble_eq_true rfl⟩ ⟨Nat.le_refl _, Nat.le_refl _⟩ (Nat.le_of_ble_eq_true rfl) dX3_isReserved_59 ?_
          refine lv_if_ne hx hb dX3_isReserved_62 (tgt := 78) rfl (fun h15 => ?_) (fun h15 => ?_)
          · have hf := gif_f h15 hf
            refine lv_iconst hx hb dX3_isReserved_78 kci_1 ?_
            refine lv_goto hx hb dX3_isReserved_79 (tgt := 83) rfl ?_
            cases hf
            exact hq (by decide) rfl dX3_isReserved_83
          · have hf := gif_t h15 hf
            refine lv_aload_n hx hb dX3_isReserved_65 rfl (lv_at hl 0 rfl) ?_
            refine g_get hE okX3 fl_X3_12 hP 0 rfl (v := .ref (a0 1)) rfl dX3_isReserved_66 ?_
            refine lv_ldc2 hx hb hE.2.2.2.2.2.1 (hE.2.2.2.2.2.2.1 _ kd_X3_134) dX3_isReserved_69 ?_
            obtain ⟨r16, hc17, hf⟩ := gbd hf
            refine gr_callV (As := [.long (29793 : Int64)]) (rest := []) (st1 := [.int r16]) hE hl.1 ml_X3_88 (c_X6_says l g (fun k => a0 (k + 1)) (Rd_tape s0) (29793 : Int64) r16 hc17) hZ hS hP [(1, 2)] rfl okX6 rfl rfl rfl rfl ⟨rfl, rfl⟩ ⟨Nat.le_of_ble_eq_true rfl, Nat.le_of_ble_eq_true rfl⟩ ⟨Nat.le_refl _, Nat.le_refl _⟩ (Nat.le_of_ble_eq_true rfl) dX3_isReserved_72 ?_
            refine lv_if_eq hx hb dX3_isReserved_75 (tgt := 82) rfl (fun h18 => ?_) (fun h18 => ?_)
            · have hf := gif_t h18 hf
              refine lv_iconst hx hb dX3_isReserved_82 kci_0 ?_
              cases hf
              exact hq (by decide) rfl dX3_isReserved_83
            · have hf := gif_f h18 hf
              refine lv_iconst hx hb dX3_isReserved_78 kci_1 ?_
              refine lv_goto hx hb dX3_isReserved_79 (tgt := 83) rfl ?_
              cases hf
              exact hq (by decide) rfl dX3_isReserved_83
theorem dX3_readWord_0 : decode cX3_readWord 0 = .ok (.aload_n 0, 1) := by decide +kernel
theorem dX3_readWord_1 : decode cX3_readWord 1 = .ok (.getfield 12, 3) := by decide +kernel
theorem dX3_readWord_4 : decode cX3_readWord 4 = .ok (.lload_n 1, 1) := by decide +kernel
theorem dX3_readWord_5 : decode cX3_readWord 5 = .ok (.invokevirtual 88, 3) := by decide +kernel
theorem dX3_readWord_8 : decode cX3_readWord 8 = .ok (.ifCond .ne 9, 3) := by decide +kernel
theorem dX3_readWord_11 : decode cX3_readWord 11 = .ok (.aload_n 0, 1) := by decide +kernel
theorem dX3_readWord_12 : decode cX3_readWord 12 = .ok (.iconst 1, 1) := by decide +kernel
theorem dX3_readWord_13 : decode cX3_readWord 13 = .ok (.invokevirtual 79, 3) := by decide +kernel
theorem dX3_readWord_16 : decode cX3_readWord 16 = .ok (.ireturn, 1) := by decide +kernel
theorem dX3_readWord_17 : decode cX3_readWord 17 = .ok (.aload_n 0, 1) := by decide +kernel
theorem dX3_readWord_18 : decode cX3_readWord 18 = .ok (.getfield 12, 3) := by decide +kernel
theorem dX3_readWord_21 : decode cX3_readWord 21 = .ok (.invokevirtual 76, 3) := by decide +kernel
theorem dX3_readWord_24 : decode cX3_readWord 24 = .ok (.iconst 1, 1) := by decide +kernel
theorem dX3_readWord_25 : decode cX3_readWord 25 = .ok (.ireturn, 1) := by decide +kernel
def f_X3_readWord (s0 : RdT) (p1 : Int64) : Option (Int32 × RdT) :=
  (f_X6_says (Rd_tape s0) p1).bind fun r1 =>
  if r1 = 0 then (f_X3_fail s0 (1 : Int32)).bind fun r6 =>
  if isB (r6.1) then some ((r6.1), (r6.2)) else none
  else (f_X6_next (Rd_tape s0)).bind fun r4 =>
  some ((1 : Int32), (Rd_w_tape s0 r4))
abbrev rm_X3_readWord : Room := { frames := 2, cells := 0, slots := 0, locals := 42 }
set_option maxHeartbeats 4000000 in
set_option maxRecDepth 100000 in
theorem c_X3_readWord (l : Launch) (g : GK) (a0 : Nat → Nat) (s0 : RdT) (p1 : Int64) (res : (Int32 × RdT)) (hf : f_X3_readWord s0 p1 = some res) : gM l yX3_readWord cX3_readWord 3 (some .boolean) rm_X3_readWord g [.ref (a0 0), .long p1] (Rd_c g a0 s0) (fun _ : Unit => (some (.int (res.1)))) (fun _ => (Rd_c g a0 (res.2))) 0 0 := by
  refine gM_introZ RX3 (by decide) rfl (Nat.le_of_ble_eq_true rfl) (fun p e s m args below meth c Q H locs ls A hE hZ hA hP hD hS hq hl => ?_)
  have hl : lv_has ls 3 [(0, .ref (a0 0)), (1, .long p1)] := hl
  have hx := hE.1
  have hb := hE.2.1
  rw [f_X3_readWord] at hf
  refine lv_aload_n hx hb dX3_readWord_0 rfl (lv_at hl 0 rfl) ?_
  refine g_get hE okX3 fl_X3_12 hP 0 rfl (v := .ref (a0 1)) rfl dX3_readWord_1 ?_
  refine lv_lload_n hx hb dX3_readWord_4 rfl (lv_at hl 1 rfl) ?_
  obtain ⟨r1, hc2, hf⟩ := gbd hf
  refine gr_callV (As := [.long p1]) (rest := []) (st1 := [.int r1]) hE hl.1 ml_X3_88 (c_X6_says l g (fun k => a0 (k + 1)) (Rd_tape s0) p1 r1 hc2) hZ hS hP [(1, 2)] rfl okX6 rfl rfl rfl rfl ⟨rfl, rfl⟩ ⟨Nat.le_of_ble_eq_true rfl, Nat.le_of_ble_eq_true rfl⟩ ⟨Nat.le_refl _, Nat.le_refl _⟩ (Nat.le_of_ble_eq_true rfl) dX3_readWord_5 ?_
  refine lv_if_ne hx hb dX3_readWord_8 (tgt := 17) rfl (fun h3 => ?_) (fun h3 => ?_)
  · have hf := gif_f h3 hf
    refine lv_aload_n hx hb dX3_readWord_17 rfl (lv_at hl 0 rfl) ?_
    refine g_get hE okX3 fl_X3_12 hP 0 rfl (v := .ref (a0 1)) rfl dX3_readWord_18 ?_
    obtain ⟨r4, hc5, hf⟩ := gbd hf
    refine gm_callV1 (As := []) (rest := []) (st1 := fun _ => []) (ws' := fun _ => (Rd_c g a0 (Rd_w_tape s0 r4))) hE hl.1 ml_X3_76 (c_X6_next l g (fun k => a0 (k + 1)) (Rd_tape s0) r4 hc5) hZ hP hD hS hA 1 3 rfl (fun _ => rfl) okX6 rfl rfl rfl (fun _ => rfl) ⟨rfl, rfl⟩ ⟨Nat.le_of_ble_eq_true rfl, Nat.le_of_ble_eq_true rfl⟩ ⟨Nat.le_refl _, Nat.le_refl _⟩ (Nat.le_of_ble_eq_true rfl) dX3_readWord_21 (fun _ H locs hP hD hS => ?_)
    refine lv_iconst hx hb dX3_readWord_24 kci_1 ?_
    cases hf
    exact hq () (by decide) rfl hP hD hS dX3_readWord_25
  · have hf := gif_t h3 hf
    refine lv_aload_n hx hb dX3_readWord_11 rfl (lv_at hl 0 rfl) ?_
    refine lv_iconst hx hb dX3_readWord_12 kci_1 ?_
    obtain ⟨r6, hc7, hf⟩ := gbd hf
    refine gm_callV1 (As := [.int (1 : Int32)]) (rest := []) (st1 := fun _ => [.int (r6.1)]) (ws' := fun _ => (Rd_c g a0 (r6.2))) hE hl.1 ml_X3_79 (c_X3_fail l g a0 s0 (1 : Int32) r6 hc7) hZ hP hD hS hA 0 8 rfl (fun _ => rfl) okX3 rfl rfl rfl (fun _ => rfl) ⟨rfl, rfl⟩ ⟨Nat.le_of_ble_eq_true rfl, Nat.le_of_ble_eq_true rfl⟩ ⟨Nat.le_refl _, Nat.le_refl _⟩ (Nat.le_of_ble_eq_true rfl) dX3_readWord_13 (fun _ H locs hP hD hS => ?_)
    obtain ⟨hg8, hf⟩ := ggd hf
    cases hf
    exact hq () hg8 rfl hP hD hS dX3_readWord_16
theorem dX3_readWhole_0 : decode cX3_readWhole 0 = .ok (.aload_n 0, 1) := by decide +kernel
theorem dX3_readWhole_1 : decode cX3_readWhole 1 = .ok (.getfield 12, 3) := by decide +kernel
theorem dX3_readWhole_4 : decode cX3_readWhole 4 = .ok (.getfield 73, 3) := by decide +kernel
theorem dX3_readWhole_7 : decode cX3_readWhole 7 = .ok (.iconst 2, 1) := by decide +kernel
theorem dX3_readWhole_8 : decode cX3_readWhole 8 = .ok (.if_icmp .eq 9, 3) := by decide +kernel
theorem dX3_readWhole_11 : decode cX3_readWhole 11 = .ok (.aload_n 0, 1) := by decide +kernel
theorem dX3_readWhole_12 : decode cX3_readWhole 12 = .ok (.iconst 1, 1) := by decide +kernel
theorem dX3_readWhole_13 : decode cX3_readWhole 13 = .ok (.invokevirtual 79, 3) := by decide +kernel
theorem dX3_readWhole_16 : decode cX3_readWhole 16 = .ok (.ireturn, 1) := by decide +kernel
theorem dX3_readWhole_17 : decode cX3_readWhole 17 = .ok (.aload_n 0, 1) := by decide +kernel
theorem dX3_readWhole_18 : decode cX3_readWhole 18 = .ok (.getfield 12, 3) := by decide +kernel
theorem dX3_readWhole_21 : decode cX3_readWhole 21 = .ok (.getfield 136, 3) := by decide +kernel
theorem dX3_readWhole_24 : decode cX3_readWhole 24 = .ok (.iload_n 1, 1) := by decide +kernel
theorem dX3_readWhole_25 : decode cX3_readWhole 25 = .ok (.if_icmp .lt 14, 3) := by decide +kernel
theorem dX3_readWhole_28 : decode cX3_readWhole 28 = .ok (.aload_n 0, 1) := by decide +kernel
theorem dX3_readWhole_29 : decode cX3_readWhole 29 = .ok (.getfield 12, 3) := by decide +kernel
theorem dX3_readWhole_32 : decode cX3_readWhole 32 = .ok (.getfield 136, 3) := by decide +kernel
theorem dX3_readWhole_35 : decode cX3_readWhole 35 = .ok (.iload_n 2, 1) := by decide +kernel
theorem dX3_readWhole_36 : decode cX3_readWhole 36 = .ok (.if_icmp .le 9, 3) := by decide +kernel
theorem dX3_readWhole_39 : decode cX3_readWhole 39 = .ok (.aload_n 0, 1) := by decide +kernel
theorem dX3_readWhole_40 : decode cX3_readWhole 40 = .ok (.iconst 2, 1) := by decide +kernel
theorem dX3_readWhole_41 : decode cX3_readWhole 41 = .ok (.invokevirtual 79, 3) := by decide +kernel
theorem dX3_readWhole_44 : decode cX3_readWhole 44 = .ok (.ireturn, 1) := by decide +kernel
theorem dX3_readWhole_45 : decode cX3_readWhole 45 = .ok (.aload_n 0, 1) := by decide +kernel
theorem dX3_readWhole_46 : decode cX3_readWhole 46 = .ok (.aload_n 0, 1) := by decide +kernel
theorem dX3_readWhole_47 : decode cX3_readWhole 47 = .ok (.getfield 12, 3) := by decide +kernel
theorem dX3_readWhole_50 : decode cX3_readWhole 50 = .ok (.getfield 136, 3) := by decide +kernel
theorem dX3_readWhole_53 : decode cX3_readWhole 53 = .ok (.putfield 49, 3) := by decide +kernel
theorem dX3_readWhole_56 : decode cX3_readWhole 56 = .ok (.aload_n 0, 1) := by decide +kernel
theorem dX3_readWhole_57 : decode cX3_readWhole 57 = .ok (.getfield 12, 3) := by decide +kernel
theorem dX3_readWhole_60 : decode cX3_readWhole 60 = .ok (.invokevirtual 76, 3) := by decide +kernel
theorem dX3_readWhole_63 : decode cX3_readWhole 63 = .ok (.iconst 1, 1) := by decide +kernel
theorem dX3_readWhole_64 : decode cX3_readWhole 64 = .ok (.ireturn, 1) := by decide +kernel
def f_X3_readWhole (s0 : RdT) (p1 : Int32) (p2 : Int32) : Option (Int32 × RdT) :=
  if (Tp_kind (Rd_tape s0)) = (2 : Int32) then if (Tp_whole (Rd_tape s0)) < p1 then (f_X3_fail s0 (2 : Int32)).bind fun r3 =>
  if isB (r3.1) then some ((r3.1), (r3.2)) else none
  else if (Tp_whole (Rd_tape s0)) ≤ p2 then (f_X6_next (Rd_tape s0)).bind fun r7 =>
  some ((1 : Int32), (Rd_w_number (Rd_w_tape s0 r7) (Tp_whole (Rd_tape s0))))
  else (f_X3_fail s0 (2 : Int32)).bind fun r9 =>
  if isB (r9.1) then some ((r9.1), (r9.2)) else none
  else (f_X3_fail s0 (1 : Int32)).bind fun r12 =>
  if isB (r12.1) then some ((r12.1), (r12.2)) else none
abbrev rm_X3_readWhole : Room := { frames := 2, cells := 0, slots := 0, locals := 42 }
set_option maxHeartbeats 4000000 in
set_option maxRecDepth 100000 in
theorem c_X3_readWhole (l : Launch) (g : GK) (a0 : Nat → Nat) (s0 : RdT) (p1 : Int32) (p2 : Int32) (res : (Int32 × RdT)) (hf : f_X3_readWhole s0 p1 p2 = some res) : gM l yX3_readWhole cX3_readWhole 3 (some .boolean) rm_X3_readWhole g [.ref (a0 0), .int p1, .int p2] (Rd_c g a0 s0) (fun _ : Unit => (some (.int (res.1)))) (fun _ => (Rd_c g a0 (res.2))) 0 0 := by
  refine gM_introZ RX3 (by decide) rfl (Nat.le_of_ble_eq_true rfl) (fun p e s m args below meth c Q H locs ls A hE hZ hA hP hD hS hq hl => ?_)
  have hl : lv_has ls 3 [(0, .ref (a0 0)), (1, .int p1), (2, .int p2)] := hl
  have hx := hE.1
  have hb := hE.2.1
  rw [f_X3_readWhole] at hf
  refine lv_aload_n hx hb dX3_readWhole_0 rfl (lv_at hl 0 rfl) ?_
  refine g_get hE okX3 fl_X3_12 hP 0 rfl (v := .ref (a0 1)) rfl dX3_readWhole_1 ?_
  refine g_get hE okX6 fl_X3_73 hP 1 rfl (v := .int (Tp_kind (Rd_tape s0))) rfl dX3_readWhole_4 ?_
  refine lv_iconst hx hb dX3_readWhole_7 kci_2 ?_
  refine lv_icmp_eq hx hb dX3_readWhole_8 (tgt := 17) rfl (fun h1 => ?_) (fun h1 => ?_)
  · have hf := gif_t h1 hf
    refine lv_aload_n hx hb dX3_readWhole_17 rfl (lv_at hl 0 rfl) ?_
    refine g_get hE okX3 fl_X3_12 hP 0 rfl (v := .ref (a0 1)) rfl dX3_readWhole_18 ?_
    refine g_get hE okX6 fl_X3_136 hP 1 rfl (v := .int (Tp_whole (Rd_tape s0))) rfl dX3_readWhole_21 ?_
    refine lv_iload_n hx hb dX3_readWhole_24 rfl (lv_at hl 1 rfl) ?_
    refine lv_icmp_lt hx hb dX3_readWhole_25 (tgt := 39) rfl (fun h2 => ?_) (fun h2 => ?_)
    · have hf := gif_t h2 hf
      refine lv_aload_n hx hb dX3_readWhole_39 rfl (lv_at hl 0 rfl) ?_
      refine lv_iconst hx hb dX3_readWhole_40 kci_2 ?_
      obtain ⟨r3, hc4, hf⟩ := gbd hf
      refine gm_callV1 (As := [.int (2 : Int32)]) (rest := []) (st1 := fun _ => [.int (r3.1)]) (ws' := fun _ => (Rd_c g a0 (r3.2))) hE hl.1 ml_X3_79 (c_X3_fail l g a0 s0 (2 : Int32) r3 hc4) hZ hP hD hS hA 0 8 rfl (fun _ => rfl) okX3 rfl rfl rfl (fun _ => rfl) ⟨rfl, rfl⟩ ⟨Nat.le_of_ble_eq_true rfl, Nat.le_of_ble_eq_true rfl⟩ ⟨Nat.le_refl _, Nat.le_refl _⟩ (Nat.le_of_ble_eq_true rfl) dX3_readWhole_41 (fun _ H locs hP hD hS => ?_)
      obtain ⟨hg5, hf⟩ := ggd hf
      cases hf
      exact hq () hg5 rfl hP hD hS dX3_readWhole_44
    · have hf := gif_f h2 hf
      refine lv_aload_n hx hb dX3_readWhole_28 rfl (lv_at hl 0 rfl) ?_
      refine g_get hE okX3 fl_X3_12 hP 0 rfl (v := .ref (a0 1)) rfl dX3_readWhole_29 ?_
      refine g_get hE okX6 fl_X3_136 hP 1 rfl (v := .int (Tp_whole (Rd_tape s0))) rfl dX3_readWhole_32 ?_
      refine lv_iload_n hx hb dX3_readWhole_35 rfl (lv_at hl 2 rfl) ?_
      refine lv_icmp_le hx hb dX3_readWhole_36 (tgt := 45) rfl (fun h6 => ?_) (fun h6 => ?_)
      · have hf := gif_t h6 hf
        refine lv_aload_n hx hb dX3_readWhole_45 rfl (lv_at hl 0 rfl) ?_
        refine lv_aload_n hx hb dX3_readWhole_46 rfl (lv_at hl 0 rfl) ?_
        refine g_get hE okX3 fl_X3_12 hP 0 rfl (v := .ref (a0 1)) rfl dX3_readWhole_47 ?_
        refine g_get hE okX6 fl_X3_136 hP 1 rfl (v := .int (Tp_whole (Rd_tape s0))) rfl dX3_readWhole_50 ?_
        refine g_put hE okX3 fl_X3_49 hP hD hS 0 rfl rfl rfl rfl (Nat.le_of_ble_eq_true rfl) (Rd_c g a0 (Rd_w_number s0 (Tp_whole (Rd_tape s0)))) rfl dX3_readWhole_53 (fun H locs hP hD hS => ?_)
        refine lv_aload_n hx hb dX3_readWhole_56 rfl (lv_at hl 0 rfl) ?_
        refine g_get hE okX3 fl_X3_12 hP 0 rfl (v := .ref (a0 1)) rfl dX3_readWhole_57 ?_
        obtain ⟨r7, hc8, hf⟩ := gbd hf
        refine gm_callV1 (As := []) (rest := []) (st1 := fun _ => []) (ws' := fun _ => (Rd_c g a0 (Rd_w_number (Rd_w_tape s0 r7) (Tp_whole (Rd_tape s0))))) hE hl.1 ml_X3_76 (c_X6_next l g (fun k => a0 (k + 1)) (Rd_tape s0) r7 hc8) hZ hP hD hS hA 1 3 rfl (fun _ => rfl) okX6 rfl rfl rfl (fun _ => rfl) ⟨rfl, rfl⟩ ⟨Nat.le_of_ble_eq_true rfl, Nat.le_of_ble_eq_true rfl⟩ ⟨Nat.le_refl _, Nat.le_refl _⟩ (Nat.le_of_ble_eq_true rfl) dX3_readWhole_60 (fun _ H locs hP hD hS => ?_)
        refine lv_iconst hx hb dX3_readWhole_63 kci_1 ?_
        cases hf
        exact hq () (by decide) rfl hP hD hS dX3_readWhole_64
      · have hf := gif_f h6 hf
        refine lv_aload_n hx hb dX3_readWhole_39 rfl (lv_at hl 0 rfl) ?_
        refine lv_iconst hx hb dX3_readWhole_40 kci_2 ?_
        obtain ⟨r9, hc10, hf⟩ := gbd hf
        refine gm_callV1 (As := [.int (2 : Int32)]) (rest := []) (st1 := fun _ => [.int (r9.1)]) (ws' := fun _ => (Rd_c g a0 (r9.2))) hE hl.1 ml_X3_79 (c_X3_fail l g a0 s0 (2 : Int32) r9 hc10) hZ hP hD hS hA 0 8 rfl (fun _ => rfl) okX3 rfl rfl rfl (fun _ => rfl) ⟨rfl, rfl⟩ ⟨Nat.le_of_ble_eq_true rfl, Nat.le_of_ble_eq_true rfl⟩ ⟨Nat.le_refl _, Nat.le_refl _⟩ (Nat.le_of_ble_eq_true rfl) dX3_readWhole_41 (fun _ H locs hP hD hS => ?_)
        obtain ⟨hg11, hf⟩ := ggd hf
        cases hf
        exact hq () hg11 rfl hP hD hS dX3_readWhole_44
  · have hf := gif_f h1 hf
    refine lv_aload_n hx hb dX3_readWhole_11 rfl (lv_at hl 0 rfl) ?_
    refine lv_iconst hx hb dX3_readWhole_12 kci_1 ?_
    obtain ⟨r12, hc13, hf⟩ := gbd hf
    refine gm_callV1 (As := [.int (1 : Int32)]) (rest := []) (st1 := fun _ => [.int (r12.1)]) (ws' := fun _ => (Rd_c g a0 (r12.2))) hE hl.1 ml_X3_79 (c_X3_fail l g a0 s0 (1 : Int32) r12 hc13) hZ hP hD hS hA 0 8 rfl (fun _ => rfl) okX3 rfl rfl rfl (fun _ => rfl) ⟨rfl, rfl⟩ ⟨Nat.le_of_ble_eq_true rfl, Nat.le_of_ble_eq_true rfl⟩ ⟨Nat.le_refl _, Nat.le_refl _⟩ (Nat.le_of_ble_eq_true rfl) dX3_readWhole_13 (fun _ H locs hP hD hS => ?_)
    obtain ⟨hg14, hf⟩ := ggd hf
    cases hf
    exact hq () hg14 rfl hP hD hS dX3_readWhole_16
theorem dX3_readSide_0 : decode cX3_readSide 0 = .ok (.aload_n 0, 1) := by decide +kernel
theorem dX3_readSide_1 : decode cX3_readSide 1 = .ok (.getfield 12, 3) := by decide +kernel
theorem dX3_readSide_4 : decode cX3_readSide 4 = .ok (.ldc2_w 139, 3) := by decide +kernel
theorem dX3_readSide_7 : decode cX3_readSide 7 = .ok (.invokevirtual 88, 3) := by decide +kernel
theorem dX3_readSide_10 : decode cX3_readSide 10 = .ok (.ifCond .eq 11, 3) := by decide +kernel
theorem dX3_readSide_13 : decode cX3_readSide 13 = .ok (.aload_n 0, 1) := by decide +kernel
theorem dX3_readSide_14 : decode cX3_readSide 14 = .ok (.iconst 0, 1) := by decide +kernel
theorem dX3_readSide_15 : decode cX3_readSide 15 = .ok (.putfield 49, 3) := by decide +kernel
theorem dX3_readSide_18 : decode cX3_readSide 18 = .ok (.goto 30, 3) := by decide +kernel
theorem dX3_readSide_21 : decode cX3_readSide 21 = .ok (.aload_n 0, 1) := by decide +kernel
theorem dX3_readSide_22 : decode cX3_readSide 22 = .ok (.getfield 12, 3) := by decide +kernel
theorem dX3_readSide_25 : decode cX3_readSide 25 = .ok (.ldc2_w 141, 3) := by decide +kernel
theorem dX3_readSide_28 : decode cX3_readSide 28 = .ok (.invokevirtual 88, 3) := by decide +kernel
theorem dX3_readSide_31 : decode cX3_readSide 31 = .ok (.ifCond .eq 11, 3) := by decide +kernel
theorem dX3_readSide_34 : decode cX3_readSide 34 = .ok (.aload_n 0, 1) := by decide +kernel
theorem dX3_readSide_35 : decode cX3_readSide 35 = .ok (.iconst 1, 1) := by decide +kernel
theorem dX3_readSide_36 : decode cX3_readSide 36 = .ok (.putfield 49, 3) := by decide +kernel
theorem dX3_readSide_39 : decode cX3_readSide 39 = .ok (.goto 9, 3) := by decide +kernel
theorem dX3_readSide_42 : decode cX3_readSide 42 = .ok (.aload_n 0, 1) := by decide +kernel
theorem dX3_readSide_43 : decode cX3_readSide 43 = .ok (.iconst 1, 1) := by decide +kernel
theorem dX3_readSide_44 : decode cX3_readSide 44 = .ok (.invokevirtual 79, 3) := by decide +kernel
theorem dX3_readSide_47 : decode cX3_readSide 47 = .ok (.ireturn, 1) := by decide +kernel
theorem dX3_readSide_48 : decode cX3_readSide 48 = .ok (.aload_n 0, 1) := by decide +kernel
theorem dX3_readSide_49 : decode cX3_readSide 49 = .ok (.getfield 12, 3) := by decide +kernel
theorem dX3_readSide_52 : decode cX3_readSide 52 = .ok (.invokevirtual 76, 3) := by decide +kernel
theorem dX3_readSide_55 : decode cX3_readSide 55 = .ok (.iconst 1, 1) := by decide +kernel
theorem dX3_readSide_56 : decode cX3_readSide 56 = .ok (.ireturn, 1) := by decide +kernel
def f_X3_readSide (s0 : RdT) : Option (Int32 × RdT) :=
  (f_X6_says (Rd_tape s0) (1952867692 : Int64)).bind fun r1 =>
  if r1 = 0 then (f_X6_says (Rd_tape s0) (499967814002 : Int64)).bind fun r4 =>
  if r4 = 0 then (f_X3_fail s0 (1 : Int32)).bind fun r7 =>
  if isB (r7.1) then some ((r7.1), (r7.2)) else none
  else (f_X6_next (Rd_tape s0)).bind fun r10 =>
  some ((1 : Int32), (Rd_w_number (Rd_w_tape s0 r10) (1 : Int32)))
  else (f_X6_next (Rd_tape s0)).bind fun r12 =>
  some ((1 : Int32), (Rd_w_number (Rd_w_tape s0 r12) (0 : Int32)))
abbrev rm_X3_readSide : Room := { frames := 2, cells := 0, slots := 0, locals := 42 }
set_option maxHeartbeats 4000000 in
set_option maxRecDepth 100000 in
theorem c_X3_readSide (l : Launch) (g : GK) (a0 : Nat → Nat) (s0 : RdT) (res : (Int32 × RdT)) (hf : f_X3_readSide s0 = some res) : gM l yX3_readSide cX3_readSide 1 (some .boolean) rm_X3_readSide g [.ref (a0 0)] (Rd_c g a0 s0) (fun _ : Unit => (some (.int (res.1)))) (fun _ => (Rd_c g a0 (res.2))) 0 0 := by
  refine gM_introZ RX3 (by decide) rfl (Nat.le_of_ble_eq_true rfl) (fun p e s m args below meth c Q H locs ls A hE hZ hA hP hD hS hq hl => ?_)
  have hl : lv_has ls 1 [(0, .ref (a0 0))] := hl
  have hx := hE.1
  have hb := hE.2.1
  rw [f_X3_readSide] at hf
  refine lv_aload_n hx hb dX3_readSide_0 rfl (lv_at hl 0 rfl) ?_
  refine g_get hE okX3 fl_X3_12 hP 0 rfl (v := .ref (a0 1)) rfl dX3_readSide_1 ?_
  refine lv_ldc2 hx hb hE.2.2.2.2.2.1 (hE.2.2.2.2.2.2.1 _ kd_X3_139) dX3_readSide_4 ?_
  obtain ⟨r1, hc2, hf⟩ := gbd hf
  refine gr_callV (As := [.long (1952867692 : Int64)]) (rest := []) (st1 := [.int r1]) hE hl.1 ml_X3_88 (c_X6_says l g (fun k => a0 (k + 1)) (Rd_tape s0) (1952867692 : Int64) r1 hc2) hZ hS hP [(1, 2)] rfl okX6 rfl rfl rfl rfl ⟨rfl, rfl⟩ ⟨Nat.le_of_ble_eq_true rfl, Nat.le_of_ble_eq_true rfl⟩ ⟨Nat.le_refl _, Nat.le_refl _⟩ (Nat.le_of_ble_eq_true rfl) dX3_readSide_7 ?_
  refine lv_if_eq hx hb dX3_readSide_10 (tgt := 21) rfl (fun h3 => ?_) (fun h3 => ?_)
  · have hf := gif_t h3 hf
    refine lv_aload_n hx hb dX3_readSide_21 rfl (lv_at hl 0 rfl) ?_
    refine g_get hE okX3 fl_X3_12 hP 0 rfl (v := .ref (a0 1)) rfl dX3_readSide_22 ?_
    refine lv_ldc2 hx hb hE.2.2.2.2.2.1 (hE.2.2.2.2.2.2.1 _ kd_X3_141) dX3_readSide_25 ?_
    obtain ⟨r4, hc5, hf⟩ := gbd hf
    refine gr_callV (As := [.long (499967814002 : Int64)]) (rest := []) (st1 := [.int r4]) hE hl.1 ml_X3_88 (c_X6_says l g (fun k => a0 (k + 1)) (Rd_tape s0) (499967814002 : Int64) r4 hc5) hZ hS hP [(1, 2)] rfl okX6 rfl rfl rfl rfl ⟨rfl, rfl⟩ ⟨Nat.le_of_ble_eq_true rfl, Nat.le_of_ble_eq_true rfl⟩ ⟨Nat.le_refl _, Nat.le_refl _⟩ (Nat.le_of_ble_eq_true rfl) dX3_readSide_28 ?_
    refine lv_if_eq hx hb dX3_readSide_31 (tgt := 42) rfl (fun h6 => ?_) (fun h6 => ?_)
    · have hf := gif_t h6 hf
      refine lv_aload_n hx hb dX3_readSide_42 rfl (lv_at hl 0 rfl) ?_
      refine lv_iconst hx hb dX3_readSide_43 kci_1 ?_
      obtain ⟨r7, hc8, hf⟩ := gbd hf
      refine gm_callV1 (As := [.int (1 : Int32)]) (rest := []) (st1 := fun _ => [.int (r7.1)]) (ws' := fun _ => (Rd_c g a0 (r7.2))) hE hl.1 ml_X3_79 (c_X3_fail l g a0 s0 (1 : Int32) r7 hc8) hZ hP hD hS hA 0 8 rfl (fun _ => rfl) okX3 rfl rfl rfl (fun _ => rfl) ⟨rfl, rfl⟩ ⟨Nat.le_of_ble_eq_true rfl, Nat.le_of_ble_eq_true rfl⟩ ⟨Nat.le_refl _, Nat.le_refl _⟩ (Nat.le_of_ble_eq_true rfl) dX3_readSide_44 (fun _ H locs hP hD hS => ?_)
      obtain ⟨hg9, hf⟩ := ggd hf
      cases hf
      exact hq () hg9 rfl hP hD hS dX3_readSide_47
    · have hf := gif_f h6 hf
      refine lv_aload_n hx hb dX3_readSide_34 rfl (lv_at hl 0 rfl) ?_
      refine lv_iconst hx hb dX3_readSide_35 kci_1 ?_
      refine g_put hE okX3 fl_X3_49 hP hD hS 0 rfl rfl rfl rfl (Nat.le_of_ble_eq_true rfl) (Rd_c g a0 (Rd_w_number s0 (1 : Int32))) rfl dX3_readSide_36 (fun H locs hP hD hS => ?_)
      refine lv_goto hx hb dX3_readSide_39 (tgt := 48) rfl ?_
      refine lv_aload_n hx hb dX3_readSide_48 rfl (lv_at hl 0 rfl) ?_
      refine g_get hE okX3 fl_X3_12 hP 0 rfl (v := .ref (a0 1)) rfl dX3_readSide_49 ?_
      obtain ⟨r10, hc11, hf⟩ := gbd hf
      refine gm_callV1 (As := []) (rest := []) (st1 := fun _ => []) (ws' := fun _ => (Rd_c g a0 (Rd_w_number (Rd_w_tape s0 r10) (1 : Int32)))) hE hl.1 ml_X3_76 (c_X6_next l g (fun k => a0 (k + 1)) (Rd_tape s0) r10 hc11) hZ hP hD hS hA 1 3 rfl (fun _ => rfl) okX6 rfl rfl rfl (fun _ => rfl) ⟨rfl, rfl⟩ ⟨Nat.le_of_ble_eq_true rfl, Nat.le_of_ble_eq_true rfl⟩ ⟨Nat.le_refl _, Nat.le_refl _⟩ (Nat.le_of_ble_eq_true rfl) dX3_readSide_52 (fun _ H locs hP hD hS => ?_)
      refine lv_iconst hx hb dX3_readSide_55 kci_1 ?_
      cases hf
      exact hq () (by decide) rfl hP hD hS dX3_readSide_56
  · have hf := gif_f h3 hf
    refine lv_aload_n hx hb dX3_readSide_13 rfl (lv_at hl 0 rfl) ?_
    refine lv_iconst hx hb dX3_readSide_14 kci_0 ?_
    refine g_put hE okX3 fl_X3_49 hP hD hS 0 rfl rfl rfl rfl (Nat.le_of_ble_eq_true rfl) (Rd_c g a0 (Rd_w_number s0 (0 : Int32))) rfl dX3_readSide_15 (fun H locs hP hD hS => ?_)
    refine lv_goto hx hb dX3_readSide_18 (tgt := 48) rfl ?_
    refine lv_aload_n hx hb dX3_readSide_48 rfl (lv_at hl 0 rfl) ?_
    refine g_get hE okX3 fl_X3_12 hP 0 rfl (v := .ref (a0 1)) rfl dX3_readSide_49 ?_
    obtain ⟨r12, hc13, hf⟩ := gbd hf
    refine gm_callV1 (As := []) (rest := []) (st1 := fun _ => []) (ws' := fun _ => (Rd_c g a0 (Rd_w_number (Rd_w_tape s0 r12) (0 : Int32)))) hE hl.1 ml_X3_76 (c_X6_next l g (fun k => a0 (k + 1)) (Rd_tape s0) r12 hc13) hZ hP hD hS hA 1 3 rfl (fun _ => rfl) okX6 rfl rfl rfl (fun _ => rfl) ⟨rfl, rfl⟩ ⟨Nat.le_of_ble_eq_true rfl, Nat.le_of_ble_eq_true rfl⟩ ⟨Nat.le_refl _, Nat.le_refl _⟩ (Nat.le_of_ble_eq_true rfl) dX3_readSide_52 (fun _ H locs hP hD hS => ?_)
    refine lv_iconst hx hb dX3_readSide_55 kci_1 ?_
    cases hf
    exact hq () (by decide) rfl hP hD hS dX3_readSide_56
theorem dX3_readHow_0 : decode cX3_readHow 0 = .ok (.aload_n 0, 1) := by decide +kernel
theorem dX3_readHow_1 : decode cX3_readHow 1 = .ok (.getfield 12, 3) := by decide +kernel
theorem dX3_readHow_4 : decode cX3_readHow 4 = .ok (.ldc2_w 143, 3) := by decide +kernel
theorem dX3_readHow_7 : decode cX3_readHow 7 = .ok (.invokevirtual 88, 3) := by decide +kernel
theorem dX3_readHow_10 : decode cX3_readHow 10 = .ok (.ifCond .eq 11, 3) := by decide +kernel
theorem dX3_readHow_13 : decode cX3_readHow 13 = .ok (.aload_n 0, 1) := by decide +kernel
theorem dX3_readHow_14 : decode cX3_readHow 14 = .ok (.iconst 0, 1) := by decide +kernel
theorem dX3_readHow_15 : decode cX3_readHow 15 = .ok (.putfield 40, 3) := by decide +kernel
theorem dX3_readHow_18 : decode cX3_readHow 18 = .ok (.goto 72, 3) := by decide +kernel
theorem dX3_readHow_21 : decode cX3_readHow 21 = .ok (.aload_n 0, 1) := by decide +kernel
theorem dX3_readHow_22 : decode cX3_readHow 22 = .ok (.getfield 12, 3) := by decide +kernel
theorem dX3_readHow_25 : decode cX3_readHow 25 = .ok (.ldc2_w 139, 3) := by decide +kernel
theorem dX3_readHow_28 : decode cX3_readHow 28 = .ok (.invokevirtual 88, 3) := by decide +kernel
theorem dX3_readHow_31 : decode cX3_readHow 31 = .ok (.ifCond .eq 11, 3) := by decide +kernel
theorem dX3_readHow_34 : decode cX3_readHow 34 = .ok (.aload_n 0, 1) := by decide +kernel
theorem dX3_readHow_35 : decode cX3_readHow 35 = .ok (.iconst 1, 1) := by decide +kernel
theorem dX3_readHow_36 : decode cX3_readHow 36 = .ok (.putfield 40, 3) := by decide +kernel
theorem dX3_readHow_39 : decode cX3_readHow 39 = .ok (.goto 51, 3) := by decide +kernel
theorem dX3_readHow_42 : decode cX3_readHow 42 = .ok (.aload_n 0, 1) := by decide +kernel
theorem dX3_readHow_43 : decode cX3_readHow 43 = .ok (.getfield 12, 3) := by decide +kernel
theorem dX3_readHow_46 : decode cX3_readHow 46 = .ok (.ldc2_w 141, 3) := by decide +kernel
theorem dX3_readHow_49 : decode cX3_readHow 49 = .ok (.invokevirtual 88, 3) := by decide +kernel
theorem dX3_readHow_52 : decode cX3_readHow 52 = .ok (.ifCond .eq 11, 3) := by decide +kernel
theorem dX3_readHow_55 : decode cX3_readHow 55 = .ok (.aload_n 0, 1) := by decide +kernel
theorem dX3_readHow_56 : decode cX3_readHow 56 = .ok (.iconst 2, 1) := by decide +kernel
theorem dX3_readHow_57 : decode cX3_readHow 57 = .ok (.putfield 40, 3) := by decide +kernel
theorem dX3_readHow_60 : decode cX3_readHow 60 = .ok (.goto 30, 3) := by decide +kernel
theorem dX3_readHow_63 : decode cX3_readHow 63 = .ok (.aload_n 0, 1) := by decide +kernel
theorem dX3_readHow_64 : decode cX3_readHow 64 = .ok (.getfield 12, 3) := by decide +kernel
theorem dX3_readHow_67 : decode cX3_readHow 67 = .ok (.ldc2_w 145, 3) := by decide +kernel
theorem dX3_readHow_70 : decode cX3_readHow 70 = .ok (.invokevirtual 88, 3) := by decide +kernel
theorem dX3_readHow_73 : decode cX3_readHow 73 = .ok (.ifCond .eq 11, 3) := by decide +kernel
theorem dX3_readHow_76 : decode cX3_readHow 76 = .ok (.aload_n 0, 1) := by decide +kernel
theorem dX3_readHow_77 : decode cX3_readHow 77 = .ok (.iconst 3, 1) := by decide +kernel
theorem dX3_readHow_78 : decode cX3_readHow 78 = .ok (.putfield 40, 3) := by decide +kernel
theorem dX3_readHow_81 : decode cX3_readHow 81 = .ok (.goto 9, 3) := by decide +kernel
theorem dX3_readHow_84 : decode cX3_readHow 84 = .ok (.aload_n 0, 1) := by decide +kernel
theorem dX3_readHow_85 : decode cX3_readHow 85 = .ok (.iconst 1, 1) := by decide +kernel
theorem dX3_readHow_86 : decode cX3_readHow 86 = .ok (.invokevirtual 79, 3) := by decide +kernel
theorem dX3_readHow_89 : decode cX3_readHow 89 = .ok (.ireturn, 1) := by decide +kernel
theorem dX3_readHow_90 : decode cX3_readHow 90 = .ok (.aload_n 0, 1) := by decide +kernel
theorem dX3_readHow_91 : decode cX3_readHow 91 = .ok (.getfield 12, 3) := by decide +kernel
theorem dX3_readHow_94 : decode cX3_readHow 94 = .ok (.invokevirtual 76, 3) := by decide +kernel
theorem dX3_readHow_97 : decode cX3_readHow 97 = .ok (.iconst 1, 1) := by decide +kernel
theorem dX3_readHow_98 : decode cX3_readHow 98 = .ok (.ireturn, 1) := by decide +kernel
def f_X3_readHow (s0 : RdT) : Option (Int32 × RdT) :=
  (f_X6_says (Rd_tape s0) (491328007785 : Int64)).bind fun r1 =>
  if r1 = 0 then (f_X6_says (Rd_tape s0) (1952867692 : Int64)).bind fun r4 =>
  if r4 = 0 then (f_X6_says (Rd_tape s0) (499967814002 : Int64)).bind fun r7 =>
  if r7 = 0 then (f_X6_says (Rd_tape s0) (1819047270 : Int64)).bind fun r10 =>
  if r10 = 0 then (f_X3_fail s0 (1 : Int32)).bind fun r13 =>
  if isB (r13.1) then some ((r13.1), (r13.2)) else none
  else (f_X6_next (Rd_tape s0)).bind fun r16 =>
  some ((1 : Int32), (Rd_w_how (Rd_w_tape s0 r16) (3 : Int32)))
  else (f_X6_next (Rd_tape s0)).bind fun r18 =>
  some ((1 : Int32), (Rd_w_how (Rd_w_tape s0 r18) (2 : Int32)))
  else (f_X6_next (Rd_tape s0)).bind fun r20 =>
  some ((1 : Int32), (Rd_w_how (Rd_w_tape s0 r20) (1 : Int32)))
  else (f_X6_next (Rd_tape s0)).bind fun r22 =>
  some ((1 : Int32), (Rd_w_how (Rd_w_tape s0 r22) (0 : Int32)))
abbrev rm_X3_readHow : Room := { frames := 2, cells := 0, slots := 0, locals := 42 }
set_option maxHeartbeats 4000000 in
set_option maxRecDepth 100000 in
theorem c_X3_readHow (l : Launch) (g : GK) (a0 : Nat → Nat) (s0 : RdT) (res : (Int32 × RdT)) (hf : f_X3_readHow s0 = some res) : gM l yX3_readHow cX3_readHow 1 (some .boolean) rm_X3_readHow g [.ref (a0 0)] (Rd_c g a0 s0) (fun _ : Unit => (some (.int (res.1)))) (fun _ => (Rd_c g a0 (res.2))) 0 0 := by
  refine gM_introZ RX3 (by decide) rfl (Nat.le_of_ble_eq_true rfl) (fun p e s m args below meth c Q H locs ls A hE hZ hA hP hD hS hq hl => ?_)
  have hl : lv_has ls 1 [(0, .ref (a0 0))] := hl
  have hx := hE.1
  have hb := hE.2.1
  rw [f_X3_readHow] at hf
  refine lv_aload_n hx hb dX3_readHow_0 rfl (lv_at hl 0 rfl) ?_
  refine g_get hE okX3 fl_X3_12 hP 0 rfl (v := .ref (a0 1)) rfl dX3_readHow_1 ?_
  refine lv_ldc2 hx hb hE.2.2.2.2.2.1 (hE.2.2.2.2.2.2.1 _ kd_X3_143) dX3_readHow_4 ?_
  obtain ⟨r1, hc2, hf⟩ := gbd hf
  refine gr_callV (As := [.long (491328007785 : Int64)]) (rest := []) (st1 := [.int r1]) hE hl.1 ml_X3_88 (c_X6_says l g (fun k => a0 (k + 1)) (Rd_tape s0) (491328007785 : Int64) r1 hc2) hZ hS hP [(1, 2)] rfl okX6 rfl rfl rfl rfl ⟨rfl, rfl⟩ ⟨Nat.le_of_ble_eq_true rfl, Nat.le_of_ble_eq_true rfl⟩ ⟨Nat.le_refl _, Nat.le_refl _⟩ (Nat.le_of_ble_eq_true rfl) dX3_readHow_7 ?_
  refine lv_if_eq hx hb dX3_readHow_10 (tgt := 21) rfl (fun h3 => ?_) (fun h3 => ?_)
  · have hf := gif_t h3 hf
    refine lv_aload_n hx hb dX3_readHow_21 rfl (lv_at hl 0 rfl) ?_
    refine g_get hE okX3 fl_X3_12 hP 0 rfl (v := .ref (a0 1)) rfl dX3_readHow_22 ?_
    refine lv_ldc2 hx hb hE.2.2.2.2.2.1 (hE.2.2.2.2.2.2.1 _ kd_X3_139) dX3_readHow_25 ?_
    obtain ⟨r4, hc5, hf⟩ := gbd hf
    refine gr_callV (As := [.long (1952867692 : Int64)]) (rest := []) (st1 := [.int r4]) hE hl.1 ml_X3_88 (c_X6_says l g (fun k => a0 (k + 1)) (Rd_tape s0) (1952867692 : Int64) r4 hc5) hZ hS hP [(1, 2)] rfl okX6 rfl rfl rfl rfl ⟨rfl, rfl⟩ ⟨Nat.le_of_ble_eq_true rfl, Nat.le_of_ble_eq_true rfl⟩ ⟨Nat.le_refl _, Nat.le_refl _⟩ (Nat.le_of_ble_eq_true rfl) dX3_readHow_28 ?_
    refine lv_if_eq hx hb dX3_readHow_31 (tgt := 42) rfl (fun h6 => ?_) (fun h6 => ?_)
    · have hf := gif_t h6 hf
      refine lv_aload_n hx hb dX3_readHow_42 rfl (lv_at hl 0 rfl) ?_
      refine g_get hE okX3 fl_X3_12 hP 0 rfl (v := .ref (a0 1)) rfl dX3_readHow_43 ?_
      refine lv_ldc2 hx hb hE.2.2.2.2.2.1 (hE.2.2.2.2.2.2.1 _ kd_X3_141) dX3_readHow_46 ?_
      obtain ⟨r7, hc8, hf⟩ := gbd hf
      refine gr_callV (As := [.long (499967814002 : Int64)]) (rest := []) (st1 := [.int r7]) hE hl.1 ml_X3_88 (c_X6_says l g (fun k => a0 (k + 1)) (Rd_tape s0) (499967814002 : Int64) r7 hc8) hZ hS hP [(1, 2)] rfl okX6 rfl rfl rfl rfl ⟨rfl, rfl⟩ ⟨Nat.le_of_ble_eq_true rfl, Nat.le_of_ble_eq_true rfl⟩ ⟨Nat.le_refl _, Nat.le_refl _⟩ (Nat.le_of_ble_eq_true rfl) dX3_readHow_49 ?_
      refine lv_if_eq hx hb dX3_readHow_52 (tgt := 63) rfl (fun h9 => ?_) (fun h9 => ?_)
      · have hf := gif_t h9 hf
        refine lv_aload_n hx hb dX3_readHow_63 rfl (lv_at hl 0 rfl) ?_
        refine g_get hE okX3 fl_X3_12 hP 0 rfl (v := .ref (a0 1)) rfl dX3_readHow_64 ?_
        refine lv_ldc2 hx hb hE.2.2.2.2.2.1 (hE.2.2.2.2.2.2.1 _ kd_X3_145) dX3_readHow_67 ?_
        obtain ⟨r10, hc11, hf⟩ := gbd hf
        refine gr_callV (As := [.long (1819047270 : Int64)]) (rest := []) (st1 := [.int r10]) hE hl.1 ml_X3_88 (c_X6_says l g (fun k => a0 (k + 1)) (Rd_tape s0) (1819047270 : Int64) r10 hc11) hZ hS hP [(1, 2)] rfl okX6 rfl rfl rfl rfl ⟨rfl, rfl⟩ ⟨Nat.le_of_ble_eq_true rfl, Nat.le_of_ble_eq_true rfl⟩ ⟨Nat.le_refl _, Nat.le_refl _⟩ (Nat.le_of_ble_eq_true rfl) dX3_readHow_70 ?_
        refine lv_if_eq hx hb dX3_readHow_73 (tgt := 84) rfl (fun h12 => ?_) (fun h12 => ?_)
        · have hf := gif_t h12 hf
          refine lv_aload_n hx hb dX3_readHow_84 rfl (lv_at hl 0 rfl) ?_
          refine lv_iconst hx hb dX3_readHow_85 kci_1 ?_
          obtain ⟨r13, hc14, hf⟩ := gbd hf
          refine gm_callV1 (As := [.int (1 : Int32)]) (rest := []) (st1 := fun _ => [.int (r13.1)]) (ws' := fun _ => (Rd_c g a0 (r13.2))) hE hl.1 ml_X3_79 (c_X3_fail l g a0 s0 (1 : Int32) r13 hc14) hZ hP hD hS hA 0 8 rfl (fun _ => rfl) okX3 rfl rfl rfl (fun _ => rfl) ⟨rfl, rfl⟩ ⟨Nat.le_of_ble_eq_true rfl, Nat.le_of_ble_eq_true rfl⟩ ⟨Nat.le_refl _, Nat.le_refl _⟩ (Nat.le_of_ble_eq_true rfl) dX3_readHow_86 (fun _ H locs hP hD hS => ?_)
          obtain ⟨hg15, hf⟩ := ggd hf
          cases hf
          exact hq () hg15 rfl hP hD hS dX3_readHow_89
        · have hf := gif_f h12 hf
          refine lv_aload_n hx hb dX3_readHow_76 rfl (lv_at hl 0 rfl) ?_
          refine lv_iconst hx hb dX3_readHow_77 kci_3 ?_
          refine g_put hE okX3 fl_X3_40 hP hD hS 0 rfl rfl rfl rfl (Nat.le_of_ble_eq_true rfl) (Rd_c g a0 (Rd_w_how s0 (3 : Int32))) rfl dX3_readHow_78 (fun H locs hP hD hS => ?_)
          refine lv_goto hx hb dX3_readHow_81 (tgt := 90) rfl ?_
          refine lv_aload_n hx hb dX3_readHow_90 rfl (lv_at hl 0 rfl) ?_
          refine g_get hE okX3 fl_X3_12 hP 0 rfl (v := .ref (a0 1)) rfl dX3_readHow_91 ?_
          obtain ⟨r16, hc17, hf⟩ := gbd hf
          refine gm_callV1 (As := []) (rest := []) (st1 := fun _ => []) (ws' := fun _ => (Rd_c g a0 (Rd_w_how (Rd_w_tape s0 r16) (3 : Int32)))) hE hl.1 ml_X3_76 (c_X6_next l g (fun k => a0 (k + 1)) (Rd_tape s0) r16 hc17) hZ hP hD hS hA 1 3 rfl (fun _ => rfl) okX6 rfl rfl rfl (fun _ => rfl) ⟨rfl, rfl⟩ ⟨Nat.le_of_ble_eq_true rfl, Nat.le_of_ble_eq_true rfl⟩ ⟨Nat.le_refl _, Nat.le_refl _⟩ (Nat.le_of_ble_eq_true rfl) dX3_readHow_94 (fun _ H locs hP hD hS => ?_)
          refine lv_iconst hx hb dX3_readHow_97 kci_1 ?_
          cases hf
          exact hq () (by decide) rfl hP hD hS dX3_readHow_98
      · have hf := gif_f h9 hf
        refine lv_aload_n hx hb dX3_readHow_55 rfl (lv_at hl 0 rfl) ?_
        refine lv_iconst hx hb dX3_readHow_56 kci_2 ?_
        refine g_put hE okX3 fl_X3_40 hP hD hS 0 rfl rfl rfl rfl (Nat.le_of_ble_eq_true rfl) (Rd_c g a0 (Rd_w_how s0 (2 : Int32))) rfl dX3_readHow_57 (fun H locs hP hD hS => ?_)
        refine lv_goto hx hb dX3_readHow_60 (tgt := 90) rfl ?_
        refine lv_aload_n hx hb dX3_readHow_90 rfl (lv_at hl 0 rfl) ?_
        refine g_get hE okX3 fl_X3_12 hP 0 rfl (v := .ref (a0 1)) rfl dX3_readHow_91 ?_
        obtain ⟨r18, hc19, hf⟩ := gbd hf
        refine gm_callV1 (As := []) (rest := []) (st1 := fun _ => []) (ws' := fun _ => (Rd_c g a0 (Rd_w_how (Rd_w_tape s0 r18) (2 : Int32)))) hE hl.1 ml_X3_76 (c_X6_next l g (fun k => a0 (k + 1)) (Rd_tape s0) r18 hc19) hZ hP hD hS hA 1 3 rfl (fun _ => rfl) okX6 rfl rfl rfl (fun _ => rfl) ⟨rfl, rfl⟩ ⟨Nat.le_of_ble_eq_true rfl, Nat.le_of_ble_eq_true rfl⟩ ⟨Nat.le_refl _, Nat.le_refl _⟩ (Nat.le_of_ble_eq_true rfl) dX3_readHow_94 (fun _ H locs hP hD hS => ?_)
        refine lv_iconst hx hb dX3_readHow_97 kci_1 ?_
        cases hf
        exact hq () (by decide) rfl hP hD hS dX3_readHow_98
    · have hf := gif_f h6 hf
      refine lv_aload_n hx hb dX3_readHow_34 rfl (lv_at hl 0 rfl) ?_
      refine lv_iconst hx hb dX3_readHow_35 kci_1 ?_
      refine g_put hE okX3 fl_X3_40 hP hD hS 0 rfl rfl rfl rfl (Nat.le_of_ble_eq_true rfl) (Rd_c g a0 (Rd_w_how s0 (1 : Int32))) rfl dX3_readHow_36 (fun H locs hP hD hS => ?_)
      refine lv_goto hx hb dX3_readHow_39 (tgt := 90) rfl ?_
      refine lv_aload_n hx hb dX3_readHow_90 rfl (lv_at hl 0 rfl) ?_
      refine g_get hE okX3 fl_X3_12 hP 0 rfl (v := .ref (a0 1)) rfl dX3_readHow_91 ?_
      obtain ⟨r20, hc21, hf⟩ := gbd hf
      refine gm_callV1 (As := []) (rest := []) (st1 := fun _ => []) (ws' := fun _ => (Rd_c g a0 (Rd_w_how (Rd_w_tape s0 r20) (1 : Int32)))) hE hl.1 ml_X3_76 (c_X6_next l g (fun k => a0 (k + 1)) (Rd_tape s0) r20 hc21) hZ hP hD hS hA 1 3 rfl (fun _ => rfl) okX6 rfl rfl rfl (fun _ => rfl) ⟨rfl, rfl⟩ ⟨Nat.le_of_ble_eq_true rfl, Nat.le_of_ble_eq_true rfl⟩ ⟨Nat.le_refl _, Nat.le_refl _⟩ (Nat.le_of_ble_eq_true rfl) dX3_readHow_94 (fun _ H locs hP hD hS => ?_)
      refine lv_iconst hx hb dX3_readHow_97 kci_1 ?_
      cases hf
      exact hq () (by decide) rfl hP hD hS dX3_readHow_98
  · have hf := gif_f h3 hf
    refine lv_aload_n hx hb dX3_readHow_13 rfl (lv_at hl 0 rfl) ?_
    refine lv_iconst hx hb dX3_readHow_14 kci_0 ?_
    refine g_put hE okX3 fl_X3_40 hP hD hS 0 rfl rfl rfl rfl (Nat.le_of_ble_eq_true rfl) (Rd_c g a0 (Rd_w_how s0 (0 : Int32))) rfl dX3_readHow_15 (fun H locs hP hD hS => ?_)
    refine lv_goto hx hb dX3_readHow_18 (tgt := 90) rfl ?_
    refine lv_aload_n hx hb dX3_readHow_90 rfl (lv_at hl 0 rfl) ?_
    refine g_get hE okX3 fl_X3_12 hP 0 rfl (v := .ref (a0 1)) rfl dX3_readHow_91 ?_
    obtain ⟨r22, hc23, hf⟩ := gbd hf
    refine gm_callV1 (As := []) (rest := []) (st1 := fun _ => []) (ws' := fun _ => (Rd_c g a0 (Rd_w_how (Rd_w_tape s0 r22) (0 : Int32)))) hE hl.1 ml_X3_76 (c_X6_next l g (fun k => a0 (k + 1)) (Rd_tape s0) r22 hc23) hZ hP hD hS hA 1 3 rfl (fun _ => rfl) okX6 rfl rfl rfl (fun _ => rfl) ⟨rfl, rfl⟩ ⟨Nat.le_of_ble_eq_true rfl, Nat.le_of_ble_eq_true rfl⟩ ⟨Nat.le_refl _, Nat.le_refl _⟩ (Nat.le_of_ble_eq_true rfl) dX3_readHow_94 (fun _ H locs hP hD hS => ?_)
    refine lv_iconst hx hb dX3_readHow_97 kci_1 ?_
    cases hf
    exact hq () (by decide) rfl hP hD hS dX3_readHow_98
theorem dX3_readName_0 : decode cX3_readName 0 = .ok (.aload_n 0, 1) := by decide +kernel
theorem dX3_readName_1 : decode cX3_readName 1 = .ok (.getfield 12, 3) := by decide +kernel
theorem dX3_readName_4 : decode cX3_readName 4 = .ok (.getfield 73, 3) := by decide +kernel
theorem dX3_readName_7 : decode cX3_readName 7 = .ok (.iconst 1, 1) := by decide +kernel
theorem dX3_readName_8 : decode cX3_readName 8 = .ok (.if_icmp .ne 10, 3) := by decide +kernel
theorem dX3_readName_11 : decode cX3_readName 11 = .ok (.aload_n 0, 1) := by decide +kernel
theorem dX3_readName_12 : decode cX3_readName 12 = .ok (.invokevirtual 147, 3) := by decide +kernel
theorem dX3_readName_15 : decode cX3_readName 15 = .ok (.ifCond .eq 9, 3) := by decide +kernel
theorem dX3_readName_18 : decode cX3_readName 18 = .ok (.aload_n 0, 1) := by decide +kernel
theorem dX3_readName_19 : decode cX3_readName 19 = .ok (.iconst 1, 1) := by decide +kernel
theorem dX3_readName_20 : decode cX3_readName 20 = .ok (.invokevirtual 79, 3) := by decide +kernel
theorem dX3_readName_23 : decode cX3_readName 23 = .ok (.ireturn, 1) := by decide +kernel
theorem dX3_readName_24 : decode cX3_readName 24 = .ok (.aload_n 0, 1) := by decide +kernel
theorem dX3_readName_25 : decode cX3_readName 25 = .ok (.aload_n 1, 1) := by decide +kernel
theorem dX3_readName_26 : decode cX3_readName 26 = .ok (.aload_n 0, 1) := by decide +kernel
theorem dX3_readName_27 : decode cX3_readName 27 = .ok (.getfield 12, 3) := by decide +kernel
theorem dX3_readName_30 : decode cX3_readName 30 = .ok (.getfield 150, 3) := by decide +kernel
theorem dX3_readName_33 : decode cX3_readName 33 = .ok (.invokevirtual 154, 3) := by decide +kernel
theorem dX3_readName_36 : decode cX3_readName 36 = .ok (.putfield 49, 3) := by decide +kernel
theorem dX3_readName_39 : decode cX3_readName 39 = .ok (.aload_n 0, 1) := by decide +kernel
theorem dX3_readName_40 : decode cX3_readName 40 = .ok (.getfield 49, 3) := by decide +kernel
theorem dX3_readName_43 : decode cX3_readName 43 = .ok (.iconst (-1), 1) := by decide +kernel
theorem dX3_readName_44 : decode cX3_readName 44 = .ok (.if_icmp .ne 31, 3) := by decide +kernel
theorem dX3_readName_47 : decode cX3_readName 47 = .ok (.aload_n 1, 1) := by decide +kernel
theorem dX3_readName_48 : decode cX3_readName 48 = .ok (.invokevirtual 158, 3) := by decide +kernel
theorem dX3_readName_51 : decode cX3_readName 51 = .ok (.ifCond .eq 9, 3) := by decide +kernel
theorem dX3_readName_54 : decode cX3_readName 54 = .ok (.aload_n 0, 1) := by decide +kernel
theorem dX3_readName_55 : decode cX3_readName 55 = .ok (.iconst 4, 1) := by decide +kernel
theorem dX3_readName_56 : decode cX3_readName 56 = .ok (.invokevirtual 79, 3) := by decide +kernel
theorem dX3_readName_59 : decode cX3_readName 59 = .ok (.ireturn, 1) := by decide +kernel
theorem dX3_readName_60 : decode cX3_readName 60 = .ok (.aload_n 0, 1) := by decide +kernel
theorem dX3_readName_61 : decode cX3_readName 61 = .ok (.aload_n 1, 1) := by decide +kernel
theorem dX3_readName_62 : decode cX3_readName 62 = .ok (.aload_n 0, 1) := by decide +kernel
theorem dX3_readName_63 : decode cX3_readName 63 = .ok (.getfield 12, 3) := by decide +kernel
theorem dX3_readName_66 : decode cX3_readName 66 = .ok (.getfield 150, 3) := by decide +kernel
theorem dX3_readName_69 : decode cX3_readName 69 = .ok (.invokevirtual 161, 3) := by decide +kernel
theorem dX3_readName_72 : decode cX3_readName 72 = .ok (.putfield 49, 3) := by decide +kernel
theorem dX3_readName_75 : decode cX3_readName 75 = .ok (.aload_n 0, 1) := by decide +kernel
theorem dX3_readName_76 : decode cX3_readName 76 = .ok (.getfield 12, 3) := by decide +kernel
theorem dX3_readName_79 : decode cX3_readName 79 = .ok (.invokevirtual 76, 3) := by decide +kernel
theorem dX3_readName_82 : decode cX3_readName 82 = .ok (.iconst 1, 1) := by decide +kernel
theorem dX3_readName_83 : decode cX3_readName 83 = .ok (.ireturn, 1) := by decide +kernel
def f_X3_readName_0 (s0 : RdT) : Option (Int32 × RdT) :=
  if (Tp_kind (Rd_tape s0)) = (1 : Int32) then (f_X3_isReserved s0).bind fun r5 =>
  if r5 = 0 then (f_X7_numberOf (Rd_keys s0) (Tp_word (Rd_tape s0))).bind fun r8 =>
  if r8 = (-1 : Int32) then (f_X7_isFull (Rd_keys s0)).bind fun r13 =>
  if r13 = 0 then (f_X7_add (Rd_keys s0) (Tp_word (Rd_tape s0))).bind fun r16 =>
  (f_X6_next (Rd_tape s0)).bind fun r18 =>
  some ((1 : Int32), (Rd_w_number (Rd_w_keys (Rd_w_tape s0 r18) (r16.2)) (r16.1)))
  else (f_X3_fail (Rd_w_number s0 r8) (4 : Int32)).bind fun r20 =>
  if isB (r20.1) then some ((r20.1), (r20.2)) else none
  else (f_X6_next (Rd_tape s0)).bind fun r11 =>
  some ((1 : Int32), (Rd_w_number (Rd_w_tape s0 r11) r8))
  else (f_X3_fail s0 (1 : Int32)).bind fun r23 =>
  if isB (r23.1) then some ((r23.1), (r23.2)) else none
  else (f_X3_fail s0 (1 : Int32)).bind fun r2 =>
  if isB (r2.1) then some ((r2.1), (r2.2)) else none
abbrev rm_X3_readName_0 : Room := { frames := 2, cells := 0, slots := 0, locals := 42 }
set_option maxHeartbeats 4000000 in
set_option maxRecDepth 100000 in
theorem c_X3_readName_0 (l : Launch) (g : GK) (a0 : Nat → Nat) (s0 : RdT) (res : (Int32 × RdT)) (hf : f_X3_readName_0 s0 = some res) : gM l yX3_readName cX3_readName 2 (some .boolean) rm_X3_readName_0 g [.ref (a0 0), .ref (a0 3)] (Rd_c g a0 s0) (fun _ : Unit => (some (.int (res.1)))) (fun _ => (Rd_c g a0 (res.2))) 0 0 := by
  refine gM_introZ RX3 (by decide) rfl (Nat.le_of_ble_eq_true rfl) (fun p e s m args below meth c Q H locs ls A hE hZ hA hP hD hS hq hl => ?_)
  have hl : lv_has ls 2 [(0, .ref (a0 0)), (1, .ref (a0 3))] := hl
  have hx := hE.1
  have hb := hE.2.1
  rw [f_X3_readName_0] at hf
  refine lv_aload_n hx hb dX3_readName_0 rfl (lv_at hl 0 rfl) ?_
  refine g_get hE okX3 fl_X3_12 hP 0 rfl (v := .ref (a0 1)) rfl dX3_readName_1 ?_
  refine g_get hE okX6 fl_X3_73 hP 1 rfl (v := .int (Tp_kind (Rd_tape s0))) rfl dX3_readName_4 ?_
  refine lv_iconst hx hb dX3_readName_7 kci_1 ?_
  refine lv_icmp_ne hx hb dX3_readName_8 (tgt := 18) rfl (fun h1 => ?_) (fun h1 => ?_)
  · have hf := gif_f h1 hf
    refine lv_aload_n hx hb dX3_readName_18 rfl (lv_at hl 0 rfl) ?_
    refine lv_iconst hx hb dX3_readName_19 kci_1 ?_
    obtain ⟨r2, hc3, hf⟩ := gbd hf
    refine gm_callV1 (As := [.int (1 : Int32)]) (rest := []) (st1 := fun _ => [.int (r2.1)]) (ws' := fun _ => (Rd_c g a0 (r2.2))) hE hl.1 ml_X3_79 (c_X3_fail l g a0 s0 (1 : Int32) r2 hc3) hZ hP hD hS hA 0 8 rfl (fun _ => rfl) okX3 rfl rfl rfl (fun _ => rfl) ⟨rfl, rfl⟩ ⟨Nat.le_of_ble_eq_true rfl, Nat.le_of_ble_eq_true rfl⟩ ⟨Nat.le_refl _, Nat.le_refl _⟩ (Nat.le_of_ble_eq_true rfl) dX3_readName_20 (fun _ H locs hP hD hS => ?_)
    obtain ⟨hg4, hf⟩ := ggd hf
    cases hf
    exact hq () hg4 rfl hP hD hS dX3_readName_23
  · have hf := gif_t h1 hf
    refine lv_aload_n hx hb dX3_readName_11 rfl (lv_at hl 0 rfl) ?_
    obtain ⟨r5, hc6, hf⟩ := gbd hf
    refine gr_callV (As := []) (rest := []) (st1 := [.int r5]) hE hl.1 ml_X3_147 (c_X3_isReserved l g a0 s0 r5 hc6) hZ hS hP [(0, 8)] rfl okX3 rfl rfl rfl rfl ⟨rfl, rfl⟩ ⟨Nat.le_of_ble_eq_true rfl, Nat.le_of_ble_eq_true rfl⟩ ⟨Nat.le_refl _, Nat.le_refl _⟩ (Nat.le_of_ble_eq_true rfl) dX3_readName_12 ?_
    refine lv_if_eq hx hb dX3_readName_15 (tgt := 24) rfl (fun h7 => ?_) (fun h7 => ?_)
    · have hf := gif_t h7 hf
      refine lv_aload_n hx hb dX3_readName_24 rfl (lv_at hl 0 rfl) ?_
      refine lv_aload_n hx hb dX3_readName_25 rfl (lv_at hl 1 rfl) ?_
      refine lv_aload_n hx hb dX3_readName_26 rfl (lv_at hl 0 rfl) ?_
      refine g_get hE okX3 fl_X3_12 hP 0 rfl (v := .ref (a0 1)) rfl dX3_readName_27 ?_
      refine g_get hE okX6 fl_X3_150 hP 1 rfl (v := .long (Tp_word (Rd_tape s0))) rfl dX3_readName_30 ?_
      obtain ⟨r8, hc9, hf⟩ := gbd hf
      refine gr_callV (As := [.long (Tp_word (Rd_tape s0))]) (rest := [.ref (a0 0)]) (st1 := [.int r8, .ref (a0 0)]) hE hl.1 ml_X3_154 (c_X7_numberOf l g (fun k => a0 (k + 3)) (Rd_keys s0) (Tp_word (Rd_tape s0)) r8 hc9) hZ hS hP [(3, 2)] rfl okX7 rfl rfl rfl rfl ⟨rfl, rfl⟩ ⟨Nat.le_of_ble_eq_true rfl, Nat.le_of_ble_eq_true rfl⟩ ⟨Nat.le_refl _, Nat.le_refl _⟩ (Nat.le_of_ble_eq_true rfl) dX3_readName_33 ?_
      refine g_put hE okX3 fl_X3_49 hP hD hS 0 rfl rfl rfl rfl (Nat.le_of_ble_eq_true rfl) (Rd_c g a0 (Rd_w_number s0 r8)) rfl dX3_readName_36 (fun H locs hP hD hS => ?_)
      refine lv_aload_n hx hb dX3_readName_39 rfl (lv_at hl 0 rfl) ?_
      refine g_get hE okX3 fl_X3_49 hP 0 rfl (v := .int r8) rfl dX3_readName_40 ?_
      refine lv_iconst hx hb dX3_readName_43 kci_m1 ?_
      refine lv_icmp_ne hx hb dX3_readName_44 (tgt := 75) rfl (fun h10 => ?_) (fun h10 => ?_)
      · have hf := gif_f h10 hf
        refine lv_aload_n hx hb dX3_readName_75 rfl (lv_at hl 0 rfl) ?_
        refine g_get hE okX3 fl_X3_12 hP 0 rfl (v := .ref (a0 1)) rfl dX3_readName_76 ?_
        obtain ⟨r11, hc12, hf⟩ := gbd hf
        refine gm_callV1 (As := []) (rest := []) (st1 := fun _ => []) (ws' := fun _ => (Rd_c g a0 (Rd_w_number (Rd_w_tape s0 r11) r8))) hE hl.1 ml_X3_76 (c_X6_next l g (fun k => a0 (k + 1)) (Rd_tape s0) r11 hc12) hZ hP hD hS hA 1 3 rfl (fun _ => rfl) okX6 rfl rfl rfl (fun _ => rfl) ⟨rfl, rfl⟩ ⟨Nat.le_of_ble_eq_true rfl, Nat.le_of_ble_eq_true rfl⟩ ⟨Nat.le_refl _, Nat.le_refl _⟩ (Nat.le_of_ble_eq_true rfl) dX3_readName_79 (fun _ H locs hP hD hS => ?_)
        refine lv_iconst hx hb dX3_readName_82 kci_1 ?_
        cases hf
        exact hq () (by decide) rfl hP hD hS dX3_readName_83
      · have hf := gif_t h10 hf
        refine lv_aload_n hx hb dX3_readName_47 rfl (lv_at hl 1 rfl) ?_
        obtain ⟨r13, hc14, hf⟩ := gbd hf
        refine gr_callV (As := []) (rest := []) (st1 := [.int r13]) hE hl.1 ml_X3_158 (c_X7_isFull l g (fun k => a0 (k + 3)) (Rd_keys s0) r13 hc14) hZ hS hP [(3, 2)] rfl okX7 rfl rfl rfl rfl ⟨rfl, rfl⟩ ⟨Nat.le_of_ble_eq_true rfl, Nat.le_of_ble_eq_true rfl⟩ ⟨Nat.le_refl _, Nat.le_refl _⟩ (Nat.le_of_ble_eq_true rfl) dX3_readName_48 ?_
        refine lv_if_eq hx hb dX3_readName_51 (tgt := 60) rfl (fun h15 => ?_) (fun h15 => ?_)
        · have hf := gif_t h15 hf
          refine lv_aload_n hx hb dX3_readName_60 rfl (lv_at hl 0 rfl) ?_
          refine lv_aload_n hx hb dX3_readName_61 rfl (lv_at hl 1 rfl) ?_
          refine lv_aload_n hx hb dX3_readName_62 rfl (lv_at hl 0 rfl) ?_
          refine g_get hE okX3 fl_X3_12 hP 0 rfl (v := .ref (a0 1)) rfl dX3_readName_63 ?_
          refine g_get hE okX6 fl_X3_150 hP 1 rfl (v := .long (Tp_word (Rd_tape s0))) rfl dX3_readName_66 ?_
          obtain ⟨r16, hc17, hf⟩ := gbd hf
          refine gm_callV1 (As := [.long (Tp_word (Rd_tape s0))]) (rest := [.ref (a0 0)]) (st1 := fun _ => [.int (r16.1), .ref (a0 0)]) (ws' := fun _ => (Rd_c g a0 (Rd_w_number (Rd_w_keys s0 (r16.2)) r8))) hE hl.1 ml_X3_161 (c_X7_add l g (fun k => a0 (k + 3)) (Rd_keys s0) (Tp_word (Rd_tape s0)) r16 hc17) hZ hP hD hS hA 3 5 rfl (fun _ => rfl) okX7 rfl rfl rfl (fun _ => rfl) ⟨rfl, rfl⟩ ⟨Nat.le_of_ble_eq_true rfl, Nat.le_of_ble_eq_true rfl⟩ ⟨Nat.le_refl _, Nat.le_refl _⟩ (Nat.le_of_ble_eq_true rfl) dX3_readName_69 (fun _ H locs hP hD hS => ?_)
          refine g_put hE okX3 fl_X3_49 hP hD hS 0 rfl rfl rfl rfl (Nat.le_of_ble_eq_true rfl) (Rd_c g a0 (Rd_w_number (Rd_w_keys s0 (r16.2)) (r16.1))) rfl dX3_readName_72 (fun H locs hP hD hS => ?_)
          refine lv_aload_n hx hb dX3_readName_75 rfl (lv_at hl 0 rfl) ?_
          refine g_get hE okX3 fl_X3_12 hP 0 rfl (v := .ref (a0 1)) rfl dX3_readName_76 ?_
          obtain ⟨r18, hc19, hf⟩ := gbd hf
          refine gm_callV1 (As := []) (rest := []) (st1 := fun _ => []) (ws' := fun _ => (Rd_c g a0 (Rd_w_number (Rd_w_keys (Rd_w_tape s0 r18) (r16.2)) (r16.1)))) hE hl.1 ml_X3_76 (c_X6_next l g (fun k => a0 (k + 1)) (Rd_tape s0) r18 hc19) hZ hP hD hS hA 1 3 rfl (fun _ => rfl) okX6 rfl rfl rfl (fun _ => rfl) ⟨rfl, rfl⟩ ⟨Nat.le_of_ble_eq_true rfl, Nat.le_of_ble_eq_true rfl⟩ ⟨Nat.le_refl _, Nat.le_refl _⟩ (Nat.le_of_ble_eq_true rfl) dX3_readName_79 (fun _ H locs hP hD hS => ?_)
          refine lv_iconst hx hb dX3_readName_82 kci_1 ?_
          cases hf
          exact hq () (by decide) rfl hP hD hS dX3_readName_83
        · have hf := gif_f h15 hf
          refine lv_aload_n hx hb dX3_readName_54 rfl (lv_at hl 0 rfl) ?_
          refine lv_iconst hx hb dX3_readName_55 kci_4 ?_
          obtain ⟨r20, hc21, hf⟩ := gbd hf
          refine gm_callV1 (As := [.int (4 : Int32)]) (rest := []) (st1 := fun _ => [.int (r20.1)]) (ws' := fun _ => (Rd_c g a0 (r20.2))) hE hl.1 ml_X3_79 (c_X3_fail l g a0 (Rd_w_number s0 r8) (4 : Int32) r20 hc21) hZ hP hD hS hA 0 8 rfl (fun _ => rfl) okX3 rfl rfl rfl (fun _ => rfl) ⟨rfl, rfl⟩ ⟨Nat.le_of_ble_eq_true rfl, Nat.le_of_ble_eq_true rfl⟩ ⟨Nat.le_refl _, Nat.le_refl _⟩ (Nat.le_of_ble_eq_true rfl) dX3_readName_56 (fun _ H locs hP hD hS => ?_)
          obtain ⟨hg22, hf⟩ := ggd hf
          cases hf
          exact hq () hg22 rfl hP hD hS dX3_readName_59
    · have hf := gif_f h7 hf
      refine lv_aload_n hx hb dX3_readName_18 rfl (lv_at hl 0 rfl) ?_
      refine lv_iconst hx hb dX3_readName_19 kci_1 ?_
      obtain ⟨r23, hc24, hf⟩ := gbd hf
      refine gm_callV1 (As := [.int (1 : Int32)]) (rest := []) (st1 := fun _ => [.int (r23.1)]) (ws' := fun _ => (Rd_c g a0 (r23.2))) hE hl.1 ml_X3_79 (c_X3_fail l g a0 s0 (1 : Int32) r23 hc24) hZ hP hD hS hA 0 8 rfl (fun _ => rfl) okX3 rfl rfl rfl (fun _ => rfl) ⟨rfl, rfl⟩ ⟨Nat.le_of_ble_eq_true rfl, Nat.le_of_ble_eq_true rfl⟩ ⟨Nat.le_refl _, Nat.le_refl _⟩ (Nat.le_of_ble_eq_true rfl) dX3_readName_20 (fun _ H locs hP hD hS => ?_)
      obtain ⟨hg25, hf⟩ := ggd hf
      cases hf
      exact hq () hg25 rfl hP hD hS dX3_readName_23
def f_X3_readName_1 (s0 : RdT) : Option (Int32 × RdT) :=
  if (Tp_kind (Rd_tape s0)) = (1 : Int32) then (f_X3_isReserved s0).bind fun r5 =>
  if r5 = 0 then (f_X7_numberOf (Rd_values s0) (Tp_word (Rd_tape s0))).bind fun r8 =>
  if r8 = (-1 : Int32) then (f_X7_isFull (Rd_values s0)).bind fun r13 =>
  if r13 = 0 then (f_X7_add (Rd_values s0) (Tp_word (Rd_tape s0))).bind fun r16 =>
  (f_X6_next (Rd_tape s0)).bind fun r18 =>
  some ((1 : Int32), (Rd_w_number (Rd_w_values (Rd_w_tape s0 r18) (r16.2)) (r16.1)))
  else (f_X3_fail (Rd_w_number s0 r8) (4 : Int32)).bind fun r20 =>
  if isB (r20.1) then some ((r20.1), (r20.2)) else none
  else (f_X6_next (Rd_tape s0)).bind fun r11 =>
  some ((1 : Int32), (Rd_w_number (Rd_w_tape s0 r11) r8))
  else (f_X3_fail s0 (1 : Int32)).bind fun r23 =>
  if isB (r23.1) then some ((r23.1), (r23.2)) else none
  else (f_X3_fail s0 (1 : Int32)).bind fun r2 =>
  if isB (r2.1) then some ((r2.1), (r2.2)) else none
abbrev rm_X3_readName_1 : Room := { frames := 2, cells := 0, slots := 0, locals := 42 }
set_option maxHeartbeats 4000000 in
set_option maxRecDepth 100000 in
theorem c_X3_readName_1 (l : Launch) (g : GK) (a0 : Nat → Nat) (s0 : RdT) (res : (Int32 × RdT)) (hf : f_X3_readName_1 s0 = some res) : gM l yX3_readName cX3_readName 2 (some .boolean) rm_X3_readName_1 g [.ref (a0 0), .ref (a0 5)] (Rd_c g a0 s0) (fun _ : Unit => (some (.int (res.1)))) (fun _ => (Rd_c g a0 (res.2))) 0 0 := by
  refine gM_introZ RX3 (by decide) rfl (Nat.le_of_ble_eq_true rfl) (fun p e s m args below meth c Q H locs ls A hE hZ hA hP hD hS hq hl => ?_)
  have hl : lv_has ls 2 [(0, .ref (a0 0)), (1, .ref (a0 5))] := hl
  have hx := hE.1
  have hb := hE.2.1
  rw [f_X3_readName_1] at hf
  refine lv_aload_n hx hb dX3_readName_0 rfl (lv_at hl 0 rfl) ?_
  refine g_get hE okX3 fl_X3_12 hP 0 rfl (v := .ref (a0 1)) rfl dX3_readName_1 ?_
  refine g_get hE okX6 fl_X3_73 hP 1 rfl (v := .int (Tp_kind (Rd_tape s0))) rfl dX3_readName_4 ?_
  refine lv_iconst hx hb dX3_readName_7 kci_1 ?_
  refine lv_icmp_ne hx hb dX3_readName_8 (tgt := 18) rfl (fun h1 => ?_) (fun h1 => ?_)
  · have hf := gif_f h1 hf
    refine lv_aload_n hx hb dX3_readName_18 rfl (lv_at hl 0 rfl) ?_
    refine lv_iconst hx hb dX3_readName_19 kci_1 ?_
    obtain ⟨r2, hc3, hf⟩ := gbd hf
    refine gm_callV1 (As := [.int (1 : Int32)]) (rest := []) (st1 := fun _ => [.int (r2.1)]) (ws' := fun _ => (Rd_c g a0 (r2.2))) hE hl.1 ml_X3_79 (c_X3_fail l g a0 s0 (1 : Int32) r2 hc3) hZ hP hD hS hA 0 8 rfl (fun _ => rfl) okX3 rfl rfl rfl (fun _ => rfl) ⟨rfl, rfl⟩ ⟨Nat.le_of_ble_eq_true rfl, Nat.le_of_ble_eq_true rfl⟩ ⟨Nat.le_refl _, Nat.le_refl _⟩ (Nat.le_of_ble_eq_true rfl) dX3_readName_20 (fun _ H locs hP hD hS => ?_)
    obtain ⟨hg4, hf⟩ := ggd hf
    cases hf
    exact hq () hg4 rfl hP hD hS dX3_readName_23
  · have hf := gif_t h1 hf
    refine lv_aload_n hx hb dX3_readName_11 rfl (lv_at hl 0 rfl) ?_
    obtain ⟨r5, hc6, hf⟩ := gbd hf
    refine gr_callV (As := []) (rest := []) (st1 := [.int r5]) hE hl.1 ml_X3_147 (c_X3_isReserved l g a0 s0 r5 hc6) hZ hS hP [(0, 8)] rfl okX3 rfl rfl rfl rfl ⟨rfl, rfl⟩ ⟨Nat.le_of_ble_eq_true rfl, Nat.le_of_ble_eq_true rfl⟩ ⟨Nat.le_refl _, Nat.le_refl _⟩ (Nat.le_of_ble_eq_true rfl) dX3_readName_12 ?_
    refine lv_if_eq hx hb dX3_readName_15 (tgt := 24) rfl (fun h7 => ?_) (fun h7 => ?_)
    · have hf := gif_t h7 hf
      refine lv_aload_n hx hb dX3_readName_24 rfl (lv_at hl 0 rfl) ?_
      refine lv_aload_n hx hb dX3_readName_25 rfl (lv_at hl 1 rfl) ?_
      refine lv_aload_n hx hb dX3_readName_26 rfl (lv_at hl 0 rfl) ?_
      refine g_get hE okX3 fl_X3_12 hP 0 rfl (v := .ref (a0 1)) rfl dX3_readName_27 ?_
      refine g_get hE okX6 fl_X3_150 hP 1 rfl (v := .long (Tp_word (Rd_tape s0))) rfl dX3_readName_30 ?_
      obtain ⟨r8, hc9, hf⟩ := gbd hf
      refine gr_callV (As := [.long (Tp_word (Rd_tape s0))]) (rest := [.ref (a0 0)]) (st1 := [.int r8, .ref (a0 0)]) hE hl.1 ml_X3_154 (c_X7_numberOf l g (fun k => a0 (k + 5)) (Rd_values s0) (Tp_word (Rd_tape s0)) r8 hc9) hZ hS hP [(5, 2)] rfl okX7 rfl rfl rfl rfl ⟨rfl, rfl⟩ ⟨Nat.le_of_ble_eq_true rfl, Nat.le_of_ble_eq_true rfl⟩ ⟨Nat.le_refl _, Nat.le_refl _⟩ (Nat.le_of_ble_eq_true rfl) dX3_readName_33 ?_
      refine g_put hE okX3 fl_X3_49 hP hD hS 0 rfl rfl rfl rfl (Nat.le_of_ble_eq_true rfl) (Rd_c g a0 (Rd_w_number s0 r8)) rfl dX3_readName_36 (fun H locs hP hD hS => ?_)
      refine lv_aload_n hx hb dX3_readName_39 rfl (lv_at hl 0 rfl) ?_
      refine g_get hE okX3 fl_X3_49 hP 0 rfl (v := .int r8) rfl dX3_readName_40 ?_
      refine lv_iconst hx hb dX3_readName_43 kci_m1 ?_
      refine lv_icmp_ne hx hb dX3_readName_44 (tgt := 75) rfl (fun h10 => ?_) (fun h10 => ?_)
      · have hf := gif_f h10 hf
        refine lv_aload_n hx hb dX3_readName_75 rfl (lv_at hl 0 rfl) ?_
        refine g_get hE okX3 fl_X3_12 hP 0 rfl (v := .ref (a0 1)) rfl dX3_readName_76 ?_
        obtain ⟨r11, hc12, hf⟩ := gbd hf
        refine gm_callV1 (As := []) (rest := []) (st1 := fun _ => []) (ws' := fun _ => (Rd_c g a0 (Rd_w_number (Rd_w_tape s0 r11) r8))) hE hl.1 ml_X3_76 (c_X6_next l g (fun k => a0 (k + 1)) (Rd_tape s0) r11 hc12) hZ hP hD hS hA 1 3 rfl (fun _ => rfl) okX6 rfl rfl rfl (fun _ => rfl) ⟨rfl, rfl⟩ ⟨Nat.le_of_ble_eq_true rfl, Nat.le_of_ble_eq_true rfl⟩ ⟨Nat.le_refl _, Nat.le_refl _⟩ (Nat.le_of_ble_eq_true rfl) dX3_readName_79 (fun _ H locs hP hD hS => ?_)
        refine lv_iconst hx hb dX3_readName_82 kci_1 ?_
        cases hf
        exact hq () (by decide) rfl hP hD hS dX3_readName_83
      · have hf := gif_t h10 hf
        refine lv_aload_n hx hb dX3_readName_47 rfl (lv_at hl 1 rfl) ?_
        obtain ⟨r13, hc14, hf⟩ := gbd hf
        refine gr_callV (As := []) (rest := []) (st1 := [.int r13]) hE hl.1 ml_X3_158 (c_X7_isFull l g (fun k => a0 (k + 5)) (Rd_values s0) r13 hc14) hZ hS hP [(5, 2)] rfl okX7 rfl rfl rfl rfl ⟨rfl, rfl⟩ ⟨Nat.le_of_ble_eq_true rfl, Nat.le_of_ble_eq_true rfl⟩ ⟨Nat.le_refl _, Nat.le_refl _⟩ (Nat.le_of_ble_eq_true rfl) dX3_readName_48 ?_
        refine lv_if_eq hx hb dX3_readName_51 (tgt := 60) rfl (fun h15 => ?_) (fun h15 => ?_)
        · have hf := gif_t h15 hf
          refine lv_aload_n hx hb dX3_readName_60 rfl (lv_at hl 0 rfl) ?_
          refine lv_aload_n hx hb dX3_readName_61 rfl (lv_at hl 1 rfl) ?_
          refine lv_aload_n hx hb dX3_readName_62 rfl (lv_at hl 0 rfl) ?_
          refine g_get hE okX3 fl_X3_12 hP 0 rfl (v := .ref (a0 1)) rfl dX3_readName_63 ?_
          refine g_get hE okX6 fl_X3_150 hP 1 rfl (v := .long (Tp_word (Rd_tape s0))) rfl dX3_readName_66 ?_
          obtain ⟨r16, hc17, hf⟩ := gbd hf
          refine gm_callV1 (As := [.long (Tp_word (Rd_tape s0))]) (rest := [.ref (a0 0)]) (st1 := fun _ => [.int (r16.1), .ref (a0 0)]) (ws' := fun _ => (Rd_c g a0 (Rd_w_number (Rd_w_values s0 (r16.2)) r8))) hE hl.1 ml_X3_161 (c_X7_add l g (fun k => a0 (k + 5)) (Rd_values s0) (Tp_word (Rd_tape s0)) r16 hc17) hZ hP hD hS hA 5 7 rfl (fun _ => rfl) okX7 rfl rfl rfl (fun _ => rfl) ⟨rfl, rfl⟩ ⟨Nat.le_of_ble_eq_true rfl, Nat.le_of_ble_eq_true rfl⟩ ⟨Nat.le_refl _, Nat.le_refl _⟩ (Nat.le_of_ble_eq_true rfl) dX3_readName_69 (fun _ H locs hP hD hS => ?_)
          refine g_put hE okX3 fl_X3_49 hP hD hS 0 rfl rfl rfl rfl (Nat.le_of_ble_eq_true rfl) (Rd_c g a0 (Rd_w_number (Rd_w_values s0 (r16.2)) (r16.1))) rfl dX3_readName_72 (fun H locs hP hD hS => ?_)
          refine lv_aload_n hx hb dX3_readName_75 rfl (lv_at hl 0 rfl) ?_
          refine g_get hE okX3 fl_X3_12 hP 0 rfl (v := .ref (a0 1)) rfl dX3_readName_76 ?_
          obtain ⟨r18, hc19, hf⟩ := gbd hf
          refine gm_callV1 (As := []) (rest := []) (st1 := fun _ => []) (ws' := fun _ => (Rd_c g a0 (Rd_w_number (Rd_w_values (Rd_w_tape s0 r18) (r16.2)) (r16.1)))) hE hl.1 ml_X3_76 (c_X6_next l g (fun k => a0 (k + 1)) (Rd_tape s0) r18 hc19) hZ hP hD hS hA 1 3 rfl (fun _ => rfl) okX6 rfl rfl rfl (fun _ => rfl) ⟨rfl, rfl⟩ ⟨Nat.le_of_ble_eq_true rfl, Nat.le_of_ble_eq_true rfl⟩ ⟨Nat.le_refl _, Nat.le_refl _⟩ (Nat.le_of_ble_eq_true rfl) dX3_readName_79 (fun _ H locs hP hD hS => ?_)
          refine lv_iconst hx hb dX3_readName_82 kci_1 ?_
          cases hf
          exact hq () (by decide) rfl hP hD hS dX3_readName_83
        · have hf := gif_f h15 hf
          refine lv_aload_n hx hb dX3_readName_54 rfl (lv_at hl 0 rfl) ?_
          refine lv_iconst hx hb dX3_readName_55 kci_4 ?_
          obtain ⟨r20, hc21, hf⟩ := gbd hf
          refine gm_callV1 (As := [.int (4 : Int32)]) (rest := []) (st1 := fun _ => [.int (r20.1)]) (ws' := fun _ => (Rd_c g a0 (r20.2))) hE hl.1 ml_X3_79 (c_X3_fail l g a0 (Rd_w_number s0 r8) (4 : Int32) r20 hc21) hZ hP hD hS hA 0 8 rfl (fun _ => rfl) okX3 rfl rfl rfl (fun _ => rfl) ⟨rfl, rfl⟩ ⟨Nat.le_of_ble_eq_true rfl, Nat.le_of_ble_eq_true rfl⟩ ⟨Nat.le_refl _, Nat.le_refl _⟩ (Nat.le_of_ble_eq_true rfl) dX3_readName_56 (fun _ H locs hP hD hS => ?_)
          obtain ⟨hg22, hf⟩ := ggd hf
          cases hf
          exact hq () hg22 rfl hP hD hS dX3_readName_59
    · have hf := gif_f h7 hf
      refine lv_aload_n hx hb dX3_readName_18 rfl (lv_at hl 0 rfl) ?_
      refine lv_iconst hx hb dX3_readName_19 kci_1 ?_
      obtain ⟨r23, hc24, hf⟩ := gbd hf
      refine gm_callV1 (As := [.int (1 : Int32)]) (rest := []) (st1 := fun _ => [.int (r23.1)]) (ws' := fun _ => (Rd_c g a0 (r23.2))) hE hl.1 ml_X3_79 (c_X3_fail l g a0 s0 (1 : Int32) r23 hc24) hZ hP hD hS hA 0 8 rfl (fun _ => rfl) okX3 rfl rfl rfl (fun _ => rfl) ⟨rfl, rfl⟩ ⟨Nat.le_of_ble_eq_true rfl, Nat.le_of_ble_eq_true rfl⟩ ⟨Nat.le_refl _, Nat.le_refl _⟩ (Nat.le_of_ble_eq_true rfl) dX3_readName_20 (fun _ H locs hP hD hS => ?_)
      obtain ⟨hg25, hf⟩ := ggd hf
      cases hf
      exact hq () hg25 rfl hP hD hS dX3_readName_23
theorem dX3_addLine_0 : decode cX3_addLine 0 = .ok (.aload_n 0, 1) := by decide +kernel
theorem dX3_addLine_1 : decode cX3_addLine 1 = .ok (.getfield 32, 3) := by decide +kernel
theorem dX3_addLine_4 : decode cX3_addLine 4 = .ok (.bipush 40, 2) := by decide +kernel
theorem dX3_addLine_6 : decode cX3_addLine 6 = .ok (.if_icmp .lt 4, 3) := by decide +kernel
theorem dX3_addLine_9 : decode cX3_addLine 9 = .ok (.return_, 1) := by decide +kernel
theorem dX3_addLine_10 : decode cX3_addLine 10 = .ok (.aload_n 0, 1) := by decide +kernel
theorem dX3_addLine_11 : decode cX3_addLine 11 = .ok (.getfield 32, 3) := by decide +kernel
theorem dX3_addLine_14 : decode cX3_addLine 14 = .ok (.iconst 5, 1) := by decide +kernel
theorem dX3_addLine_15 : decode cX3_addLine 15 = .ok (.imul, 1) := by decide +kernel
theorem dX3_addLine_16 : decode cX3_addLine 16 = .ok (.istore 6, 2) := by decide +kernel
theorem dX3_addLine_18 : decode cX3_addLine 18 = .ok (.aload_n 0, 1) := by decide +kernel
theorem dX3_addLine_19 : decode cX3_addLine 19 = .ok (.getfield 28, 3) := by decide +kernel
theorem dX3_addLine_22 : decode cX3_addLine 22 = .ok (.iload 6, 2) := by decide +kernel
theorem dX3_addLine_24 : decode cX3_addLine 24 = .ok (.iload_n 1, 1) := by decide +kernel
theorem dX3_addLine_25 : decode cX3_addLine 25 = .ok (.iastore, 1) := by decide +kernel
theorem dX3_addLine_26 : decode cX3_addLine 26 = .ok (.aload_n 0, 1) := by decide +kernel
theorem dX3_addLine_27 : decode cX3_addLine 27 = .ok (.getfield 28, 3) := by decide +kernel
theorem dX3_addLine_30 : decode cX3_addLine 30 = .ok (.iload 6, 2) := by decide +kernel
theorem dX3_addLine_32 : decode cX3_addLine 32 = .ok (.iconst 1, 1) := by decide +kernel
theorem dX3_addLine_33 : decode cX3_addLine 33 = .ok (.iadd, 1) := by decide +kernel
theorem dX3_addLine_34 : decode cX3_addLine 34 = .ok (.iload_n 2, 1) := by decide +kernel
theorem dX3_addLine_35 : decode cX3_addLine 35 = .ok (.iastore, 1) := by decide +kernel
theorem dX3_addLine_36 : decode cX3_addLine 36 = .ok (.aload_n 0, 1) := by decide +kernel
theorem dX3_addLine_37 : decode cX3_addLine 37 = .ok (.getfield 28, 3) := by decide +kernel
theorem dX3_addLine_40 : decode cX3_addLine 40 = .ok (.iload 6, 2) := by decide +kernel
theorem dX3_addLine_42 : decode cX3_addLine 42 = .ok (.iconst 2, 1) := by decide +kernel
theorem dX3_addLine_43 : decode cX3_addLine 43 = .ok (.iadd, 1) := by decide +kernel
theorem dX3_addLine_44 : decode cX3_addLine 44 = .ok (.iload_n 3, 1) := by decide +kernel
theorem dX3_addLine_45 : decode cX3_addLine 45 = .ok (.iastore, 1) := by decide +kernel
theorem dX3_addLine_46 : decode cX3_addLine 46 = .ok (.aload_n 0, 1) := by decide +kernel
theorem dX3_addLine_47 : decode cX3_addLine 47 = .ok (.getfield 28, 3) := by decide +kernel
theorem dX3_addLine_50 : decode cX3_addLine 50 = .ok (.iload 6, 2) := by decide +kernel
theorem dX3_addLine_52 : decode cX3_addLine 52 = .ok (.iconst 3, 1) := by decide +kernel
theorem dX3_addLine_53 : decode cX3_addLine 53 = .ok (.iadd, 1) := by decide +kernel
theorem dX3_addLine_54 : decode cX3_addLine 54 = .ok (.iload 4, 2) := by decide +kernel
theorem dX3_addLine_56 : decode cX3_addLine 56 = .ok (.iastore, 1) := by decide +kernel
theorem dX3_addLine_57 : decode cX3_addLine 57 = .ok (.aload_n 0, 1) := by decide +kernel
theorem dX3_addLine_58 : decode cX3_addLine 58 = .ok (.getfield 28, 3) := by decide +kernel
theorem dX3_addLine_61 : decode cX3_addLine 61 = .ok (.iload 6, 2) := by decide +kernel
theorem dX3_addLine_63 : decode cX3_addLine 63 = .ok (.iconst 4, 1) := by decide +kernel
theorem dX3_addLine_64 : decode cX3_addLine 64 = .ok (.iadd, 1) := by decide +kernel
theorem dX3_addLine_65 : decode cX3_addLine 65 = .ok (.iload 5, 2) := by decide +kernel
theorem dX3_addLine_67 : decode cX3_addLine 67 = .ok (.iastore, 1) := by decide +kernel
theorem dX3_addLine_68 : decode cX3_addLine 68 = .ok (.aload_n 0, 1) := by decide +kernel
theorem dX3_addLine_69 : decode cX3_addLine 69 = .ok (.dup, 1) := by decide +kernel
theorem dX3_addLine_70 : decode cX3_addLine 70 = .ok (.getfield 32, 3) := by decide +kernel
theorem dX3_addLine_73 : decode cX3_addLine 73 = .ok (.iconst 1, 1) := by decide +kernel
theorem dX3_addLine_74 : decode cX3_addLine 74 = .ok (.iadd, 1) := by decide +kernel
theorem dX3_addLine_75 : decode cX3_addLine 75 = .ok (.putfield 32, 3) := by decide +kernel
theorem dX3_addLine_78 : decode cX3_addLine 78 = .ok (.return_, 1) := by decide +kernel
def f_X3_addLine (s0 : RdT) (p1 : Int32) (p2 : Int32) (p3 : Int32) (p4 : Int32) (p5 : Int32) : Option (RdT) :=
  if (Rd_count s0) < (40 : Int32) then if inb ((Rd_count s0) * (5 : Int32)) 200 then if inb (((Rd_count s0) * (5 : Int32)) + (1 : Int32)) 200 then if inb (((Rd_count s0) * (5 : Int32)) + (2 : Int32)) 200 then if inb (((Rd_count s0) * (5 : Int32)) + (3 : Int32)) 200 then if inb (((Rd_count s0) * (5 : Int32)) + (4 : Int32)) 200 then some ((Rd_w_count (Rd_w_lines s0 (upd (upd (upd (upd (upd (Rd_lines s0) (ix ((Rd_count s0) * (5 : Int32))) p1) (ix (((Rd_count s0) * (5 : Int32)) + (1 : Int32))) p2) (ix (((Rd_count s0) * (5 : Int32)) + (2 : Int32))) p3) (ix (((Rd_count s0) * (5 : Int32)) + (3 : Int32))) p4) (ix (((Rd_count s0) * (5 : Int32)) + (4 : Int32))) p5)) ((Rd_count s0) + (1 : Int32)))) else none else none else none else none else none
  else some (s0)
abbrev rm_X3_addLine : Room := { frames := 0, cells := 0, slots := 0, locals := 0 }
set_option maxHeartbeats 4000000 in
set_option maxRecDepth 100000 in
theorem c_X3_addLine (l : Launch) (g : GK) (a0 : Nat → Nat) (s0 : RdT) (p1 : Int32) (p2 : Int32) (p3 : Int32) (p4 : Int32) (p5 : Int32) (res : (RdT)) (hf : f_X3_addLine s0 p1 p2 p3 p4 p5 = some res) : gM l yX3_addLine cX3_addLine 7 none rm_X3_addLine g [.ref (a0 0), .int p1, .int p2, .int p3, .int p4, .int p5] (Rd_c g a0 s0) (fun _ : Unit => none) (fun _ => (Rd_c g a0 res)) 0 0 := by
  refine gM_introV RX3 (by decide) rfl (Nat.le_of_ble_eq_true rfl) (fun p e s m args below meth c Q H locs ls A hE hnm hZ hA hP hD hS hq hl => ?_)
  have hl : lv_has ls 7 [(0, .ref (a0 0)), (1, .int p1), (2, .int p2), (3, .int p3), (4, .int p4), (5, .int p5)] := hl
  have hx := hE.1
  have hb := hE.2.1
  rw [f_X3_addLine] at hf
  refine lv_aload_n hx hb dX3_addLine_0 rfl (lv_at hl 0 rfl) ?_
  refine g_get hE okX3 fl_X3_32 hP 0 rfl (v := .int (Rd_count s0)) rfl dX3_addLine_1 ?_
  refine lv_bipush hx hb dX3_addLine_4 kcb_40 ?_
  refine lv_icmp_lt hx hb dX3_addLine_6 (tgt := 10) rfl (fun h1 => ?_) (fun h1 => ?_)
  · have hf := gif_t h1 hf
    refine lv_aload_n hx hb dX3_addLine_10 rfl (lv_at hl 0 rfl) ?_
    refine g_get hE okX3 fl_X3_32 hP 0 rfl (v := .int (Rd_count s0)) rfl dX3_addLine_11 ?_
    refine lv_iconst hx hb dX3_addLine_14 kci_5 ?_
    refine lv_imul hx hb dX3_addLine_15 ?_
    refine lv_istore hx hb dX3_addLine_16 hl (by decide) (lv' := [(6, .int ((Rd_count s0) * (5 : Int32))), (0, .ref (a0 0)), (1, .int p1), (2, .int p2), (3, .int p3), (4, .int p4), (5, .int p5)]) rfl (fun ls hl => ?_)
    refine lv_aload_n hx hb dX3_addLine_18 rfl (lv_at hl 1 rfl) ?_
    refine g_get hE okX3 fl_X3_28 hP 0 rfl (v := .ref (a0 7)) rfl dX3_addLine_19 ?_
    refine lv_iload hx hb dX3_addLine_22 (lv_at hl 0 rfl) ?_
    refine lv_iload_n hx hb dX3_addLine_24 rfl (lv_at hl 2 rfl) ?_
    obtain ⟨hg2, hf⟩ := ggd hf
    refine g_iast hE hP hD hS 7 (f := (Rd_lines s0)) rfl hg2 (Rd_c g a0 (Rd_w_lines s0 (upd (Rd_lines s0) (ix ((Rd_count s0) * (5 : Int32))) p1))) rfl dX3_addLine_25 (fun H locs hP hD hS => ?_)
    refine lv_aload_n hx hb dX3_addLine_26 rfl (lv_at hl 1 rfl) ?_
    refine g_get hE okX3 fl_X3_28 hP 0 rfl (v := .ref (a0 7)) rfl dX3_addLine_27 ?_
    refine lv_iload hx hb dX3_addLine_30 (lv_at hl 0 rfl) ?_
    refine lv_iconst hx hb dX3_addLine_32 kci_1 ?_
    refine lv_iadd hx hb dX3_addLine_33 ?_
    refine lv_iload_n hx hb dX3_addLine_34 rfl (lv_at hl 3 rfl) ?_
    obtain ⟨hg3, hf⟩ := ggd hf
    refine g_iast hE hP hD hS 7 (f := (upd (Rd_lines s0) (ix ((Rd_count s0) * (5 : Int32))) p1)) rfl hg3 (Rd_c g a0 (Rd_w_lines s0 (upd (upd (Rd_lines s0) (ix ((Rd_count s0) * (5 : Int32))) p1) (ix (((Rd_count s0) * (5 : Int32)) + (1 : Int32))) p2))) rfl dX3_addLine_35 (fun H locs hP hD hS => ?_)
    refine lv_aload_n hx hb dX3_addLine_36 rfl (lv_at hl 1 rfl) ?_
    refine g_get hE okX3 fl_X3_28 hP 0 rfl (v := .ref (a0 7)) rfl dX3_addLine_37 ?_
    refine lv_iload hx hb dX3_addLine_40 (lv_at hl 0 rfl) ?_
    refine lv_iconst hx hb dX3_addLine_42 kci_2 ?_
    refine lv_iadd hx hb dX3_addLine_43 ?_
    refine lv_iload_n hx hb dX3_addLine_44 rfl (lv_at hl 4 rfl) ?_
    obtain ⟨hg4, hf⟩ := ggd hf
    refine g_iast hE hP hD hS 7 (f := (upd (upd (Rd_lines s0) (ix ((Rd_count s0) * (5 : Int32))) p1) (ix (((Rd_count s0) * (5 : Int32)) + (1 : Int32))) p2)) rfl hg4 (Rd_c g a0 (Rd_w_lines s0 (upd (upd (upd (Rd_lines s0) (ix ((Rd_count s0) * (5 : Int32))) p1) (ix (((Rd_count s0) * (5 : Int32)) + (1 : Int32))) p2) (ix (((Rd_count s0) * (5 : Int32)) + (2 : Int32))) p3))) rfl dX3_addLine_45 (fun H locs hP hD hS => ?_)
    refine lv_aload_n hx hb dX3_addLine_46 rfl (lv_at hl 1 rfl) ?_
    refine g_get hE okX3 fl_X3_28 hP 0 rfl (v := .ref (a0 7)) rfl dX3_addLine_47 ?_
    refine lv_iload hx hb dX3_addLine_50 (lv_at hl 0 rfl) ?_
    refine lv_iconst hx hb dX3_addLine_52 kci_3 ?_
    refine lv_iadd hx hb dX3_addLine_53 ?_
    refine lv_iload hx hb dX3_addLine_54 (lv_at hl 5 rfl) ?_
    obtain ⟨hg5, hf⟩ := ggd hf
    refine g_iast hE hP hD hS 7 (f := (upd (upd (upd (Rd_lines s0) (ix ((Rd_count s0) * (5 : Int32))) p1) (ix (((Rd_count s0) * (5 : Int32)) + (1 : Int32))) p2) (ix (((Rd_count s0) * (5 : Int32)) + (2 : Int32))) p3)) rfl hg5 (Rd_c g a0 (Rd_w_lines s0 (upd (upd (upd (upd (Rd_lines s0) (ix ((Rd_count s0) * (5 : Int32))) p1) (ix (((Rd_count s0) * (5 : Int32)) + (1 : Int32))) p2) (ix (((Rd_count s0) * (5 : Int32)) + (2 : Int32))) p3) (ix (((Rd_count s0) * (5 : Int32)) + (3 : Int32))) p4))) rfl dX3_addLine_56 (fun H locs hP hD hS => ?_)
    refine lv_aload_n hx hb dX3_addLine_57 rfl (lv_at hl 1 rfl) ?_
    refine g_get hE okX3 fl_X3_28 hP 0 rfl (v := .ref (a0 7)) rfl dX3_addLine_58 ?_
    refine lv_iload hx hb dX3_addLine_61 (lv_at hl 0 rfl) ?_
    refine lv_iconst hx hb dX3_addLine_63 kci_4 ?_
    refine lv_iadd hx hb dX3_addLine_64 ?_
    refine lv_iload hx hb dX3_addLine_65 (lv_at hl 6 rfl) ?_
    obtain ⟨hg6, hf⟩ := ggd hf
    refine g_iast hE hP hD hS 7 (f := (upd (upd (upd (upd (Rd_lines s0) (ix ((Rd_count s0) * (5 : Int32))) p1) (ix (((Rd_count s0) * (5 : Int32)) + (1 : Int32))) p2) (ix (((Rd_count s0) * (5 : Int32)) + (2 : Int32))) p3) (ix (((Rd_count s0) * (5 : Int32)) + (3 : Int32))) p4)) rfl hg6 (Rd_c g a0 (Rd_w_lines s0 (upd (upd (upd (upd (upd (Rd_lines s0) (ix ((Rd_count s0) * (5 : Int32))) p1) (ix (((Rd_count s0) * (5 : Int32)) + (1 : Int32))) p2) (ix (((Rd_count s0) * (5 : Int32)) + (2 : Int32))) p3) (ix (((Rd_count s0) * (5 : Int32)) + (3 : Int32))) p4) (ix (((Rd_count s0) * (5 : Int32)) + (4 : Int32))) p5))) rfl dX3_addLine_67 (fun H locs hP hD hS => ?_)
    refine lv_aload_n hx hb dX3_addLine_68 rfl (lv_at hl 1 rfl) ?_
    refine lv_dup hx hb dX3_addLine_69 rfl ?_
    refine g_get hE okX3 fl_X3_32 hP 0 rfl (v := .int (Rd_count s0)) rfl dX3_addLine_70 ?_
    refine lv_iconst hx hb dX3_addLine_73 kci_1 ?_
    refine lv_iadd hx hb dX3_addLine_74 ?_
    refine g_put hE okX3 fl_X3_32 hP hD hS 0 rfl rfl rfl rfl (Nat.le_of_ble_eq_true rfl) (Rd_c g a0 (Rd_w_count (Rd_w_lines s0 (upd (upd (upd (upd (upd (Rd_lines s0) (ix ((Rd_count s0) * (5 : Int32))) p1) (ix (((Rd_count s0) * (5 : Int32)) + (1 : Int32))) p2) (ix (((Rd_count s0) * (5 : Int32)) + (2 : Int32))) p3) (ix (((Rd_count s0) * (5 : Int32)) + (3 : Int32))) p4) (ix (((Rd_count s0) * (5 : Int32)) + (4 : Int32))) p5)) ((Rd_count s0) + (1 : Int32)))) rfl dX3_addLine_75 (fun H locs hP hD hS => ?_)
    cases hf
    exact hq () rfl hP hD hS dX3_addLine_78
  · have hf := gif_f h1 hf
    cases hf
    exact hq () rfl hP hD hS dX3_addLine_9
theorem dX3_readTick_0 : decode cX3_readTick 0 = .ok (.aload_n 0, 1) := by decide +kernel
theorem dX3_readTick_1 : decode cX3_readTick 1 = .ok (.iconst 0, 1) := by decide +kernel
theorem dX3_readTick_2 : decode cX3_readTick 2 = .ok (.sipush 9999, 3) := by decide +kernel
theorem dX3_readTick_5 : decode cX3_readTick 5 = .ok (.invokevirtual 115, 3) := by decide +kernel
theorem dX3_readTick_8 : decode cX3_readTick 8 = .ok (.ifCond .ne 5, 3) := by decide +kernel
theorem dX3_readTick_11 : decode cX3_readTick 11 = .ok (.iconst 0, 1) := by decide +kernel
theorem dX3_readTick_12 : decode cX3_readTick 12 = .ok (.ireturn, 1) := by decide +kernel
theorem dX3_readTick_13 : decode cX3_readTick 13 = .ok (.aload_n 0, 1) := by decide +kernel
theorem dX3_readTick_14 : decode cX3_readTick 14 = .ok (.iconst 0, 1) := by decide +kernel
theorem dX3_readTick_15 : decode cX3_readTick 15 = .ok (.iconst 0, 1) := by decide +kernel
theorem dX3_readTick_16 : decode cX3_readTick 16 = .ok (.iconst 0, 1) := by decide +kernel
theorem dX3_readTick_17 : decode cX3_readTick 17 = .ok (.iconst 0, 1) := by decide +kernel
theorem dX3_readTick_18 : decode cX3_readTick 18 = .ok (.aload_n 0, 1) := by decide +kernel
theorem dX3_readTick_19 : decode cX3_readTick 19 = .ok (.getfield 49, 3) := by decide +kernel
theorem dX3_readTick_22 : decode cX3_readTick 22 = .ok (.invokevirtual 121, 3) := by decide +kernel
theorem dX3_readTick_25 : decode cX3_readTick 25 = .ok (.iconst 1, 1) := by decide +kernel
theorem dX3_readTick_26 : decode cX3_readTick 26 = .ok (.ireturn, 1) := by decide +kernel
def f_X3_readTick (s0 : RdT) : Option (Int32 × RdT) :=
  (f_X3_readWhole s0 (0 : Int32) (9999 : Int32)).bind fun r1 =>
  if (r1.1) = 0 then some ((0 : Int32), (r1.2))
  else (f_X3_addLine (r1.2) (0 : Int32) (0 : Int32) (0 : Int32) (0 : Int32) (Rd_number (r1.2))).bind fun r4 =>
  some ((1 : Int32), r4)
abbrev rm_X3_readTick : Room := { frames := 3, cells := 0, slots := 0, locals := 64 }
set_option maxHeartbeats 4000000 in
set_option maxRecDepth 100000 in
theorem c_X3_readTick (l : Launch) (g : GK) (a0 : Nat → Nat) (s0 : RdT) (res : (Int32 × RdT)) (hf : f_X3_readTick s0 = some res) : gM l yX3_readTick cX3_readTick 1 (some .boolean) rm_X3_readTick g [.ref (a0 0)] (Rd_c g a0 s0) (fun _ : Unit => (some (.int (res.1)))) (fun _ => (Rd_c g a0 (res.2))) 0 0 := by
  refine gM_introZ RX3 (by decide) rfl (Nat.le_of_ble_eq_true rfl) (fun p e s m args below meth c Q H locs ls A hE hZ hA hP hD hS hq hl => ?_)
  have hl : lv_has ls 1 [(0, .ref (a0 0))] := hl
  have hx := hE.1
  have hb := hE.2.1
  rw [f_X3_readTick] at hf
  refine lv_aload_n hx hb dX3_readTick_0 rfl (lv_at hl 0 rfl) ?_
  refine lv_iconst hx hb dX3_readTick_1 kci_0 ?_
  refine lv_sipush hx hb dX3_readTick_2 kcs_9999 ?_
  obtain ⟨r1, hc2, hf⟩ := gbd hf
  refine gm_callV1 (As := [.int (0 : Int32), .int (9999 : Int32)]) (rest := []) (st1 := fun _ => [.int (r1.1)]) (ws' := fun _ => (Rd_c g a0 (r1.2))) hE hl.1 ml_X3_115 (c_X3_readWhole l g a0 s0 (0 : Int32) (9999 : Int32) r1 hc2) hZ hP hD hS hA 0 8 rfl (fun _ => rfl) okX3 rfl rfl rfl (fun _ => rfl) ⟨rfl, rfl⟩ ⟨Nat.le_of_ble_eq_true rfl, Nat.le_of_ble_eq_true rfl⟩ ⟨Nat.le_refl _, Nat.le_refl _⟩ (Nat.le_of_ble_eq_true rfl) dX3_readTick_5 (fun _ H locs hP hD hS => ?_)
  refine lv_if_ne hx hb dX3_readTick_8 (tgt := 13) rfl (fun h3 => ?_) (fun h3 => ?_)
  · have hf := gif_f h3 hf
    refine lv_aload_n hx hb dX3_readTick_13 rfl (lv_at hl 0 rfl) ?_
    refine lv_iconst hx hb dX3_readTick_14 kci_0 ?_
    refine lv_iconst hx hb dX3_readTick_15 kci_0 ?_
    refine lv_iconst hx hb dX3_readTick_16 kci_0 ?_
    refine lv_iconst hx hb dX3_readTick_17 kci_0 ?_
    refine lv_aload_n hx hb dX3_readTick_18 rfl (lv_at hl 0 rfl) ?_
    refine g_get hE okX3 fl_X3_49 hP 0 rfl (v := .int (Rd_number (r1.2))) rfl dX3_readTick_19 ?_
    obtain ⟨r4, hc5, hf⟩ := gbd hf
    refine gm_callV1 (As := [.int (0 : Int32), .int (0 : Int32), .int (0 : Int32), .int (0 : Int32), .int (Rd_number (r1.2))]) (rest := []) (st1 := fun _ => []) (ws' := fun _ => (Rd_c g a0 r4)) hE hl.1 ml_X3_121 (c_X3_addLine l g a0 (r1.2) (0 : Int32) (0 : Int32) (0 : Int32) (0 : Int32) (Rd_number (r1.2)) r4 hc5) hZ hP hD hS hA 0 8 rfl (fun _ => rfl) okX3 rfl rfl rfl (fun _ => rfl) ⟨rfl, rfl⟩ ⟨Nat.le_of_ble_eq_true rfl, Nat.le_of_ble_eq_true rfl⟩ ⟨Nat.le_refl _, Nat.le_refl _⟩ (Nat.le_of_ble_eq_true rfl) dX3_readTick_22 (fun _ H locs hP hD hS => ?_)
    refine lv_iconst hx hb dX3_readTick_25 kci_1 ?_
    cases hf
    exact hq () (by decide) rfl hP hD hS dX3_readTick_26
  · have hf := gif_t h3 hf
    refine lv_iconst hx hb dX3_readTick_11 kci_0 ?_
    cases hf
    exact hq () (by decide) rfl hP hD hS dX3_readTick_12
theorem dX3_readDeskLine_0 : decode cX3_readDeskLine 0 = .ok (.aload_n 0, 1) := by decide +kernel
theorem dX3_readDeskLine_1 : decode cX3_readDeskLine 1 = .ok (.getfield 12, 3) := by decide +kernel
theorem dX3_readDeskLine_4 : decode cX3_readDeskLine 4 = .ok (.invokevirtual 76, 3) := by decide +kernel
theorem dX3_readDeskLine_7 : decode cX3_readDeskLine 7 = .ok (.aload_n 0, 1) := by decide +kernel
theorem dX3_readDeskLine_8 : decode cX3_readDeskLine 8 = .ok (.invokevirtual 107, 3) := by decide +kernel
theorem dX3_readDeskLine_11 : decode cX3_readDeskLine 11 = .ok (.ifCond .eq 24, 3) := by decide +kernel
theorem dX3_readDeskLine_14 : decode cX3_readDeskLine 14 = .ok (.aload_n 0, 1) := by decide +kernel
theorem dX3_readDeskLine_15 : decode cX3_readDeskLine 15 = .ok (.ldc2_w 110, 3) := by decide +kernel
theorem dX3_readDeskLine_18 : decode cX3_readDeskLine 18 = .ok (.invokevirtual 112, 3) := by decide +kernel
theorem dX3_readDeskLine_21 : decode cX3_readDeskLine 21 = .ok (.ifCond .eq 14, 3) := by decide +kernel
theorem dX3_readDeskLine_24 : decode cX3_readDeskLine 24 = .ok (.aload_n 0, 1) := by decide +kernel
theorem dX3_readDeskLine_25 : decode cX3_readDeskLine 25 = .ok (.iconst 1, 1) := by decide +kernel
theorem dX3_readDeskLine_26 : decode cX3_readDeskLine 26 = .ok (.sipush 999, 3) := by decide +kernel
theorem dX3_readDeskLine_29 : decode cX3_readDeskLine 29 = .ok (.invokevirtual 115, 3) := by decide +kernel
theorem dX3_readDeskLine_32 : decode cX3_readDeskLine 32 = .ok (.ifCond .ne 5, 3) := by decide +kernel
theorem dX3_readDeskLine_35 : decode cX3_readDeskLine 35 = .ok (.iconst 0, 1) := by decide +kernel
theorem dX3_readDeskLine_36 : decode cX3_readDeskLine 36 = .ok (.ireturn, 1) := by decide +kernel
theorem dX3_readDeskLine_37 : decode cX3_readDeskLine 37 = .ok (.aload_n 0, 1) := by decide +kernel
theorem dX3_readDeskLine_38 : decode cX3_readDeskLine 38 = .ok (.aload_n 0, 1) := by decide +kernel
theorem dX3_readDeskLine_39 : decode cX3_readDeskLine 39 = .ok (.getfield 49, 3) := by decide +kernel
theorem dX3_readDeskLine_42 : decode cX3_readDeskLine 42 = .ok (.putfield 43, 3) := by decide +kernel
theorem dX3_readDeskLine_45 : decode cX3_readDeskLine 45 = .ok (.aload_n 0, 1) := by decide +kernel
theorem dX3_readDeskLine_46 : decode cX3_readDeskLine 46 = .ok (.ldc2_w 119, 3) := by decide +kernel
theorem dX3_readDeskLine_49 : decode cX3_readDeskLine 49 = .ok (.invokevirtual 112, 3) := by decide +kernel
theorem dX3_readDeskLine_52 : decode cX3_readDeskLine 52 = .ok (.ifCond .eq 14, 3) := by decide +kernel
theorem dX3_readDeskLine_55 : decode cX3_readDeskLine 55 = .ok (.aload_n 0, 1) := by decide +kernel
theorem dX3_readDeskLine_56 : decode cX3_readDeskLine 56 = .ok (.iconst 0, 1) := by decide +kernel
theorem dX3_readDeskLine_57 : decode cX3_readDeskLine 57 = .ok (.sipush 999, 3) := by decide +kernel
theorem dX3_readDeskLine_60 : decode cX3_readDeskLine 60 = .ok (.invokevirtual 115, 3) := by decide +kernel
theorem dX3_readDeskLine_63 : decode cX3_readDeskLine 63 = .ok (.ifCond .ne 5, 3) := by decide +kernel
theorem dX3_readDeskLine_66 : decode cX3_readDeskLine 66 = .ok (.iconst 0, 1) := by decide +kernel
theorem dX3_readDeskLine_67 : decode cX3_readDeskLine 67 = .ok (.ireturn, 1) := by decide +kernel
theorem dX3_readDeskLine_68 : decode cX3_readDeskLine 68 = .ok (.aload_n 0, 1) := by decide +kernel
theorem dX3_readDeskLine_69 : decode cX3_readDeskLine 69 = .ok (.aload_n 0, 1) := by decide +kernel
theorem dX3_readDeskLine_70 : decode cX3_readDeskLine 70 = .ok (.getfield 49, 3) := by decide +kernel
theorem dX3_readDeskLine_73 : decode cX3_readDeskLine 73 = .ok (.putfield 46, 3) := by decide +kernel
theorem dX3_readDeskLine_76 : decode cX3_readDeskLine 76 = .ok (.aload_n 0, 1) := by decide +kernel
theorem dX3_readDeskLine_77 : decode cX3_readDeskLine 77 = .ok (.iconst 1, 1) := by decide +kernel
theorem dX3_readDeskLine_78 : decode cX3_readDeskLine 78 = .ok (.putfield 36, 3) := by decide +kernel
theorem dX3_readDeskLine_81 : decode cX3_readDeskLine 81 = .ok (.iconst 1, 1) := by decide +kernel
theorem dX3_readDeskLine_82 : decode cX3_readDeskLine 82 = .ok (.ireturn, 1) := by decide +kernel
def f_X3_readDeskLine (s0 : RdT) : Option (Int32 × RdT) :=
  (f_X6_next (Rd_tape s0)).bind fun r1 =>
  (f_X3_readHow (Rd_w_tape s0 r1)).bind fun r3 =>
  if (r3.1) = 0 then some ((0 : Int32), (r3.2))
  else (f_X3_readWord (r3.2) (1885693291 : Int64)).bind fun r6 =>
  if (r6.1) = 0 then some ((0 : Int32), (r6.2))
  else (f_X3_readWhole (r6.2) (1 : Int32) (999 : Int32)).bind fun r9 =>
  if (r9.1) = 0 then some ((0 : Int32), (r9.2))
  else (f_X3_readWord (Rd_w_keep (r9.2) (Rd_number (r9.2))) (1702125932 : Int64)).bind fun r12 =>
  if (r12.1) = 0 then some ((0 : Int32), (r12.2))
  else (f_X3_readWhole (r12.2) (0 : Int32) (999 : Int32)).bind fun r15 =>
  if (r15.1) = 0 then some ((0 : Int32), (r15.2))
  else some ((1 : Int32), (Rd_w_late (Rd_w_hasDesk (r15.2) (1 : Int32)) (Rd_number (r15.2))))
abbrev rm_X3_readDeskLine : Room := { frames := 3, cells := 0, slots := 0, locals := 64 }
set_option maxHeartbeats 4000000 in
set_option maxRecDepth 100000 in
theorem c_X3_readDeskLine (l : Launch) (g : GK) (a0 : Nat → Nat) (s0 : RdT) (res : (Int32 × RdT)) (hf : f_X3_readDeskLine s0 = some res) : gM l yX3_readDeskLine cX3_readDeskLine 1 (some .boolean) rm_X3_readDeskLine g [.ref (a0 0)] (Rd_c g a0 s0) (fun _ : Unit => (some (.int (res.1)))) (fun _ => (Rd_c g a0 (res.2))) 0 0 := by
  refine gM_introZ RX3 (by decide) rfl (Nat.le_of_ble_eq_true rfl) (fun p e s m args below meth c Q H locs ls A hE hZ hA hP hD hS hq hl => ?_)
  have hl : lv_has ls 1 [(0, .ref (a0 0))] := hl
  have hx := hE.1
  have hb := hE.2.1
  rw [f_X3_readDeskLine] at hf
  refine lv_aload_n hx hb dX3_readDeskLine_0 rfl (lv_at hl 0 rfl) ?_
  refine g_get hE okX3 fl_X3_12 hP 0 rfl (v := .ref (a0 1)) rfl dX3_readDeskLine_1 ?_
  obtain ⟨r1, hc2, hf⟩ := gbd hf
  refine gm_callV1 (As := []) (rest := []) (st1 := fun _ => []) (ws' := fun _ => (Rd_c g a0 (Rd_w_tape s0 r1))) hE hl.1 ml_X3_76 (c_X6_next l g (fun k => a0 (k + 1)) (Rd_tape s0) r1 hc2) hZ hP hD hS hA 1 3 rfl (fun _ => rfl) okX6 rfl rfl rfl (fun _ => rfl) ⟨rfl, rfl⟩ ⟨Nat.le_of_ble_eq_true rfl, Nat.le_of_ble_eq_true rfl⟩ ⟨Nat.le_refl _, Nat.le_refl _⟩ (Nat.le_of_ble_eq_true rfl) dX3_readDeskLine_4 (fun _ H locs hP hD hS => ?_)
  refine lv_aload_n hx hb dX3_readDeskLine_7 rfl (lv_at hl 0 rfl) ?_
  obtain ⟨r3, hc4, hf⟩ := gbd hf
  refine gm_callV1 (As := []) (rest := []) (st1 := fun _ => [.int (r3.1)]) (ws' := fun _ => (Rd_c g a0 (r3.2))) hE hl.1 ml_X3_107 (c_X3_readHow l g a0 (Rd_w_tape s0 r1) r3 hc4) hZ hP hD hS hA 0 8 rfl (fun _ => rfl) okX3 rfl rfl rfl (fun _ => rfl) ⟨rfl, rfl⟩ ⟨Nat.le_of_ble_eq_true rfl, Nat.le_of_ble_eq_true rfl⟩ ⟨Nat.le_refl _, Nat.le_refl _⟩ (Nat.le_of_ble_eq_true rfl) dX3_readDeskLine_8 (fun _ H locs hP hD hS => ?_)
  refine lv_if_eq hx hb dX3_readDeskLine_11 (tgt := 35) rfl (fun h5 => ?_) (fun h5 => ?_)
  · have hf := gif_t h5 hf
    refine lv_iconst hx hb dX3_readDeskLine_35 kci_0 ?_
    cases hf
    exact hq () (by decide) rfl hP hD hS dX3_readDeskLine_36
  · have hf := gif_f h5 hf
    refine lv_aload_n hx hb dX3_readDeskLine_14 rfl (lv_at hl 0 rfl) ?_
    refine lv_ldc2 hx hb hE.2.2.2.2.2.1 (hE.2.2.2.2.2.2.1 _ kd_X3_110) dX3_readDeskLine_15 ?_
    obtain ⟨r6, hc7, hf⟩ := gbd hf
    refine gm_callV1 (As := [.long (1885693291 : Int64)]) (rest := []) (st1 := fun _ => [.int (r6.1)]) (ws' := fun _ => (Rd_c g a0 (r6.2))) hE hl.1 ml_X3_112 (c_X3_readWord l g a0 (r3.2) (1885693291 : Int64) r6 hc7) hZ hP hD hS hA 0 8 rfl (fun _ => rfl) okX3 rfl rfl rfl (fun _ => rfl) ⟨rfl, rfl⟩ ⟨Nat.le_of_ble_eq_true rfl, Nat.le_of_ble_eq_true rfl⟩ ⟨Nat.le_refl _, Nat.le_refl _⟩ (Nat.le_of_ble_eq_true rfl) dX3_readDeskLine_18 (fun _ H locs hP hD hS => ?_)
    refine lv_if_eq hx hb dX3_readDeskLine_21 (tgt := 35) rfl (fun h8 => ?_) (fun h8 => ?_)
    · have hf := gif_t h8 hf
      refine lv_iconst hx hb dX3_readDeskLine_35 kci_0 ?_
      cases hf
      exact hq () (by decide) rfl hP hD hS dX3_readDeskLine_36
    · have hf := gif_f h8 hf
      refine lv_aload_n hx hb dX3_readDeskLine_24 rfl (lv_at hl 0 rfl) ?_
      refine lv_iconst hx hb dX3_readDeskLine_25 kci_1 ?_
      refine lv_sipush hx hb dX3_readDeskLine_26 kcs_999 ?_
      obtain ⟨r9, hc10, hf⟩ := gbd hf
      refine gm_callV1 (As := [.int (1 : Int32), .int (999 : Int32)]) (rest := []) (st1 := fun _ => [.int (r9.1)]) (ws' := fun _ => (Rd_c g a0 (r9.2))) hE hl.1 ml_X3_115 (c_X3_readWhole l g a0 (r6.2) (1 : Int32) (999 : Int32) r9 hc10) hZ hP hD hS hA 0 8 rfl (fun _ => rfl) okX3 rfl rfl rfl (fun _ => rfl) ⟨rfl, rfl⟩ ⟨Nat.le_of_ble_eq_true rfl, Nat.le_of_ble_eq_true rfl⟩ ⟨Nat.le_refl _, Nat.le_refl _⟩ (Nat.le_of_ble_eq_true rfl) dX3_readDeskLine_29 (fun _ H locs hP hD hS => ?_)
      refine lv_if_ne hx hb dX3_readDeskLine_32 (tgt := 37) rfl (fun h11 => ?_) (fun h11 => ?_)
      · have hf := gif_f h11 hf
        refine lv_aload_n hx hb dX3_readDeskLine_37 rfl (lv_at hl 0 rfl) ?_
        refine lv_aload_n hx hb dX3_readDeskLine_38 rfl (lv_at hl 0 rfl) ?_
        refine g_get hE okX3 fl_X3_49 hP 0 rfl (v := .int (Rd_number (r9.2))) rfl dX3_readDeskLine_39 ?_
        refine g_put hE okX3 fl_X3_43 hP hD hS 0 rfl rfl rfl rfl (Nat.le_of_ble_eq_true rfl) (Rd_c g a0 (Rd_w_keep (r9.2) (Rd_number (r9.2)))) rfl dX3_readDeskLine_42 (fun H locs hP hD hS => ?_)
        refine lv_aload_n hx hb dX3_readDeskLine_45 rfl (lv_at hl 0 rfl) ?_
        refine lv_ldc2 hx hb hE.2.2.2.2.2.1 (hE.2.2.2.2.2.2.1 _ kd_X3_119) dX3_readDeskLine_46 ?_
        obtain ⟨r12, hc13, hf⟩ := gbd hf
        refine gm_callV1 (As := [.long (1702125932 : Int64)]) (rest := []) (st1 := fun _ => [.int (r12.1)]) (ws' := fun _ => (Rd_c g a0 (r12.2))) hE hl.1 ml_X3_112 (c_X3_readWord l g a0 (Rd_w_keep (r9.2) (Rd_number (r9.2))) (1702125932 : Int64) r12 hc13) hZ hP hD hS hA 0 8 rfl (fun _ => rfl) okX3 rfl rfl rfl (fun _ => rfl) ⟨rfl, rfl⟩ ⟨Nat.le_of_ble_eq_true rfl, Nat.le_of_ble_eq_true rfl⟩ ⟨Nat.le_refl _, Nat.le_refl _⟩ (Nat.le_of_ble_eq_true rfl) dX3_readDeskLine_49 (fun _ H locs hP hD hS => ?_)
        refine lv_if_eq hx hb dX3_readDeskLine_52 (tgt := 66) rfl (fun h14 => ?_) (fun h14 => ?_)
        · have hf := gif_t h14 hf
          refine lv_iconst hx hb dX3_readDeskLine_66 kci_0 ?_
          cases hf
          exact hq () (by decide) rfl hP hD hS dX3_readDeskLine_67
        · have hf := gif_f h14 hf
          refine lv_aload_n hx hb dX3_readDeskLine_55 rfl (lv_at hl 0 rfl) ?_
          refine lv_iconst hx hb dX3_readDeskLine_56 kci_0 ?_
          refine lv_sipush hx hb dX3_readDeskLine_57 kcs_999 ?_
          obtain ⟨r15, hc16, hf⟩ := gbd hf
          refine gm_callV1 (As := [.int (0 : Int32), .int (999 : Int32)]) (rest := []) (st1 := fun _ => [.int (r15.1)]) (ws' := fun _ => (Rd_c g a0 (r15.2))) hE hl.1 ml_X3_115 (c_X3_readWhole l g a0 (r12.2) (0 : Int32) (999 : Int32) r15 hc16) hZ hP hD hS hA 0 8 rfl (fun _ => rfl) okX3 rfl rfl rfl (fun _ => rfl) ⟨rfl, rfl⟩ ⟨Nat.le_of_ble_eq_true rfl, Nat.le_of_ble_eq_true rfl⟩ ⟨Nat.le_refl _, Nat.le_refl _⟩ (Nat.le_of_ble_eq_true rfl) dX3_readDeskLine_60 (fun _ H locs hP hD hS => ?_)
          refine lv_if_ne hx hb dX3_readDeskLine_63 (tgt := 68) rfl (fun h17 => ?_) (fun h17 => ?_)
          · have hf := gif_f h17 hf
            refine lv_aload_n hx hb dX3_readDeskLine_68 rfl (lv_at hl 0 rfl) ?_
            refine lv_aload_n hx hb dX3_readDeskLine_69 rfl (lv_at hl 0 rfl) ?_
            refine g_get hE okX3 fl_X3_49 hP 0 rfl (v := .int (Rd_number (r15.2))) rfl dX3_readDeskLine_70 ?_
            refine g_put hE okX3 fl_X3_46 hP hD hS 0 rfl rfl rfl rfl (Nat.le_of_ble_eq_true rfl) (Rd_c g a0 (Rd_w_late (r15.2) (Rd_number (r15.2)))) rfl dX3_readDeskLine_73 (fun H locs hP hD hS => ?_)
            refine lv_aload_n hx hb dX3_readDeskLine_76 rfl (lv_at hl 0 rfl) ?_
            refine lv_iconst hx hb dX3_readDeskLine_77 kci_1 ?_
            refine g_put hE okX3 fl_X3_36 hP hD hS 0 rfl rfl rfl rfl (Nat.le_of_ble_eq_true rfl) (Rd_c g a0 (Rd_w_late (Rd_w_hasDesk (r15.2) (1 : Int32)) (Rd_number (r15.2)))) rfl dX3_readDeskLine_78 (fun H locs hP hD hS => ?_)
            refine lv_iconst hx hb dX3_readDeskLine_81 kci_1 ?_
            cases hf
            exact hq () (by decide) rfl hP hD hS dX3_readDeskLine_82
          · have hf := gif_t h17 hf
            refine lv_iconst hx hb dX3_readDeskLine_66 kci_0 ?_
            cases hf
            exact hq () (by decide) rfl hP hD hS dX3_readDeskLine_67
      · have hf := gif_t h11 hf
        refine lv_iconst hx hb dX3_readDeskLine_35 kci_0 ?_
        cases hf
        exact hq () (by decide) rfl hP hD hS dX3_readDeskLine_36
theorem dX3_readEvent_0 : decode cX3_readEvent 0 = .ok (.aload_n 0, 1) := by decide +kernel
theorem dX3_readEvent_1 : decode cX3_readEvent 1 = .ok (.invokevirtual 125, 3) := by decide +kernel
theorem dX3_readEvent_4 : decode cX3_readEvent 4 = .ok (.ifCond .ne 5, 3) := by decide +kernel
theorem dX3_readEvent_7 : decode cX3_readEvent 7 = .ok (.iconst 0, 1) := by decide +kernel
theorem dX3_readEvent_8 : decode cX3_readEvent 8 = .ok (.ireturn, 1) := by decide +kernel
theorem dX3_readEvent_9 : decode cX3_readEvent 9 = .ok (.aload_n 0, 1) := by decide +kernel
theorem dX3_readEvent_10 : decode cX3_readEvent 10 = .ok (.getfield 49, 3) := by decide +kernel
theorem dX3_readEvent_13 : decode cX3_readEvent 13 = .ok (.istore_n 2, 1) := by decide +kernel
theorem dX3_readEvent_14 : decode cX3_readEvent 14 = .ok (.aload_n 0, 1) := by decide +kernel
theorem dX3_readEvent_15 : decode cX3_readEvent 15 = .ok (.aload_n 0, 1) := by decide +kernel
theorem dX3_readEvent_16 : decode cX3_readEvent 16 = .ok (.getfield 21, 3) := by decide +kernel
theorem dX3_readEvent_19 : decode cX3_readEvent 19 = .ok (.invokevirtual 128, 3) := by decide +kernel
theorem dX3_readEvent_22 : decode cX3_readEvent 22 = .ok (.ifCond .ne 5, 3) := by decide +kernel
theorem dX3_readEvent_25 : decode cX3_readEvent 25 = .ok (.iconst 0, 1) := by decide +kernel
theorem dX3_readEvent_26 : decode cX3_readEvent 26 = .ok (.ireturn, 1) := by decide +kernel
theorem dX3_readEvent_27 : decode cX3_readEvent 27 = .ok (.aload_n 0, 1) := by decide +kernel
theorem dX3_readEvent_28 : decode cX3_readEvent 28 = .ok (.getfield 49, 3) := by decide +kernel
theorem dX3_readEvent_31 : decode cX3_readEvent 31 = .ok (.istore_n 3, 1) := by decide +kernel
theorem dX3_readEvent_32 : decode cX3_readEvent 32 = .ok (.aload_n 0, 1) := by decide +kernel
theorem dX3_readEvent_33 : decode cX3_readEvent 33 = .ok (.aload_n 0, 1) := by decide +kernel
theorem dX3_readEvent_34 : decode cX3_readEvent 34 = .ok (.getfield 25, 3) := by decide +kernel
theorem dX3_readEvent_37 : decode cX3_readEvent 37 = .ok (.invokevirtual 128, 3) := by decide +kernel
theorem dX3_readEvent_40 : decode cX3_readEvent 40 = .ok (.ifCond .ne 5, 3) := by decide +kernel
theorem dX3_readEvent_43 : decode cX3_readEvent 43 = .ok (.iconst 0, 1) := by decide +kernel
theorem dX3_readEvent_44 : decode cX3_readEvent 44 = .ok (.ireturn, 1) := by decide +kernel
theorem dX3_readEvent_45 : decode cX3_readEvent 45 = .ok (.aload_n 0, 1) := by decide +kernel
theorem dX3_readEvent_46 : decode cX3_readEvent 46 = .ok (.getfield 49, 3) := by decide +kernel
theorem dX3_readEvent_49 : decode cX3_readEvent 49 = .ok (.istore 4, 2) := by decide +kernel
theorem dX3_readEvent_51 : decode cX3_readEvent 51 = .ok (.iconst 1, 1) := by decide +kernel
theorem dX3_readEvent_52 : decode cX3_readEvent 52 = .ok (.istore 5, 2) := by decide +kernel
theorem dX3_readEvent_54 : decode cX3_readEvent 54 = .ok (.aload_n 0, 1) := by decide +kernel
theorem dX3_readEvent_55 : decode cX3_readEvent 55 = .ok (.getfield 12, 3) := by decide +kernel
theorem dX3_readEvent_58 : decode cX3_readEvent 58 = .ok (.ldc2_w 132, 3) := by decide +kernel
theorem dX3_readEvent_61 : decode cX3_readEvent 61 = .ok (.invokevirtual 88, 3) := by decide +kernel
theorem dX3_readEvent_64 : decode cX3_readEvent 64 = .ok (.ifCond .eq 28, 3) := by decide +kernel
theorem dX3_readEvent_67 : decode cX3_readEvent 67 = .ok (.aload_n 0, 1) := by decide +kernel
theorem dX3_readEvent_68 : decode cX3_readEvent 68 = .ok (.getfield 12, 3) := by decide +kernel
theorem dX3_readEvent_71 : decode cX3_readEvent 71 = .ok (.invokevirtual 76, 3) := by decide +kernel
theorem dX3_readEvent_74 : decode cX3_readEvent 74 = .ok (.aload_n 0, 1) := by decide +kernel
theorem dX3_readEvent_75 : decode cX3_readEvent 75 = .ok (.iconst 1, 1) := by decide +kernel
theorem dX3_readEvent_76 : decode cX3_readEvent 76 = .ok (.bipush 9, 2) := by decide +kernel
theorem dX3_readEvent_78 : decode cX3_readEvent 78 = .ok (.invokevirtual 115, 3) := by decide +kernel
theorem dX3_readEvent_81 : decode cX3_readEvent 81 = .ok (.ifCond .ne 5, 3) := by decide +kernel
theorem dX3_readEvent_84 : decode cX3_readEvent 84 = .ok (.iconst 0, 1) := by decide +kernel
theorem dX3_readEvent_85 : decode cX3_readEvent 85 = .ok (.ireturn, 1) := by decide +kernel
theorem dX3_readEvent_86 : decode cX3_readEvent 86 = .ok (.aload_n 0, 1) := by decide +kernel
theorem dX3_readEvent_87 : decode cX3_readEvent 87 = .ok (.getfield 49, 3) := by decide +kernel
theorem dX3_readEvent_90 : decode cX3_readEvent 90 = .ok (.istore 5, 2) := by decide +kernel
theorem dX3_readEvent_92 : decode cX3_readEvent 92 = .ok (.aload_n 0, 1) := by decide +kernel
theorem dX3_readEvent_93 : decode cX3_readEvent 93 = .ok (.ldc2_w 134, 3) := by decide +kernel
theorem dX3_readEvent_96 : decode cX3_readEvent 96 = .ok (.invokevirtual 112, 3) := by decide +kernel
theorem dX3_readEvent_99 : decode cX3_readEvent 99 = .ok (.ifCond .eq 14, 3) := by decide +kernel
theorem dX3_readEvent_102 : decode cX3_readEvent 102 = .ok (.aload_n 0, 1) := by decide +kernel
theorem dX3_readEvent_103 : decode cX3_readEvent 103 = .ok (.iconst 0, 1) := by decide +kernel
theorem dX3_readEvent_104 : decode cX3_readEvent 104 = .ok (.sipush 9999, 3) := by decide +kernel
theorem dX3_readEvent_107 : decode cX3_readEvent 107 = .ok (.invokevirtual 115, 3) := by decide +kernel
theorem dX3_readEvent_110 : decode cX3_readEvent 110 = .ok (.ifCond .ne 5, 3) := by decide +kernel
theorem dX3_readEvent_113 : decode cX3_readEvent 113 = .ok (.iconst 0, 1) := by decide +kernel
theorem dX3_readEvent_114 : decode cX3_readEvent 114 = .ok (.ireturn, 1) := by decide +kernel
theorem dX3_readEvent_115 : decode cX3_readEvent 115 = .ok (.aload_n 0, 1) := by decide +kernel
theorem dX3_readEvent_116 : decode cX3_readEvent 116 = .ok (.iload_n 2, 1) := by decide +kernel
theorem dX3_readEvent_117 : decode cX3_readEvent 117 = .ok (.iload_n 3, 1) := by decide +kernel
theorem dX3_readEvent_118 : decode cX3_readEvent 118 = .ok (.iload 4, 2) := by decide +kernel
theorem dX3_readEvent_120 : decode cX3_readEvent 120 = .ok (.iload_n 1, 1) := by decide +kernel
theorem dX3_readEvent_121 : decode cX3_readEvent 121 = .ok (.iload 5, 2) := by decide +kernel
theorem dX3_readEvent_123 : decode cX3_readEvent 123 = .ok (.imul, 1) := by decide +kernel
theorem dX3_readEvent_124 : decode cX3_readEvent 124 = .ok (.aload_n 0, 1) := by decide +kernel
theorem dX3_readEvent_125 : decode cX3_readEvent 125 = .ok (.getfield 49, 3) := by decide +kernel
theorem dX3_readEvent_128 : decode cX3_readEvent 128 = .ok (.invokevirtual 121, 3) := by decide +kernel
theorem dX3_readEvent_131 : decode cX3_readEvent 131 = .ok (.iconst 1, 1) := by decide +kernel
theorem dX3_readEvent_132 : decode cX3_readEvent 132 = .ok (.ireturn, 1) := by decide +kernel
def f_X3_readEvent (s0 : RdT) (p1 : Int32) : Option (Int32 × RdT) :=
  (f_X3_readSide s0).bind fun r1 =>
  if (r1.1) = 0 then some ((0 : Int32), (r1.2))
  else (f_X3_readName_0 (r1.2)).bind fun r4 =>
  if (r4.1) = 0 then some ((0 : Int32), (r4.2))
  else (f_X3_readName_1 (r4.2)).bind fun r7 =>
  if (r7.1) = 0 then some ((0 : Int32), (r7.2))
  else (f_X6_says (Rd_tape (r7.2)) (31074 : Int64)).bind fun r10 =>
  glt (fun (x5_13 : Int32) (s0_14 : RdT) => (f_X3_readWord s0_14 (29793 : Int64)).bind fun r15 =>
  if (r15.1) = 0 then some ((0 : Int32), (r15.2))
  else (f_X3_readWhole (r15.2) (0 : Int32) (9999 : Int32)).bind fun r18 =>
  if (r18.1) = 0 then some ((0 : Int32), (r18.2))
  else (f_X3_addLine (r18.2) (Rd_number (r1.2)) (Rd_number (r4.2)) (Rd_number (r7.2)) (p1 * x5_13) (Rd_number (r18.2))).bind fun r21 =>
  some ((1 : Int32), r21)) fun J12 =>
  if r10 = 0 then J12 (1 : Int32) (r7.2)
  else (f_X6_next (Rd_tape (r7.2))).bind fun r24 =>
  (f_X3_readWhole (Rd_w_tape (r7.2) r24) (1 : Int32) (9 : Int32)).bind fun r26 =>
  if (r26.1) = 0 then some ((0 : Int32), (r26.2))
  else J12 (Rd_number (r26.2)) (r26.2)
abbrev rm_X3_readEvent : Room := { frames := 3, cells := 0, slots := 0, locals := 64 }
set_option maxHeartbeats 4000000 in
set_option maxRecDepth 100000 in
theorem c_X3_readEvent (l : Launch) (g : GK) (a0 : Nat → Nat) (s0 : RdT) (p1 : Int32) (res : (Int32 × RdT)) (hf : f_X3_readEvent s0 p1 = some res) : gM l yX3_readEvent cX3_readEvent 6 (some .boolean) rm_X3_readEvent g [.ref (a0 0), .int p1] (Rd_c g a0 s0) (fun _ : Unit => (some (.int (res.1)))) (fun _ => (Rd_c g a0 (res.2))) 0 0 := by
  refine gM_introZ RX3 (by decide) rfl (Nat.le_of_ble_eq_true rfl) (fun p e s m args below meth c Q H locs ls A hE hZ hA hP hD hS hq hl => ?_)
  have hl : lv_has ls 6 [(0, .ref (a0 0)), (1, .int p1)] := hl
  have hx := hE.1
  have hb := hE.2.1
  rw [f_X3_readEvent] at hf
  refine lv_aload_n hx hb dX3_readEvent_0 rfl (lv_at hl 0 rfl) ?_
  obtain ⟨r1, hc2, hf⟩ := gbd hf
  refine gm_callV1 (As := []) (rest := []) (st1 := fun _ => [.int (r1.1)]) (ws' := fun _ => (Rd_c g a0 (r1.2))) hE hl.1 ml_X3_125 (c_X3_readSide l g a0 s0 r1 hc2) hZ hP hD hS hA 0 8 rfl (fun _ => rfl) okX3 rfl rfl rfl (fun _ => rfl) ⟨rfl, rfl⟩ ⟨Nat.le_of_ble_eq_true rfl, Nat.le_of_ble_eq_true rfl⟩ ⟨Nat.le_refl _, Nat.le_refl _⟩ (Nat.le_of_ble_eq_true rfl) dX3_readEvent_1 (fun _ H locs hP hD hS => ?_)
  refine lv_if_ne hx hb dX3_readEvent_4 (tgt := 9) rfl (fun h3 => ?_) (fun h3 => ?_)
  · have hf := gif_f h3 hf
    refine lv_aload_n hx hb dX3_readEvent_9 rfl (lv_at hl 0 rfl) ?_
    refine g_get hE okX3 fl_X3_49 hP 0 rfl (v := .int (Rd_number (r1.2))) rfl dX3_readEvent_10 ?_
    refine lv_istore_n hx hb dX3_readEvent_13 rfl hl (by decide) (lv' := [(2, .int (Rd_number (r1.2))), (0, .ref (a0 0)), (1, .int p1)]) rfl (fun ls hl => ?_)
    refine lv_aload_n hx hb dX3_readEvent_14 rfl (lv_at hl 1 rfl) ?_
    refine lv_aload_n hx hb dX3_readEvent_15 rfl (lv_at hl 1 rfl) ?_
    refine g_get hE okX3 fl_X3_21 hP 0 rfl (v := .ref (a0 3)) rfl dX3_readEvent_16 ?_
    obtain ⟨r4, hc5, hf⟩ := gbd hf
    refine gm_callV1 (As := [.ref (a0 3)]) (rest := []) (st1 := fun _ => [.int (r4.1)]) (ws' := fun _ => (Rd_c g a0 (r4.2))) hE hl.1 ml_X3_128 (c_X3_readName_0 l g a0 (r1.2) r4 hc5) hZ hP hD hS hA 0 8 rfl (fun _ => rfl) okX3 rfl rfl rfl (fun _ => rfl) ⟨rfl, rfl⟩ ⟨Nat.le_of_ble_eq_true rfl, Nat.le_of_ble_eq_true rfl⟩ ⟨Nat.le_refl _, Nat.le_refl _⟩ (Nat.le_of_ble_eq_true rfl) dX3_readEvent_19 (fun _ H locs hP hD hS => ?_)
    refine lv_if_ne hx hb dX3_readEvent_22 (tgt := 27) rfl (fun h6 => ?_) (fun h6 => ?_)
    · have hf := gif_f h6 hf
      refine lv_aload_n hx hb dX3_readEvent_27 rfl (lv_at hl 1 rfl) ?_
      refine g_get hE okX3 fl_X3_49 hP 0 rfl (v := .int (Rd_number (r4.2))) rfl dX3_readEvent_28 ?_
      refine lv_istore_n hx hb dX3_readEvent_31 rfl hl (by decide) (lv' := [(3, .int (Rd_number (r4.2))), (2, .int (Rd_number (r1.2))), (0, .ref (a0 0)), (1, .int p1)]) rfl (fun ls hl => ?_)
      refine lv_aload_n hx hb dX3_readEvent_32 rfl (lv_at hl 2 rfl) ?_
      refine lv_aload_n hx hb dX3_readEvent_33 rfl (lv_at hl 2 rfl) ?_
      refine g_get hE okX3 fl_X3_25 hP 0 rfl (v := .ref (a0 5)) rfl dX3_readEvent_34 ?_
      obtain ⟨r7, hc8, hf⟩ := gbd hf
      refine gm_callV1 (As := [.ref (a0 5)]) (rest := []) (st1 := fun _ => [.int (r7.1)]) (ws' := fun _ => (Rd_c g a0 (r7.2))) hE hl.1 ml_X3_128 (c_X3_readName_1 l g a0 (r4.2) r7 hc8) hZ hP hD hS hA 0 8 rfl (fun _ => rfl) okX3 rfl rfl rfl (fun _ => rfl) ⟨rfl, rfl⟩ ⟨Nat.le_of_ble_eq_true rfl, Nat.le_of_ble_eq_true rfl⟩ ⟨Nat.le_refl _, Nat.le_refl _⟩ (Nat.le_of_ble_eq_true rfl) dX3_readEvent_37 (fun _ H locs hP hD hS => ?_)
      refine lv_if_ne hx hb dX3_readEvent_40 (tgt := 45) rfl (fun h9 => ?_) (fun h9 => ?_)
      · have hf := gif_f h9 hf
        refine lv_aload_n hx hb dX3_readEvent_45 rfl (lv_at hl 2 rfl) ?_
        refine g_get hE okX3 fl_X3_49 hP 0 rfl (v := .int (Rd_number (r7.2))) rfl dX3_readEvent_46 ?_
        refine lv_istore hx hb dX3_readEvent_49 hl (by decide) (lv' := [(4, .int (Rd_number (r7.2))), (3, .int (Rd_number (r4.2))), (2, .int (Rd_number (r1.2))), (0, .ref (a0 0)), (1, .int p1)]) rfl (fun ls hl => ?_)
        refine lv_iconst hx hb dX3_readEvent_51 kci_1 ?_
        refine lv_istore hx hb dX3_readEvent_52 hl (by decide) (lv' := [(5, .int (1 : Int32)), (4, .int (Rd_number (r7.2))), (3, .int (Rd_number (r4.2))), (2, .int (Rd_number (r1.2))), (0, .ref (a0 0)), (1, .int p1)]) rfl (fun ls hl => ?_)
        refine lv_aload_n hx hb dX3_readEvent_54 rfl (lv_at hl 4 rfl) ?_
        refine g_get hE okX3 fl_X3_12 hP 0 rfl (v := .ref (a0 1)) rfl dX3_readEvent_55 ?_
        refine lv_ldc2 hx hb hE.2.2.2.2.2.1 (hE.2.2.2.2.2.2.1 _ kd_X3_132) dX3_readEvent_58 ?_
        obtain ⟨r10, hc11, hf⟩ := gbd hf
        refine gr_callV (As := [.long (31074 : Int64)]) (rest := []) (st1 := [.int r10]) hE hl.1 ml_X3_88 (c_X6_says l g (fun k => a0 (k + 1)) (Rd_tape (r7.2)) (31074 : Int64) r10 hc11) hZ hS hP [(1, 2)] rfl okX6 rfl rfl rfl rfl ⟨rfl, rfl⟩ ⟨Nat.le_of_ble_eq_true rfl, Nat.le_of_ble_eq_true rfl⟩ ⟨Nat.le_refl _, Nat.le_refl _⟩ (Nat.le_of_ble_eq_true rfl) dX3_readEvent_61 ?_
        obtain ⟨J12, eJ12, hf⟩ := gltd hf
        have kJ12 : ∀ (x5_13 : Int32) (s0_14 : RdT) (ls : Array Slot) (H : Heap) (locs : List Loc), J12 x5_13 s0_14 = some res → lv_has ls 6 [(0, .ref (a0 0)), (1, .int p1), (2, .int (Rd_number (r1.2))), (3, .int (Rd_number (r4.2))), (4, .int (Rd_number (r7.2))), (5, .int x5_13)] → gP g (Rd_c g a0 s0_14) H → va_D A (Rd_c g a0 s0_14) → va_S A s.heap H locs → W p l e rm_X3_readEvent s m args below meth c H locs 0 0 Q (F0 m 92 ls []) := by
          intro x5_13 s0_14 ls H locs hf hl hP hD hS
          rw [eJ12] at hf
          refine lv_aload_n hx hb dX3_readEvent_92 rfl (lv_at hl 0 rfl) ?_
          refine lv_ldc2 hx hb hE.2.2.2.2.2.1 (hE.2.2.2.2.2.2.1 _ kd_X3_134) dX3_readEvent_93 ?_
          obtain ⟨r15, hc16, hf⟩ := gbd hf
          refine gm_callV1 (As := [.long (29793 : Int64)]) (rest := []) (st1 := fun _ => [.int (r15.1)]) (ws' := fun _ => (Rd_c g a0 (r15.2))) hE hl.1 ml_X3_112 (c_X3_readWord l g a0 s0_14 (29793 : Int64) r15 hc16) hZ hP hD hS hA 0 8 rfl (fun _ => rfl) okX3 rfl rfl rfl (fun _ => rfl) ⟨rfl, rfl⟩ ⟨Nat.le_of_ble_eq_true rfl, Nat.le_of_ble_eq_true rfl⟩ ⟨Nat.le_refl _, Nat.le_refl _⟩ (Nat.le_of_ble_eq_true rfl) dX3_readEvent_96 (fun _ H locs hP hD hS => ?_)
          refine lv_if_eq hx hb dX3_readEvent_99 (tgt := 113) rfl (fun h17 => ?_) (fun h17 => ?_)
          · have hf := gif_t h17 hf
            refine lv_iconst hx hb dX3_readEvent_113 kci_0 ?_
            cases hf
            exact hq () (by decide) rfl hP hD hS dX3_readEvent_114
          · have hf := gif_f h17 hf
            refine lv_aload_n hx hb dX3_readEvent_102 rfl (lv_at hl 0 rfl) ?_
            refine lv_iconst hx hb dX3_readEvent_103 kci_0 ?_
            refine lv_sipush hx hb dX3_readEvent_104 kcs_9999 ?_
            obtain ⟨r18, hc19, hf⟩ := gbd hf
            refine gm_callV1 (As := [.int (0 : Int32), .int (9999 : Int32)]) (rest := []) (st1 := fun _ => [.int (r18.1)]) (ws' := fun _ => (Rd_c g a0 (r18.2))) hE hl.1 ml_X3_115 (c_X3_readWhole l g a0 (r15.2) (0 : Int32) (9999 : Int32) r18 hc19) hZ hP hD hS hA 0 8 rfl (fun _ => rfl) okX3 rfl rfl rfl (fun _ => rfl) ⟨rfl, rfl⟩ ⟨Nat.le_of_ble_eq_true rfl, Nat.le_of_ble_eq_true rfl⟩ ⟨Nat.le_refl _, Nat.le_refl _⟩ (Nat.le_of_ble_eq_true rfl) dX3_readEvent_107 (fun _ H locs hP hD hS => ?_)
            refine lv_if_ne hx hb dX3_readEvent_110 (tgt := 115) rfl (fun h20 => ?_) (fun h20 => ?_)
            · have hf := gif_f h20 hf
              refine lv_aload_n hx hb dX3_readEvent_115 rfl (lv_at hl 0 rfl) ?_
              refine lv_iload_n hx hb dX3_readEvent_116 rfl (lv_at hl 2 rfl) ?_
              refine lv_iload_n hx hb dX3_readEvent_117 rfl (lv_at hl 3 rfl) ?_
              refine lv_iload hx hb dX3_readEvent_118 (lv_at hl 4 rfl) ?_
              refine lv_iload_n hx hb dX3_readEvent_120 rfl (lv_at hl 1 rfl) ?_
              refine lv_iload hx hb dX3_readEvent_121 (lv_at hl 5 rfl) ?_
              refine lv_imul hx hb dX3_readEvent_123 ?_
              refine lv_aload_n hx hb dX3_readEvent_124 rfl (lv_at hl 0 rfl) ?_
              refine g_get hE okX3 fl_X3_49 hP 0 rfl (v := .int (Rd_number (r18.2))) rfl dX3_readEvent_125 ?_
              obtain ⟨r21, hc22, hf⟩ := gbd hf
              refine gm_callV1 (As := [.int (Rd_number (r1.2)), .int (Rd_number (r4.2)), .int (Rd_number (r7.2)), .int (p1 * x5_13), .int (Rd_number (r18.2))]) (rest := []) (st1 := fun _ => []) (ws' := fun _ => (Rd_c g a0 r21)) hE hl.1 ml_X3_121 (c_X3_addLine l g a0 (r18.2) (Rd_number (r1.2)) (Rd_number (r4.2)) (Rd_number (r7.2)) (p1 * x5_13) (Rd_number (r18.2)) r21 hc22) hZ hP hD hS hA 0 8 rfl (fun _ => rfl) okX3 rfl rfl rfl (fun _ => rfl) ⟨rfl, rfl⟩ ⟨Nat.le_of_ble_eq_true rfl, Nat.le_of_ble_eq_true rfl⟩ ⟨Nat.le_refl _, Nat.le_refl _⟩ (Nat.le_of_ble_eq_true rfl) dX3_readEvent_128 (fun _ H locs hP hD hS => ?_)
              refine lv_iconst hx hb dX3_readEvent_131 kci_1 ?_
              cases hf
              exact hq () (by decide) rfl hP hD hS dX3_readEvent_132
            · have hf := gif_t h20 hf
              refine lv_iconst hx hb dX3_readEvent_113 kci_0 ?_
              cases hf
              exact hq () (by decide) rfl hP hD hS dX3_readEvent_114
        refine lv_if_eq hx hb dX3_readEvent_64 (tgt := 92) rfl (fun h23 => ?_) (fun h23 => ?_)
        · have hf := gif_t h23 hf
          exact kJ12 (1 : Int32) (r7.2) ls H locs hf (lv_sub hl [4, 5, 3, 2, 1, 0] rfl) hP hD hS
        · have hf := gif_f h23 hf
          refine lv_aload_n hx hb dX3_readEvent_67 rfl (lv_at hl 4 rfl) ?_
          refine g_get hE okX3 fl_X3_12 hP 0 rfl (v := .ref (a0 1)) rfl dX3_readEvent_68 ?_
          obtain ⟨r24, hc25, hf⟩ := gbd hf
          refine gm_callV1 (As := []) (rest := []) (st1 := fun _ => []) (ws' := fun _ => (Rd_c g a0 (Rd_w_tape (r7.2) r24))) hE hl.1 ml_X3_76 (c_X6_next l g (fun k => a0 (k + 1)) (Rd_tape (r7.2)) r24 hc25) hZ hP hD hS hA 1 3 rfl (fun _ => rfl) okX6 rfl rfl rfl (fun _ => rfl) ⟨rfl, rfl⟩ ⟨Nat.le_of_ble_eq_true rfl, Nat.le_of_ble_eq_true rfl⟩ ⟨Nat.le_refl _, Nat.le_refl _⟩ (Nat.le_of_ble_eq_true rfl) dX3_readEvent_71 (fun _ H locs hP hD hS => ?_)
          refine lv_aload_n hx hb dX3_readEvent_74 rfl (lv_at hl 4 rfl) ?_
          refine lv_iconst hx hb dX3_readEvent_75 kci_1 ?_
          refine lv_bipush hx hb dX3_readEvent_76 kcb_9 ?_
          obtain ⟨r26, hc27, hf⟩ := gbd hf
          refine gm_callV1 (As := [.int (1 : Int32), .int (9 : Int32)]) (rest := []) (st1 := fun _ => [.int (r26.1)]) (ws' := fun _ => (Rd_c g a0 (r26.2))) hE hl.1 ml_X3_115 (c_X3_readWhole l g a0 (Rd_w_tape (r7.2) r24) (1 : Int32) (9 : Int32) r26 hc27) hZ hP hD hS hA 0 8 rfl (fun _ => rfl) okX3 rfl rfl rfl (fun _ => rfl) ⟨rfl, rfl⟩ ⟨Nat.le_of_ble_eq_true rfl, Nat.le_of_ble_eq_true rfl⟩ ⟨Nat.le_refl _, Nat.le_refl _⟩ (Nat.le_of_ble_eq_true rfl) dX3_readEvent_78 (fun _ H locs hP hD hS => ?_)
          refine lv_if_ne hx hb dX3_readEvent_81 (tgt := 86) rfl (fun h28 => ?_) (fun h28 => ?_)
          · have hf := gif_f h28 hf
            refine lv_aload_n hx hb dX3_readEvent_86 rfl (lv_at hl 4 rfl) ?_
            refine g_get hE okX3 fl_X3_49 hP 0 rfl (v := .int (Rd_number (r26.2))) rfl dX3_readEvent_87 ?_
            refine lv_istore hx hb dX3_readEvent_90 hl (by decide) (lv' := [(5, .int (Rd_number (r26.2))), (4, .int (Rd_number (r7.2))), (3, .int (Rd_number (r4.2))), (2, .int (Rd_number (r1.2))), (0, .ref (a0 0)), (1, .int p1)]) rfl (fun ls hl => ?_)
            exact kJ12 (Rd_number (r26.2)) (r26.2) ls H locs hf (lv_sub hl [4, 5, 3, 2, 1, 0] rfl) hP hD hS
          · have hf := gif_t h28 hf
            refine lv_iconst hx hb dX3_readEvent_84 kci_0 ?_
            cases hf
            exact hq () (by decide) rfl hP hD hS dX3_readEvent_85
      · have hf := gif_t h9 hf
        refine lv_iconst hx hb dX3_readEvent_43 kci_0 ?_
        cases hf
        exact hq () (by decide) rfl hP hD hS dX3_readEvent_44
    · have hf := gif_t h6 hf
      refine lv_iconst hx hb dX3_readEvent_25 kci_0 ?_
      cases hf
      exact hq () (by decide) rfl hP hD hS dX3_readEvent_26
  · have hf := gif_t h3 hf
    refine lv_iconst hx hb dX3_readEvent_7 kci_0 ?_
    cases hf
    exact hq () (by decide) rfl hP hD hS dX3_readEvent_8
theorem dX3_readLine_0 : decode cX3_readLine 0 = .ok (.aload_n 0, 1) := by decide +kernel
theorem dX3_readLine_1 : decode cX3_readLine 1 = .ok (.getfield 12, 3) := by decide +kernel
theorem dX3_readLine_4 : decode cX3_readLine 4 = .ok (.ldc2_w 86, 3) := by decide +kernel
theorem dX3_readLine_7 : decode cX3_readLine 7 = .ok (.invokevirtual 88, 3) := by decide +kernel
theorem dX3_readLine_10 : decode cX3_readLine 10 = .ok (.ifCond .eq 23, 3) := by decide +kernel
theorem dX3_readLine_13 : decode cX3_readLine 13 = .ok (.aload_n 0, 1) := by decide +kernel
theorem dX3_readLine_14 : decode cX3_readLine 14 = .ok (.getfield 36, 3) := by decide +kernel
theorem dX3_readLine_17 : decode cX3_readLine 17 = .ok (.ifCond .eq 11, 3) := by decide +kernel
theorem dX3_readLine_20 : decode cX3_readLine 20 = .ok (.aload_n 0, 1) := by decide +kernel
theorem dX3_readLine_21 : decode cX3_readLine 21 = .ok (.iconst 3, 1) := by decide +kernel
theorem dX3_readLine_22 : decode cX3_readLine 22 = .ok (.invokevirtual 79, 3) := by decide +kernel
theorem dX3_readLine_25 : decode cX3_readLine 25 = .ok (.goto 7, 3) := by decide +kernel
theorem dX3_readLine_28 : decode cX3_readLine 28 = .ok (.aload_n 0, 1) := by decide +kernel
theorem dX3_readLine_29 : decode cX3_readLine 29 = .ok (.invokevirtual 92, 3) := by decide +kernel
theorem dX3_readLine_32 : decode cX3_readLine 32 = .ok (.ireturn, 1) := by decide +kernel
theorem dX3_readLine_33 : decode cX3_readLine 33 = .ok (.aload_n 0, 1) := by decide +kernel
theorem dX3_readLine_34 : decode cX3_readLine 34 = .ok (.getfield 12, 3) := by decide +kernel
theorem dX3_readLine_37 : decode cX3_readLine 37 = .ok (.ldc2_w 95, 3) := by decide +kernel
theorem dX3_readLine_40 : decode cX3_readLine 40 = .ok (.invokevirtual 88, 3) := by decide +kernel
theorem dX3_readLine_43 : decode cX3_readLine 43 = .ok (.istore_n 1, 1) := by decide +kernel
theorem dX3_readLine_44 : decode cX3_readLine 44 = .ok (.aload_n 0, 1) := by decide +kernel
theorem dX3_readLine_45 : decode cX3_readLine 45 = .ok (.getfield 12, 3) := by decide +kernel
theorem dX3_readLine_48 : decode cX3_readLine 48 = .ok (.ldc2_w 97, 3) := by decide +kernel
theorem dX3_readLine_51 : decode cX3_readLine 51 = .ok (.invokevirtual 88, 3) := by decide +kernel
theorem dX3_readLine_54 : decode cX3_readLine 54 = .ok (.istore_n 2, 1) := by decide +kernel
theorem dX3_readLine_55 : decode cX3_readLine 55 = .ok (.iload_n 1, 1) := by decide +kernel
theorem dX3_readLine_56 : decode cX3_readLine 56 = .ok (.ifCond .ne 26, 3) := by decide +kernel
theorem dX3_readLine_59 : decode cX3_readLine 59 = .ok (.iload_n 2, 1) := by decide +kernel
theorem dX3_readLine_60 : decode cX3_readLine 60 = .ok (.ifCond .ne 22, 3) := by decide +kernel
theorem dX3_readLine_63 : decode cX3_readLine 63 = .ok (.aload_n 0, 1) := by decide +kernel
theorem dX3_readLine_64 : decode cX3_readLine 64 = .ok (.getfield 12, 3) := by decide +kernel
theorem dX3_readLine_67 : decode cX3_readLine 67 = .ok (.ldc2_w 99, 3) := by decide +kernel
theorem dX3_readLine_70 : decode cX3_readLine 70 = .ok (.invokevirtual 88, 3) := by decide +kernel
theorem dX3_readLine_73 : decode cX3_readLine 73 = .ok (.ifCond .ne 9, 3) := by decide +kernel
theorem dX3_readLine_76 : decode cX3_readLine 76 = .ok (.aload_n 0, 1) := by decide +kernel
theorem dX3_readLine_77 : decode cX3_readLine 77 = .ok (.iconst 1, 1) := by decide +kernel
theorem dX3_readLine_78 : decode cX3_readLine 78 = .ok (.invokevirtual 79, 3) := by decide +kernel
theorem dX3_readLine_81 : decode cX3_readLine 81 = .ok (.ireturn, 1) := by decide +kernel
theorem dX3_readLine_82 : decode cX3_readLine 82 = .ok (.aload_n 0, 1) := by decide +kernel
theorem dX3_readLine_83 : decode cX3_readLine 83 = .ok (.getfield 32, 3) := by decide +kernel
theorem dX3_readLine_86 : decode cX3_readLine 86 = .ok (.bipush 40, 2) := by decide +kernel
theorem dX3_readLine_88 : decode cX3_readLine 88 = .ok (.if_icmp .lt 9, 3) := by decide +kernel
theorem dX3_readLine_91 : decode cX3_readLine 91 = .ok (.aload_n 0, 1) := by decide +kernel
theorem dX3_readLine_92 : decode cX3_readLine 92 = .ok (.iconst 4, 1) := by decide +kernel
theorem dX3_readLine_93 : decode cX3_readLine 93 = .ok (.invokevirtual 79, 3) := by decide +kernel
theorem dX3_readLine_96 : decode cX3_readLine 96 = .ok (.ireturn, 1) := by decide +kernel
theorem dX3_readLine_97 : decode cX3_readLine 97 = .ok (.aload_n 0, 1) := by decide +kernel
theorem dX3_readLine_98 : decode cX3_readLine 98 = .ok (.getfield 36, 3) := by decide +kernel
theorem dX3_readLine_101 : decode cX3_readLine 101 = .ok (.ifCond .ne 9, 3) := by decide +kernel
theorem dX3_readLine_104 : decode cX3_readLine 104 = .ok (.aload_n 0, 1) := by decide +kernel
theorem dX3_readLine_105 : decode cX3_readLine 105 = .ok (.iconst 5, 1) := by decide +kernel
theorem dX3_readLine_106 : decode cX3_readLine 106 = .ok (.invokevirtual 79, 3) := by decide +kernel
theorem dX3_readLine_109 : decode cX3_readLine 109 = .ok (.ireturn, 1) := by decide +kernel
theorem dX3_readLine_110 : decode cX3_readLine 110 = .ok (.aload_n 0, 1) := by decide +kernel
theorem dX3_readLine_111 : decode cX3_readLine 111 = .ok (.getfield 12, 3) := by decide +kernel
theorem dX3_readLine_114 : decode cX3_readLine 114 = .ok (.invokevirtual 76, 3) := by decide +kernel
theorem dX3_readLine_117 : decode cX3_readLine 117 = .ok (.iload_n 2, 1) := by decide +kernel
theorem dX3_readLine_118 : decode cX3_readLine 118 = .ok (.ifCond .eq 10, 3) := by decide +kernel
theorem dX3_readLine_121 : decode cX3_readLine 121 = .ok (.aload_n 0, 1) := by decide +kernel
theorem dX3_readLine_122 : decode cX3_readLine 122 = .ok (.invokevirtual 101, 3) := by decide +kernel
theorem dX3_readLine_125 : decode cX3_readLine 125 = .ok (.goto 16, 3) := by decide +kernel
theorem dX3_readLine_128 : decode cX3_readLine 128 = .ok (.aload_n 0, 1) := by decide +kernel
theorem dX3_readLine_129 : decode cX3_readLine 129 = .ok (.iload_n 1, 1) := by decide +kernel
theorem dX3_readLine_130 : decode cX3_readLine 130 = .ok (.ifCond .eq 7, 3) := by decide +kernel
theorem dX3_readLine_133 : decode cX3_readLine 133 = .ok (.iconst 1, 1) := by decide +kernel
theorem dX3_readLine_134 : decode cX3_readLine 134 = .ok (.goto 4, 3) := by decide +kernel
theorem dX3_readLine_137 : decode cX3_readLine 137 = .ok (.iconst (-1), 1) := by decide +kernel
theorem dX3_readLine_138 : decode cX3_readLine 138 = .ok (.invokevirtual 104, 3) := by decide +kernel
theorem dX3_readLine_141 : decode cX3_readLine 141 = .ok (.ireturn, 1) := by decide +kernel
def f_X3_readLine (s0 : RdT) : Option (Int32 × RdT) :=
  (f_X6_says (Rd_tape s0) (1802724708 : Int64)).bind fun r1 =>
  if r1 = 0 then (f_X6_says (Rd_tape s0) (7632240 : Int64)).bind fun r4 =>
  (f_X6_says (Rd_tape s0) (1801677172 : Int64)).bind fun r6 =>
  glt (fun (_ : Unit) => if (Rd_count s0) < (40 : Int32) then if (Rd_hasDesk s0) = 0 then (f_X3_fail s0 (5 : Int32)).bind fun r24 =>
  if isB (r24.1) then some ((r24.1), (r24.2)) else none
  else (f_X6_next (Rd_tape s0)).bind fun r11 =>
  if r6 = 0 then if r4 = 0 then (f_X3_readEvent (Rd_w_tape s0 r11) (-1 : Int32)).bind fun r15 =>
  if isB (r15.1) then some ((r15.1), (r15.2)) else none
  else (f_X3_readEvent (Rd_w_tape s0 r11) (1 : Int32)).bind fun r18 =>
  if isB (r18.1) then some ((r18.1), (r18.2)) else none
  else (f_X3_readTick (Rd_w_tape s0 r11)).bind fun r21 =>
  if isB (r21.1) then some ((r21.1), (r21.2)) else none
  else (f_X3_fail s0 (4 : Int32)).bind fun r27 =>
  if isB (r27.1) then some ((r27.1), (r27.2)) else none) fun J8 =>
  if r4 = 0 then if r6 = 0 then (f_X6_says (Rd_tape s0) (1801675106 : Int64)).bind fun r32 =>
  if r32 = 0 then (f_X3_fail s0 (1 : Int32)).bind fun r35 =>
  if isB (r35.1) then some ((r35.1), (r35.2)) else none
  else J8 ()
  else J8 ()
  else J8 ()
  else if (Rd_hasDesk s0) = 0 then (f_X3_readDeskLine s0).bind fun r39 =>
  if isB (r39.1) then some ((r39.1), (r39.2)) else none
  else (f_X3_fail s0 (3 : Int32)).bind fun r42 =>
  if isB (r42.1) then some ((r42.1), (r42.2)) else none
abbrev rm_X3_readLine : Room := { frames := 4, cells := 0, slots := 0, locals := 89 }
set_option maxHeartbeats 4000000 in
set_option maxRecDepth 100000 in
theorem c_X3_readLine (l : Launch) (g : GK) (a0 : Nat → Nat) (s0 : RdT) (res : (Int32 × RdT)) (hf : f_X3_readLine s0 = some res) : gM l yX3_readLine cX3_readLine 3 (some .boolean) rm_X3_readLine g [.ref (a0 0)] (Rd_c g a0 s0) (fun _ : Unit => (some (.int (res.1)))) (fun _ => (Rd_c g a0 (res.2))) 0 0 := by
  refine gM_introZ RX3 (by decide) rfl (Nat.le_of_ble_eq_true rfl) (fun p e s m args below meth c Q H locs ls A hE hZ hA hP hD hS hq hl => ?_)
  have hl : lv_has ls 3 [(0, .ref (a0 0))] := hl
  have hx := hE.1
  have hb := hE.2.1
  rw [f_X3_readLine] at hf
  refine lv_aload_n hx hb dX3_readLine_0 rfl (lv_at hl 0 rfl) ?_
  refine g_get hE okX3 fl_X3_12 hP 0 rfl (v := .ref (a0 1)) rfl dX3_readLine_1 ?_
  refine lv_ldc2 hx hb hE.2.2.2.2.2.1 (hE.2.2.2.2.2.2.1 _ kd_X3_86) dX3_readLine_4 ?_
  obtain ⟨r1, hc2, hf⟩ := gbd hf
  refine gr_callV (As := [.long (1802724708 : Int64)]) (rest := []) (st1 := [.int r1]) hE hl.1 ml_X3_88 (c_X6_says l g (fun k => a0 (k + 1)) (Rd_tape s0) (1802724708 : Int64) r1 hc2) hZ hS hP [(1, 2)] rfl okX6 rfl rfl rfl rfl ⟨rfl, rfl⟩ ⟨Nat.le_of_ble_eq_true rfl, Nat.le_of_ble_eq_true rfl⟩ ⟨Nat.le_refl _, Nat.le_refl _⟩ (Nat.le_of_ble_eq_true rfl) dX3_readLine_7 ?_
  refine lv_if_eq hx hb dX3_readLine_10 (tgt := 33) rfl (fun h3 => ?_) (fun h3 => ?_)
  · have hf := gif_t h3 hf
    refine lv_aload_n hx hb dX3_readLine_33 rfl (lv_at hl 0 rfl) ?_
    refine g_get hE okX3 fl_X3_12 hP 0 rfl (v := .ref (a0 1)) rfl dX3_readLine_34 ?_
    refine lv_ldc2 hx hb hE.2.2.2.2.2.1 (hE.2.2.2.2.2.2.1 _ kd_X3_95) dX3_readLine_37 ?_
    obtain ⟨r4, hc5, hf⟩ := gbd hf
    refine gr_callV (As := [.long (7632240 : Int64)]) (rest := []) (st1 := [.int r4]) hE hl.1 ml_X3_88 (c_X6_says l g (fun k => a0 (k + 1)) (Rd_tape s0) (7632240 : Int64) r4 hc5) hZ hS hP [(1, 2)] rfl okX6 rfl rfl rfl rfl ⟨rfl, rfl⟩ ⟨Nat.le_of_ble_eq_true rfl, Nat.le_of_ble_eq_true rfl⟩ ⟨Nat.le_refl _, Nat.le_refl _⟩ (Nat.le_of_ble_eq_true rfl) dX3_readLine_40 ?_
    refine lv_istore_n hx hb dX3_readLine_43 rfl hl (by decide) (lv' := [(1, .int r4), (0, .ref (a0 0))]) rfl (fun ls hl => ?_)
    refine lv_aload_n hx hb dX3_readLine_44 rfl (lv_at hl 1 rfl) ?_
    refine g_get hE okX3 fl_X3_12 hP 0 rfl (v := .ref (a0 1)) rfl dX3_readLine_45 ?_
    refine lv_ldc2 hx hb hE.2.2.2.2.2.1 (hE.2.2.2.2.2.2.1 _ kd_X3_97) dX3_readLine_48 ?_
    obtain ⟨r6, hc7, hf⟩ := gbd hf
    refine gr_callV (As := [.long (1801677172 : Int64)]) (rest := []) (st1 := [.int r6]) hE hl.1 ml_X3_88 (c_X6_says l g (fun k => a0 (k + 1)) (Rd_tape s0) (1801677172 : Int64) r6 hc7) hZ hS hP [(1, 2)] rfl okX6 rfl rfl rfl rfl ⟨rfl, rfl⟩ ⟨Nat.le_of_ble_eq_true rfl, Nat.le_of_ble_eq_true rfl⟩ ⟨Nat.le_refl _, Nat.le_refl _⟩ (Nat.le_of_ble_eq_true rfl) dX3_readLine_51 ?_
    refine lv_istore_n hx hb dX3_readLine_54 rfl hl (by decide) (lv' := [(2, .int r6), (1, .int r4), (0, .ref (a0 0))]) rfl (fun ls hl => ?_)
    refine lv_iload_n hx hb dX3_readLine_55 rfl (lv_at hl 1 rfl) ?_
    obtain ⟨J8, eJ8, hf⟩ := gltd hf
    have kJ8 : ∀ (_ : Unit) (ls : Array Slot) (H : Heap) (locs : List Loc), J8 () = some res → lv_has ls 3 [(0, .ref (a0 0)), (1, .int r4), (2, .int r6)] → gP g (Rd_c g a0 s0) H → va_D A (Rd_c g a0 s0) → va_S A s.heap H locs → W p l e rm_X3_readLine s m args below meth c H locs 0 0 Q (F0 m 82 ls []) := by
      intro _ ls H locs hf hl hP hD hS
      rw [eJ8] at hf
      refine lv_aload_n hx hb dX3_readLine_82 rfl (lv_at hl 0 rfl) ?_
      refine g_get hE okX3 fl_X3_32 hP 0 rfl (v := .int (Rd_count s0)) rfl dX3_readLine_83 ?_
      refine lv_bipush hx hb dX3_readLine_86 kcb_40 ?_
      refine lv_icmp_lt hx hb dX3_readLine_88 (tgt := 97) rfl (fun h9 => ?_) (fun h9 => ?_)
      · have hf := gif_t h9 hf
        refine lv_aload_n hx hb dX3_readLine_97 rfl (lv_at hl 0 rfl) ?_
        refine g_get hE okX3 fl_X3_36 hP 0 rfl (v := .int (Rd_hasDesk s0)) rfl dX3_readLine_98 ?_
        refine lv_if_ne hx hb dX3_readLine_101 (tgt := 110) rfl (fun h10 => ?_) (fun h10 => ?_)
        · have hf := gif_f h10 hf
          refine lv_aload_n hx hb dX3_readLine_110 rfl (lv_at hl 0 rfl) ?_
          refine g_get hE okX3 fl_X3_12 hP 0 rfl (v := .ref (a0 1)) rfl dX3_readLine_111 ?_
          obtain ⟨r11, hc12, hf⟩ := gbd hf
          refine gm_callV1 (As := []) (rest := []) (st1 := fun _ => []) (ws' := fun _ => (Rd_c g a0 (Rd_w_tape s0 r11))) hE hl.1 ml_X3_76 (c_X6_next l g (fun k => a0 (k + 1)) (Rd_tape s0) r11 hc12) hZ hP hD hS hA 1 3 rfl (fun _ => rfl) okX6 rfl rfl rfl (fun _ => rfl) ⟨rfl, rfl⟩ ⟨Nat.le_of_ble_eq_true rfl, Nat.le_of_ble_eq_true rfl⟩ ⟨Nat.le_refl _, Nat.le_refl _⟩ (Nat.le_of_ble_eq_true rfl) dX3_readLine_114 (fun _ H locs hP hD hS => ?_)
          refine lv_iload_n hx hb dX3_readLine_117 rfl (lv_at hl 2 rfl) ?_
          refine lv_if_eq hx hb dX3_readLine_118 (tgt := 128) rfl (fun h13 => ?_) (fun h13 => ?_)
          · have hf := gif_t h13 hf
            refine lv_aload_n hx hb dX3_readLine_128 rfl (lv_at hl 0 rfl) ?_
            refine lv_iload_n hx hb dX3_readLine_129 rfl (lv_at hl 1 rfl) ?_
            refine lv_if_eq hx hb dX3_readLine_130 (tgt := 137) rfl (fun h14 => ?_) (fun h14 => ?_)
            · have hf := gif_t h14 hf
              refine lv_iconst hx hb dX3_readLine_137 kci_m1 ?_
              obtain ⟨r15, hc16, hf⟩ := gbd hf
              refine gm_callV1 (As := [.int (-1 : Int32)]) (rest := []) (st1 := fun _ => [.int (r15.1)]) (ws' := fun _ => (Rd_c g a0 (r15.2))) hE hl.1 ml_X3_104 (c_X3_readEvent l g a0 (Rd_w_tape s0 r11) (-1 : Int32) r15 hc16) hZ hP hD hS hA 0 8 rfl (fun _ => rfl) okX3 rfl rfl rfl (fun _ => rfl) ⟨rfl, rfl⟩ ⟨Nat.le_of_ble_eq_true rfl, Nat.le_of_ble_eq_true rfl⟩ ⟨Nat.le_refl _, Nat.le_refl _⟩ (Nat.le_of_ble_eq_true rfl) dX3_readLine_138 (fun _ H locs hP hD hS => ?_)
              obtain ⟨hg17, hf⟩ := ggd hf
              cases hf
              exact hq () hg17 rfl hP hD hS dX3_readLine_141
            · have hf := gif_f h14 hf
              refine lv_iconst hx hb dX3_readLine_133 kci_1 ?_
              refine lv_goto hx hb dX3_readLine_134 (tgt := 138) rfl ?_
              obtain ⟨r18, hc19, hf⟩ := gbd hf
              refine gm_callV1 (As := [.int (1 : Int32)]) (rest := []) (st1 := fun _ => [.int (r18.1)]) (ws' := fun _ => (Rd_c g a0 (r18.2))) hE hl.1 ml_X3_104 (c_X3_readEvent l g a0 (Rd_w_tape s0 r11) (1 : Int32) r18 hc19) hZ hP hD hS hA 0 8 rfl (fun _ => rfl) okX3 rfl rfl rfl (fun _ => rfl) ⟨rfl, rfl⟩ ⟨Nat.le_of_ble_eq_true rfl, Nat.le_of_ble_eq_true rfl⟩ ⟨Nat.le_refl _, Nat.le_refl _⟩ (Nat.le_of_ble_eq_true rfl) dX3_readLine_138 (fun _ H locs hP hD hS => ?_)
              obtain ⟨hg20, hf⟩ := ggd hf
              cases hf
              exact hq () hg20 rfl hP hD hS dX3_readLine_141
          · have hf := gif_f h13 hf
            refine lv_aload_n hx hb dX3_readLine_121 rfl (lv_at hl 0 rfl) ?_
            obtain ⟨r21, hc22, hf⟩ := gbd hf
            refine gm_callV1 (As := []) (rest := []) (st1 := fun _ => [.int (r21.1)]) (ws' := fun _ => (Rd_c g a0 (r21.2))) hE hl.1 ml_X3_101 (c_X3_readTick l g a0 (Rd_w_tape s0 r11) r21 hc22) hZ hP hD hS hA 0 8 rfl (fun _ => rfl) okX3 rfl rfl rfl (fun _ => rfl) ⟨rfl, rfl⟩ ⟨Nat.le_of_ble_eq_true rfl, Nat.le_of_ble_eq_true rfl⟩ ⟨Nat.le_refl _, Nat.le_refl _⟩ (Nat.le_of_ble_eq_true rfl) dX3_readLine_122 (fun _ H locs hP hD hS => ?_)
            refine lv_goto hx hb dX3_readLine_125 (tgt := 141) rfl ?_
            obtain ⟨hg23, hf⟩ := ggd hf
            cases hf
            exact hq () hg23 rfl hP hD hS dX3_readLine_141
        · have hf := gif_t h10 hf
          refine lv_aload_n hx hb dX3_readLine_104 rfl (lv_at hl 0 rfl) ?_
          refine lv_iconst hx hb dX3_readLine_105 kci_5 ?_
          obtain ⟨r24, hc25, hf⟩ := gbd hf
          refine gm_callV1 (As := [.int (5 : Int32)]) (rest := []) (st1 := fun _ => [.int (r24.1)]) (ws' := fun _ => (Rd_c g a0 (r24.2))) hE hl.1 ml_X3_79 (c_X3_fail l g a0 s0 (5 : Int32) r24 hc25) hZ hP hD hS hA 0 8 rfl (fun _ => rfl) okX3 rfl rfl rfl (fun _ => rfl) ⟨rfl, rfl⟩ ⟨Nat.le_of_ble_eq_true rfl, Nat.le_of_ble_eq_true rfl⟩ ⟨Nat.le_refl _, Nat.le_refl _⟩ (Nat.le_of_ble_eq_true rfl) dX3_readLine_106 (fun _ H locs hP hD hS => ?_)
          obtain ⟨hg26, hf⟩ := ggd hf
          cases hf
          exact hq () hg26 rfl hP hD hS dX3_readLine_109
      · have hf := gif_f h9 hf
        refine lv_aload_n hx hb dX3_readLine_91 rfl (lv_at hl 0 rfl) ?_
        refine lv_iconst hx hb dX3_readLine_92 kci_4 ?_
        obtain ⟨r27, hc28, hf⟩ := gbd hf
        refine gm_callV1 (As := [.int (4 : Int32)]) (rest := []) (st1 := fun _ => [.int (r27.1)]) (ws' := fun _ => (Rd_c g a0 (r27.2))) hE hl.1 ml_X3_79 (c_X3_fail l g a0 s0 (4 : Int32) r27 hc28) hZ hP hD hS hA 0 8 rfl (fun _ => rfl) okX3 rfl rfl rfl (fun _ => rfl) ⟨rfl, rfl⟩ ⟨Nat.le_of_ble_eq_true rfl, Nat.le_of_ble_eq_true rfl⟩ ⟨Nat.le_refl _, Nat.le_refl _⟩ (Nat.le_of_ble_eq_true rfl) dX3_readLine_93 (fun _ H locs hP hD hS => ?_)
        obtain ⟨hg29, hf⟩ := ggd hf
        cases hf
        exact hq () hg29 rfl hP hD hS dX3_readLine_96
    refine lv_if_ne hx hb dX3_readLine_56 (tgt := 82) rfl (fun h30 => ?_) (fun h30 => ?_)
    · have hf := gif_f h30 hf
      exact kJ8 () ls H locs hf (lv_sub hl [2, 1, 0] rfl) hP hD hS
    · have hf := gif_t h30 hf
      refine lv_iload_n hx hb dX3_readLine_59 rfl (lv_at hl 0 rfl) ?_
      refine lv_if_ne hx hb dX3_readLine_60 (tgt := 82) rfl (fun h31 => ?_) (fun h31 => ?_)
      · have hf := gif_f h31 hf
        exact kJ8 () ls H locs hf (lv_sub hl [2, 1, 0] rfl) hP hD hS
      · have hf := gif_t h31 hf
        refine lv_aload_n hx hb dX3_readLine_63 rfl (lv_at hl 2 rfl) ?_
        refine g_get hE okX3 fl_X3_12 hP 0 rfl (v := .ref (a0 1)) rfl dX3_readLine_64 ?_
        refine lv_ldc2 hx hb hE.2.2.2.2.2.1 (hE.2.2.2.2.2.2.1 _ kd_X3_99) dX3_readLine_67 ?_
        obtain ⟨r32, hc33, hf⟩ := gbd hf
        refine gr_callV (As := [.long (1801675106 : Int64)]) (rest := []) (st1 := [.int r32]) hE hl.1 ml_X3_88 (c_X6_says l g (fun k => a0 (k + 1)) (Rd_tape s0) (1801675106 : Int64) r32 hc33) hZ hS hP [(1, 2)] rfl okX6 rfl rfl rfl rfl ⟨rfl, rfl⟩ ⟨Nat.le_of_ble_eq_true rfl, Nat.le_of_ble_eq_true rfl⟩ ⟨Nat.le_refl _, Nat.le_refl _⟩ (Nat.le_of_ble_eq_true rfl) dX3_readLine_70 ?_
        refine lv_if_ne hx hb dX3_readLine_73 (tgt := 82) rfl (fun h34 => ?_) (fun h34 => ?_)
        · have hf := gif_f h34 hf
          exact kJ8 () ls H locs hf (lv_sub hl [2, 1, 0] rfl) hP hD hS
        · have hf := gif_t h34 hf
          refine lv_aload_n hx hb dX3_readLine_76 rfl (lv_at hl 2 rfl) ?_
          refine lv_iconst hx hb dX3_readLine_77 kci_1 ?_
          obtain ⟨r35, hc36, hf⟩ := gbd hf
          refine gm_callV1 (As := [.int (1 : Int32)]) (rest := []) (st1 := fun _ => [.int (r35.1)]) (ws' := fun _ => (Rd_c g a0 (r35.2))) hE hl.1 ml_X3_79 (c_X3_fail l g a0 s0 (1 : Int32) r35 hc36) hZ hP hD hS hA 0 8 rfl (fun _ => rfl) okX3 rfl rfl rfl (fun _ => rfl) ⟨rfl, rfl⟩ ⟨Nat.le_of_ble_eq_true rfl, Nat.le_of_ble_eq_true rfl⟩ ⟨Nat.le_refl _, Nat.le_refl _⟩ (Nat.le_of_ble_eq_true rfl) dX3_readLine_78 (fun _ H locs hP hD hS => ?_)
          obtain ⟨hg37, hf⟩ := ggd hf
          cases hf
          exact hq () hg37 rfl hP hD hS dX3_readLine_81
  · have hf := gif_f h3 hf
    refine lv_aload_n hx hb dX3_readLine_13 rfl (lv_at hl 0 rfl) ?_
    refine g_get hE okX3 fl_X3_36 hP 0 rfl (v := .int (Rd_hasDesk s0)) rfl dX3_readLine_14 ?_
    refine lv_if_eq hx hb dX3_readLine_17 (tgt := 28) rfl (fun h38 => ?_) (fun h38 => ?_)
    · have hf := gif_t h38 hf
      refine lv_aload_n hx hb dX3_readLine_28 rfl (lv_at hl 0 rfl) ?_
      obtain ⟨r39, hc40, hf⟩ := gbd hf
      refine gm_callV1 (As := []) (rest := []) (st1 := fun _ => [.int (r39.1)]) (ws' := fun _ => (Rd_c g a0 (r39.2))) hE hl.1 ml_X3_92 (c_X3_readDeskLine l g a0 s0 r39 hc40) hZ hP hD hS hA 0 8 rfl (fun _ => rfl) okX3 rfl rfl rfl (fun _ => rfl) ⟨rfl, rfl⟩ ⟨Nat.le_of_ble_eq_true rfl, Nat.le_of_ble_eq_true rfl⟩ ⟨Nat.le_refl _, Nat.le_refl _⟩ (Nat.le_of_ble_eq_true rfl) dX3_readLine_29 (fun _ H locs hP hD hS => ?_)
      obtain ⟨hg41, hf⟩ := ggd hf
      cases hf
      exact hq () hg41 rfl hP hD hS dX3_readLine_32
    · have hf := gif_f h38 hf
      refine lv_aload_n hx hb dX3_readLine_20 rfl (lv_at hl 0 rfl) ?_
      refine lv_iconst hx hb dX3_readLine_21 kci_3 ?_
      obtain ⟨r42, hc43, hf⟩ := gbd hf
      refine gm_callV1 (As := [.int (3 : Int32)]) (rest := []) (st1 := fun _ => [.int (r42.1)]) (ws' := fun _ => (Rd_c g a0 (r42.2))) hE hl.1 ml_X3_79 (c_X3_fail l g a0 s0 (3 : Int32) r42 hc43) hZ hP hD hS hA 0 8 rfl (fun _ => rfl) okX3 rfl rfl rfl (fun _ => rfl) ⟨rfl, rfl⟩ ⟨Nat.le_of_ble_eq_true rfl, Nat.le_of_ble_eq_true rfl⟩ ⟨Nat.le_refl _, Nat.le_refl _⟩ (Nat.le_of_ble_eq_true rfl) dX3_readLine_22 (fun _ H locs hP hD hS => ?_)
      refine lv_goto hx hb dX3_readLine_25 (tgt := 32) rfl ?_
      obtain ⟨hg44, hf⟩ := ggd hf
      cases hf
      exact hq () hg44 rfl hP hD hS dX3_readLine_32
theorem dX3_readLines_0 : decode cX3_readLines 0 = .ok (.aload_n 0, 1) := by decide +kernel
theorem dX3_readLines_1 : decode cX3_readLines 1 = .ok (.iconst 0, 1) := by decide +kernel
theorem dX3_readLines_2 : decode cX3_readLines 2 = .ok (.putfield 52, 3) := by decide +kernel
theorem dX3_readLines_5 : decode cX3_readLines 5 = .ok (.aload_n 0, 1) := by decide +kernel
theorem dX3_readLines_6 : decode cX3_readLines 6 = .ok (.iconst (-1), 1) := by decide +kernel
theorem dX3_readLines_7 : decode cX3_readLines 7 = .ok (.putfield 55, 3) := by decide +kernel
theorem dX3_readLines_10 : decode cX3_readLines 10 = .ok (.aload_n 0, 1) := by decide +kernel
theorem dX3_readLines_11 : decode cX3_readLines 11 = .ok (.iconst 0, 1) := by decide +kernel
theorem dX3_readLines_12 : decode cX3_readLines 12 = .ok (.putfield 32, 3) := by decide +kernel
theorem dX3_readLines_15 : decode cX3_readLines 15 = .ok (.aload_n 0, 1) := by decide +kernel
theorem dX3_readLines_16 : decode cX3_readLines 16 = .ok (.getfield 12, 3) := by decide +kernel
theorem dX3_readLines_19 : decode cX3_readLines 19 = .ok (.iload_n 1, 1) := by decide +kernel
theorem dX3_readLines_20 : decode cX3_readLines 20 = .ok (.invokevirtual 65, 3) := by decide +kernel
theorem dX3_readLines_23 : decode cX3_readLines 23 = .ok (.aload_n 0, 1) := by decide +kernel
theorem dX3_readLines_24 : decode cX3_readLines 24 = .ok (.invokevirtual 69, 3) := by decide +kernel
theorem dX3_readLines_27 : decode cX3_readLines 27 = .ok (.istore_n 2, 1) := by decide +kernel
theorem dX3_readLines_28 : decode cX3_readLines 28 = .ok (.iconst 0, 1) := by decide +kernel
theorem dX3_readLines_29 : decode cX3_readLines 29 = .ok (.istore_n 3, 1) := by decide +kernel
theorem dX3_readLines_30 : decode cX3_readLines 30 = .ok (.iload_n 3, 1) := by decide +kernel
theorem dX3_readLines_31 : decode cX3_readLines 31 = .ok (.sipush 900, 3) := by decide +kernel
theorem dX3_readLines_34 : decode cX3_readLines 34 = .ok (.if_icmp .ge 36, 3) := by decide +kernel
theorem dX3_readLines_37 : decode cX3_readLines 37 = .ok (.iload_n 2, 1) := by decide +kernel
theorem dX3_readLines_38 : decode cX3_readLines 38 = .ok (.ifCond .eq 32, 3) := by decide +kernel
theorem dX3_readLines_41 : decode cX3_readLines 41 = .ok (.aload_n 0, 1) := by decide +kernel
theorem dX3_readLines_42 : decode cX3_readLines 42 = .ok (.getfield 12, 3) := by decide +kernel
theorem dX3_readLines_45 : decode cX3_readLines 45 = .ok (.getfield 73, 3) := by decide +kernel
theorem dX3_readLines_48 : decode cX3_readLines 48 = .ok (.iconst 3, 1) := by decide +kernel
theorem dX3_readLines_49 : decode cX3_readLines 49 = .ok (.if_icmp .ne 21, 3) := by decide +kernel
theorem dX3_readLines_52 : decode cX3_readLines 52 = .ok (.aload_n 0, 1) := by decide +kernel
theorem dX3_readLines_53 : decode cX3_readLines 53 = .ok (.getfield 12, 3) := by decide +kernel
theorem dX3_readLines_56 : decode cX3_readLines 56 = .ok (.invokevirtual 76, 3) := by decide +kernel
theorem dX3_readLines_59 : decode cX3_readLines 59 = .ok (.aload_n 0, 1) := by decide +kernel
theorem dX3_readLines_60 : decode cX3_readLines 60 = .ok (.invokevirtual 69, 3) := by decide +kernel
theorem dX3_readLines_63 : decode cX3_readLines 63 = .ok (.istore_n 2, 1) := by decide +kernel
theorem dX3_readLines_64 : decode cX3_readLines 64 = .ok (.iinc 3 1, 3) := by decide +kernel
theorem dX3_readLines_67 : decode cX3_readLines 67 = .ok (.goto (-37), 3) := by decide +kernel
theorem dX3_readLines_70 : decode cX3_readLines 70 = .ok (.iload_n 2, 1) := by decide +kernel
theorem dX3_readLines_71 : decode cX3_readLines 71 = .ok (.ifCond .eq 25, 3) := by decide +kernel
theorem dX3_readLines_74 : decode cX3_readLines 74 = .ok (.aload_n 0, 1) := by decide +kernel
theorem dX3_readLines_75 : decode cX3_readLines 75 = .ok (.getfield 12, 3) := by decide +kernel
theorem dX3_readLines_78 : decode cX3_readLines 78 = .ok (.getfield 73, 3) := by decide +kernel
theorem dX3_readLines_81 : decode cX3_readLines 81 = .ok (.ifCond .eq 11, 3) := by decide +kernel
theorem dX3_readLines_84 : decode cX3_readLines 84 = .ok (.aload_n 0, 1) := by decide +kernel
theorem dX3_readLines_85 : decode cX3_readLines 85 = .ok (.iconst 1, 1) := by decide +kernel
theorem dX3_readLines_86 : decode cX3_readLines 86 = .ok (.invokevirtual 79, 3) := by decide +kernel
theorem dX3_readLines_89 : decode cX3_readLines 89 = .ok (.ifCond .eq 7, 3) := by decide +kernel
theorem dX3_readLines_92 : decode cX3_readLines 92 = .ok (.iconst 1, 1) := by decide +kernel
theorem dX3_readLines_93 : decode cX3_readLines 93 = .ok (.goto 4, 3) := by decide +kernel
theorem dX3_readLines_96 : decode cX3_readLines 96 = .ok (.iconst 0, 1) := by decide +kernel
theorem dX3_readLines_97 : decode cX3_readLines 97 = .ok (.ireturn, 1) := by decide +kernel
def f_X3_readLines_L30_16 (K5 : (Int32 → RdT → Option (Int32 × RdT))) : Nat → Int32 → Int32 → RdT → Option (Int32 × RdT)
  | 0, _, _, _ => none
  | n17 + 1, x2_13, x3_14, s0_15 => if (900 : Int32) ≤ x3_14 then K5 x2_13 s0_15
  else if x2_13 = 0 then K5 x2_13 s0_15
  else if (Tp_kind (Rd_tape s0_15)) = (3 : Int32) then (f_X6_next (Rd_tape s0_15)).bind fun r21 =>
  (f_X3_readLine (Rd_w_tape s0_15 r21)).bind fun r23 =>
  f_X3_readLines_L30_16 K5 n17 (r23.1) (x3_14 + (1 : Int32)) (r23.2)
  else K5 x2_13 s0_15
def f_X3_readLines (s0 : RdT) (p1 : Int32) : Option (Int32 × RdT) :=
  (f_X6_rewind (Rd_tape s0) p1).bind fun r1 =>
  (f_X3_readLine (Rd_w_place (Rd_w_fault (Rd_w_count (Rd_w_tape s0 r1) (0 : Int32)) (0 : Int32)) (-1 : Int32))).bind fun r3 =>
  glt (fun (x2_6 : Int32) (s0_7 : RdT) => if x2_6 = 0 then some ((0 : Int32), s0_7)
  else if (Tp_kind (Rd_tape s0_7)) = 0 then some ((1 : Int32), s0_7)
  else (f_X3_fail s0_7 (1 : Int32)).bind fun r10 =>
  if (r10.1) = 0 then some ((0 : Int32), (r10.2))
  else some ((1 : Int32), (r10.2))) fun K5 =>
  f_X3_readLines_L30_16 K5 10000 (r3.1) (0 : Int32) (r3.2)
abbrev rm_X3_readLines : Room := { frames := 5, cells := 0, slots := 0, locals := 111 }
set_option maxHeartbeats 4000000 in
set_option maxRecDepth 100000 in
theorem c_X3_readLines (l : Launch) (g : GK) (a0 : Nat → Nat) (s0 : RdT) (p1 : Int32) (res : (Int32 × RdT)) (hf : f_X3_readLines s0 p1 = some res) : gM l yX3_readLines cX3_readLines 4 (some .boolean) rm_X3_readLines g [.ref (a0 0), .int p1] (Rd_c g a0 s0) (fun _ : Unit => (some (.int (res.1)))) (fun _ => (Rd_c g a0 (res.2))) 0 0 := by
  refine gM_introZ RX3 (by decide) rfl (Nat.le_of_ble_eq_true rfl) (fun p e s m args below meth c Q H locs ls A hE hZ hA hP hD hS hq hl => ?_)
  have hl : lv_has ls 4 [(0, .ref (a0 0)), (1, .int p1)] := hl
  have hx := hE.1
  have hb := hE.2.1
  rw [f_X3_readLines] at hf
  refine lv_aload_n hx hb dX3_readLines_0 rfl (lv_at hl 0 rfl) ?_
  refine lv_iconst hx hb dX3_readLines_1 kci_0 ?_
  refine g_put hE okX3 fl_X3_52 hP hD hS 0 rfl rfl rfl rfl (Nat.le_of_ble_eq_true rfl) (Rd_c g a0 (Rd_w_fault s0 (0 : Int32))) rfl dX3_readLines_2 (fun H locs hP hD hS => ?_)
  refine lv_aload_n hx hb dX3_readLines_5 rfl (lv_at hl 0 rfl) ?_
  refine lv_iconst hx hb dX3_readLines_6 kci_m1 ?_
  refine g_put hE okX3 fl_X3_55 hP hD hS 0 rfl rfl rfl rfl (Nat.le_of_ble_eq_true rfl) (Rd_c g a0 (Rd_w_place (Rd_w_fault s0 (0 : Int32)) (-1 : Int32))) rfl dX3_readLines_7 (fun H locs hP hD hS => ?_)
  refine lv_aload_n hx hb dX3_readLines_10 rfl (lv_at hl 0 rfl) ?_
  refine lv_iconst hx hb dX3_readLines_11 kci_0 ?_
  refine g_put hE okX3 fl_X3_32 hP hD hS 0 rfl rfl rfl rfl (Nat.le_of_ble_eq_true rfl) (Rd_c g a0 (Rd_w_place (Rd_w_fault (Rd_w_count s0 (0 : Int32)) (0 : Int32)) (-1 : Int32))) rfl dX3_readLines_12 (fun H locs hP hD hS => ?_)
  refine lv_aload_n hx hb dX3_readLines_15 rfl (lv_at hl 0 rfl) ?_
  refine g_get hE okX3 fl_X3_12 hP 0 rfl (v := .ref (a0 1)) rfl dX3_readLines_16 ?_
  refine lv_iload_n hx hb dX3_readLines_19 rfl (lv_at hl 1 rfl) ?_
  obtain ⟨r1, hc2, hf⟩ := gbd hf
  refine gm_callV1 (As := [.int p1]) (rest := []) (st1 := fun _ => []) (ws' := fun _ => (Rd_c g a0 (Rd_w_place (Rd_w_fault (Rd_w_count (Rd_w_tape s0 r1) (0 : Int32)) (0 : Int32)) (-1 : Int32)))) hE hl.1 ml_X3_65 (c_X6_rewind l g (fun k => a0 (k + 1)) (Rd_tape s0) p1 r1 hc2) hZ hP hD hS hA 1 3 rfl (fun _ => rfl) okX6 rfl rfl rfl (fun _ => rfl) ⟨rfl, rfl⟩ ⟨Nat.le_of_ble_eq_true rfl, Nat.le_of_ble_eq_true rfl⟩ ⟨Nat.le_refl _, Nat.le_refl _⟩ (Nat.le_of_ble_eq_true rfl) dX3_readLines_20 (fun _ H locs hP hD hS => ?_)
  refine lv_aload_n hx hb dX3_readLines_23 rfl (lv_at hl 0 rfl) ?_
  obtain ⟨r3, hc4, hf⟩ := gbd hf
  refine gm_callV1 (As := []) (rest := []) (st1 := fun _ => [.int (r3.1)]) (ws' := fun _ => (Rd_c g a0 (r3.2))) hE hl.1 ml_X3_69 (c_X3_readLine l g a0 (Rd_w_place (Rd_w_fault (Rd_w_count (Rd_w_tape s0 r1) (0 : Int32)) (0 : Int32)) (-1 : Int32)) r3 hc4) hZ hP hD hS hA 0 8 rfl (fun _ => rfl) okX3 rfl rfl rfl (fun _ => rfl) ⟨rfl, rfl⟩ ⟨Nat.le_of_ble_eq_true rfl, Nat.le_of_ble_eq_true rfl⟩ ⟨Nat.le_refl _, Nat.le_refl _⟩ (Nat.le_of_ble_eq_true rfl) dX3_readLines_24 (fun _ H locs hP hD hS => ?_)
  refine lv_istore_n hx hb dX3_readLines_27 rfl hl (by decide) (lv' := [(2, .int (r3.1)), (0, .ref (a0 0)), (1, .int p1)]) rfl (fun ls hl => ?_)
  refine lv_iconst hx hb dX3_readLines_28 kci_0 ?_
  refine lv_istore_n hx hb dX3_readLines_29 rfl hl (by decide) (lv' := [(3, .int (0 : Int32)), (2, .int (r3.1)), (0, .ref (a0 0)), (1, .int p1)]) rfl (fun ls hl => ?_)
  obtain ⟨K5, eK5, hf⟩ := gltd hf
  have kK5 : ∀ (x2_6 : Int32) (s0_7 : RdT) (ls : Array Slot) (H : Heap) (locs : List Loc), K5 x2_6 s0_7 = some res → lv_has ls 4 [(0, .ref (a0 0)), (2, .int x2_6)] → gP g (Rd_c g a0 s0_7) H → va_D A (Rd_c g a0 s0_7) → va_S A s.heap H locs → W p l e rm_X3_readLines s m args below meth c H locs 0 0 Q (F0 m 70 ls []) := by
    intro x2_6 s0_7 ls H locs hf hl hP hD hS
    rw [eK5] at hf
    refine lv_iload_n hx hb dX3_readLines_70 rfl (lv_at hl 1 rfl) ?_
    refine lv_if_eq hx hb dX3_readLines_71 (tgt := 96) rfl (fun h8 => ?_) (fun h8 => ?_)
    · have hf := gif_t h8 hf
      refine lv_iconst hx hb dX3_readLines_96 kci_0 ?_
      cases hf
      exact hq () (by decide) rfl hP hD hS dX3_readLines_97
    · have hf := gif_f h8 hf
      refine lv_aload_n hx hb dX3_readLines_74 rfl (lv_at hl 0 rfl) ?_
      refine g_get hE okX3 fl_X3_12 hP 0 rfl (v := .ref (a0 1)) rfl dX3_readLines_75 ?_
      refine g_get hE okX6 fl_X3_73 hP 1 rfl (v := .int (Tp_kind (Rd_tape s0_7))) rfl dX3_readLines_78 ?_
      refine lv_if_eq hx hb dX3_readLines_81 (tgt := 92) rfl (fun h9 => ?_) (fun h9 => ?_)
      · have hf := gif_t h9 hf
        refine lv_iconst hx hb dX3_readLines_92 kci_1 ?_
        refine lv_goto hx hb dX3_readLines_93 (tgt := 97) rfl ?_
        cases hf
        exact hq () (by decide) rfl hP hD hS dX3_readLines_97
      · have hf := gif_f h9 hf
        refine lv_aload_n hx hb dX3_readLines_84 rfl (lv_at hl 0 rfl) ?_
        refine lv_iconst hx hb dX3_readLines_85 kci_1 ?_
        obtain ⟨r10, hc11, hf⟩ := gbd hf
        refine gm_callV1 (As := [.int (1 : Int32)]) (rest := []) (st1 := fun _ => [.int (r10.1)]) (ws' := fun _ => (Rd_c g a0 (r10.2))) hE hl.1 ml_X3_79 (c_X3_fail l g a0 s0_7 (1 : Int32) r10 hc11) hZ hP hD hS hA 0 8 rfl (fun _ => rfl) okX3 rfl rfl rfl (fun _ => rfl) ⟨rfl, rfl⟩ ⟨Nat.le_of_ble_eq_true rfl, Nat.le_of_ble_eq_true rfl⟩ ⟨Nat.le_refl _, Nat.le_refl _⟩ (Nat.le_of_ble_eq_true rfl) dX3_readLines_86 (fun _ H locs hP hD hS => ?_)
        refine lv_if_eq hx hb dX3_readLines_89 (tgt := 96) rfl (fun h12 => ?_) (fun h12 => ?_)
        · have hf := gif_t h12 hf
          refine lv_iconst hx hb dX3_readLines_96 kci_0 ?_
          cases hf
          exact hq () (by decide) rfl hP hD hS dX3_readLines_97
        · have hf := gif_f h12 hf
          refine lv_iconst hx hb dX3_readLines_92 kci_1 ?_
          refine lv_goto hx hb dX3_readLines_93 (tgt := 97) rfl ?_
          cases hf
          exact hq () (by decide) rfl hP hD hS dX3_readLines_97
  have lpn17 : ∀ (n17 : Nat) (x2_13 : Int32) (x3_14 : Int32) (s0_15 : RdT) (ls : Array Slot) (H : Heap) (locs : List Loc), f_X3_readLines_L30_16 K5 n17 x2_13 x3_14 s0_15 = some res → lv_has ls 4 [(0, .ref (a0 0)), (2, .int x2_13), (3, .int x3_14)] → gP g (Rd_c g a0 s0_15) H → va_D A (Rd_c g a0 s0_15) → va_S A s.heap H locs → W p l e rm_X3_readLines s m args below meth c H locs 0 0 Q (F0 m 30 ls []) := by
    intro n17
    induction n17 with
    | zero => intro x2_13 x3_14 s0_15 ls H locs hf hl hP hD hS; rw [f_X3_readLines_L30_16] at hf; cases hf
    | succ n17 ihn17 =>
      intro x2_13 x3_14 s0_15 ls H locs hf hl hP hD hS
      rw [f_X3_readLines_L30_16] at hf
      refine lv_iload_n hx hb dX3_readLines_30 rfl (lv_at hl 2 rfl) ?_
      refine lv_sipush hx hb dX3_readLines_31 kcs_900 ?_
      refine lv_icmp_ge hx hb dX3_readLines_34 (tgt := 70) rfl (fun h18 => ?_) (fun h18 => ?_)
      · have hf := gif_t h18 hf
        exact kK5 x2_13 s0_15 ls H locs hf (lv_sub hl [0, 1] rfl) hP hD hS
      · have hf := gif_f h18 hf
        refine lv_iload_n hx hb dX3_readLines_37 rfl (lv_at hl 1 rfl) ?_
        refine lv_if_eq hx hb dX3_readLines_38 (tgt := 70) rfl (fun h19 => ?_) (fun h19 => ?_)
        · have hf := gif_t h19 hf
          exact kK5 x2_13 s0_15 ls H locs hf (lv_sub hl [0, 1] rfl) hP hD hS
        · have hf := gif_f h19 hf
          refine lv_aload_n hx hb dX3_readLines_41 rfl (lv_at hl 0 rfl) ?_
          refine g_get hE okX3 fl_X3_12 hP 0 rfl (v := .ref (a0 1)) rfl dX3_readLines_42 ?_
          refine g_get hE okX6 fl_X3_73 hP 1 rfl (v := .int (Tp_kind (Rd_tape s0_15))) rfl dX3_readLines_45 ?_
          refine lv_iconst hx hb dX3_readLines_48 kci_3 ?_
          refine lv_icmp_ne hx hb dX3_readLines_49 (tgt := 70) rfl (fun h20 => ?_) (fun h20 => ?_)
          · have hf := gif_f h20 hf
            exact kK5 x2_13 s0_15 ls H locs hf (lv_sub hl [0, 1] rfl) hP hD hS
          · have hf := gif_t h20 hf
            refine lv_aload_n hx hb dX3_readLines_52 rfl (lv_at hl 0 rfl) ?_
            refine g_get hE okX3 fl_X3_12 hP 0 rfl (v := .ref (a0 1)) rfl dX3_readLines_53 ?_
            obtain ⟨r21, hc22, hf⟩ := gbd hf
            refine gm_callV1 (As := []) (rest := []) (st1 := fun _ => []) (ws' := fun _ => (Rd_c g a0 (Rd_w_tape s0_15 r21))) hE hl.1 ml_X3_76 (c_X6_next l g (fun k => a0 (k + 1)) (Rd_tape s0_15) r21 hc22) hZ hP hD hS hA 1 3 rfl (fun _ => rfl) okX6 rfl rfl rfl (fun _ => rfl) ⟨rfl, rfl⟩ ⟨Nat.le_of_ble_eq_true rfl, Nat.le_of_ble_eq_true rfl⟩ ⟨Nat.le_refl _, Nat.le_refl _⟩ (Nat.le_of_ble_eq_true rfl) dX3_readLines_56 (fun _ H locs hP hD hS => ?_)
            refine lv_aload_n hx hb dX3_readLines_59 rfl (lv_at hl 0 rfl) ?_
            obtain ⟨r23, hc24, hf⟩ := gbd hf
            refine gm_callV1 (As := []) (rest := []) (st1 := fun _ => [.int (r23.1)]) (ws' := fun _ => (Rd_c g a0 (r23.2))) hE hl.1 ml_X3_69 (c_X3_readLine l g a0 (Rd_w_tape s0_15 r21) r23 hc24) hZ hP hD hS hA 0 8 rfl (fun _ => rfl) okX3 rfl rfl rfl (fun _ => rfl) ⟨rfl, rfl⟩ ⟨Nat.le_of_ble_eq_true rfl, Nat.le_of_ble_eq_true rfl⟩ ⟨Nat.le_refl _, Nat.le_refl _⟩ (Nat.le_of_ble_eq_true rfl) dX3_readLines_60 (fun _ H locs hP hD hS => ?_)
            refine lv_istore_n hx hb dX3_readLines_63 rfl hl (by decide) (lv' := [(2, .int (r23.1)), (0, .ref (a0 0)), (3, .int x3_14)]) rfl (fun ls hl => ?_)
            refine lv_iinc hx hb dX3_readLines_64 hl (k := 2) (x := x3_14) rfl (kinc_1 _) (by decide) (lv' := [(3, .int (x3_14 + (1 : Int32))), (2, .int (r23.1)), (0, .ref (a0 0))]) rfl (fun ls hl => ?_)
            refine lv_goto hx hb dX3_readLines_67 (tgt := 30) rfl ?_
            exact ihn17 (r23.1) (x3_14 + (1 : Int32)) (r23.2) ls H locs hf (lv_sub hl [2, 1, 0] rfl) hP hD hS
  exact lpn17 10000 (r3.1) (0 : Int32) (r3.2) ls H locs hf (lv_sub hl [2, 1, 0] rfl) hP hD hS
