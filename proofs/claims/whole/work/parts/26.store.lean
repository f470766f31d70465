abbrev StT : Type := (Nat → Int32) × (Nat → Int32) × (Nat → Int32) × (Nat → Int32) × Int32
abbrev St_sides (s : StT) : (Nat → Int32) := s.1
abbrev St_keys (s : StT) : (Nat → Int32) := s.2.1
abbrev St_values (s : StT) : (Nat → Int32) := s.2.2.1
abbrev St_manies (s : StT) : (Nat → Int32) := s.2.2.2.1
abbrev St_count (s : StT) : Int32 := s.2.2.2.2
abbrev St_mk (x0 : (Nat → Int32)) (x1 : (Nat → Int32)) (x2 : (Nat → Int32)) (x3 : (Nat → Int32)) (x4 : Int32) : StT := (x0, x1, x2, x3, x4)
abbrev St_w_sides (s : StT) (v : (Nat → Int32)) : StT := (v, s.2.1, s.2.2.1, s.2.2.2.1, s.2.2.2.2)
abbrev St_w_keys (s : StT) (v : (Nat → Int32)) : StT := (s.1, v, s.2.2.1, s.2.2.2.1, s.2.2.2.2)
abbrev St_w_values (s : StT) (v : (Nat → Int32)) : StT := (s.1, s.2.1, v, s.2.2.2.1, s.2.2.2.2)
abbrev St_w_manies (s : StT) (v : (Nat → Int32)) : StT := (s.1, s.2.1, s.2.2.1, v, s.2.2.2.2)
abbrev St_w_count (s : StT) (v : Int32) : StT := (s.1, s.2.1, s.2.2.1, s.2.2.2.1, v)
abbrev St_c (g : GK) (a : Nat → Nat) (s : StT) : va_W := [(a 0, .inr (5, [.ref (a 1), .ref (a 2), .ref (a 3), .ref (a 4), .int (St_count s)])), (a 1, .inl (g.2.1, 60, .inl (St_sides s))), (a 2, .inl (g.2.1, 60, .inl (St_keys s))), (a 3, .inl (g.2.1, 60, .inl (St_values s))), (a 4, .inl (g.2.1, 60, .inl (St_manies s)))]
abbrev SbT : Type := (Nat → Int32) × (Nat → Int32) × (Nat → Int32)
abbrev Sb_seen (s : SbT) : (Nat → Int32) := s.1
abbrev Sb_holds (s : SbT) : (Nat → Int32) := s.2.1
abbrev Sb_differences (s : SbT) : (Nat → Int32) := s.2.2
abbrev Sb_mk (x0 : (Nat → Int32)) (x1 : (Nat → Int32)) (x2 : (Nat → Int32)) : SbT := (x0, x1, x2)
abbrev Sb_w_seen (s : SbT) (v : (Nat → Int32)) : SbT := (v, s.2.1, s.2.2)
abbrev Sb_w_holds (s : SbT) (v : (Nat → Int32)) : SbT := (s.1, v, s.2.2)
abbrev Sb_w_differences (s : SbT) (v : (Nat → Int32)) : SbT := (s.1, s.2.1, v)
abbrev Sb_c (g : GK) (a : Nat → Nat) (s : SbT) : va_W := [(a 0, .inr (6, [.ref (a 1), .ref (a 2), .ref (a 3)])), (a 1, .inl (g.2.1, 4, .inl (Sb_seen s))), (a 2, .inl (g.2.1, 2592, .inl (Sb_holds s))), (a 3, .inl (g.2.1, 2592, .inl (Sb_differences s)))]
theorem km_X4_26 : Cond.methodLink RX4 26 arraycopyName ∈ TBL := tb (in5 (List.mem_of_getElem? (i := 158) (by decide +kernel))) (by decide +kernel)
theorem km_X5_62 : Cond.methodLink RX5 62 arraycopyName ∈ TBL := tb (in5 (List.mem_of_getElem? (i := 163) (by decide +kernel))) (by decide +kernel)
theorem kcs_2592 : (Int16.ofInt (2592)).toInt32 = (2592 : Int32) := by decide
theorem dX4_add_0 : decode cX4_add 0 = .ok (.aload_n 0, 1) := by decide +kernel
theorem dX4_add_1 : decode cX4_add 1 = .ok (.getfield 22, 3) := by decide +kernel
theorem dX4_add_4 : decode cX4_add 4 = .ok (.bipush 60, 2) := by decide +kernel
theorem dX4_add_6 : decode cX4_add 6 = .ok (.if_icmp .lt 4, 3) := by decide +kernel
theorem dX4_add_9 : decode cX4_add 9 = .ok (.return_, 1) := by decide +kernel
theorem dX4_add_10 : decode cX4_add 10 = .ok (.aload_n 0, 1) := by decide +kernel
theorem dX4_add_11 : decode cX4_add 11 = .ok (.getfield 9, 3) := by decide +kernel
theorem dX4_add_14 : decode cX4_add 14 = .ok (.aload_n 0, 1) := by decide +kernel
theorem dX4_add_15 : decode cX4_add 15 = .ok (.getfield 22, 3) := by decide +kernel
theorem dX4_add_18 : decode cX4_add 18 = .ok (.iload_n 1, 1) := by decide +kernel
theorem dX4_add_19 : decode cX4_add 19 = .ok (.iastore, 1) := by decide +kernel
theorem dX4_add_20 : decode cX4_add 20 = .ok (.aload_n 0, 1) := by decide +kernel
theorem dX4_add_21 : decode cX4_add 21 = .ok (.getfield 13, 3) := by decide +kernel
theorem dX4_add_24 : decode cX4_add 24 = .ok (.aload_n 0, 1) := by decide +kernel
theorem dX4_add_25 : decode cX4_add 25 = .ok (.getfield 22, 3) := by decide +kernel
theorem dX4_add_28 : decode cX4_add 28 = .ok (.iload_n 2, 1) := by decide +kernel
theorem dX4_add_29 : decode cX4_add 29 = .ok (.iastore, 1) := by decide +kernel
theorem dX4_add_30 : decode cX4_add 30 = .ok (.aload_n 0, 1) := by decide +kernel
theorem dX4_add_31 : decode cX4_add 31 = .ok (.getfield 16, 3) := by decide +kernel
theorem dX4_add_34 : decode cX4_add 34 = .ok (.aload_n 0, 1) := by decide +kernel
theorem dX4_add_35 : decode cX4_add 35 = .ok (.getfield 22, 3) := by decide +kernel
theorem dX4_add_38 : decode cX4_add 38 = .ok (.iload_n 3, 1) := by decide +kernel
theorem dX4_add_39 : decode cX4_add 39 = .ok (.iastore, 1) := by decide +kernel
theorem dX4_add_40 : decode cX4_add 40 = .ok (.aload_n 0, 1) := by decide +kernel
theorem dX4_add_41 : decode cX4_add 41 = .ok (.getfield 19, 3) := by decide +kernel
theorem dX4_add_44 : decode cX4_add 44 = .ok (.aload_n 0, 1) := by decide +kernel
theorem dX4_add_45 : decode cX4_add 45 = .ok (.getfield 22, 3) := by decide +kernel
theorem dX4_add_48 : decode cX4_add 48 = .ok (.iload 4, 2) := by decide +kernel
theorem dX4_add_50 : decode cX4_add 50 = .ok (.iastore, 1) := by decide +kernel
theorem dX4_add_51 : decode cX4_add 51 = .ok (.aload_n 0, 1) := by decide +kernel
theorem dX4_add_52 : decode cX4_add 52 = .ok (.dup, 1) := by decide +kernel
theorem dX4_add_53 : decode cX4_add 53 = .ok (.getfield 22, 3) := by decide +kernel
theorem dX4_add_56 : decode cX4_add 56 = .ok (.iconst 1, 1) := by decide +kernel
theorem dX4_add_57 : decode cX4_add 57 = .ok (.iadd, 1) := by decide +kernel
theorem dX4_add_58 : decode cX4_add 58 = .ok (.putfield 22, 3) := by decide +kernel
theorem dX4_add_61 : decode cX4_add 61 = .ok (.return_, 1) := by decide +kernel
def f_X4_add (s0 : StT) (p1 : Int32) (p2 : Int32) (p3 : Int32) (p4 : Int32) : Option (StT) :=
  if (St_count s0) < (60 : Int32) then if inb (St_count s0) 60 then if inb (St_count s0) 60 then if inb (St_count s0) 60 then if inb (St_count s0) 60 then some ((St_w_count (St_w_manies (St_w_values (St_w_keys (St_w_sides s0 (upd (St_sides s0) (ix (St_count s0)) p1)) (upd (St_keys s0) (ix (St_count s0)) p2)) (upd (St_values s0) (ix (St_count s0)) p3)) (upd (St_manies s0) (ix (St_count s0)) p4)) ((St_count s0) + (1 : Int32)))) else none else none else none else none
  else some (s0)
abbrev rm_X4_add : Room := { frames := 0, cells := 0, slots := 0, locals := 0 }
set_option maxHeartbeats 4000000 in
set_option maxRecDepth 100000 in
theorem c_X4_add (l : Launch) (g : GK) (a0 : Nat → Nat) (s0 : StT) (p1 : Int32) (p2 : Int32) (p3 : Int32) (p4 : Int32) (res : (StT)) (hf : f_X4_add s0 p1 p2 p3 p4 = some res) : gM l yX4_add cX4_add 5 none rm_X4_add g [.ref (a0 0), .int p1, .int p2, .int p3, .int p4] (St_c g a0 s0) (fun _ : Unit => none) (fun _ => (St_c g a0 res)) 0 0 := by
  refine gM_introV RX4 (by decide) rfl (Nat.le_of_ble_eq_true rfl) (fun p e s m args below meth c Q H locs ls A hE hnm hZ hA hP hD hS hq hl => ?_)
  have hl : lv_has ls 5 [(0, .ref (a0 0)), (1, .int p1), (2, .int p2), (3, .int p3), (4, .int p4)] := hl
  have hx := hE.1
  have hb := hE.2.1
  rw [f_X4_add] at hf
  refine lv_aload_n hx hb dX4_add_0 rfl (lv_at hl 0 rfl) ?_
  refine g_get hE okX4 fl_X4_22 hP 0 rfl (v := .int (St_count s0)) rfl dX4_add_1 ?_
  refine lv_bipush hx hb dX4_add_4 kcb_60 ?_
  refine lv_icmp_lt hx hb dX4_add_6 (tgt := 10) rfl (fun h1 => ?_) (fun h1 => ?_)
  · have hf := gif_t h1 hf
    refine lv_aload_n hx hb dX4_add_10 rfl (lv_at hl 0 rfl) ?_
    refine g_get hE okX4 fl_X4_9 hP 0 rfl (v := .ref (a0 1)) rfl dX4_add_11 ?_
    refine lv_aload_n hx hb dX4_add_14 rfl (lv_at hl 0 rfl) ?_
    refine g_get hE okX4 fl_X4_22 hP 0 rfl (v := .int (St_count s0)) rfl dX4_add_15 ?_
    refine lv_iload_n hx hb dX4_add_18 rfl (lv_at hl 1 rfl) ?_
    obtain ⟨hg2, hf⟩ := ggd hf
    refine g_iast hE hP hD hS 1 (f := (St_sides s0)) rfl hg2 (St_c g a0 (St_w_sides s0 (upd (St_sides s0) (ix (St_count s0)) p1))) rfl dX4_add_19 (fun H locs hP hD hS => ?_)
    refine lv_aload_n hx hb dX4_add_20 rfl (lv_at hl 0 rfl) ?_
    refine g_get hE okX4 fl_X4_13 hP 0 rfl (v := .ref (a0 2)) rfl dX4_add_21 ?_
    refine lv_aload_n hx hb dX4_add_24 rfl (lv_at hl 0 rfl) ?_
    refine g_get hE okX4 fl_X4_22 hP 0 rfl (v := .int (St_count s0)) rfl dX4_add_25 ?_
    refine lv_iload_n hx hb dX4_add_28 rfl (lv_at hl 2 rfl) ?_
    obtain ⟨hg3, hf⟩ := ggd hf
    refine g_iast hE hP hD hS 2 (f := (St_keys s0)) rfl hg3 (St_c g a0 (St_w_keys (St_w_sides s0 (upd (St_sides s0) (ix (St_count s0)) p1)) (upd (St_keys s0) (ix (St_count s0)) p2))) rfl dX4_add_29 (fun H locs hP hD hS => ?_)
    refine lv_aload_n hx hb dX4_add_30 rfl (lv_at hl 0 rfl) ?_
    refine g_get hE okX4 fl_X4_16 hP 0 rfl (v := .ref (a0 3)) rfl dX4_add_31 ?_
    refine lv_aload_n hx hb dX4_add_34 rfl (lv_at hl 0 rfl) ?_
    refine g_get hE okX4 fl_X4_22 hP 0 rfl (v := .int (St_count s0)) rfl dX4_add_35 ?_
    refine lv_iload_n hx hb dX4_add_38 rfl (lv_at hl 3 rfl) ?_
    obtain ⟨hg4, hf⟩ := ggd hf
    refine g_iast hE hP hD hS 3 (f := (St_values s0)) rfl hg4 (St_c g a0 (St_w_values (St_w_keys (St_w_sides s0 (upd (St_sides s0) (ix (St_count s0)) p1)) (upd (St_keys s0) (ix (St_count s0)) p2)) (upd (St_values s0) (ix (St_count s0)) p3))) rfl dX4_add_39 (fun H locs hP hD hS => ?_)
    refine lv_aload_n hx hb dX4_add_40 rfl (lv_at hl 0 rfl) ?_
    refine g_get hE okX4 fl_X4_19 hP 0 rfl (v := .ref (a0 4)) rfl dX4_add_41 ?_
    refine lv_aload_n hx hb dX4_add_44 rfl (lv_at hl 0 rfl) ?_
    refine g_get hE okX4 fl_X4_22 hP 0 rfl (v := .int (St_count s0)) rfl dX4_add_45 ?_
    refine lv_iload hx hb dX4_add_48 (lv_at hl 4 rfl) ?_
    obtain ⟨hg5, hf⟩ := ggd hf
    refine g_iast hE hP hD hS 4 (f := (St_manies s0)) rfl hg5 (St_c g a0 (St_w_manies (St_w_values (St_w_keys (St_w_sides s0 (upd (St_sides s0) (ix (St_count s0)) p1)) (upd (St_keys s0) (ix (St_count s0)) p2)) (upd (St_values s0) (ix (St_count s0)) p3)) (upd (St_manies s0) (ix (St_count s0)) p4))) rfl dX4_add_50 (fun H locs hP hD hS => ?_)
    refine lv_aload_n hx hb dX4_add_51 rfl (lv_at hl 0 rfl) ?_
    refine lv_dup hx hb dX4_add_52 rfl ?_
    refine g_get hE okX4 fl_X4_22 hP 0 rfl (v := .int (St_count s0)) rfl dX4_add_53 ?_
    refine lv_iconst hx hb dX4_add_56 kci_1 ?_
    refine lv_iadd hx hb dX4_add_57 ?_
    refine g_put hE okX4 fl_X4_22 hP hD hS 0 rfl rfl rfl rfl (Nat.le_of_ble_eq_true rfl) (St_c g a0 (St_w_count (St_w_manies (St_w_values (St_w_keys (St_w_sides s0 (upd (St_sides s0) (ix (St_count s0)) p1)) (upd (St_keys s0) (ix (St_count s0)) p2)) (upd (St_values s0) (ix (St_count s0)) p3)) (upd (St_manies s0) (ix (St_count s0)) p4)) ((St_count s0) + (1 : Int32)))) rfl dX4_add_58 (fun H locs hP hD hS => ?_)
    cases hf
    exact hq () rfl hP hD hS dX4_add_61
  · have hf := gif_f h1 hf
    cases hf
    exact hq () rfl hP hD hS dX4_add_9
theorem dX4_copyFrom_0 : decode cX4_copyFrom 0 = .ok (.aload_n 1, 1) := by decide +kernel
theorem dX4_copyFrom_1 : decode cX4_copyFrom 1 = .ok (.getfield 9, 3) := by decide +kernel
theorem dX4_copyFrom_4 : decode cX4_copyFrom 4 = .ok (.iconst 0, 1) := by decide +kernel
theorem dX4_copyFrom_5 : decode cX4_copyFrom 5 = .ok (.aload_n 0, 1) := by decide +kernel
theorem dX4_copyFrom_6 : decode cX4_copyFrom 6 = .ok (.getfield 9, 3) := by decide +kernel
theorem dX4_copyFrom_9 : decode cX4_copyFrom 9 = .ok (.iconst 0, 1) := by decide +kernel
theorem dX4_copyFrom_10 : decode cX4_copyFrom 10 = .ok (.bipush 60, 2) := by decide +kernel
theorem dX4_copyFrom_12 : decode cX4_copyFrom 12 = .ok (.invokestatic 26, 3) := by decide +kernel
theorem dX4_copyFrom_15 : decode cX4_copyFrom 15 = .ok (.aload_n 1, 1) := by decide +kernel
theorem dX4_copyFrom_16 : decode cX4_copyFrom 16 = .ok (.getfield 13, 3) := by decide +kernel
theorem dX4_copyFrom_19 : decode cX4_copyFrom 19 = .ok (.iconst 0, 1) := by decide +kernel
theorem dX4_copyFrom_20 : decode cX4_copyFrom 20 = .ok (.aload_n 0, 1) := by decide +kernel
theorem dX4_copyFrom_21 : decode cX4_copyFrom 21 = .ok (.getfield 13, 3) := by decide +kernel
theorem dX4_copyFrom_24 : decode cX4_copyFrom 24 = .ok (.iconst 0, 1) := by decide +kernel
theorem dX4_copyFrom_25 : decode cX4_copyFrom 25 = .ok (.bipush 60, 2) := by decide +kernel
theorem dX4_copyFrom_27 : decode cX4_copyFrom 27 = .ok (.invokestatic 26, 3) := by decide +kernel
theorem dX4_copyFrom_30 : decode cX4_copyFrom 30 = .ok (.aload_n 1, 1) := by decide +kernel
theorem dX4_copyFrom_31 : decode cX4_copyFrom 31 = .ok (.getfield 16, 3) := by decide +kernel
theorem dX4_copyFrom_34 : decode cX4_copyFrom 34 = .ok (.iconst 0, 1) := by decide +kernel
theorem dX4_copyFrom_35 : decode cX4_copyFrom 35 = .ok (.aload_n 0, 1) := by decide +kernel
theorem dX4_copyFrom_36 : decode cX4_copyFrom 36 = .ok (.getfield 16, 3) := by decide +kernel
theorem dX4_copyFrom_39 : decode cX4_copyFrom 39 = .ok (.iconst 0, 1) := by decide +kernel
theorem dX4_copyFrom_40 : decode cX4_copyFrom 40 = .ok (.bipush 60, 2) := by decide +kernel
theorem dX4_copyFrom_42 : decode cX4_copyFrom 42 = .ok (.invokestatic 26, 3) := by decide +kernel
theorem dX4_copyFrom_45 : decode cX4_copyFrom 45 = .ok (.aload_n 1, 1) := by decide +kernel
theorem dX4_copyFrom_46 : decode cX4_copyFrom 46 = .ok (.getfield 19, 3) := by decide +kernel
theorem dX4_copyFrom_49 : decode cX4_copyFrom 49 = .ok (.iconst 0, 1) := by decide +kernel
theorem dX4_copyFrom_50 : decode cX4_copyFrom 50 = .ok (.aload_n 0, 1) := by decide +kernel
theorem dX4_copyFrom_51 : decode cX4_copyFrom 51 = .ok (.getfield 19, 3) := by decide +kernel
theorem dX4_copyFrom_54 : decode cX4_copyFrom 54 = .ok (.iconst 0, 1) := by decide +kernel
theorem dX4_copyFrom_55 : decode cX4_copyFrom 55 = .ok (.bipush 60, 2) := by decide +kernel
theorem dX4_copyFrom_57 : decode cX4_copyFrom 57 = .ok (.invokestatic 26, 3) := by decide +kernel
theorem dX4_copyFrom_60 : decode cX4_copyFrom 60 = .ok (.aload_n 0, 1) := by decide +kernel
theorem dX4_copyFrom_61 : decode cX4_copyFrom 61 = .ok (.aload_n 1, 1) := by decide +kernel
theorem dX4_copyFrom_62 : decode cX4_copyFrom 62 = .ok (.getfield 22, 3) := by decide +kernel
theorem dX4_copyFrom_65 : decode cX4_copyFrom 65 = .ok (.putfield 22, 3) := by decide +kernel
theorem dX4_copyFrom_68 : decode cX4_copyFrom 68 = .ok (.return_, 1) := by decide +kernel
def f_X4_copyFrom (s0 : StT) (s1 : StT) : Option (StT) :=
  if cpok (0 : Int32) (0 : Int32) (60 : Int32) 60 60 then if cpok (0 : Int32) (0 : Int32) (60 : Int32) 60 60 then if cpok (0 : Int32) (0 : Int32) (60 : Int32) 60 60 then if cpok (0 : Int32) (0 : Int32) (60 : Int32) 60 60 then some ((St_w_count (St_w_manies (St_w_values (St_w_keys (St_w_sides s0 (va_cpy (St_sides s1) (St_sides s0) (ix (0 : Int32)) (ix (0 : Int32)) (ix (60 : Int32)))) (va_cpy (St_keys s1) (St_keys s0) (ix (0 : Int32)) (ix (0 : Int32)) (ix (60 : Int32)))) (va_cpy (St_values s1) (St_values s0) (ix (0 : Int32)) (ix (0 : Int32)) (ix (60 : Int32)))) (va_cpy (St_manies s1) (St_manies s0) (ix (0 : Int32)) (ix (0 : Int32)) (ix (60 : Int32)))) (St_count s1))) else none else none else none else none
abbrev rm_X4_copyFrom : Room := { frames := 1, cells := 0, slots := 0, locals := 40 }
set_option maxHeartbeats 4000000 in
set_option maxRecDepth 100000 in
theorem c_X4_copyFrom (l : Launch) (g : GK) (a0 : Nat → Nat) (s0 : StT) (a1 : Nat → Nat) (s1 : StT) (res : (StT)) (hf : f_X4_copyFrom s0 s1 = some res) : gM l yX4_copyFrom cX4_copyFrom 2 none rm_X4_copyFrom g [.ref (a0 0), .ref (a1 0)] (St_c g a0 s0 ++ St_c g a1 s1) (fun _ : Unit => none) (fun _ => (St_c g a0 res ++ St_c g a1 s1)) 0 0 := by
  refine gM_introV RX4 (by decide) rfl (Nat.le_of_ble_eq_true rfl) (fun p e s m args below meth c Q H locs ls A hE hnm hZ hA hP hD hS hq hl => ?_)
  have hl : lv_has ls 2 [(0, .ref (a0 0)), (1, .ref (a1 0))] := hl
  have hx := hE.1
  have hb := hE.2.1
  rw [f_X4_copyFrom] at hf
  refine lv_aload_n hx hb dX4_copyFrom_0 rfl (lv_at hl 1 rfl) ?_
  refine g_get hE okX4 fl_X4_9 hP 5 rfl (v := .ref (a1 1)) rfl dX4_copyFrom_1 ?_
  refine lv_iconst hx hb dX4_copyFrom_4 kci_0 ?_
  refine lv_aload_n hx hb dX4_copyFrom_5 rfl (lv_at hl 0 rfl) ?_
  refine g_get hE okX4 fl_X4_9 hP 0 rfl (v := .ref (a0 1)) rfl dX4_copyFrom_6 ?_
  refine lv_iconst hx hb dX4_copyFrom_9 kci_0 ?_
  refine lv_bipush hx hb dX4_copyFrom_10 kcb_60 ?_
  obtain ⟨hg1, hf⟩ := ggd hf
  refine g_copyi hE hl.1 km_X4_26 hP hD hS 6 1 (f := (St_sides s1)) (f2 := (St_sides s0)) rfl rfl hg1 (Nat.le_of_ble_eq_true rfl) (rest := []) (Nat.le_of_ble_eq_true rfl) (St_c g a0 (St_w_sides s0 (va_cpy (St_sides s1) (St_sides s0) (ix (0 : Int32)) (ix (0 : Int32)) (ix (60 : Int32)))) ++ St_c g a1 s1) rfl dX4_copyFrom_12 (fun H locs hP hD hS => ?_)
  refine lv_aload_n hx hb dX4_copyFrom_15 rfl (lv_at hl 1 rfl) ?_
  refine g_get hE okX4 fl_X4_13 hP 5 rfl (v := .ref (a1 2)) rfl dX4_copyFrom_16 ?_
  refine lv_iconst hx hb dX4_copyFrom_19 kci_0 ?_
  refine lv_aload_n hx hb dX4_copyFrom_20 rfl (lv_at hl 0 rfl) ?_
  refine g_get hE okX4 fl_X4_13 hP 0 rfl (v := .ref (a0 2)) rfl dX4_copyFrom_21 ?_
  refine lv_iconst hx hb dX4_copyFrom_24 kci_0 ?_
  refine lv_bipush hx hb dX4_copyFrom_25 kcb_60 ?_
  obtain ⟨hg2, hf⟩ := ggd hf
  refine g_copyi hE hl.1 km_X4_26 hP hD hS 7 2 (f := (St_keys s1)) (f2 := (St_keys s0)) rfl rfl hg2 (Nat.le_of_ble_eq_true rfl) (rest := []) (Nat.le_of_ble_eq_true rfl) (St_c g a0 (St_w_keys (St_w_sides s0 (va_cpy (St_sides s1) (St_sides s0) (ix (0 : Int32)) (ix (0 : Int32)) (ix (60 : Int32)))) (va_cpy (St_keys s1) (St_keys s0) (ix (0 : Int32)) (ix (0 : Int32)) (ix (60 : Int32)))) ++ St_c g a1 s1) rfl dX4_copyFrom_27 (fun H locs hP hD hS => ?_)
  refine lv_aload_n hx hb dX4_copyFrom_30 rfl (lv_at hl 1 rfl) ?_
  refine g_get hE okX4 fl_X4_16 hP 5 rfl (v := .ref (a1 3)) rfl dX4_copyFrom_31 ?_
  refine lv_iconst hx hb dX4_copyFrom_34 kci_0 ?_
  refine lv_aload_n hx hb dX4_copyFrom_35 rfl (lv_at hl 0 rfl) ?_
  refine g_get hE okX4 fl_X4_16 hP 0 rfl (v := .ref (a0 3)) rfl dX4_copyFrom_36 ?_
  refine lv_iconst hx hb dX4_copyFrom_39 kci_0 ?_
  refine lv_bipush hx hb dX4_copyFrom_40 kcb_60 ?_
  obtain ⟨hg3, hf⟩ := ggd hf
  refine g_copyi hE hl.1 km_X4_26 hP hD hS 8 3 (f := (St_values s1)) (f2 := (St_values s0)) rfl rfl hg3 (Nat.le_of_ble_eq_true rfl) (rest := []) (Nat.le_of_ble_eq_true rfl) (St_c g a0 (St_w_values (St_w_keys (St_w_sides s0 (va_cpy (St_sides s1) (St_sides s0) (ix (0 : Int32)) (ix (0 : Int32)) (ix (60 : Int32)))) (va_cpy (St_keys s1) (St_keys s0) (ix (0 : Int32)) (ix (0 : Int32)) (ix (60 : Int32)))) (va_cpy (St_values s1) (St_values s0) (ix (0 : Int32)) (ix (0 : Int32)) (ix (60 : Int32)))) ++ St_c g a1 s1) rfl dX4_copyFrom_42 (fun H locs hP hD hS => ?_)
  refine lv_aload_n hx hb dX4_copyFrom_45 rfl (lv_at hl 1 rfl) ?_
  refine g_get hE okX4 fl_X4_19 hP 5 rfl (v := .ref (a1 4)) rfl dX4_copyFrom_46 ?_
  refine lv_iconst hx hb dX4_copyFrom_49 kci_0 ?_
  refine lv_aload_n hx hb dX4_copyFrom_50 rfl (lv_at hl 0 rfl) ?_
  refine g_get hE okX4 fl_X4_19 hP 0 rfl (v := .ref (a0 4)) rfl dX4_copyFrom_51 ?_
  refine lv_iconst hx hb dX4_copyFrom_54 kci_0 ?_
  refine lv_bipush hx hb dX4_copyFrom_55 kcb_60 ?_
  obtain ⟨hg4, hf⟩ := ggd hf
  refine g_copyi hE hl.1 km_X4_26 hP hD hS 9 4 (f := (St_manies s1)) (f2 := (St_manies s0)) rfl rfl hg4 (Nat.le_of_ble_eq_true rfl) (rest := []) (Nat.le_of_ble_eq_true rfl) (St_c g a0 (St_w_manies (St_w_values (St_w_keys (St_w_sides s0 (va_cpy (St_sides s1) (St_sides s0) (ix (0 : Int32)) (ix (0 : Int32)) (ix (60 : Int32)))) (va_cpy (St_keys s1) (St_keys s0) (ix (0 : Int32)) (ix (0 : Int32)) (ix (60 : Int32)))) (va_cpy (St_values s1) (St_values s0) (ix (0 : Int32)) (ix (0 : Int32)) (ix (60 : Int32)))) (va_cpy (St_manies s1) (St_manies s0) (ix (0 : Int32)) (ix (0 : Int32)) (ix (60 : Int32)))) ++ St_c g a1 s1) rfl dX4_copyFrom_57 (fun H locs hP hD hS => ?_)
  refine lv_aload_n hx hb dX4_copyFrom_60 rfl (lv_at hl 0 rfl) ?_
  refine lv_aload_n hx hb dX4_copyFrom_61 rfl (lv_at hl 1 rfl) ?_
  refine g_get hE okX4 fl_X4_22 hP 5 rfl (v := .int (St_count s1)) rfl dX4_copyFrom_62 ?_
  refine g_put hE okX4 fl_X4_22 hP hD hS 0 rfl rfl rfl rfl (Nat.le_of_ble_eq_true rfl) (St_c g a0 (St_w_count (St_w_manies (St_w_values (St_w_keys (St_w_sides s0 (va_cpy (St_sides s1) (St_sides s0) (ix (0 : Int32)) (ix (0 : Int32)) (ix (60 : Int32)))) (va_cpy (St_keys s1) (St_keys s0) (ix (0 : Int32)) (ix (0 : Int32)) (ix (60 : Int32)))) (va_cpy (St_values s1) (St_values s0) (ix (0 : Int32)) (ix (0 : Int32)) (ix (60 : Int32)))) (va_cpy (St_manies s1) (St_manies s0) (ix (0 : Int32)) (ix (0 : Int32)) (ix (60 : Int32)))) (St_count s1)) ++ St_c g a1 s1) rfl dX4_copyFrom_65 (fun H locs hP hD hS => ?_)
  cases hf
  exact hq () rfl hP hD hS dX4_copyFrom_68
theorem dX5_hasBegun_0 : decode cX5_hasBegun 0 = .ok (.iload_n 1, 1) := by decide +kernel
theorem dX5_hasBegun_1 : decode cX5_hasBegun 1 = .ok (.ifCond .lt 22, 3) := by decide +kernel
theorem dX5_hasBegun_4 : decode cX5_hasBegun 4 = .ok (.iload_n 1, 1) := by decide +kernel
theorem dX5_hasBegun_5 : decode cX5_hasBegun 5 = .ok (.iconst 4, 1) := by decide +kernel
theorem dX5_hasBegun_6 : decode cX5_hasBegun 6 = .ok (.if_icmp .ge 17, 3) := by decide +kernel
theorem dX5_hasBegun_9 : decode cX5_hasBegun 9 = .ok (.aload_n 0, 1) := by decide +kernel
theorem dX5_hasBegun_10 : decode cX5_hasBegun 10 = .ok (.getfield 11, 3) := by decide +kernel
theorem dX5_hasBegun_13 : decode cX5_hasBegun 13 = .ok (.iload_n 1, 1) := by decide +kernel
theorem dX5_hasBegun_14 : decode cX5_hasBegun 14 = .ok (.iaload, 1) := by decide +kernel
theorem dX5_hasBegun_15 : decode cX5_hasBegun 15 = .ok (.iconst (-1), 1) := by decide +kernel
theorem dX5_hasBegun_16 : decode cX5_hasBegun 16 = .ok (.if_icmp .eq 7, 3) := by decide +kernel
theorem dX5_hasBegun_19 : decode cX5_hasBegun 19 = .ok (.iconst 1, 1) := by decide +kernel
theorem dX5_hasBegun_20 : decode cX5_hasBegun 20 = .ok (.goto 4, 3) := by decide +kernel
theorem dX5_hasBegun_23 : decode cX5_hasBegun 23 = .ok (.iconst 0, 1) := by decide +kernel
theorem dX5_hasBegun_24 : decode cX5_hasBegun 24 = .ok (.ireturn, 1) := by decide +kernel
def f_X5_hasBegun (s0 : SbT) (p1 : Int32) : Option (Int32) :=
  if p1 < 0 then some ((0 : Int32))
  else if (4 : Int32) ≤ p1 then some ((0 : Int32))
  else if inb p1 4 then if ((Sb_seen s0) (ix p1)) = (-1 : Int32) then some ((0 : Int32))
  else some ((1 : Int32)) else none
abbrev rm_X5_hasBegun : Room := { frames := 0, cells := 0, slots := 0, locals := 0 }
set_option maxHeartbeats 4000000 in
set_option maxRecDepth 100000 in
theorem c_X5_hasBegun (l : Launch) (g : GK) (a0 : Nat → Nat) (s0 : SbT) (p1 : Int32) (res : (Int32)) (hf : f_X5_hasBegun s0 p1 = some res) : gR l yX5_hasBegun cX5_hasBegun 2 (some .boolean) rm_X5_hasBegun g [.ref (a0 0), .int p1] (Sb_c g a0 s0) (some (.int res)) := by
  refine gR_introZ RX5 (by decide) rfl (Nat.le_of_ble_eq_true rfl) (fun p e s m args below meth c Q H locs ls hE hP hZ hS hq hl => ?_)
  have hl : lv_has ls 2 [(0, .ref (a0 0)), (1, .int p1)] := hl
  have hx := hE.1
  have hb := hE.2.1
  rw [f_X5_hasBegun] at hf
  refine lv_iload_n hx hb dX5_hasBegun_0 rfl (lv_at hl 1 rfl) ?_
  refine lv_if_lt hx hb dX5_hasBegun_1 (tgt := 23) rfl (fun h1 => ?_) (fun h1 => ?_)
  · have hf := gif_t h1 hf
    refine lv_iconst hx hb dX5_hasBegun_23 kci_0 ?_
    cases hf
    exact hq (by decide) rfl dX5_hasBegun_24
  · have hf := gif_f h1 hf
    refine lv_iload_n hx hb dX5_hasBegun_4 rfl (lv_at hl 1 rfl) ?_
    refine lv_iconst hx hb dX5_hasBegun_5 kci_4 ?_
    refine lv_icmp_ge hx hb dX5_hasBegun_6 (tgt := 23) rfl (fun h2 => ?_) (fun h2 => ?_)
    · have hf := gif_t h2 hf
      refine lv_iconst hx hb dX5_hasBegun_23 kci_0 ?_
      cases hf
      exact hq (by decide) rfl dX5_hasBegun_24
    · have hf := gif_f h2 hf
      refine lv_aload_n hx hb dX5_hasBegun_9 rfl (lv_at hl 0 rfl) ?_
      refine g_get hE okX5 fl_X5_11 hP 0 rfl (v := .ref (a0 1)) rfl dX5_hasBegun_10 ?_
      refine lv_iload_n hx hb dX5_hasBegun_13 rfl (lv_at hl 1 rfl) ?_
      obtain ⟨hg3, hf⟩ := ggd hf
      refine g_iald hE hP 1 (f := (Sb_seen s0)) rfl hg3 dX5_hasBegun_14 ?_
      refine lv_iconst hx hb dX5_hasBegun_15 kci_m1 ?_
      refine lv_icmp_eq hx hb dX5_hasBegun_16 (tgt := 23) rfl (fun h4 => ?_) (fun h4 => ?_)
      · have hf := gif_t h4 hf
        refine lv_iconst hx hb dX5_hasBegun_23 kci_0 ?_
        cases hf
        exact hq (by decide) rfl dX5_hasBegun_24
      · have hf := gif_f h4 hf
        refine lv_iconst hx hb dX5_hasBegun_19 kci_1 ?_
        refine lv_goto hx hb dX5_hasBegun_20 (tgt := 24) rfl ?_
        cases hf
        exact hq (by decide) rfl dX5_hasBegun_24
theorem dX5_countBegun_0 : decode cX5_countBegun 0 = .ok (.iconst 0, 1) := by decide +kernel
theorem dX5_countBegun_1 : decode cX5_countBegun 1 = .ok (.istore_n 1, 1) := by decide +kernel
theorem dX5_countBegun_2 : decode cX5_countBegun 2 = .ok (.iconst 0, 1) := by decide +kernel
theorem dX5_countBegun_3 : decode cX5_countBegun 3 = .ok (.istore_n 2, 1) := by decide +kernel
theorem dX5_countBegun_4 : decode cX5_countBegun 4 = .ok (.iload_n 2, 1) := by decide +kernel
theorem dX5_countBegun_5 : decode cX5_countBegun 5 = .ok (.iconst 4, 1) := by decide +kernel
theorem dX5_countBegun_6 : decode cX5_countBegun 6 = .ok (.if_icmp .ge 20, 3) := by decide +kernel
theorem dX5_countBegun_9 : decode cX5_countBegun 9 = .ok (.aload_n 0, 1) := by decide +kernel
theorem dX5_countBegun_10 : decode cX5_countBegun 10 = .ok (.iload_n 2, 1) := by decide +kernel
theorem dX5_countBegun_11 : decode cX5_countBegun 11 = .ok (.invokevirtual 52, 3) := by decide +kernel
theorem dX5_countBegun_14 : decode cX5_countBegun 14 = .ok (.ifCond .eq 6, 3) := by decide +kernel
theorem dX5_countBegun_17 : decode cX5_countBegun 17 = .ok (.iinc 1 1, 3) := by decide +kernel
theorem dX5_countBegun_20 : decode cX5_countBegun 20 = .ok (.iinc 2 1, 3) := by decide +kernel
theorem dX5_countBegun_23 : decode cX5_countBegun 23 = .ok (.goto (-19), 3) := by decide +kernel
theorem dX5_countBegun_26 : decode cX5_countBegun 26 = .ok (.iload_n 1, 1) := by decide +kernel
theorem dX5_countBegun_27 : decode cX5_countBegun 27 = .ok (.ireturn, 1) := by decide +kernel
def f_X5_countBegun_L4_5 (s0 : SbT) (K1 : (Int32 → Option (Int32))) : Nat → Int32 → Int32 → Option (Int32)
  | 0, _, _ => none
  | n6 + 1, x1_3, x2_4 => if (4 : Int32) ≤ x2_4 then K1 x1_3
  else (f_X5_hasBegun s0 x2_4).bind fun r8 =>
  if r8 = 0 then f_X5_countBegun_L4_5 s0 K1 n6 x1_3 (x2_4 + (1 : Int32))
  else f_X5_countBegun_L4_5 s0 K1 n6 (x1_3 + (1 : Int32)) (x2_4 + (1 : Int32))
def f_X5_countBegun (s0 : SbT) : Option (Int32) :=
  glt (fun (x1_2 : Int32) => some (x1_2)) fun K1 =>
  f_X5_countBegun_L4_5 s0 K1 10000 (0 : Int32) (0 : Int32)
abbrev rm_X5_countBegun : Room := { frames := 1, cells := 0, slots := 0, locals := 21 }
set_option maxHeartbeats 4000000 in
set_option maxRecDepth 100000 in
theorem c_X5_countBegun (l : Launch) (g : GK) (a0 : Nat → Nat) (s0 : SbT) (res : (Int32)) (hf : f_X5_countBegun s0 = some res) : gR l yX5_countBegun cX5_countBegun 3 (some .int) rm_X5_countBegun g [.ref (a0 0)] (Sb_c g a0 s0) (some (.int res)) := by
  refine gR_introI RX5 (by decide) rfl (Nat.le_of_ble_eq_true rfl) (fun p e s m args below meth c Q H locs ls hE hP hZ hS hq hl => ?_)
  have hl : lv_has ls 3 [(0, .ref (a0 0))] := hl
  have hx := hE.1
  have hb := hE.2.1
  rw [f_X5_countBegun] at hf
  refine lv_iconst hx hb dX5_countBegun_0 kci_0 ?_
  refine lv_istore_n hx hb dX5_countBegun_1 rfl hl (by decide) (lv' := [(1, .int (0 : Int32)), (0, .ref (a0 0))]) rfl (fun ls hl => ?_)
  refine lv_iconst hx hb dX5_countBegun_2 kci_0 ?_
  refine lv_istore_n hx hb dX5_countBegun_3 rfl hl (by decide) (lv' := [(2, .int (0 : Int32)), (1, .int (0 : Int32)), (0, .ref (a0 0))]) rfl (fun ls hl => ?_)
  obtain ⟨K1, eK1, hf⟩ := gltd hf
  have kK1 : ∀ (x1_2 : Int32) (ls : Array Slot), K1 x1_2 = some res → lv_has ls 3 [(1, .int x1_2)] → W p l e rm_X5_countBegun s m args below meth c H locs 0 0 Q (F0 m 26 ls []) := by
    intro x1_2 ls hf hl
    rw [eK1] at hf
    refine lv_iload_n hx hb dX5_countBegun_26 rfl (lv_at hl 0 rfl) ?_
    cases hf
    exact hq rfl dX5_countBegun_27
  have lpn6 : ∀ (n6 : Nat) (x1_3 : Int32) (x2_4 : Int32) (ls : Array Slot), f_X5_countBegun_L4_5 s0 K1 n6 x1_3 x2_4 = some res → lv_has ls 3 [(0, .ref (a0 0)), (1, .int x1_3), (2, .int x2_4)] → W p l e rm_X5_countBegun s m args below meth c H locs 0 0 Q (F0 m 4 ls []) := by
    intro n6
    induction n6 with
    | zero => intro x1_3 x2_4 ls hf hl; rw [f_X5_countBegun_L4_5] at hf; cases hf
    | succ n6 ihn6 =>
      intro x1_3 x2_4 ls hf hl
      rw [f_X5_countBegun_L4_5] at hf
      refine lv_iload_n hx hb dX5_countBegun_4 rfl (lv_at hl 2 rfl) ?_
      refine lv_iconst hx hb dX5_countBegun_5 kci_4 ?_
      refine lv_icmp_ge hx hb dX5_countBegun_6 (tgt := 26) rfl (fun h7 => ?_) (fun h7 => ?_)
      · have hf := gif_t h7 hf
        exact kK1 x1_3 ls hf (lv_sub hl [1] rfl)
      · have hf := gif_f h7 hf
        refine lv_aload_n hx hb dX5_countBegun_9 rfl (lv_at hl 0 rfl) ?_
        refine lv_iload_n hx hb dX5_countBegun_10 rfl (lv_at hl 2 rfl) ?_
        obtain ⟨r8, hc9, hf⟩ := gbd hf
        refine gr_callV (As := [.int x2_4]) (rest := []) (st1 := [.int r8]) hE hl.1 ml_X5_52 (c_X5_hasBegun l g a0 s0 x2_4 r8 hc9) hZ hS hP [(0, 4)] rfl okX5 rfl rfl rfl rfl ⟨rfl, rfl⟩ ⟨Nat.le_of_ble_eq_true rfl, Nat.le_of_ble_eq_true rfl⟩ ⟨Nat.le_refl _, Nat.le_refl _⟩ (Nat.le_of_ble_eq_true rfl) dX5_countBegun_11 ?_
        refine lv_if_eq hx hb dX5_countBegun_14 (tgt := 20) rfl (fun h10 => ?_) (fun h10 => ?_)
        · have hf := gif_t h10 hf
          refine lv_iinc hx hb dX5_countBegun_20 hl (k := 2) (x := x2_4) rfl (kinc_1 _) (by decide) (lv' := [(2, .int (x2_4 + (1 : Int32))), (0, .ref (a0 0)), (1, .int x1_3)]) rfl (fun ls hl => ?_)
          refine lv_goto hx hb dX5_countBegun_23 (tgt := 4) rfl ?_
          exact ihn6 x1_3 (x2_4 + (1 : Int32)) ls hf (lv_sub hl [1, 2, 0] rfl)
        · have hf := gif_f h10 hf
          refine lv_iinc hx hb dX5_countBegun_17 hl (k := 1) (x := x1_3) rfl (kinc_1 _) (by decide) (lv' := [(1, .int (x1_3 + (1 : Int32))), (0, .ref (a0 0)), (2, .int x2_4)]) rfl (fun ls hl => ?_)
          refine lv_iinc hx hb dX5_countBegun_20 hl (k := 2) (x := x2_4) rfl (kinc_1 _) (by decide) (lv' := [(2, .int (x2_4 + (1 : Int32))), (1, .int (x1_3 + (1 : Int32))), (0, .ref (a0 0))]) rfl (fun ls hl => ?_)
          refine lv_goto hx hb dX5_countBegun_23 (tgt := 4) rfl ?_
          exact ihn6 (x1_3 + (1 : Int32)) (x2_4 + (1 : Int32)) ls hf (lv_sub hl [2, 1, 0] rfl)
  exact lpn6 10000 (0 : Int32) (0 : Int32) ls hf (lv_sub hl [2, 1, 0] rfl)
theorem dX5_clear_0 : decode cX5_clear 0 = .ok (.aload_n 0, 1) := by decide +kernel
theorem dX5_clear_1 : decode cX5_clear 1 = .ok (.getfield 11, 3) := by decide +kernel
theorem dX5_clear_4 : decode cX5_clear 4 = .ok (.iconst (-1), 1) := by decide +kernel
theorem dX5_clear_5 : decode cX5_clear 5 = .ok (.invokestatic 56, 3) := by decide +kernel
theorem dX5_clear_8 : decode cX5_clear 8 = .ok (.return_, 1) := by decide +kernel
def f_X5_clear (s0 : SbT) : Option (SbT) :=
  (f_J7_fill_53178 4 (Sb_seen s0) (-1 : Int32)).bind fun r1 =>
  some ((Sb_w_seen s0 r1))
abbrev rm_X5_clear : Room := { frames := 1, cells := 0, slots := 0, locals := 23 }
set_option maxHeartbeats 4000000 in
set_option maxRecDepth 100000 in
theorem c_X5_clear (l : Launch) (g : GK) (a0 : Nat → Nat) (s0 : SbT) (res : (SbT)) (hf : f_X5_clear s0 = some res) : gM l yX5_clear cX5_clear 1 none rm_X5_clear g [.ref (a0 0)] (Sb_c g a0 s0) (fun _ : Unit => none) (fun _ => (Sb_c g a0 res)) 0 0 := by
  refine gM_introV RX5 (by decide) rfl (Nat.le_of_ble_eq_true rfl) (fun p e s m args below meth c Q H locs ls A hE hnm hZ hA hP hD hS hq hl => ?_)
  have hl : lv_has ls 1 [(0, .ref (a0 0))] := hl
  have hx := hE.1
  have hb := hE.2.1
  rw [f_X5_clear] at hf
  refine lv_aload_n hx hb dX5_clear_0 rfl (lv_at hl 0 rfl) ?_
  refine g_get hE okX5 fl_X5_11 hP 0 rfl (v := .ref (a0 1)) rfl dX5_clear_1 ?_
  refine lv_iconst hx hb dX5_clear_4 kci_m1 ?_
  obtain ⟨r1, hc2, hf⟩ := gbd hf
  refine gm_callS1 (As := [.ref (a0 1), .int (-1 : Int32)]) (rest := []) (st1 := fun _ => []) (ws' := fun _ => (Sb_c g a0 (Sb_w_seen s0 r1))) hE hl.1 ml_X5_56 (c_J7_fill_53178 l g (a0 1) 4 (Sb_seen s0) (-1 : Int32) r1 hc2) hZ hP hD hS hA 1 2 rfl (fun _ => rfl)  rfl rfl (fun _ => rfl) ⟨rfl, rfl⟩ ⟨Nat.le_of_ble_eq_true rfl, Nat.le_of_ble_eq_true rfl⟩ ⟨Nat.le_refl _, Nat.le_refl _⟩ (Nat.le_of_ble_eq_true rfl) dX5_clear_5 (fun _ H locs hP hD hS => ?_)
  cases hf
  exact hq () rfl hP hD hS dX5_clear_8
theorem dX5_countOtherwise_0 : decode cX5_countOtherwise 0 = .ok (.iconst 0, 1) := by decide +kernel
theorem dX5_countOtherwise_1 : decode cX5_countOtherwise 1 = .ok (.istore_n 3, 1) := by decide +kernel
theorem dX5_countOtherwise_2 : decode cX5_countOtherwise 2 = .ok (.iconst 0, 1) := by decide +kernel
theorem dX5_countOtherwise_3 : decode cX5_countOtherwise 3 = .ok (.istore 4, 2) := by decide +kernel
theorem dX5_countOtherwise_5 : decode cX5_countOtherwise 5 = .ok (.iload 4, 2) := by decide +kernel
theorem dX5_countOtherwise_7 : decode cX5_countOtherwise 7 = .ok (.sipush 648, 3) := by decide +kernel
theorem dX5_countOtherwise_10 : decode cX5_countOtherwise 10 = .ok (.if_icmp .ge 35, 3) := by decide +kernel
theorem dX5_countOtherwise_13 : decode cX5_countOtherwise 13 = .ok (.aload_n 0, 1) := by decide +kernel
theorem dX5_countOtherwise_14 : decode cX5_countOtherwise 14 = .ok (.getfield 15, 3) := by decide +kernel
theorem dX5_countOtherwise_17 : decode cX5_countOtherwise 17 = .ok (.iload_n 1, 1) := by decide +kernel
theorem dX5_countOtherwise_18 : decode cX5_countOtherwise 18 = .ok (.sipush 648, 3) := by decide +kernel
theorem dX5_countOtherwise_21 : decode cX5_countOtherwise 21 = .ok (.imul, 1) := by decide +kernel
theorem dX5_countOtherwise_22 : decode cX5_countOtherwise 22 = .ok (.iload 4, 2) := by decide +kernel
theorem dX5_countOtherwise_24 : decode cX5_countOtherwise 24 = .ok (.iadd, 1) := by decide +kernel
theorem dX5_countOtherwise_25 : decode cX5_countOtherwise 25 = .ok (.iaload, 1) := by decide +kernel
theorem dX5_countOtherwise_26 : decode cX5_countOtherwise 26 = .ok (.aload_n 2, 1) := by decide +kernel
theorem dX5_countOtherwise_27 : decode cX5_countOtherwise 27 = .ok (.getfield 25, 3) := by decide +kernel
theorem dX5_countOtherwise_30 : decode cX5_countOtherwise 30 = .ok (.iload 4, 2) := by decide +kernel
theorem dX5_countOtherwise_32 : decode cX5_countOtherwise 32 = .ok (.iaload, 1) := by decide +kernel
theorem dX5_countOtherwise_33 : decode cX5_countOtherwise 33 = .ok (.if_icmp .eq 6, 3) := by decide +kernel
theorem dX5_countOtherwise_36 : decode cX5_countOtherwise 36 = .ok (.iinc 3 1, 3) := by decide +kernel
theorem dX5_countOtherwise_39 : decode cX5_countOtherwise 39 = .ok (.iinc 4 1, 3) := by decide +kernel
theorem dX5_countOtherwise_42 : decode cX5_countOtherwise 42 = .ok (.goto (-37), 3) := by decide +kernel
theorem dX5_countOtherwise_45 : decode cX5_countOtherwise 45 = .ok (.iload_n 3, 1) := by decide +kernel
theorem dX5_countOtherwise_46 : decode cX5_countOtherwise 46 = .ok (.ireturn, 1) := by decide +kernel
def f_X5_countOtherwise_L5_5 (s0 : SbT) (s1 : BdT) (p1 : Int32) (K1 : (Int32 → Option (Int32))) : Nat → Int32 → Int32 → Option (Int32)
  | 0, _, _ => none
  | n6 + 1, x3_3, x4_4 => if (648 : Int32) ≤ x4_4 then K1 x3_3
  else if inb ((p1 * (648 : Int32)) + x4_4) 2592 then if inb x4_4 648 then if ((Sb_holds s0) (ix ((p1 * (648 : Int32)) + x4_4))) = ((Bd_sums s1) (ix x4_4)) then f_X5_countOtherwise_L5_5 s0 s1 p1 K1 n6 x3_3 (x4_4 + (1 : Int32))
  else f_X5_countOtherwise_L5_5 s0 s1 p1 K1 n6 (x3_3 + (1 : Int32)) (x4_4 + (1 : Int32)) else none else none
def f_X5_countOtherwise (s0 : SbT) (s1 : BdT) (p1 : Int32) : Option (Int32) :=
  glt (fun (x3_2 : Int32) => some (x3_2)) fun K1 =>
  f_X5_countOtherwise_L5_5 s0 s1 p1 K1 10000 (0 : Int32) (0 : Int32)
abbrev rm_X5_countOtherwise : Room := { frames := 0, cells := 0, slots := 0, locals := 0 }
set_option maxHeartbeats 4000000 in
set_option maxRecDepth 100000 in
theorem c_X5_countOtherwise (l : Launch) (g : GK) (a0 : Nat → Nat) (s0 : SbT) (a1 : Nat → Nat) (s1 : BdT) (p1 : Int32) (res : (Int32)) (hf : f_X5_countOtherwise s0 s1 p1 = some res) : gR l yX5_countOtherwise cX5_countOtherwise 5 (some .int) rm_X5_countOtherwise g [.ref (a0 0), .int p1, .ref (a1 0)] (Sb_c g a0 s0 ++ Bd_c g a1 s1) (some (.int res)) := by
  refine gR_introI RX5 (by decide) rfl (Nat.le_of_ble_eq_true rfl) (fun p e s m args below meth c Q H locs ls hE hP hZ hS hq hl => ?_)
  have hl : lv_has ls 5 [(0, .ref (a0 0)), (1, .int p1), (2, .ref (a1 0))] := hl
  have hx := hE.1
  have hb := hE.2.1
  rw [f_X5_countOtherwise] at hf
  refine lv_iconst hx hb dX5_countOtherwise_0 kci_0 ?_
  refine lv_istore_n hx hb dX5_countOtherwise_1 rfl hl (by decide) (lv' := [(3, .int (0 : Int32)), (0, .ref (a0 0)), (1, .int p1), (2, .ref (a1 0))]) rfl (fun ls hl => ?_)
  refine lv_iconst hx hb dX5_countOtherwise_2 kci_0 ?_
  refine lv_istore hx hb dX5_countOtherwise_3 hl (by decide) (lv' := [(4, .int (0 : Int32)), (3, .int (0 : Int32)), (0, .ref (a0 0)), (1, .int p1), (2, .ref (a1 0))]) rfl (fun ls hl => ?_)
  obtain ⟨K1, eK1, hf⟩ := gltd hf
  have kK1 : ∀ (x3_2 : Int32) (ls : Array Slot), K1 x3_2 = some res → lv_has ls 5 [(3, .int x3_2)] → W p l e rm_X5_countOtherwise s m args below meth c H locs 0 0 Q (F0 m 45 ls []) := by
    intro x3_2 ls hf hl
    rw [eK1] at hf
    refine lv_iload_n hx hb dX5_countOtherwise_45 rfl (lv_at hl 0 rfl) ?_
    cases hf
    exact hq rfl dX5_countOtherwise_46
  have lpn6 : ∀ (n6 : Nat) (x3_3 : Int32) (x4_4 : Int32) (ls : Array Slot), f_X5_countOtherwise_L5_5 s0 s1 p1 K1 n6 x3_3 x4_4 = some res → lv_has ls 5 [(0, .ref (a0 0)), (1, .int p1), (2, .ref (a1 0)), (3, .int x3_3), (4, .int x4_4)] → W p l e rm_X5_countOtherwise s m args below meth c H locs 0 0 Q (F0 m 5 ls []) := by
    intro n6
    induction n6 with
    | zero => intro x3_3 x4_4 ls hf hl; rw [f_X5_countOtherwise_L5_5] at hf; cases hf
    | succ n6 ihn6 =>
      intro x3_3 x4_4 ls hf hl
      rw [f_X5_countOtherwise_L5_5] at hf
      refine lv_iload hx hb dX5_countOtherwise_5 (lv_at hl 4 rfl) ?_
      refine lv_sipush hx hb dX5_countOtherwise_7 kcs_648 ?_
      refine lv_icmp_ge hx hb dX5_countOtherwise_10 (tgt := 45) rfl (fun h7 => ?_) (fun h7 => ?_)
      · have hf := gif_t h7 hf
        exact kK1 x3_3 ls hf (lv_sub hl [3] rfl)
      · have hf := gif_f h7 hf
        refine lv_aload_n hx hb dX5_countOtherwise_13 rfl (lv_at hl 0 rfl) ?_
        refine g_get hE okX5 fl_X5_15 hP 0 rfl (v := .ref (a0 2)) rfl dX5_countOtherwise_14 ?_
        refine lv_iload_n hx hb dX5_countOtherwise_17 rfl (lv_at hl 1 rfl) ?_
        refine lv_sipush hx hb dX5_countOtherwise_18 kcs_648 ?_
        refine lv_imul hx hb dX5_countOtherwise_21 ?_
        refine lv_iload hx hb dX5_countOtherwise_22 (lv_at hl 4 rfl) ?_
        refine lv_iadd hx hb dX5_countOtherwise_24 ?_
        obtain ⟨hg8, hf⟩ := ggd hf
        refine g_iald hE hP 2 (f := (Sb_holds s0)) rfl hg8 dX5_countOtherwise_25 ?_
        refine lv_aload_n hx hb dX5_countOtherwise_26 rfl (lv_at hl 2 rfl) ?_
        refine g_get hE okX0 fl_X5_25 hP 4 rfl (v := .ref (a1 2)) rfl dX5_countOtherwise_27 ?_
        refine lv_iload hx hb dX5_countOtherwise_30 (lv_at hl 4 rfl) ?_
        obtain ⟨hg9, hf⟩ := ggd hf
        refine g_iald hE hP 6 (f := (Bd_sums s1)) rfl hg9 dX5_countOtherwise_32 ?_
        refine lv_icmp_eq hx hb dX5_countOtherwise_33 (tgt := 39) rfl (fun h10 => ?_) (fun h10 => ?_)
        · have hf := gif_t h10 hf
          refine lv_iinc hx hb dX5_countOtherwise_39 hl (k := 4) (x := x4_4) rfl (kinc_1 _) (by decide) (lv' := [(4, .int (x4_4 + (1 : Int32))), (0, .ref (a0 0)), (1, .int p1), (2, .ref (a1 0)), (3, .int x3_3)]) rfl (fun ls hl => ?_)
          refine lv_goto hx hb dX5_countOtherwise_42 (tgt := 5) rfl ?_
          exact ihn6 x3_3 (x4_4 + (1 : Int32)) ls hf (lv_sub hl [1, 2, 3, 4, 0] rfl)
        · have hf := gif_f h10 hf
          refine lv_iinc hx hb dX5_countOtherwise_36 hl (k := 3) (x := x3_3) rfl (kinc_1 _) (by decide) (lv' := [(3, .int (x3_3 + (1 : Int32))), (0, .ref (a0 0)), (1, .int p1), (2, .ref (a1 0)), (4, .int x4_4)]) rfl (fun ls hl => ?_)
          refine lv_iinc hx hb dX5_countOtherwise_39 hl (k := 4) (x := x4_4) rfl (kinc_1 _) (by decide) (lv' := [(4, .int (x4_4 + (1 : Int32))), (3, .int (x3_3 + (1 : Int32))), (0, .ref (a0 0)), (1, .int p1), (2, .ref (a1 0))]) rfl (fun ls hl => ?_)
          refine lv_goto hx hb dX5_countOtherwise_42 (tgt := 5) rfl ?_
          exact ihn6 (x3_3 + (1 : Int32)) (x4_4 + (1 : Int32)) ls hf (lv_sub hl [2, 3, 4, 1, 0] rfl)
  exact lpn6 10000 (0 : Int32) (0 : Int32) ls hf (lv_sub hl [2, 3, 4, 1, 0] rfl)
theorem dX5_told_0 : decode cX5_told 0 = .ok (.aload_n 3, 1) := by decide +kernel
theorem dX5_told_1 : decode cX5_told 1 = .ok (.getfield 30, 3) := by decide +kernel
theorem dX5_told_4 : decode cX5_told 4 = .ok (.getfield 34, 3) := by decide +kernel
theorem dX5_told_7 : decode cX5_told 7 = .ok (.aload_n 0, 1) := by decide +kernel
theorem dX5_told_8 : decode cX5_told 8 = .ok (.getfield 11, 3) := by decide +kernel
theorem dX5_told_11 : decode cX5_told 11 = .ok (.iload_n 1, 1) := by decide +kernel
theorem dX5_told_12 : decode cX5_told 12 = .ok (.iaload, 1) := by decide +kernel
theorem dX5_told_13 : decode cX5_told 13 = .ok (.isub, 1) := by decide +kernel
theorem dX5_told_14 : decode cX5_told 14 = .ok (.istore 4, 2) := by decide +kernel
theorem dX5_told_16 : decode cX5_told 16 = .ok (.iload_n 2, 1) := by decide +kernel
theorem dX5_told_17 : decode cX5_told 17 = .ok (.tableswitch 55 0 2 #[27, 30, 48], 27) := by decide +kernel
theorem dX5_told_44 : decode cX5_told 44 = .ok (.iload 4, 2) := by decide +kernel
theorem dX5_told_46 : decode cX5_told 46 = .ok (.ireturn, 1) := by decide +kernel
theorem dX5_told_47 : decode cX5_told 47 = .ok (.iload 4, 2) := by decide +kernel
theorem dX5_told_49 : decode cX5_told 49 = .ok (.aload_n 3, 1) := by decide +kernel
theorem dX5_told_50 : decode cX5_told 50 = .ok (.getfield 30, 3) := by decide +kernel
theorem dX5_told_53 : decode cX5_told 53 = .ok (.invokevirtual 40, 3) := by decide +kernel
theorem dX5_told_56 : decode cX5_told 56 = .ok (.if_icmp .gt 7, 3) := by decide +kernel
theorem dX5_told_59 : decode cX5_told 59 = .ok (.iconst 1, 1) := by decide +kernel
theorem dX5_told_60 : decode cX5_told 60 = .ok (.goto 4, 3) := by decide +kernel
theorem dX5_told_63 : decode cX5_told 63 = .ok (.iconst 0, 1) := by decide +kernel
theorem dX5_told_64 : decode cX5_told 64 = .ok (.ireturn, 1) := by decide +kernel
theorem dX5_told_65 : decode cX5_told 65 = .ok (.aload_n 0, 1) := by decide +kernel
theorem dX5_told_66 : decode cX5_told 66 = .ok (.iload_n 1, 1) := by decide +kernel
theorem dX5_told_67 : decode cX5_told 67 = .ok (.aload_n 3, 1) := by decide +kernel
theorem dX5_told_68 : decode cX5_told 68 = .ok (.invokevirtual 44, 3) := by decide +kernel
theorem dX5_told_71 : decode cX5_told 71 = .ok (.ireturn, 1) := by decide +kernel
theorem dX5_told_72 : decode cX5_told 72 = .ok (.aload_n 0, 1) := by decide +kernel
theorem dX5_told_73 : decode cX5_told 73 = .ok (.getfield 18, 3) := by decide +kernel
theorem dX5_told_76 : decode cX5_told 76 = .ok (.iload_n 1, 1) := by decide +kernel
theorem dX5_told_77 : decode cX5_told 77 = .ok (.sipush 648, 3) := by decide +kernel
theorem dX5_told_80 : decode cX5_told 80 = .ok (.imul, 1) := by decide +kernel
theorem dX5_told_81 : decode cX5_told 81 = .ok (.invokestatic 48, 3) := by decide +kernel
theorem dX5_told_84 : decode cX5_told 84 = .ok (.ireturn, 1) := by decide +kernel
def f_X5_told (s0 : SbT) (s1 : BdT) (p1 : Int32) (p2 : Int32) : Option (Int32) :=
  if inb p1 4 then if p2 = (0 : Int32) then some (((Lg_total (Bd_ledger s1)) - ((Sb_seen s0) (ix p1))))
  else if p2 = (1 : Int32) then (f_X2_remembered (Bd_ledger s1)).bind fun r4 =>
  if r4 < ((Lg_total (Bd_ledger s1)) - ((Sb_seen s0) (ix p1))) then some ((0 : Int32))
  else some ((1 : Int32))
  else if p2 = (2 : Int32) then (f_X5_countOtherwise s0 s1 p1).bind fun r8 =>
  some (r8)
  else (f_X8_countFilled 2592 (Sb_differences s0) (p1 * (648 : Int32))).bind fun r10 =>
  some (r10) else none
abbrev rm_X5_told : Room := { frames := 2, cells := 0, slots := 0, locals := 41 }
set_option maxHeartbeats 4000000 in
set_option maxRecDepth 100000 in
theorem c_X5_told (l : Launch) (g : GK) (a0 : Nat → Nat) (s0 : SbT) (a1 : Nat → Nat) (s1 : BdT) (p1 : Int32) (p2 : Int32) (res : (Int32)) (hf : f_X5_told s0 s1 p1 p2 = some res) : gR l yX5_told cX5_told 5 (some .int) rm_X5_told g [.ref (a0 0), .int p1, .int p2, .ref (a1 0)] (Sb_c g a0 s0 ++ Bd_c g a1 s1) (some (.int res)) := by
  refine gR_introI RX5 (by decide) rfl (Nat.le_of_ble_eq_true rfl) (fun p e s m args below meth c Q H locs ls hE hP hZ hS hq hl => ?_)
  have hl : lv_has ls 5 [(0, .ref (a0 0)), (1, .int p1), (2, .int p2), (3, .ref (a1 0))] := hl
  have hx := hE.1
  have hb := hE.2.1
  rw [f_X5_told] at hf
  refine lv_aload_n hx hb dX5_told_0 rfl (lv_at hl 3 rfl) ?_
  refine g_get hE okX0 fl_X5_30 hP 4 rfl (v := .ref (a1 4)) rfl dX5_told_1 ?_
  refine g_get hE okX2 fl_X5_34 hP 8 rfl (v := .int (Lg_total (Bd_ledger s1))) rfl dX5_told_4 ?_
  refine lv_aload_n hx hb dX5_told_7 rfl (lv_at hl 0 rfl) ?_
  refine g_get hE okX5 fl_X5_11 hP 0 rfl (v := .ref (a0 1)) rfl dX5_told_8 ?_
  refine lv_iload_n hx hb dX5_told_11 rfl (lv_at hl 1 rfl) ?_
  obtain ⟨hg1, hf⟩ := ggd hf
  refine g_iald hE hP 1 (f := (Sb_seen s0)) rfl hg1 dX5_told_12 ?_
  refine lv_isub hx hb dX5_told_13 ?_
  refine lv_istore hx hb dX5_told_14 hl (by decide) (lv' := [(4, .int ((Lg_total (Bd_ledger s1)) - ((Sb_seen s0) (ix p1)))), (0, .ref (a0 0)), (1, .int p1), (2, .int p2), (3, .ref (a1 0))]) rfl (fun ls hl => ?_)
  refine lv_iload_n hx hb dX5_told_16 rfl (lv_at hl 3 rfl) ?_
  by_cases h2 : p2 = (0 : Int32)
  · have hf := gif_t h2 hf
    refine g_swIn hE h2 dX5_told_17 (0) ⟨by decide, by decide⟩ (by decide) (off := 27) rfl (tgt := 44) rfl ?_
    refine lv_iload hx hb dX5_told_44 (lv_at hl 0 rfl) ?_
    cases hf
    exact hq rfl dX5_told_46
  have hf := gif_f h2 hf
  by_cases h3 : p2 = (1 : Int32)
  · have hf := gif_t h3 hf
    refine g_swIn hE h3 dX5_told_17 (1) ⟨by decide, by decide⟩ (by decide) (off := 30) rfl (tgt := 47) rfl ?_
    refine lv_iload hx hb dX5_told_47 (lv_at hl 0 rfl) ?_
    refine lv_aload_n hx hb dX5_told_49 rfl (lv_at hl 4 rfl) ?_
    refine g_get hE okX0 fl_X5_30 hP 4 rfl (v := .ref (a1 4)) rfl dX5_told_50 ?_
    obtain ⟨r4, hc5, hf⟩ := gbd hf
    refine gr_callV (As := []) (rest := [.int ((Lg_total (Bd_ledger s1)) - ((Sb_seen s0) (ix p1)))]) (st1 := [.int r4, .int ((Lg_total (Bd_ledger s1)) - ((Sb_seen s0) (ix p1)))]) hE hl.1 ml_X5_40 (c_X2_remembered l g (fun k => a1 (k + 4)) (Bd_ledger s1) r4 hc5) hZ hS hP [(8, 5)] rfl okX2 rfl rfl rfl rfl ⟨rfl, rfl⟩ ⟨Nat.le_of_ble_eq_true rfl, Nat.le_of_ble_eq_true rfl⟩ ⟨Nat.le_refl _, Nat.le_refl _⟩ (Nat.le_of_ble_eq_true rfl) dX5_told_53 ?_
    refine lv_icmp_gt hx hb dX5_told_56 (tgt := 63) rfl (fun h6 => ?_) (fun h6 => ?_)
    · have hf := gif_t h6 hf
      refine lv_iconst hx hb dX5_told_63 kci_0 ?_
      cases hf
      exact hq rfl dX5_told_64
    · have hf := gif_f h6 hf
      refine lv_iconst hx hb dX5_told_59 kci_1 ?_
      refine lv_goto hx hb dX5_told_60 (tgt := 64) rfl ?_
      cases hf
      exact hq rfl dX5_told_64
  have hf := gif_f h3 hf
  by_cases h7 : p2 = (2 : Int32)
  · have hf := gif_t h7 hf
    refine g_swIn hE h7 dX5_told_17 (2) ⟨by decide, by decide⟩ (by decide) (off := 48) rfl (tgt := 65) rfl ?_
    refine lv_aload_n hx hb dX5_told_65 rfl (lv_at hl 1 rfl) ?_
    refine lv_iload_n hx hb dX5_told_66 rfl (lv_at hl 2 rfl) ?_
    refine lv_aload_n hx hb dX5_told_67 rfl (lv_at hl 4 rfl) ?_
    obtain ⟨r8, hc9, hf⟩ := gbd hf
    refine gr_callV (As := [.int p1, .ref (a1 0)]) (rest := []) (st1 := [.int r8]) hE hl.1 ml_X5_44 (c_X5_countOtherwise l g a0 s0 a1 s1 p1 r8 hc9) hZ hS hP [(0, 4), (4, 9)] rfl okX5 rfl rfl rfl rfl ⟨rfl, rfl⟩ ⟨Nat.le_of_ble_eq_true rfl, Nat.le_of_ble_eq_true rfl⟩ ⟨Nat.le_refl _, Nat.le_refl _⟩ (Nat.le_of_ble_eq_true rfl) dX5_told_68 ?_
    cases hf
    exact hq rfl dX5_told_71
  have hf := gif_f h7 hf
  refine lv_tableOut hx hb dX5_told_17 (by have := nti h2 (k := 0) (by decide); have := nti h3 (k := 1) (by decide); have := nti h7 (k := 2) (by decide); omega) (tgt := 72) rfl ?_
  refine lv_aload_n hx hb dX5_told_72 rfl (lv_at hl 1 rfl) ?_
  refine g_get hE okX5 fl_X5_18 hP 0 rfl (v := .ref (a0 3)) rfl dX5_told_73 ?_
  refine lv_iload_n hx hb dX5_told_76 rfl (lv_at hl 2 rfl) ?_
  refine lv_sipush hx hb dX5_told_77 kcs_648 ?_
  refine lv_imul hx hb dX5_told_80 ?_
  obtain ⟨r10, hc11, hf⟩ := gbd hf
  refine gr_callN (As := [.ref (a0 3), .int (p1 * (648 : Int32))]) (rest := []) (st1 := [.int r10]) hE hl.1 ml_X5_48 (c_X8_countFilled l g (a0 3) 2592 (Sb_differences s0) (p1 * (648 : Int32)) r10 hc11) hZ hS hP [(3, 1)] rfl rfl rfl rfl ⟨rfl, rfl⟩ ⟨Nat.le_of_ble_eq_true rfl, Nat.le_of_ble_eq_true rfl⟩ ⟨Nat.le_refl _, Nat.le_refl _⟩ (Nat.le_of_ble_eq_true rfl) dX5_told_81 ?_
  cases hf
  exact hq rfl dX5_told_84
theorem dX5_catchUp_0 : decode cX5_catchUp 0 = .ok (.iload_n 1, 1) := by decide +kernel
theorem dX5_catchUp_1 : decode cX5_catchUp 1 = .ok (.sipush 648, 3) := by decide +kernel
theorem dX5_catchUp_4 : decode cX5_catchUp 4 = .ok (.imul, 1) := by decide +kernel
theorem dX5_catchUp_5 : decode cX5_catchUp 5 = .ok (.istore_n 3, 1) := by decide +kernel
theorem dX5_catchUp_6 : decode cX5_catchUp 6 = .ok (.iconst 0, 1) := by decide +kernel
theorem dX5_catchUp_7 : decode cX5_catchUp 7 = .ok (.istore 4, 2) := by decide +kernel
theorem dX5_catchUp_9 : decode cX5_catchUp 9 = .ok (.iload 4, 2) := by decide +kernel
theorem dX5_catchUp_11 : decode cX5_catchUp 11 = .ok (.sipush 648, 3) := by decide +kernel
theorem dX5_catchUp_14 : decode cX5_catchUp 14 = .ok (.if_icmp .ge 51, 3) := by decide +kernel
theorem dX5_catchUp_17 : decode cX5_catchUp 17 = .ok (.aload_n 0, 1) := by decide +kernel
theorem dX5_catchUp_18 : decode cX5_catchUp 18 = .ok (.getfield 18, 3) := by decide +kernel
theorem dX5_catchUp_21 : decode cX5_catchUp 21 = .ok (.iload_n 3, 1) := by decide +kernel
theorem dX5_catchUp_22 : decode cX5_catchUp 22 = .ok (.iload 4, 2) := by decide +kernel
theorem dX5_catchUp_24 : decode cX5_catchUp 24 = .ok (.iadd, 1) := by decide +kernel
theorem dX5_catchUp_25 : decode cX5_catchUp 25 = .ok (.aload_n 2, 1) := by decide +kernel
theorem dX5_catchUp_26 : decode cX5_catchUp 26 = .ok (.getfield 25, 3) := by decide +kernel
theorem dX5_catchUp_29 : decode cX5_catchUp 29 = .ok (.iload 4, 2) := by decide +kernel
theorem dX5_catchUp_31 : decode cX5_catchUp 31 = .ok (.iaload, 1) := by decide +kernel
theorem dX5_catchUp_32 : decode cX5_catchUp 32 = .ok (.aload_n 0, 1) := by decide +kernel
theorem dX5_catchUp_33 : decode cX5_catchUp 33 = .ok (.getfield 15, 3) := by decide +kernel
theorem dX5_catchUp_36 : decode cX5_catchUp 36 = .ok (.iload_n 3, 1) := by decide +kernel
theorem dX5_catchUp_37 : decode cX5_catchUp 37 = .ok (.iload 4, 2) := by decide +kernel
theorem dX5_catchUp_39 : decode cX5_catchUp 39 = .ok (.iadd, 1) := by decide +kernel
theorem dX5_catchUp_40 : decode cX5_catchUp 40 = .ok (.iaload, 1) := by decide +kernel
theorem dX5_catchUp_41 : decode cX5_catchUp 41 = .ok (.isub, 1) := by decide +kernel
theorem dX5_catchUp_42 : decode cX5_catchUp 42 = .ok (.iastore, 1) := by decide +kernel
theorem dX5_catchUp_43 : decode cX5_catchUp 43 = .ok (.aload_n 0, 1) := by decide +kernel
theorem dX5_catchUp_44 : decode cX5_catchUp 44 = .ok (.getfield 15, 3) := by decide +kernel
theorem dX5_catchUp_47 : decode cX5_catchUp 47 = .ok (.iload_n 3, 1) := by decide +kernel
theorem dX5_catchUp_48 : decode cX5_catchUp 48 = .ok (.iload 4, 2) := by decide +kernel
theorem dX5_catchUp_50 : decode cX5_catchUp 50 = .ok (.iadd, 1) := by decide +kernel
theorem dX5_catchUp_51 : decode cX5_catchUp 51 = .ok (.aload_n 2, 1) := by decide +kernel
theorem dX5_catchUp_52 : decode cX5_catchUp 52 = .ok (.getfield 25, 3) := by decide +kernel
theorem dX5_catchUp_55 : decode cX5_catchUp 55 = .ok (.iload 4, 2) := by decide +kernel
theorem dX5_catchUp_57 : decode cX5_catchUp 57 = .ok (.iaload, 1) := by decide +kernel
theorem dX5_catchUp_58 : decode cX5_catchUp 58 = .ok (.iastore, 1) := by decide +kernel
theorem dX5_catchUp_59 : decode cX5_catchUp 59 = .ok (.iinc 4 1, 3) := by decide +kernel
theorem dX5_catchUp_62 : decode cX5_catchUp 62 = .ok (.goto (-53), 3) := by decide +kernel
theorem dX5_catchUp_65 : decode cX5_catchUp 65 = .ok (.aload_n 0, 1) := by decide +kernel
theorem dX5_catchUp_66 : decode cX5_catchUp 66 = .ok (.getfield 11, 3) := by decide +kernel
theorem dX5_catchUp_69 : decode cX5_catchUp 69 = .ok (.iload_n 1, 1) := by decide +kernel
theorem dX5_catchUp_70 : decode cX5_catchUp 70 = .ok (.aload_n 2, 1) := by decide +kernel
theorem dX5_catchUp_71 : decode cX5_catchUp 71 = .ok (.getfield 30, 3) := by decide +kernel
theorem dX5_catchUp_74 : decode cX5_catchUp 74 = .ok (.getfield 34, 3) := by decide +kernel
theorem dX5_catchUp_77 : decode cX5_catchUp 77 = .ok (.iastore, 1) := by decide +kernel
theorem dX5_catchUp_78 : decode cX5_catchUp 78 = .ok (.return_, 1) := by decide +kernel
def f_X5_catchUp_L9_6 (s1 : BdT) (p1 : Int32) (K1 : (SbT → Option (SbT))) : Nat → Int32 → SbT → Option (SbT)
  | 0, _, _ => none
  | n7 + 1, x4_4, s0_5 => if (648 : Int32) ≤ x4_4 then K1 s0_5
  else if inb x4_4 648 then if inb ((p1 * (648 : Int32)) + x4_4) 2592 then if inb ((p1 * (648 : Int32)) + x4_4) 2592 then if inb x4_4 648 then if inb ((p1 * (648 : Int32)) + x4_4) 2592 then f_X5_catchUp_L9_6 s1 p1 K1 n7 (x4_4 + (1 : Int32)) (Sb_w_differences (Sb_w_holds s0_5 (upd (Sb_holds s0_5) (ix ((p1 * (648 : Int32)) + x4_4)) ((Bd_sums s1) (ix x4_4)))) (upd (Sb_differences s0_5) (ix ((p1 * (648 : Int32)) + x4_4)) (((Bd_sums s1) (ix x4_4)) - ((Sb_holds s0_5) (ix ((p1 * (648 : Int32)) + x4_4)))))) else none else none else none else none else none
def f_X5_catchUp (s0 : SbT) (s1 : BdT) (p1 : Int32) : Option (SbT) :=
  glt (fun (s0_2 : SbT) => if inb p1 4 then some ((Sb_w_seen s0_2 (upd (Sb_seen s0_2) (ix p1) (Lg_total (Bd_ledger s1))))) else none) fun K1 =>
  f_X5_catchUp_L9_6 s1 p1 K1 10000 (0 : Int32) s0
abbrev rm_X5_catchUp : Room := { frames := 0, cells := 0, slots := 0, locals := 0 }
set_option maxHeartbeats 4000000 in
set_option maxRecDepth 100000 in
theorem c_X5_catchUp (l : Launch) (g : GK) (a0 : Nat → Nat) (s0 : SbT) (a1 : Nat → Nat) (s1 : BdT) (p1 : Int32) (res : (SbT)) (hf : f_X5_catchUp s0 s1 p1 = some res) : gM l yX5_catchUp cX5_catchUp 5 none rm_X5_catchUp g [.ref (a0 0), .int p1, .ref (a1 0)] (Sb_c g a0 s0 ++ Bd_c g a1 s1) (fun _ : Unit => none) (fun _ => (Sb_c g a0 res ++ Bd_c g a1 s1)) 0 0 := by
  refine gM_introV RX5 (by decide) rfl (Nat.le_of_ble_eq_true rfl) (fun p e s m args below meth c Q H locs ls A hE hnm hZ hA hP hD hS hq hl => ?_)
  have hl : lv_has ls 5 [(0, .ref (a0 0)), (1, .int p1), (2, .ref (a1 0))] := hl
  have hx := hE.1
  have hb := hE.2.1
  rw [f_X5_catchUp] at hf
  refine lv_iload_n hx hb dX5_catchUp_0 rfl (lv_at hl 1 rfl) ?_
  refine lv_sipush hx hb dX5_catchUp_1 kcs_648 ?_
  refine lv_imul hx hb dX5_catchUp_4 ?_
  refine lv_istore_n hx hb dX5_catchUp_5 rfl hl (by decide) (lv' := [(3, .int (p1 * (648 : Int32))), (0, .ref (a0 0)), (1, .int p1), (2, .ref (a1 0))]) rfl (fun ls hl => ?_)
  refine lv_iconst hx hb dX5_catchUp_6 kci_0 ?_
  refine lv_istore hx hb dX5_catchUp_7 hl (by decide) (lv' := [(4, .int (0 : Int32)), (3, .int (p1 * (648 : Int32))), (0, .ref (a0 0)), (1, .int p1), (2, .ref (a1 0))]) rfl (fun ls hl => ?_)
  obtain ⟨K1, eK1, hf⟩ := gltd hf
  have kK1 : ∀ (s0_2 : SbT) (ls : Array Slot) (H : Heap) (locs : List Loc), K1 s0_2 = some res → lv_has ls 5 [(0, .ref (a0 0)), (1, .int p1), (2, .ref (a1 0))] → gP g (Sb_c g a0 s0_2 ++ Bd_c g a1 s1) H → va_D A (Sb_c g a0 s0_2 ++ Bd_c g a1 s1) → va_S A s.heap H locs → W p l e rm_X5_catchUp s m args below meth c H locs 0 0 Q (F0 m 65 ls []) := by
    intro s0_2 ls H locs hf hl hP hD hS
    rw [eK1] at hf
    refine lv_aload_n hx hb dX5_catchUp_65 rfl (lv_at hl 0 rfl) ?_
    refine g_get hE okX5 fl_X5_11 hP 0 rfl (v := .ref (a0 1)) rfl dX5_catchUp_66 ?_
    refine lv_iload_n hx hb dX5_catchUp_69 rfl (lv_at hl 1 rfl) ?_
    refine lv_aload_n hx hb dX5_catchUp_70 rfl (lv_at hl 2 rfl) ?_
    refine g_get hE okX0 fl_X5_30 hP 4 rfl (v := .ref (a1 4)) rfl dX5_catchUp_71 ?_
    refine g_get hE okX2 fl_X5_34 hP 8 rfl (v := .int (Lg_total (Bd_ledger s1))) rfl dX5_catchUp_74 ?_
    obtain ⟨hg3, hf⟩ := ggd hf
    refine g_iast hE hP hD hS 1 (f := (Sb_seen s0_2)) rfl hg3 (Sb_c g a0 (Sb_w_seen s0_2 (upd (Sb_seen s0_2) (ix p1) (Lg_total (Bd_ledger s1)))) ++ Bd_c g a1 s1) rfl dX5_catchUp_77 (fun H locs hP hD hS => ?_)
    cases hf
    exact hq () rfl hP hD hS dX5_catchUp_78
  have lpn7 : ∀ (n7 : Nat) (x4_4 : Int32) (s0_5 : SbT) (ls : Array Slot) (H : Heap) (locs : List Loc), f_X5_catchUp_L9_6 s1 p1 K1 n7 x4_4 s0_5 = some res → lv_has ls 5 [(0, .ref (a0 0)), (1, .int p1), (2, .ref (a1 0)), (3, .int (p1 * (648 : Int32))), (4, .int x4_4)] → gP g (Sb_c g a0 s0_5 ++ Bd_c g a1 s1) H → va_D A (Sb_c g a0 s0_5 ++ Bd_c g a1 s1) → va_S A s.heap H locs → W p l e rm_X5_catchUp s m args below meth c H locs 0 0 Q (F0 m 9 ls []) := by
    intro n7
    induction n7 with
    | zero => intro x4_4 s0_5 ls H locs hf hl hP hD hS; rw [f_X5_catchUp_L9_6] at hf; cases hf
    | succ n7 ihn7 =>
      intro x4_4 s0_5 ls H locs hf hl hP hD hS
      rw [f_X5_catchUp_L9_6] at hf
      refine lv_iload hx hb dX5_catchUp_9 (lv_at hl 4 rfl) ?_
      refine lv_sipush hx hb dX5_catchUp_11 kcs_648 ?_
      refine lv_icmp_ge hx hb dX5_catchUp_14 (tgt := 65) rfl (fun h8 => ?_) (fun h8 => ?_)
      · have hf := gif_t h8 hf
        exact kK1 s0_5 ls H locs hf (lv_sub hl [0, 1, 2] rfl) hP hD hS
      · have hf := gif_f h8 hf
        refine lv_aload_n hx hb dX5_catchUp_17 rfl (lv_at hl 0 rfl) ?_
        refine g_get hE okX5 fl_X5_18 hP 0 rfl (v := .ref (a0 3)) rfl dX5_catchUp_18 ?_
        refine lv_iload_n hx hb dX5_catchUp_21 rfl (lv_at hl 3 rfl) ?_
        refine lv_iload hx hb dX5_catchUp_22 (lv_at hl 4 rfl) ?_
        refine lv_iadd hx hb dX5_catchUp_24 ?_
        refine lv_aload_n hx hb dX5_catchUp_25 rfl (lv_at hl 2 rfl) ?_
        refine g_get hE okX0 fl_X5_25 hP 4 rfl (v := .ref (a1 2)) rfl dX5_catchUp_26 ?_
        refine lv_iload hx hb dX5_catchUp_29 (lv_at hl 4 rfl) ?_
        obtain ⟨hg9, hf⟩ := ggd hf
        refine g_iald hE hP 6 (f := (Bd_sums s1)) rfl hg9 dX5_catchUp_31 ?_
        refine lv_aload_n hx hb dX5_catchUp_32 rfl (lv_at hl 0 rfl) ?_
        refine g_get hE okX5 fl_X5_15 hP 0 rfl (v := .ref (a0 2)) rfl dX5_catchUp_33 ?_
        refine lv_iload_n hx hb dX5_catchUp_36 rfl (lv_at hl 3 rfl) ?_
        refine lv_iload hx hb dX5_catchUp_37 (lv_at hl 4 rfl) ?_
        refine lv_iadd hx hb dX5_catchUp_39 ?_
        obtain ⟨hg10, hf⟩ := ggd hf
        refine g_iald hE hP 2 (f := (Sb_holds s0_5)) rfl hg10 dX5_catchUp_40 ?_
        refine lv_isub hx hb dX5_catchUp_41 ?_
        obtain ⟨hg11, hf⟩ := ggd hf
        refine g_iast hE hP hD hS 3 (f := (Sb_differences s0_5)) rfl hg11 (Sb_c g a0 (Sb_w_differences s0_5 (upd (Sb_differences s0_5) (ix ((p1 * (648 : Int32)) + x4_4)) (((Bd_sums s1) (ix x4_4)) - ((Sb_holds s0_5) (ix ((p1 * (648 : Int32)) + x4_4)))))) ++ Bd_c g a1 s1) rfl dX5_catchUp_42 (fun H locs hP hD hS => ?_)
        refine lv_aload_n hx hb dX5_catchUp_43 rfl (lv_at hl 0 rfl) ?_
        refine g_get hE okX5 fl_X5_15 hP 0 rfl (v := .ref (a0 2)) rfl dX5_catchUp_44 ?_
        refine lv_iload_n hx hb dX5_catchUp_47 rfl (lv_at hl 3 rfl) ?_
        refine lv_iload hx hb dX5_catchUp_48 (lv_at hl 4 rfl) ?_
        refine lv_iadd hx hb dX5_catchUp_50 ?_
        refine lv_aload_n hx hb dX5_catchUp_51 rfl (lv_at hl 2 rfl) ?_
        refine g_get hE okX0 fl_X5_25 hP 4 rfl (v := .ref (a1 2)) rfl dX5_catchUp_52 ?_
        refine lv_iload hx hb dX5_catchUp_55 (lv_at hl 4 rfl) ?_
        obtain ⟨hg12, hf⟩ := ggd hf
        refine g_iald hE hP 6 (f := (Bd_sums s1)) rfl hg12 dX5_catchUp_57 ?_
        obtain ⟨hg13, hf⟩ := ggd hf
        refine g_iast hE hP hD hS 2 (f := (Sb_holds s0_5)) rfl hg13 (Sb_c g a0 (Sb_w_differences (Sb_w_holds s0_5 (upd (Sb_holds s0_5) (ix ((p1 * (648 : Int32)) + x4_4)) ((Bd_sums s1) (ix x4_4)))) (upd (Sb_differences s0_5) (ix ((p1 * (648 : Int32)) + x4_4)) (((Bd_sums s1) (ix x4_4)) - ((Sb_holds s0_5) (ix ((p1 * (648 : Int32)) + x4_4)))))) ++ Bd_c g a1 s1) rfl dX5_catchUp_58 (fun H locs hP hD hS => ?_)
        refine lv_iinc hx hb dX5_catchUp_59 hl (k := 4) (x := x4_4) rfl (kinc_1 _) (by decide) (lv' := [(4, .int (x4_4 + (1 : Int32))), (0, .ref (a0 0)), (1, .int p1), (2, .ref (a1 0)), (3, .int (p1 * (648 : Int32)))]) rfl (fun ls hl => ?_)
        refine lv_goto hx hb dX5_catchUp_62 (tgt := 9) rfl ?_
        exact ihn7 (x4_4 + (1 : Int32)) (Sb_w_differences (Sb_w_holds s0_5 (upd (Sb_holds s0_5) (ix ((p1 * (648 : Int32)) + x4_4)) ((Bd_sums s1) (ix x4_4)))) (upd (Sb_differences s0_5) (ix ((p1 * (648 : Int32)) + x4_4)) (((Bd_sums s1) (ix x4_4)) - ((Sb_holds s0_5) (ix ((p1 * (648 : Int32)) + x4_4)))))) ls H locs hf (lv_sub hl [1, 2, 3, 4, 0] rfl) hP hD hS
  exact lpn7 10000 (0 : Int32) s0 ls H locs hf (lv_sub hl [2, 3, 4, 1, 0] rfl) hP hD hS
theorem dX5_start_0 : decode cX5_start 0 = .ok (.aload_n 0, 1) := by decide +kernel
theorem dX5_start_1 : decode cX5_start 1 = .ok (.iload_n 1, 1) := by decide +kernel
theorem dX5_start_2 : decode cX5_start 2 = .ok (.aload_n 2, 1) := by decide +kernel
theorem dX5_start_3 : decode cX5_start 3 = .ok (.invokevirtual 21, 3) := by decide +kernel
theorem dX5_start_6 : decode cX5_start 6 = .ok (.iconst 0, 1) := by decide +kernel
theorem dX5_start_7 : decode cX5_start 7 = .ok (.istore_n 3, 1) := by decide +kernel
theorem dX5_start_8 : decode cX5_start 8 = .ok (.iload_n 3, 1) := by decide +kernel
theorem dX5_start_9 : decode cX5_start 9 = .ok (.sipush 648, 3) := by decide +kernel
theorem dX5_start_12 : decode cX5_start 12 = .ok (.if_icmp .ge 22, 3) := by decide +kernel
theorem dX5_start_15 : decode cX5_start 15 = .ok (.aload_n 0, 1) := by decide +kernel
theorem dX5_start_16 : decode cX5_start 16 = .ok (.getfield 18, 3) := by decide +kernel
theorem dX5_start_19 : decode cX5_start 19 = .ok (.iload_n 1, 1) := by decide +kernel
theorem dX5_start_20 : decode cX5_start 20 = .ok (.sipush 648, 3) := by decide +kernel
theorem dX5_start_23 : decode cX5_start 23 = .ok (.imul, 1) := by decide +kernel
theorem dX5_start_24 : decode cX5_start 24 = .ok (.iload_n 3, 1) := by decide +kernel
theorem dX5_start_25 : decode cX5_start 25 = .ok (.iadd, 1) := by decide +kernel
theorem dX5_start_26 : decode cX5_start 26 = .ok (.iconst 0, 1) := by decide +kernel
theorem dX5_start_27 : decode cX5_start 27 = .ok (.iastore, 1) := by decide +kernel
theorem dX5_start_28 : decode cX5_start 28 = .ok (.iinc 3 1, 3) := by decide +kernel
theorem dX5_start_31 : decode cX5_start 31 = .ok (.goto (-23), 3) := by decide +kernel
theorem dX5_start_34 : decode cX5_start 34 = .ok (.return_, 1) := by decide +kernel
def f_X5_start_L8_7 (p1 : Int32) (K3 : (SbT → Option (SbT))) : Nat → Int32 → SbT → Option (SbT)
  | 0, _, _ => none
  | n8 + 1, x3_5, s0_6 => if (648 : Int32) ≤ x3_5 then K3 s0_6
  else if inb ((p1 * (648 : Int32)) + x3_5) 2592 then f_X5_start_L8_7 p1 K3 n8 (x3_5 + (1 : Int32)) (Sb_w_differences s0_6 (upd (Sb_differences s0_6) (ix ((p1 * (648 : Int32)) + x3_5)) (0 : Int32))) else none
def f_X5_start (s0 : SbT) (s1 : BdT) (p1 : Int32) : Option (SbT) :=
  (f_X5_catchUp s0 s1 p1).bind fun r1 =>
  glt (fun (s0_4 : SbT) => some (s0_4)) fun K3 =>
  f_X5_start_L8_7 p1 K3 10000 (0 : Int32) r1
abbrev rm_X5_start : Room := { frames := 1, cells := 0, slots := 0, locals := 24 }
set_option maxHeartbeats 4000000 in
set_option maxRecDepth 100000 in
theorem c_X5_start (l : Launch) (g : GK) (a0 : Nat → Nat) (s0 : SbT) (a1 : Nat → Nat) (s1 : BdT) (p1 : Int32) (res : (SbT)) (hf : f_X5_start s0 s1 p1 = some res) : gM l yX5_start cX5_start 4 none rm_X5_start g [.ref (a0 0), .int p1, .ref (a1 0)] (Sb_c g a0 s0 ++ Bd_c g a1 s1) (fun _ : Unit => none) (fun _ => (Sb_c g a0 res ++ Bd_c g a1 s1)) 0 0 := by
  refine gM_introV RX5 (by decide) rfl (Nat.le_of_ble_eq_true rfl) (fun p e s m args below meth c Q H locs ls A hE hnm hZ hA hP hD hS hq hl => ?_)
  have hl : lv_has ls 4 [(0, .ref (a0 0)), (1, .int p1), (2, .ref (a1 0))] := hl
  have hx := hE.1
  have hb := hE.2.1
  rw [f_X5_start] at hf
  refine lv_aload_n hx hb dX5_start_0 rfl (lv_at hl 0 rfl) ?_
  refine lv_iload_n hx hb dX5_start_1 rfl (lv_at hl 1 rfl) ?_
  refine lv_aload_n hx hb dX5_start_2 rfl (lv_at hl 2 rfl) ?_
  obtain ⟨r1, hc2, hf⟩ := gbd hf
  refine gm_callV1 (As := [.int p1, .ref (a1 0)]) (rest := []) (st1 := fun _ => []) (ws' := fun _ => (Sb_c g a0 r1 ++ Bd_c g a1 s1)) hE hl.1 ml_X5_21 (c_X5_catchUp l g a0 s0 a1 s1 p1 r1 hc2) hZ hP hD hS hA 0 13 rfl (fun _ => rfl) okX5 rfl rfl rfl (fun _ => rfl) ⟨rfl, rfl⟩ ⟨Nat.le_of_ble_eq_true rfl, Nat.le_of_ble_eq_true rfl⟩ ⟨Nat.le_refl _, Nat.le_refl _⟩ (Nat.le_of_ble_eq_true rfl) dX5_start_3 (fun _ H locs hP hD hS => ?_)
  refine lv_iconst hx hb dX5_start_6 kci_0 ?_
  refine lv_istore_n hx hb dX5_start_7 rfl hl (by decide) (lv' := [(3, .int (0 : Int32)), (0, .ref (a0 0)), (1, .int p1), (2, .ref (a1 0))]) rfl (fun ls hl => ?_)
  obtain ⟨K3, eK3, hf⟩ := gltd hf
  have kK3 : ∀ (s0_4 : SbT) (ls : Array Slot) (H : Heap) (locs : List Loc), K3 s0_4 = some res → lv_has ls 4 [] → gP g (Sb_c g a0 s0_4 ++ Bd_c g a1 s1) H → va_D A (Sb_c g a0 s0_4 ++ Bd_c g a1 s1) → va_S A s.heap H locs → W p l e rm_X5_start s m args below meth c H locs 0 0 Q (F0 m 34 ls []) := by
    intro s0_4 ls H locs hf hl hP hD hS
    rw [eK3] at hf
    cases hf
    exact hq () rfl hP hD hS dX5_start_34
  have lpn8 : ∀ (n8 : Nat) (x3_5 : Int32) (s0_6 : SbT) (ls : Array Slot) (H : Heap) (locs : List Loc), f_X5_start_L8_7 p1 K3 n8 x3_5 s0_6 = some res → lv_has ls 4 [(0, .ref (a0 0)), (1, .int p1), (3, .int x3_5)] → gP g (Sb_c g a0 s0_6 ++ Bd_c g a1 s1) H → va_D A (Sb_c g a0 s0_6 ++ Bd_c g a1 s1) → va_S A s.heap H locs → W p l e rm_X5_start s m args below meth c H locs 0 0 Q (F0 m 8 ls []) := by
    intro n8
    induction n8 with
    | zero => intro x3_5 s0_6 ls H locs hf hl hP hD hS; rw [f_X5_start_L8_7] at hf; cases hf
    | succ n8 ihn8 =>
      intro x3_5 s0_6 ls H locs hf hl hP hD hS
      rw [f_X5_start_L8_7] at hf
      refine lv_iload_n hx hb dX5_start_8 rfl (lv_at hl 2 rfl) ?_
      refine lv_sipush hx hb dX5_start_9 kcs_648 ?_
      refine lv_icmp_ge hx hb dX5_start_12 (tgt := 34) rfl (fun h9 => ?_) (fun h9 => ?_)
      · have hf := gif_t h9 hf
        exact kK3 s0_6 ls H locs hf (lv_sub hl [] rfl) hP hD hS
      · have hf := gif_f h9 hf
        refine lv_aload_n hx hb dX5_start_15 rfl (lv_at hl 0 rfl) ?_
        refine g_get hE okX5 fl_X5_18 hP 0 rfl (v := .ref (a0 3)) rfl dX5_start_16 ?_
        refine lv_iload_n hx hb dX5_start_19 rfl (lv_at hl 1 rfl) ?_
        refine lv_sipush hx hb dX5_start_20 kcs_648 ?_
        refine lv_imul hx hb dX5_start_23 ?_
        refine lv_iload_n hx hb dX5_start_24 rfl (lv_at hl 2 rfl) ?_
        refine lv_iadd hx hb dX5_start_25 ?_
        refine lv_iconst hx hb dX5_start_26 kci_0 ?_
        obtain ⟨hg10, hf⟩ := ggd hf
        refine g_iast hE hP hD hS 3 (f := (Sb_differences s0_6)) rfl hg10 (Sb_c g a0 (Sb_w_differences s0_6 (upd (Sb_differences s0_6) (ix ((p1 * (648 : Int32)) + x3_5)) (0 : Int32))) ++ Bd_c g a1 s1) rfl dX5_start_27 (fun H locs hP hD hS => ?_)
        refine lv_iinc hx hb dX5_start_28 hl (k := 2) (x := x3_5) rfl (kinc_1 _) (by decide) (lv' := [(3, .int (x3_5 + (1 : Int32))), (0, .ref (a0 0)), (1, .int p1)]) rfl (fun ls hl => ?_)
        refine lv_goto hx hb dX5_start_31 (tgt := 8) rfl ?_
        exact ihn8 (x3_5 + (1 : Int32)) (Sb_w_differences s0_6 (upd (Sb_differences s0_6) (ix ((p1 * (648 : Int32)) + x3_5)) (0 : Int32))) ls H locs hf (lv_sub hl [1, 2, 0] rfl) hP hD hS
  exact lpn8 10000 (0 : Int32) r1 ls H locs hf (lv_sub hl [1, 2, 0] rfl) hP hD hS
theorem dX5_copyFrom_0 : decode cX5_copyFrom 0 = .ok (.aload_n 1, 1) := by decide +kernel
theorem dX5_copyFrom_1 : decode cX5_copyFrom 1 = .ok (.getfield 11, 3) := by decide +kernel
theorem dX5_copyFrom_4 : decode cX5_copyFrom 4 = .ok (.iconst 0, 1) := by decide +kernel
theorem dX5_copyFrom_5 : decode cX5_copyFrom 5 = .ok (.aload_n 0, 1) := by decide +kernel
theorem dX5_copyFrom_6 : decode cX5_copyFrom 6 = .ok (.getfield 11, 3) := by decide +kernel
theorem dX5_copyFrom_9 : decode cX5_copyFrom 9 = .ok (.iconst 0, 1) := by decide +kernel
theorem dX5_copyFrom_10 : decode cX5_copyFrom 10 = .ok (.iconst 4, 1) := by decide +kernel
theorem dX5_copyFrom_11 : decode cX5_copyFrom 11 = .ok (.invokestatic 62, 3) := by decide +kernel
theorem dX5_copyFrom_14 : decode cX5_copyFrom 14 = .ok (.aload_n 1, 1) := by decide +kernel
theorem dX5_copyFrom_15 : decode cX5_copyFrom 15 = .ok (.getfield 15, 3) := by decide +kernel
theorem dX5_copyFrom_18 : decode cX5_copyFrom 18 = .ok (.iconst 0, 1) := by decide +kernel
theorem dX5_copyFrom_19 : decode cX5_copyFrom 19 = .ok (.aload_n 0, 1) := by decide +kernel
theorem dX5_copyFrom_20 : decode cX5_copyFrom 20 = .ok (.getfield 15, 3) := by decide +kernel
theorem dX5_copyFrom_23 : decode cX5_copyFrom 23 = .ok (.iconst 0, 1) := by decide +kernel
theorem dX5_copyFrom_24 : decode cX5_copyFrom 24 = .ok (.sipush 2592, 3) := by decide +kernel
theorem dX5_copyFrom_27 : decode cX5_copyFrom 27 = .ok (.invokestatic 62, 3) := by decide +kernel
theorem dX5_copyFrom_30 : decode cX5_copyFrom 30 = .ok (.aload_n 1, 1) := by decide +kernel
theorem dX5_copyFrom_31 : decode cX5_copyFrom 31 = .ok (.getfield 18, 3) := by decide +kernel
theorem dX5_copyFrom_34 : decode cX5_copyFrom 34 = .ok (.iconst 0, 1) := by decide +kernel
theorem dX5_copyFrom_35 : decode cX5_copyFrom 35 = .ok (.aload_n 0, 1) := by decide +kernel
theorem dX5_copyFrom_36 : decode cX5_copyFrom 36 = .ok (.getfield 18, 3) := by decide +kernel
theorem dX5_copyFrom_39 : decode cX5_copyFrom 39 = .ok (.iconst 0, 1) := by decide +kernel
theorem dX5_copyFrom_40 : decode cX5_copyFrom 40 = .ok (.sipush 2592, 3) := by decide +kernel
theorem dX5_copyFrom_43 : decode cX5_copyFrom 43 = .ok (.invokestatic 62, 3) := by decide +kernel
theorem dX5_copyFrom_46 : decode cX5_copyFrom 46 = .ok (.return_, 1) := by decide +kernel
def f_X5_copyFrom (s0 : SbT) (s1 : SbT) : Option (SbT) :=
  if cpok (0 : Int32) (0 : Int32) (4 : Int32) 4 4 then if cpok (0 : Int32) (0 : Int32) (2592 : Int32) 2592 2592 then if cpok (0 : Int32) (0 : Int32) (2592 : Int32) 2592 2592 then some ((Sb_w_differences (Sb_w_holds (Sb_w_seen s0 (va_cpy (Sb_seen s1) (Sb_seen s0) (ix (0 : Int32)) (ix (0 : Int32)) (ix (4 : Int32)))) (va_cpy (Sb_holds s1) (Sb_holds s0) (ix (0 : Int32)) (ix (0 : Int32)) (ix (2592 : Int32)))) (va_cpy (Sb_differences s1) (Sb_differences s0) (ix (0 : Int32)) (ix (0 : Int32)) (ix (2592 : Int32))))) else none else none else none
abbrev rm_X5_copyFrom : Room := { frames := 1, cells := 0, slots := 0, locals := 40 }
set_option maxHeartbeats 4000000 in
set_option maxRecDepth 100000 in
theorem c_X5_copyFrom (l : Launch) (g : GK) (a0 : Nat → Nat) (s0 : SbT) (a1 : Nat → Nat) (s1 : SbT) (res : (SbT)) (hf : f_X5_copyFrom s0 s1 = some res) : gM l yX5_copyFrom cX5_copyFrom 2 none rm_X5_copyFrom g [.ref (a0 0), .ref (a1 0)] (Sb_c g a0 s0 ++ Sb_c g a1 s1) (fun _ : Unit => none) (fun _ => (Sb_c g a0 res ++ Sb_c g a1 s1)) 0 0 := by
  refine gM_introV RX5 (by decide) rfl (Nat.le_of_ble_eq_true rfl) (fun p e s m args below meth c Q H locs ls A hE hnm hZ hA hP hD hS hq hl => ?_)
  have hl : lv_has ls 2 [(0, .ref (a0 0)), (1, .ref (a1 0))] := hl
  have hx := hE.1
  have hb := hE.2.1
  rw [f_X5_copyFrom] at hf
  refine lv_aload_n hx hb dX5_copyFrom_0 rfl (lv_at hl 1 rfl) ?_
  refine g_get hE okX5 fl_X5_11 hP 4 rfl (v := .ref (a1 1)) rfl dX5_copyFrom_1 ?_
  refine lv_iconst hx hb dX5_copyFrom_4 kci_0 ?_
  refine lv_aload_n hx hb dX5_copyFrom_5 rfl (lv_at hl 0 rfl) ?_
  refine g_get hE okX5 fl_X5_11 hP 0 rfl (v := .ref (a0 1)) rfl dX5_copyFrom_6 ?_
  refine lv_iconst hx hb dX5_copyFrom_9 kci_0 ?_
  refine lv_iconst hx hb dX5_copyFrom_10 kci_4 ?_
  obtain ⟨hg1, hf⟩ := ggd hf
  refine g_copyi hE hl.1 km_X5_62 hP hD hS 5 1 (f := (Sb_seen s1)) (f2 := (Sb_seen s0)) rfl rfl hg1 (Nat.le_of_ble_eq_true rfl) (rest := []) (Nat.le_of_ble_eq_true rfl) (Sb_c g a0 (Sb_w_seen s0 (va_cpy (Sb_seen s1) (Sb_seen s0) (ix (0 : Int32)) (ix (0 : Int32)) (ix (4 : Int32)))) ++ Sb_c g a1 s1) rfl dX5_copyFrom_11 (fun H locs hP hD hS => ?_)
  refine lv_aload_n hx hb dX5_copyFrom_14 rfl (lv_at hl 1 rfl) ?_
  refine g_get hE okX5 fl_X5_15 hP 4 rfl (v := .ref (a1 2)) rfl dX5_copyFrom_15 ?_
  refine lv_iconst hx hb dX5_copyFrom_18 kci_0 ?_
  refine lv_aload_n hx hb dX5_copyFrom_19 rfl (lv_at hl 0 rfl) ?_
  refine g_get hE okX5 fl_X5_15 hP 0 rfl (v := .ref (a0 2)) rfl dX5_copyFrom_20 ?_
  refine lv_iconst hx hb dX5_copyFrom_23 kci_0 ?_
  refine lv_sipush hx hb dX5_copyFrom_24 kcs_2592 ?_
  obtain ⟨hg2, hf⟩ := ggd hf
  refine g_copyi hE hl.1 km_X5_62 hP hD hS 6 2 (f := (Sb_holds s1)) (f2 := (Sb_holds s0)) rfl rfl hg2 (Nat.le_of_ble_eq_true rfl) (rest := []) (Nat.le_of_ble_eq_true rfl) (Sb_c g a0 (Sb_w_holds (Sb_w_seen s0 (va_cpy (Sb_seen s1) (Sb_seen s0) (ix (0 : Int32)) (ix (0 : Int32)) (ix (4 : Int32)))) (va_cpy (Sb_holds s1) (Sb_holds s0) (ix (0 : Int32)) (ix (0 : Int32)) (ix (2592 : Int32)))) ++ Sb_c g a1 s1) rfl dX5_copyFrom_27 (fun H locs hP hD hS => ?_)
  refine lv_aload_n hx hb dX5_copyFrom_30 rfl (lv_at hl 1 rfl) ?_
  refine g_get hE okX5 fl_X5_18 hP 4 rfl (v := .ref (a1 3)) rfl dX5_copyFrom_31 ?_
  refine lv_iconst hx hb dX5_copyFrom_34 kci_0 ?_
  refine lv_aload_n hx hb dX5_copyFrom_35 rfl (lv_at hl 0 rfl) ?_
  refine g_get hE okX5 fl_X5_18 hP 0 rfl (v := .ref (a0 3)) rfl dX5_copyFrom_36 ?_
  refine lv_iconst hx hb dX5_copyFrom_39 kci_0 ?_
  refine lv_sipush hx hb dX5_copyFrom_40 kcs_2592 ?_
  obtain ⟨hg3, hf⟩ := ggd hf
  refine g_copyi hE hl.1 km_X5_62 hP hD hS 7 3 (f := (Sb_differences s1)) (f2 := (Sb_differences s0)) rfl rfl hg3 (Nat.le_of_ble_eq_true rfl) (rest := []) (Nat.le_of_ble_eq_true rfl) (Sb_c g a0 (Sb_w_differences (Sb_w_holds (Sb_w_seen s0 (va_cpy (Sb_seen s1) (Sb_seen s0) (ix (0 : Int32)) (ix (0 : Int32)) (ix (4 : Int32)))) (va_cpy (Sb_holds s1) (Sb_holds s0) (ix (0 : Int32)) (ix (0 : Int32)) (ix (2592 : Int32)))) (va_cpy (Sb_differences s1) (Sb_differences s0) (ix (0 : Int32)) (ix (0 : Int32)) (ix (2592 : Int32)))) ++ Sb_c g a1 s1) rfl dX5_copyFrom_43 (fun H locs hP hD hS => ?_)
  cases hf
  exact hq () rfl hP hD hS dX5_copyFrom_46
