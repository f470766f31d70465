abbrev LgT : Type := (Nat → Int32) × (Nat → Int32) × (Nat → Int32) × (Nat → Int32) × Int32 × Int32 × Int32 × Int32 × Int32 × Int32 × Int32
abbrev Lg_places (s : LgT) : (Nat → Int32) := s.1
abbrev Lg_amounts (s : LgT) : (Nat → Int32) := s.2.1
abbrev Lg_numbers (s : LgT) : (Nat → Int32) := s.2.2.1
abbrev Lg_byKey (s : LgT) : (Nat → Int32) := s.2.2.2.1
abbrev Lg_total (s : LgT) : Int32 := s.2.2.2.2.1
abbrev Lg_came (s : LgT) : Int32 := s.2.2.2.2.2.1
abbrev Lg_went (s : LgT) : Int32 := s.2.2.2.2.2.2.1
abbrev Lg_acts (s : LgT) : Int32 := s.2.2.2.2.2.2.2.1
abbrev Lg_inAct (s : LgT) : Int32 := s.2.2.2.2.2.2.2.2.1
abbrev Lg_most (s : LgT) : Int32 := s.2.2.2.2.2.2.2.2.2.1
abbrev Lg_actOfMost (s : LgT) : Int32 := s.2.2.2.2.2.2.2.2.2.2
abbrev Lg_mk (x0 : (Nat → Int32)) (x1 : (Nat → Int32)) (x2 : (Nat → Int32)) (x3 : (Nat → Int32)) (x4 : Int32) (x5 : Int32) (x6 : Int32) (x7 : Int32) (x8 : Int32) (x9 : Int32) (x10 : Int32) : LgT := (x0, x1, x2, x3, x4, x5, x6, x7, x8, x9, x10)
abbrev Lg_w_places (s : LgT) (v : (Nat → Int32)) : LgT := (v, s.2.1, s.2.2.1, s.2.2.2.1, s.2.2.2.2.1, s.2.2.2.2.2.1, s.2.2.2.2.2.2.1, s.2.2.2.2.2.2.2.1, s.2.2.2.2.2.2.2.2.1, s.2.2.2.2.2.2.2.2.2.1, s.2.2.2.2.2.2.2.2.2.2)
abbrev Lg_w_amounts (s : LgT) (v : (Nat → Int32)) : LgT := (s.1, v, s.2.2.1, s.2.2.2.1, s.2.2.2.2.1, s.2.2.2.2.2.1, s.2.2.2.2.2.2.1, s.2.2.2.2.2.2.2.1, s.2.2.2.2.2.2.2.2.1, s.2.2.2.2.2.2.2.2.2.1, s.2.2.2.2.2.2.2.2.2.2)
abbrev Lg_w_numbers (s : LgT) (v : (Nat → Int32)) : LgT := (s.1, s.2.1, v, s.2.2.2.1, s.2.2.2.2.1, s.2.2.2.2.2.1, s.2.2.2.2.2.2.1, s.2.2.2.2.2.2.2.1, s.2.2.2.2.2.2.2.2.1, s.2.2.2.2.2.2.2.2.2.1, s.2.2.2.2.2.2.2.2.2.2)
abbrev Lg_w_byKey (s : LgT) (v : (Nat → Int32)) : LgT := (s.1, s.2.1, s.2.2.1, v, s.2.2.2.2.1, s.2.2.2.2.2.1, s.2.2.2.2.2.2.1, s.2.2.2.2.2.2.2.1, s.2.2.2.2.2.2.2.2.1, s.2.2.2.2.2.2.2.2.2.1, s.2.2.2.2.2.2.2.2.2.2)
abbrev Lg_w_total (s : LgT) (v : Int32) : LgT := (s.1, s.2.1, s.2.2.1, s.2.2.2.1, v, s.2.2.2.2.2.1, s.2.2.2.2.2.2.1, s.2.2.2.2.2.2.2.1, s.2.2.2.2.2.2.2.2.1, s.2.2.2.2.2.2.2.2.2.1, s.2.2.2.2.2.2.2.2.2.2)
abbrev Lg_w_came (s : LgT) (v : Int32) : LgT := (s.1, s.2.1, s.2.2.1, s.2.2.2.1, s.2.2.2.2.1, v, s.2.2.2.2.2.2.1, s.2.2.2.2.2.2.2.1, s.2.2.2.2.2.2.2.2.1, s.2.2.2.2.2.2.2.2.2.1, s.2.2.2.2.2.2.2.2.2.2)
abbrev Lg_w_went (s : LgT) (v : Int32) : LgT := (s.1, s.2.1, s.2.2.1, s.2.2.2.1, s.2.2.2.2.1, s.2.2.2.2.2.1, v, s.2.2.2.2.2.2.2.1, s.2.2.2.2.2.2.2.2.1, s.2.2.2.2.2.2.2.2.2.1, s.2.2.2.2.2.2.2.2.2.2)
abbrev Lg_w_acts (s : LgT) (v : Int32) : LgT := (s.1, s.2.1, s.2.2.1, s.2.2.2.1, s.2.2.2.2.1, s.2.2.2.2.2.1, s.2.2.2.2.2.2.1, v, s.2.2.2.2.2.2.2.2.1, s.2.2.2.2.2.2.2.2.2.1, s.2.2.2.2.2.2.2.2.2.2)
abbrev Lg_w_inAct (s : LgT) (v : Int32) : LgT := (s.1, s.2.1, s.2.2.1, s.2.2.2.1, s.2.2.2.2.1, s.2.2.2.2.2.1, s.2.2.2.2.2.2.1, s.2.2.2.2.2.2.2.1, v, s.2.2.2.2.2.2.2.2.2.1, s.2.2.2.2.2.2.2.2.2.2)
abbrev Lg_w_most (s : LgT) (v : Int32) : LgT := (s.1, s.2.1, s.2.2.1, s.2.2.2.1, s.2.2.2.2.1, s.2.2.2.2.2.1, s.2.2.2.2.2.2.1, s.2.2.2.2.2.2.2.1, s.2.2.2.2.2.2.2.2.1, v, s.2.2.2.2.2.2.2.2.2.2)
abbrev Lg_w_actOfMost (s : LgT) (v : Int32) : LgT := (s.1, s.2.1, s.2.2.1, s.2.2.2.1, s.2.2.2.2.1, s.2.2.2.2.2.1, s.2.2.2.2.2.2.1, s.2.2.2.2.2.2.2.1, s.2.2.2.2.2.2.2.2.1, s.2.2.2.2.2.2.2.2.2.1, v)
abbrev Lg_c (g : GK) (a : Nat → Nat) (s : LgT) : va_W := [(a 0, .inr (3, [.ref (a 1), .ref (a 2), .ref (a 3), .ref (a 4), .int (Lg_total s), .int (Lg_came s), .int (Lg_went s), .int (Lg_acts s), .int (Lg_inAct s), .int (Lg_most s), .int (Lg_actOfMost s)])), (a 1, .inl (g.2.1, 60, .inl (Lg_places s))), (a 2, .inl (g.2.1, 60, .inl (Lg_amounts s))), (a 3, .inl (g.2.1, 60, .inl (Lg_numbers s))), (a 4, .inl (g.2.1, 8, .inl (Lg_byKey s)))]
theorem km_X2_71 : Cond.methodLink RX2 71 arraycopyName ∈ TBL := tb (in5 (List.mem_of_getElem? (i := 153) (by decide +kernel))) (by decide +kernel)
theorem kcb_60 : (Int8.ofInt (60)).toInt32 = (60 : Int32) := by decide
theorem kci_4 : Int32.ofInt (4) = (4 : Int32) := by decide
theorem kd_X2_60 : Cond.constant RX2 60 (-2147483648 : Int32) ∈ TBL := tb (in4 (List.mem_of_getElem? (i := 228) (by decide +kernel))) (by decide +kernel)
theorem km_X2_46 : Cond.methodLink RX2 46 Lib.Math.min.name ∈ TBL := tb (in4 (List.mem_of_getElem? (i := 222) (by decide +kernel))) (by decide +kernel)
theorem kne_60 : ¬ (60 : Int32) = 0 := by decide
theorem dX2_openAct_0 : decode cX2_openAct 0 = .ok (.aload_n 0, 1) := by decide +kernel
theorem dX2_openAct_1 : decode cX2_openAct 1 = .ok (.dup, 1) := by decide +kernel
theorem dX2_openAct_2 : decode cX2_openAct 2 = .ok (.getfield 34, 3) := by decide +kernel
theorem dX2_openAct_5 : decode cX2_openAct 5 = .ok (.iconst 1, 1) := by decide +kernel
theorem dX2_openAct_6 : decode cX2_openAct 6 = .ok (.iadd, 1) := by decide +kernel
theorem dX2_openAct_7 : decode cX2_openAct 7 = .ok (.putfield 34, 3) := by decide +kernel
theorem dX2_openAct_10 : decode cX2_openAct 10 = .ok (.aload_n 0, 1) := by decide +kernel
theorem dX2_openAct_11 : decode cX2_openAct 11 = .ok (.iconst 0, 1) := by decide +kernel
theorem dX2_openAct_12 : decode cX2_openAct 12 = .ok (.putfield 37, 3) := by decide +kernel
theorem dX2_openAct_15 : decode cX2_openAct 15 = .ok (.return_, 1) := by decide +kernel
def f_X2_openAct (s0 : LgT) : Option (LgT) :=
  some ((Lg_w_inAct (Lg_w_acts s0 ((Lg_acts s0) + (1 : Int32))) (0 : Int32)))
abbrev rm_X2_openAct : Room := { frames := 0, cells := 0, slots := 0, locals := 0 }
set_option maxHeartbeats 4000000 in
set_option maxRecDepth 100000 in
theorem c_X2_openAct (l : Launch) (g : GK) (a0 : Nat → Nat) (s0 : LgT) (res : (LgT)) (hf : f_X2_openAct s0 = some res) : gM l yX2_openAct cX2_openAct 1 none rm_X2_openAct g [.ref (a0 0)] (Lg_c g a0 s0) (fun _ : Unit => none) (fun _ => (Lg_c g a0 res)) 0 0 := by
  refine gM_introV RX2 (by decide) rfl (Nat.le_of_ble_eq_true rfl) (fun p e s m args below meth c Q H locs ls A hE hnm hZ hA hP hD hS hq hl => ?_)
  have hl : lv_has ls 1 [(0, .ref (a0 0))] := hl
  have hx := hE.1
  have hb := hE.2.1
  rw [f_X2_openAct] at hf
  refine lv_aload_n hx hb dX2_openAct_0 rfl (lv_at hl 0 rfl) ?_
  refine lv_dup hx hb dX2_openAct_1 rfl ?_
  refine g_get hE okX2 fl_X2_34 hP 0 rfl (v := .int (Lg_acts s0)) rfl dX2_openAct_2 ?_
  refine lv_iconst hx hb dX2_openAct_5 kci_1 ?_
  refine lv_iadd hx hb dX2_openAct_6 ?_
  refine g_put hE okX2 fl_X2_34 hP hD hS 0 rfl rfl rfl rfl (Nat.le_of_ble_eq_true rfl) (Lg_c g a0 (Lg_w_acts s0 ((Lg_acts s0) + (1 : Int32)))) rfl dX2_openAct_7 (fun H locs hP hD hS => ?_)
  refine lv_aload_n hx hb dX2_openAct_10 rfl (lv_at hl 0 rfl) ?_
  refine lv_iconst hx hb dX2_openAct_11 kci_0 ?_
  refine g_put hE okX2 fl_X2_37 hP hD hS 0 rfl rfl rfl rfl (Nat.le_of_ble_eq_true rfl) (Lg_c g a0 (Lg_w_inAct (Lg_w_acts s0 ((Lg_acts s0) + (1 : Int32))) (0 : Int32))) rfl dX2_openAct_12 (fun H locs hP hD hS => ?_)
  cases hf
  exact hq () rfl hP hD hS dX2_openAct_15
theorem dX2_note_0 : decode cX2_note 0 = .ok (.aload_n 0, 1) := by decide +kernel
theorem dX2_note_1 : decode cX2_note 1 = .ok (.getfield 24, 3) := by decide +kernel
theorem dX2_note_4 : decode cX2_note 4 = .ok (.bipush 60, 2) := by decide +kernel
theorem dX2_note_6 : decode cX2_note 6 = .ok (.irem, 1) := by decide +kernel
theorem dX2_note_7 : decode cX2_note 7 = .ok (.istore 4, 2) := by decide +kernel
theorem dX2_note_9 : decode cX2_note 9 = .ok (.aload_n 0, 1) := by decide +kernel
theorem dX2_note_10 : decode cX2_note 10 = .ok (.getfield 11, 3) := by decide +kernel
theorem dX2_note_13 : decode cX2_note 13 = .ok (.iload 4, 2) := by decide +kernel
theorem dX2_note_15 : decode cX2_note 15 = .ok (.iload_n 2, 1) := by decide +kernel
theorem dX2_note_16 : decode cX2_note 16 = .ok (.iastore, 1) := by decide +kernel
theorem dX2_note_17 : decode cX2_note 17 = .ok (.aload_n 0, 1) := by decide +kernel
theorem dX2_note_18 : decode cX2_note 18 = .ok (.getfield 15, 3) := by decide +kernel
theorem dX2_note_21 : decode cX2_note 21 = .ok (.iload 4, 2) := by decide +kernel
theorem dX2_note_23 : decode cX2_note 23 = .ok (.iload_n 3, 1) := by decide +kernel
theorem dX2_note_24 : decode cX2_note 24 = .ok (.iastore, 1) := by decide +kernel
theorem dX2_note_25 : decode cX2_note 25 = .ok (.aload_n 0, 1) := by decide +kernel
theorem dX2_note_26 : decode cX2_note 26 = .ok (.getfield 18, 3) := by decide +kernel
theorem dX2_note_29 : decode cX2_note 29 = .ok (.iload 4, 2) := by decide +kernel
theorem dX2_note_31 : decode cX2_note 31 = .ok (.aload_n 0, 1) := by decide +kernel
theorem dX2_note_32 : decode cX2_note 32 = .ok (.getfield 34, 3) := by decide +kernel
theorem dX2_note_35 : decode cX2_note 35 = .ok (.iastore, 1) := by decide +kernel
theorem dX2_note_36 : decode cX2_note 36 = .ok (.aload_n 0, 1) := by decide +kernel
theorem dX2_note_37 : decode cX2_note 37 = .ok (.dup, 1) := by decide +kernel
theorem dX2_note_38 : decode cX2_note 38 = .ok (.getfield 24, 3) := by decide +kernel
theorem dX2_note_41 : decode cX2_note 41 = .ok (.iconst 1, 1) := by decide +kernel
theorem dX2_note_42 : decode cX2_note 42 = .ok (.iadd, 1) := by decide +kernel
theorem dX2_note_43 : decode cX2_note 43 = .ok (.putfield 24, 3) := by decide +kernel
theorem dX2_note_46 : decode cX2_note 46 = .ok (.aload_n 0, 1) := by decide +kernel
theorem dX2_note_47 : decode cX2_note 47 = .ok (.getfield 21, 3) := by decide +kernel
theorem dX2_note_50 : decode cX2_note 50 = .ok (.iload_n 1, 1) := by decide +kernel
theorem dX2_note_51 : decode cX2_note 51 = .ok (.dup2, 1) := by decide +kernel
theorem dX2_note_52 : decode cX2_note 52 = .ok (.iaload, 1) := by decide +kernel
theorem dX2_note_53 : decode cX2_note 53 = .ok (.iconst 1, 1) := by decide +kernel
theorem dX2_note_54 : decode cX2_note 54 = .ok (.iadd, 1) := by decide +kernel
theorem dX2_note_55 : decode cX2_note 55 = .ok (.iastore, 1) := by decide +kernel
theorem dX2_note_56 : decode cX2_note 56 = .ok (.iload_n 3, 1) := by decide +kernel
theorem dX2_note_57 : decode cX2_note 57 = .ok (.ifCond .le 16, 3) := by decide +kernel
theorem dX2_note_60 : decode cX2_note 60 = .ok (.aload_n 0, 1) := by decide +kernel
theorem dX2_note_61 : decode cX2_note 61 = .ok (.dup, 1) := by decide +kernel
theorem dX2_note_62 : decode cX2_note 62 = .ok (.getfield 28, 3) := by decide +kernel
theorem dX2_note_65 : decode cX2_note 65 = .ok (.iload_n 3, 1) := by decide +kernel
theorem dX2_note_66 : decode cX2_note 66 = .ok (.iadd, 1) := by decide +kernel
theorem dX2_note_67 : decode cX2_note 67 = .ok (.putfield 28, 3) := by decide +kernel
theorem dX2_note_70 : decode cX2_note 70 = .ok (.goto 13, 3) := by decide +kernel
theorem dX2_note_73 : decode cX2_note 73 = .ok (.aload_n 0, 1) := by decide +kernel
theorem dX2_note_74 : decode cX2_note 74 = .ok (.dup, 1) := by decide +kernel
theorem dX2_note_75 : decode cX2_note 75 = .ok (.getfield 31, 3) := by decide +kernel
theorem dX2_note_78 : decode cX2_note 78 = .ok (.iload_n 3, 1) := by decide +kernel
theorem dX2_note_79 : decode cX2_note 79 = .ok (.isub, 1) := by decide +kernel
theorem dX2_note_80 : decode cX2_note 80 = .ok (.putfield 31, 3) := by decide +kernel
theorem dX2_note_83 : decode cX2_note 83 = .ok (.aload_n 0, 1) := by decide +kernel
theorem dX2_note_84 : decode cX2_note 84 = .ok (.dup, 1) := by decide +kernel
theorem dX2_note_85 : decode cX2_note 85 = .ok (.getfield 37, 3) := by decide +kernel
theorem dX2_note_88 : decode cX2_note 88 = .ok (.iconst 1, 1) := by decide +kernel
theorem dX2_note_89 : decode cX2_note 89 = .ok (.iadd, 1) := by decide +kernel
theorem dX2_note_90 : decode cX2_note 90 = .ok (.putfield 37, 3) := by decide +kernel
theorem dX2_note_93 : decode cX2_note 93 = .ok (.aload_n 0, 1) := by decide +kernel
theorem dX2_note_94 : decode cX2_note 94 = .ok (.getfield 37, 3) := by decide +kernel
theorem dX2_note_97 : decode cX2_note 97 = .ok (.aload_n 0, 1) := by decide +kernel
theorem dX2_note_98 : decode cX2_note 98 = .ok (.getfield 40, 3) := by decide +kernel
theorem dX2_note_101 : decode cX2_note 101 = .ok (.if_icmp .le 19, 3) := by decide +kernel
theorem dX2_note_104 : decode cX2_note 104 = .ok (.aload_n 0, 1) := by decide +kernel
theorem dX2_note_105 : decode cX2_note 105 = .ok (.aload_n 0, 1) := by decide +kernel
theorem dX2_note_106 : decode cX2_note 106 = .ok (.getfield 37, 3) := by decide +kernel
theorem dX2_note_109 : decode cX2_note 109 = .ok (.putfield 40, 3) := by decide +kernel
theorem dX2_note_112 : decode cX2_note 112 = .ok (.aload_n 0, 1) := by decide +kernel
theorem dX2_note_113 : decode cX2_note 113 = .ok (.aload_n 0, 1) := by decide +kernel
theorem dX2_note_114 : decode cX2_note 114 = .ok (.getfield 34, 3) := by decide +kernel
theorem dX2_note_117 : decode cX2_note 117 = .ok (.putfield 43, 3) := by decide +kernel
theorem dX2_note_120 : decode cX2_note 120 = .ok (.return_, 1) := by decide +kernel
def f_X2_note (s0 : LgT) (p1 : Int32) (p2 : Int32) (p3 : Int32) : Option (LgT) :=
  if inb (irem (Lg_total s0) (60 : Int32)) 60 then if inb (irem (Lg_total s0) (60 : Int32)) 60 then if inb (irem (Lg_total s0) (60 : Int32)) 60 then if inb p1 8 then if inb p1 8 then glt (fun (s0_7 : LgT) => if ((Lg_inAct s0_7) + (1 : Int32)) ≤ (Lg_most s0_7) then some ((Lg_w_inAct s0_7 ((Lg_inAct s0_7) + (1 : Int32))))
  else some ((Lg_w_actOfMost (Lg_w_most (Lg_w_inAct s0_7 ((Lg_inAct s0_7) + (1 : Int32))) ((Lg_inAct s0_7) + (1 : Int32))) (Lg_acts s0_7)))) fun J6 =>
  if p3 ≤ 0 then J6 (Lg_w_went (Lg_w_total (Lg_w_byKey (Lg_w_numbers (Lg_w_amounts (Lg_w_places s0 (upd (Lg_places s0) (ix (irem (Lg_total s0) (60 : Int32))) p2)) (upd (Lg_amounts s0) (ix (irem (Lg_total s0) (60 : Int32))) p3)) (upd (Lg_numbers s0) (ix (irem (Lg_total s0) (60 : Int32))) (Lg_acts s0))) (upd (Lg_byKey s0) (ix p1) (((Lg_byKey s0) (ix p1)) + (1 : Int32)))) ((Lg_total s0) + (1 : Int32))) ((Lg_went s0) - p3))
  else J6 (Lg_w_came (Lg_w_total (Lg_w_byKey (Lg_w_numbers (Lg_w_amounts (Lg_w_places s0 (upd (Lg_places s0) (ix (irem (Lg_total s0) (60 : Int32))) p2)) (upd (Lg_amounts s0) (ix (irem (Lg_total s0) (60 : Int32))) p3)) (upd (Lg_numbers s0) (ix (irem (Lg_total s0) (60 : Int32))) (Lg_acts s0))) (upd (Lg_byKey s0) (ix p1) (((Lg_byKey s0) (ix p1)) + (1 : Int32)))) ((Lg_total s0) + (1 : Int32))) ((Lg_came s0) + p3)) else none else none else none else none else none
abbrev rm_X2_note : Room := { frames := 0, cells := 0, slots := 0, locals := 0 }
set_option maxHeartbeats 4000000 in
set_option maxRecDepth 100000 in
theorem c_X2_note (l : Launch) (g : GK) (a0 : Nat → Nat) (s0 : LgT) (p1 : Int32) (p2 : Int32) (p3 : Int32) (res : (LgT)) (hf : f_X2_note s0 p1 p2 p3 = some res) : gM l yX2_note cX2_note 5 none rm_X2_note g [.ref (a0 0), .int p1, .int p2, .int p3] (Lg_c g a0 s0) (fun _ : Unit => none) (fun _ => (Lg_c g a0 res)) 0 0 := by
  refine gM_introV RX2 (by decide) rfl (Nat.le_of_ble_eq_true rfl) (fun p e s m args below meth c Q H locs ls A hE hnm hZ hA hP hD hS hq hl => ?_)
  have hl : lv_has ls 5 [(0, .ref (a0 0)), (1, .int p1), (2, .int p2), (3, .int p3)] := hl
  have hx := hE.1
  have hb := hE.2.1
  rw [f_X2_note] at hf
  refine lv_aload_n hx hb dX2_note_0 rfl (lv_at hl 0 rfl) ?_
  refine g_get hE okX2 fl_X2_24 hP 0 rfl (v := .int (Lg_total s0)) rfl dX2_note_1 ?_
  refine lv_bipush hx hb dX2_note_4 kcb_60 ?_
  refine lv_irem hx hb dX2_note_6 kne_60 ?_
  refine lv_istore hx hb dX2_note_7 hl (by decide) (lv' := [(4, .int (irem (Lg_total s0) (60 : Int32))), (0, .ref (a0 0)), (1, .int p1), (2, .int p2), (3, .int p3)]) rfl (fun ls hl => ?_)
  refine lv_aload_n hx hb dX2_note_9 rfl (lv_at hl 1 rfl) ?_
  refine g_get hE okX2 fl_X2_11 hP 0 rfl (v := .ref (a0 1)) rfl dX2_note_10 ?_
  refine lv_iload hx hb dX2_note_13 (lv_at hl 0 rfl) ?_
  refine lv_iload_n hx hb dX2_note_15 rfl (lv_at hl 3 rfl) ?_
  obtain ⟨hg1, hf⟩ := ggd hf
  refine g_iast hE hP hD hS 1 (f := (Lg_places s0)) rfl hg1 (Lg_c g a0 (Lg_w_places s0 (upd (Lg_places s0) (ix (irem (Lg_total s0) (60 : Int32))) p2))) rfl dX2_note_16 (fun H locs hP hD hS => ?_)
  refine lv_aload_n hx hb dX2_note_17 rfl (lv_at hl 1 rfl) ?_
  refine g_get hE okX2 fl_X2_15 hP 0 rfl (v := .ref (a0 2)) rfl dX2_note_18 ?_
  refine lv_iload hx hb dX2_note_21 (lv_at hl 0 rfl) ?_
  refine lv_iload_n hx hb dX2_note_23 rfl (lv_at hl 4 rfl) ?_
  obtain ⟨hg2, hf⟩ := ggd hf
  refine g_iast hE hP hD hS 2 (f := (Lg_amounts s0)) rfl hg2 (Lg_c g a0 (Lg_w_amounts (Lg_w_places s0 (upd (Lg_places s0) (ix (irem (Lg_total s0) (60 : Int32))) p2)) (upd (Lg_amounts s0) (ix (irem (Lg_total s0) (60 : Int32))) p3))) rfl dX2_note_24 (fun H locs hP hD hS => ?_)
  refine lv_aload_n hx hb dX2_note_25 rfl (lv_at hl 1 rfl) ?_
  refine g_get hE okX2 fl_X2_18 hP 0 rfl (v := .ref (a0 3)) rfl dX2_note_26 ?_
  refine lv_iload hx hb dX2_note_29 (lv_at hl 0 rfl) ?_
  refine lv_aload_n hx hb dX2_note_31 rfl (lv_at hl 1 rfl) ?_
  refine g_get hE okX2 fl_X2_34 hP 0 rfl (v := .int (Lg_acts s0)) rfl dX2_note_32 ?_
  obtain ⟨hg3, hf⟩ := ggd hf
  refine g_iast hE hP hD hS 3 (f := (Lg_numbers s0)) rfl hg3 (Lg_c g a0 (Lg_w_numbers (Lg_w_amounts (Lg_w_places s0 (upd (Lg_places s0) (ix (irem (Lg_total s0) (60 : Int32))) p2)) (upd (Lg_amounts s0) (ix (irem (Lg_total s0) (60 : Int32))) p3)) (upd (Lg_numbers s0) (ix (irem (Lg_total s0) (60 : Int32))) (Lg_acts s0)))) rfl dX2_note_35 (fun H locs hP hD hS => ?_)
  refine lv_aload_n hx hb dX2_note_36 rfl (lv_at hl 1 rfl) ?_
  refine lv_dup hx hb dX2_note_37 rfl ?_
  refine g_get hE okX2 fl_X2_24 hP 0 rfl (v := .int (Lg_total s0)) rfl dX2_note_38 ?_
  refine lv_iconst hx hb dX2_note_41 kci_1 ?_
  refine lv_iadd hx hb dX2_note_42 ?_
  refine g_put hE okX2 fl_X2_24 hP hD hS 0 rfl rfl rfl rfl (Nat.le_of_ble_eq_true rfl) (Lg_c g a0 (Lg_w_total (Lg_w_numbers (Lg_w_amounts (Lg_w_places s0 (upd (Lg_places s0) (ix (irem (Lg_total s0) (60 : Int32))) p2)) (upd (Lg_amounts s0) (ix (irem (Lg_total s0) (60 : Int32))) p3)) (upd (Lg_numbers s0) (ix (irem (Lg_total s0) (60 : Int32))) (Lg_acts s0))) ((Lg_total s0) + (1 : Int32)))) rfl dX2_note_43 (fun H locs hP hD hS => ?_)
  refine lv_aload_n hx hb dX2_note_46 rfl (lv_at hl 1 rfl) ?_
  refine g_get hE okX2 fl_X2_21 hP 0 rfl (v := .ref (a0 4)) rfl dX2_note_47 ?_
  refine lv_iload_n hx hb dX2_note_50 rfl (lv_at hl 2 rfl) ?_
  refine lv_dup2_11 hx hb dX2_note_51 rfl rfl ?_
  obtain ⟨hg4, hf⟩ := ggd hf
  refine g_iald hE hP 4 (f := (Lg_byKey s0)) rfl hg4 dX2_note_52 ?_
  refine lv_iconst hx hb dX2_note_53 kci_1 ?_
  refine lv_iadd hx hb dX2_note_54 ?_
  obtain ⟨hg5, hf⟩ := ggd hf
  refine g_iast hE hP hD hS 4 (f := (Lg_byKey s0)) rfl hg5 (Lg_c g a0 (Lg_w_total (Lg_w_byKey (Lg_w_numbers (Lg_w_amounts (Lg_w_places s0 (upd (Lg_places s0) (ix (irem (Lg_total s0) (60 : Int32))) p2)) (upd (Lg_amounts s0) (ix (irem (Lg_total s0) (60 : Int32))) p3)) (upd (Lg_numbers s0) (ix (irem (Lg_total s0) (60 : Int32))) (Lg_acts s0))) (upd (Lg_byKey s0) (ix p1) (((Lg_byKey s0) (ix p1)) + (1 : Int32)))) ((Lg_total s0) + (1 : Int32)))) rfl dX2_note_55 (fun H locs hP hD hS => ?_)
  refine lv_iload_n hx hb dX2_note_56 rfl (lv_at hl 4 rfl) ?_
  obtain ⟨J6, eJ6, hf⟩ := gltd hf
  have kJ6 : ∀ (s0_7 : LgT) (ls : Array Slot) (H : Heap) (locs : List Loc), J6 s0_7 = some res → lv_has ls 5 [(0, .ref (a0 0))] → gP g (Lg_c g a0 s0_7) H → va_D A (Lg_c g a0 s0_7) → va_S A s.heap H locs → W p l e rm_X2_note s m args below meth c H locs 0 0 Q (F0 m 83 ls []) := by
    intro s0_7 ls H locs hf hl hP hD hS
    rw [eJ6] at hf
    refine lv_aload_n hx hb dX2_note_83 rfl (lv_at hl 0 rfl) ?_
    refine lv_dup hx hb dX2_note_84 rfl ?_
    refine g_get hE okX2 fl_X2_37 hP 0 rfl (v := .int (Lg_inAct s0_7)) rfl dX2_note_85 ?_
    refine lv_iconst hx hb dX2_note_88 kci_1 ?_
    refine lv_iadd hx hb dX2_note_89 ?_
    refine g_put hE okX2 fl_X2_37 hP hD hS 0 rfl rfl rfl rfl (Nat.le_of_ble_eq_true rfl) (Lg_c g a0 (Lg_w_inAct s0_7 ((Lg_inAct s0_7) + (1 : Int32)))) rfl dX2_note_90 (fun H locs hP hD hS => ?_)
    refine lv_aload_n hx hb dX2_note_93 rfl (lv_at hl 0 rfl) ?_
    refine g_get hE okX2 fl_X2_37 hP 0 rfl (v := .int ((Lg_inAct s0_7) + (1 : Int32))) rfl dX2_note_94 ?_
    refine lv_aload_n hx hb dX2_note_97 rfl (lv_at hl 0 rfl) ?_
    refine g_get hE okX2 fl_X2_40 hP 0 rfl (v := .int (Lg_most s0_7)) rfl dX2_note_98 ?_
    refine lv_icmp_le hx hb dX2_note_101 (tgt := 120) rfl (fun h8 => ?_) (fun h8 => ?_)
    · have hf := gif_t h8 hf
      cases hf
      exact hq () rfl hP hD hS dX2_note_120
    · have hf := gif_f h8 hf
      refine lv_aload_n hx hb dX2_note_104 rfl (lv_at hl 0 rfl) ?_
      refine lv_aload_n hx hb dX2_note_105 rfl (lv_at hl 0 rfl) ?_
      refine g_get hE okX2 fl_X2_37 hP 0 rfl (v := .int ((Lg_inAct s0_7) + (1 : Int32))) rfl dX2_note_106 ?_
      refine g_put hE okX2 fl_X2_40 hP hD hS 0 rfl rfl rfl rfl (Nat.le_of_ble_eq_true rfl) (Lg_c g a0 (Lg_w_most (Lg_w_inAct s0_7 ((Lg_inAct s0_7) + (1 : Int32))) ((Lg_inAct s0_7) + (1 : Int32)))) rfl dX2_note_109 (fun H locs hP hD hS => ?_)
      refine lv_aload_n hx hb dX2_note_112 rfl (lv_at hl 0 rfl) ?_
      refine lv_aload_n hx hb dX2_note_113 rfl (lv_at hl 0 rfl) ?_
      refine g_get hE okX2 fl_X2_34 hP 0 rfl (v := .int (Lg_acts s0_7)) rfl dX2_note_114 ?_
      refine g_put hE okX2 fl_X2_43 hP hD hS 0 rfl rfl rfl rfl (Nat.le_of_ble_eq_true rfl) (Lg_c g a0 (Lg_w_actOfMost (Lg_w_most (Lg_w_inAct s0_7 ((Lg_inAct s0_7) + (1 : Int32))) ((Lg_inAct s0_7) + (1 : Int32))) (Lg_acts s0_7))) rfl dX2_note_117 (fun H locs hP hD hS => ?_)
      cases hf
      exact hq () rfl hP hD hS dX2_note_120
  refine lv_if_le hx hb dX2_note_57 (tgt := 73) rfl (fun h9 => ?_) (fun h9 => ?_)
  · have hf := gif_t h9 hf
    refine lv_aload_n hx hb dX2_note_73 rfl (lv_at hl 1 rfl) ?_
    refine lv_dup hx hb dX2_note_74 rfl ?_
    refine g_get hE okX2 fl_X2_31 hP 0 rfl (v := .int (Lg_went s0)) rfl dX2_note_75 ?_
    refine lv_iload_n hx hb dX2_note_78 rfl (lv_at hl 4 rfl) ?_
    refine lv_isub hx hb dX2_note_79 ?_
    refine g_put hE okX2 fl_X2_31 hP hD hS 0 rfl rfl rfl rfl (Nat.le_of_ble_eq_true rfl) (Lg_c g a0 (Lg_w_went (Lg_w_total (Lg_w_byKey (Lg_w_numbers (Lg_w_amounts (Lg_w_places s0 (upd (Lg_places s0) (ix (irem (Lg_total s0) (60 : Int32))) p2)) (upd (Lg_amounts s0) (ix (irem (Lg_total s0) (60 : Int32))) p3)) (upd (Lg_numbers s0) (ix (irem (Lg_total s0) (60 : Int32))) (Lg_acts s0))) (upd (Lg_byKey s0) (ix p1) (((Lg_byKey s0) (ix p1)) + (1 : Int32)))) ((Lg_total s0) + (1 : Int32))) ((Lg_went s0) - p3))) rfl dX2_note_80 (fun H locs hP hD hS => ?_)
    exact kJ6 (Lg_w_went (Lg_w_total (Lg_w_byKey (Lg_w_numbers (Lg_w_amounts (Lg_w_places s0 (upd (Lg_places s0) (ix (irem (Lg_total s0) (60 : Int32))) p2)) (upd (Lg_amounts s0) (ix (irem (Lg_total s0) (60 : Int32))) p3)) (upd (Lg_numbers s0) (ix (irem (Lg_total s0) (60 : Int32))) (Lg_acts s0))) (upd (Lg_byKey s0) (ix p1) (((Lg_byKey s0) (ix p1)) + (1 : Int32)))) ((Lg_total s0) + (1 : Int32))) ((Lg_went s0) - p3)) ls H locs hf (lv_sub hl [1] rfl) hP hD hS
  · have hf := gif_f h9 hf
    refine lv_aload_n hx hb dX2_note_60 rfl (lv_at hl 1 rfl) ?_
    refine lv_dup hx hb dX2_note_61 rfl ?_
    refine g_get hE okX2 fl_X2_28 hP 0 rfl (v := .int (Lg_came s0)) rfl dX2_note_62 ?_
    refine lv_iload_n hx hb dX2_note_65 rfl (lv_at hl 4 rfl) ?_
    refine lv_iadd hx hb dX2_note_66 ?_
    refine g_put hE okX2 fl_X2_28 hP hD hS 0 rfl rfl rfl rfl (Nat.le_of_ble_eq_true rfl) (Lg_c g a0 (Lg_w_came (Lg_w_total (Lg_w_byKey (Lg_w_numbers (Lg_w_amounts (Lg_w_places s0 (upd (Lg_places s0) (ix (irem (Lg_total s0) (60 : Int32))) p2)) (upd (Lg_amounts s0) (ix (irem (Lg_total s0) (60 : Int32))) p3)) (upd (Lg_numbers s0) (ix (irem (Lg_total s0) (60 : Int32))) (Lg_acts s0))) (upd (Lg_byKey s0) (ix p1) (((Lg_byKey s0) (ix p1)) + (1 : Int32)))) ((Lg_total s0) + (1 : Int32))) ((Lg_came s0) + p3))) rfl dX2_note_67 (fun H locs hP hD hS => ?_)
    refine lv_goto hx hb dX2_note_70 (tgt := 83) rfl ?_
    exact kJ6 (Lg_w_came (Lg_w_total (Lg_w_byKey (Lg_w_numbers (Lg_w_amounts (Lg_w_places s0 (upd (Lg_places s0) (ix (irem (Lg_total s0) (60 : Int32))) p2)) (upd (Lg_amounts s0) (ix (irem (Lg_total s0) (60 : Int32))) p3)) (upd (Lg_numbers s0) (ix (irem (Lg_total s0) (60 : Int32))) (Lg_acts s0))) (upd (Lg_byKey s0) (ix p1) (((Lg_byKey s0) (ix p1)) + (1 : Int32)))) ((Lg_total s0) + (1 : Int32))) ((Lg_came s0) + p3)) ls H locs hf (lv_sub hl [1] rfl) hP hD hS
theorem dX2_remembered_0 : decode cX2_remembered 0 = .ok (.aload_n 0, 1) := by decide +kernel
theorem dX2_remembered_1 : decode cX2_remembered 1 = .ok (.getfield 24, 3) := by decide +kernel
theorem dX2_remembered_4 : decode cX2_remembered 4 = .ok (.bipush 60, 2) := by decide +kernel
theorem dX2_remembered_6 : decode cX2_remembered 6 = .ok (.invokestatic 46, 3) := by decide +kernel
theorem dX2_remembered_9 : decode cX2_remembered 9 = .ok (.ireturn, 1) := by decide +kernel
def f_X2_remembered (s0 : LgT) : Option (Int32) :=
  some ((if (60 : Int32) < (Lg_total s0) then (60 : Int32) else (Lg_total s0)))
abbrev rm_X2_remembered : Room := { frames := 1, cells := 0, slots := 0, locals := 21 }
set_option maxHeartbeats 4000000 in
set_option maxRecDepth 100000 in
theorem c_X2_remembered (l : Launch) (g : GK) (a0 : Nat → Nat) (s0 : LgT) (res : (Int32)) (hf : f_X2_remembered s0 = some res) : gR l yX2_remembered cX2_remembered 1 (some .int) rm_X2_remembered g [.ref (a0 0)] (Lg_c g a0 s0) (some (.int res)) := by
  refine gR_introI RX2 (by decide) rfl (Nat.le_of_ble_eq_true rfl) (fun p e s m args below meth c Q H locs ls hE hP hZ hS hq hl => ?_)
  have hl : lv_has ls 1 [(0, .ref (a0 0))] := hl
  have hx := hE.1
  have hb := hE.2.1
  rw [f_X2_remembered] at hf
  refine lv_aload_n hx hb dX2_remembered_0 rfl (lv_at hl 0 rfl) ?_
  refine g_get hE okX2 fl_X2_24 hP 0 rfl (v := .int (Lg_total s0)) rfl dX2_remembered_1 ?_
  refine lv_bipush hx hb dX2_remembered_4 kcb_60 ?_
  refine g_mmin hE hl.1 km_X2_46 (Nat.le_of_ble_eq_true rfl) (rest := []) (Nat.le_of_ble_eq_true rfl) ⟨Nat.le_refl _, Nat.le_refl _⟩ dX2_remembered_6 ?_
  cases hf
  exact hq rfl dX2_remembered_9
theorem dX2_remembers_0 : decode cX2_remembers 0 = .ok (.iload_n 1, 1) := by decide +kernel
theorem dX2_remembers_1 : decode cX2_remembers 1 = .ok (.ifCond .lt 15, 3) := by decide +kernel
theorem dX2_remembers_4 : decode cX2_remembers 4 = .ok (.iload_n 1, 1) := by decide +kernel
theorem dX2_remembers_5 : decode cX2_remembers 5 = .ok (.aload_n 0, 1) := by decide +kernel
theorem dX2_remembers_6 : decode cX2_remembers 6 = .ok (.invokevirtual 52, 3) := by decide +kernel
theorem dX2_remembers_9 : decode cX2_remembers 9 = .ok (.if_icmp .ge 7, 3) := by decide +kernel
theorem dX2_remembers_12 : decode cX2_remembers 12 = .ok (.iconst 1, 1) := by decide +kernel
theorem dX2_remembers_13 : decode cX2_remembers 13 = .ok (.goto 4, 3) := by decide +kernel
theorem dX2_remembers_16 : decode cX2_remembers 16 = .ok (.iconst 0, 1) := by decide +kernel
theorem dX2_remembers_17 : decode cX2_remembers 17 = .ok (.ireturn, 1) := by decide +kernel
def f_X2_remembers (s0 : LgT) (p1 : Int32) : Option (Int32) :=
  if p1 < 0 then some ((0 : Int32))
  else (f_X2_remembered s0).bind fun r2 =>
  if r2 ≤ p1 then some ((0 : Int32))
  else some ((1 : Int32))
abbrev rm_X2_remembers : Room := { frames := 2, cells := 0, slots := 0, locals := 41 }
set_option maxHeartbeats 4000000 in
set_option maxRecDepth 100000 in
theorem c_X2_remembers (l : Launch) (g : GK) (a0 : Nat → Nat) (s0 : LgT) (p1 : Int32) (res : (Int32)) (hf : f_X2_remembers s0 p1 = some res) : gR l yX2_remembers cX2_remembers 2 (some .boolean) rm_X2_remembers g [.ref (a0 0), .int p1] (Lg_c g a0 s0) (some (.int res)) := by
  refine gR_introZ RX2 (by decide) rfl (Nat.le_of_ble_eq_true rfl) (fun p e s m args below meth c Q H locs ls hE hP hZ hS hq hl => ?_)
  have hl : lv_has ls 2 [(0, .ref (a0 0)), (1, .int p1)] := hl
  have hx := hE.1
  have hb := hE.2.1
  rw [f_X2_remembers] at hf
  refine lv_iload_n hx hb dX2_remembers_0 rfl (lv_at hl 1 rfl) ?_
  refine lv_if_lt hx hb dX2_remembers_1 (tgt := 16) rfl (fun h1 => ?_) (fun h1 => ?_)
  · have hf := gif_t h1 hf
    refine lv_iconst hx hb dX2_remembers_16 kci_0 ?_
    cases hf
    exact hq (by decide) rfl dX2_remembers_17
  · have hf := gif_f h1 hf
    refine lv_iload_n hx hb dX2_remembers_4 rfl (lv_at hl 1 rfl) ?_
    refine lv_aload_n hx hb dX2_remembers_5 rfl (lv_at hl 0 rfl) ?_
    obtain ⟨r2, hc3, hf⟩ := gbd hf
    refine gr_callV (As := []) (rest := [.int p1]) (st1 := [.int r2, .int p1]) hE hl.1 ml_X2_52 (c_X2_remembered l g a0 s0 r2 hc3) hZ hS hP [(0, 5)] rfl okX2 rfl rfl rfl rfl ⟨rfl, rfl⟩ ⟨Nat.le_of_ble_eq_true rfl, Nat.le_of_ble_eq_true rfl⟩ ⟨Nat.le_refl _, Nat.le_refl _⟩ (Nat.le_of_ble_eq_true rfl) dX2_remembers_6 ?_
    refine lv_icmp_ge hx hb dX2_remembers_9 (tgt := 16) rfl (fun h4 => ?_) (fun h4 => ?_)
    · have hf := gif_t h4 hf
      refine lv_iconst hx hb dX2_remembers_16 kci_0 ?_
      cases hf
      exact hq (by decide) rfl dX2_remembers_17
    · have hf := gif_f h4 hf
      refine lv_iconst hx hb dX2_remembers_12 kci_1 ?_
      refine lv_goto hx hb dX2_remembers_13 (tgt := 17) rfl ?_
      cases hf
      exact hq (by decide) rfl dX2_remembers_17
theorem dX2_toldOfChange_0 : decode cX2_toldOfChange 0 = .ok (.aload_n 0, 1) := by decide +kernel
theorem dX2_toldOfChange_1 : decode cX2_toldOfChange 1 = .ok (.iload_n 1, 1) := by decide +kernel
theorem dX2_toldOfChange_2 : decode cX2_toldOfChange 2 = .ok (.invokevirtual 56, 3) := by decide +kernel
theorem dX2_toldOfChange_5 : decode cX2_toldOfChange 5 = .ok (.ifCond .ne 6, 3) := by decide +kernel
theorem dX2_toldOfChange_8 : decode cX2_toldOfChange 8 = .ok (.ldc 60, 2) := by decide +kernel
theorem dX2_toldOfChange_10 : decode cX2_toldOfChange 10 = .ok (.ireturn, 1) := by decide +kernel
theorem dX2_toldOfChange_11 : decode cX2_toldOfChange 11 = .ok (.aload_n 0, 1) := by decide +kernel
theorem dX2_toldOfChange_12 : decode cX2_toldOfChange 12 = .ok (.getfield 24, 3) := by decide +kernel
theorem dX2_toldOfChange_15 : decode cX2_toldOfChange 15 = .ok (.iconst 1, 1) := by decide +kernel
theorem dX2_toldOfChange_16 : decode cX2_toldOfChange 16 = .ok (.isub, 1) := by decide +kernel
theorem dX2_toldOfChange_17 : decode cX2_toldOfChange 17 = .ok (.iload_n 1, 1) := by decide +kernel
theorem dX2_toldOfChange_18 : decode cX2_toldOfChange 18 = .ok (.isub, 1) := by decide +kernel
theorem dX2_toldOfChange_19 : decode cX2_toldOfChange 19 = .ok (.bipush 60, 2) := by decide +kernel
theorem dX2_toldOfChange_21 : decode cX2_toldOfChange 21 = .ok (.irem, 1) := by decide +kernel
theorem dX2_toldOfChange_22 : decode cX2_toldOfChange 22 = .ok (.istore_n 3, 1) := by decide +kernel
theorem dX2_toldOfChange_23 : decode cX2_toldOfChange 23 = .ok (.iload_n 2, 1) := by decide +kernel
theorem dX2_toldOfChange_24 : decode cX2_toldOfChange 24 = .ok (.iconst 4, 1) := by decide +kernel
theorem dX2_toldOfChange_25 : decode cX2_toldOfChange 25 = .ok (.if_icmp .ne 12, 3) := by decide +kernel
theorem dX2_toldOfChange_28 : decode cX2_toldOfChange 28 = .ok (.aload_n 0, 1) := by decide +kernel
theorem dX2_toldOfChange_29 : decode cX2_toldOfChange 29 = .ok (.getfield 18, 3) := by decide +kernel
theorem dX2_toldOfChange_32 : decode cX2_toldOfChange 32 = .ok (.iload_n 3, 1) := by decide +kernel
theorem dX2_toldOfChange_33 : decode cX2_toldOfChange 33 = .ok (.iaload, 1) := by decide +kernel
theorem dX2_toldOfChange_34 : decode cX2_toldOfChange 34 = .ok (.goto 19, 3) := by decide +kernel
theorem dX2_toldOfChange_37 : decode cX2_toldOfChange 37 = .ok (.aload_n 0, 1) := by decide +kernel
theorem dX2_toldOfChange_38 : decode cX2_toldOfChange 38 = .ok (.getfield 11, 3) := by decide +kernel
theorem dX2_toldOfChange_41 : decode cX2_toldOfChange 41 = .ok (.iload_n 3, 1) := by decide +kernel
theorem dX2_toldOfChange_42 : decode cX2_toldOfChange 42 = .ok (.iaload, 1) := by decide +kernel
theorem dX2_toldOfChange_43 : decode cX2_toldOfChange 43 = .ok (.iload_n 2, 1) := by decide +kernel
theorem dX2_toldOfChange_44 : decode cX2_toldOfChange 44 = .ok (.aload_n 0, 1) := by decide +kernel
theorem dX2_toldOfChange_45 : decode cX2_toldOfChange 45 = .ok (.getfield 15, 3) := by decide +kernel
theorem dX2_toldOfChange_48 : decode cX2_toldOfChange 48 = .ok (.iload_n 3, 1) := by decide +kernel
theorem dX2_toldOfChange_49 : decode cX2_toldOfChange 49 = .ok (.iaload, 1) := by decide +kernel
theorem dX2_toldOfChange_50 : decode cX2_toldOfChange 50 = .ok (.invokestatic 61, 3) := by decide +kernel
theorem dX2_toldOfChange_53 : decode cX2_toldOfChange 53 = .ok (.ireturn, 1) := by decide +kernel
def f_X2_toldOfChange (s0 : LgT) (p1 : Int32) (p2 : Int32) : Option (Int32) :=
  (f_X2_remembers s0 p1).bind fun r1 =>
  if r1 = 0 then some ((-2147483648 : Int32))
  else if p2 = (4 : Int32) then if inb (irem (((Lg_total s0) - (1 : Int32)) - p1) (60 : Int32)) 60 then some (((Lg_numbers s0) (ix (irem (((Lg_total s0) - (1 : Int32)) - p1) (60 : Int32))))) else none
  else if inb (irem (((Lg_total s0) - (1 : Int32)) - p1) (60 : Int32)) 60 then if inb (irem (((Lg_total s0) - (1 : Int32)) - p1) (60 : Int32)) 60 then (f_X8_partOfRow ((Lg_places s0) (ix (irem (((Lg_total s0) - (1 : Int32)) - p1) (60 : Int32)))) p2 ((Lg_amounts s0) (ix (irem (((Lg_total s0) - (1 : Int32)) - p1) (60 : Int32))))).bind fun r7 =>
  some (r7) else none else none
abbrev rm_X2_toldOfChange : Room := { frames := 3, cells := 0, slots := 0, locals := 62 }
set_option maxHeartbeats 4000000 in
set_option maxRecDepth 100000 in
theorem c_X2_toldOfChange (l : Launch) (g : GK) (a0 : Nat → Nat) (s0 : LgT) (p1 : Int32) (p2 : Int32) (res : (Int32)) (hf : f_X2_toldOfChange s0 p1 p2 = some res) : gR l yX2_toldOfChange cX2_toldOfChange 4 (some .int) rm_X2_toldOfChange g [.ref (a0 0), .int p1, .int p2] (Lg_c g a0 s0) (some (.int res)) := by
  refine gR_introI RX2 (by decide) rfl (Nat.le_of_ble_eq_true rfl) (fun p e s m args below meth c Q H locs ls hE hP hZ hS hq hl => ?_)
  have hl : lv_has ls 4 [(0, .ref (a0 0)), (1, .int p1), (2, .int p2)] := hl
  have hx := hE.1
  have hb := hE.2.1
  rw [f_X2_toldOfChange] at hf
  refine lv_aload_n hx hb dX2_toldOfChange_0 rfl (lv_at hl 0 rfl) ?_
  refine lv_iload_n hx hb dX2_toldOfChange_1 rfl (lv_at hl 1 rfl) ?_
  obtain ⟨r1, hc2, hf⟩ := gbd hf
  refine gr_callV (As := [.int p1]) (rest := []) (st1 := [.int r1]) hE hl.1 ml_X2_56 (c_X2_remembers l g a0 s0 p1 r1 hc2) hZ hS hP [(0, 5)] rfl okX2 rfl rfl rfl rfl ⟨rfl, rfl⟩ ⟨Nat.le_of_ble_eq_true rfl, Nat.le_of_ble_eq_true rfl⟩ ⟨Nat.le_refl _, Nat.le_refl _⟩ (Nat.le_of_ble_eq_true rfl) dX2_toldOfChange_2 ?_
  refine lv_if_ne hx hb dX2_toldOfChange_5 (tgt := 11) rfl (fun h3 => ?_) (fun h3 => ?_)
  · have hf := gif_f h3 hf
    refine lv_aload_n hx hb dX2_toldOfChange_11 rfl (lv_at hl 0 rfl) ?_
    refine g_get hE okX2 fl_X2_24 hP 0 rfl (v := .int (Lg_total s0)) rfl dX2_toldOfChange_12 ?_
    refine lv_iconst hx hb dX2_toldOfChange_15 kci_1 ?_
    refine lv_isub hx hb dX2_toldOfChange_16 ?_
    refine lv_iload_n hx hb dX2_toldOfChange_17 rfl (lv_at hl 1 rfl) ?_
    refine lv_isub hx hb dX2_toldOfChange_18 ?_
    refine lv_bipush hx hb dX2_toldOfChange_19 kcb_60 ?_
    refine lv_irem hx hb dX2_toldOfChange_21 kne_60 ?_
    refine lv_istore_n hx hb dX2_toldOfChange_22 rfl hl (by decide) (lv' := [(3, .int (irem (((Lg_total s0) - (1 : Int32)) - p1) (60 : Int32))), (0, .ref (a0 0)), (1, .int p1), (2, .int p2)]) rfl (fun ls hl => ?_)
    refine lv_iload_n hx hb dX2_toldOfChange_23 rfl (lv_at hl 3 rfl) ?_
    refine lv_iconst hx hb dX2_toldOfChange_24 kci_4 ?_
    refine lv_icmp_ne hx hb dX2_toldOfChange_25 (tgt := 37) rfl (fun h4 => ?_) (fun h4 => ?_)
    · have hf := gif_f h4 hf
      refine lv_aload_n hx hb dX2_toldOfChange_37 rfl (lv_at hl 1 rfl) ?_
      refine g_get hE okX2 fl_X2_11 hP 0 rfl (v := .ref (a0 1)) rfl dX2_toldOfChange_38 ?_
      refine lv_iload_n hx hb dX2_toldOfChange_41 rfl (lv_at hl 0 rfl) ?_
      obtain ⟨hg5, hf⟩ := ggd hf
      refine g_iald hE hP 1 (f := (Lg_places s0)) rfl hg5 dX2_toldOfChange_42 ?_
      refine lv_iload_n hx hb dX2_toldOfChange_43 rfl (lv_at hl 3 rfl) ?_
      refine lv_aload_n hx hb dX2_toldOfChange_44 rfl (lv_at hl 1 rfl) ?_
      refine g_get hE okX2 fl_X2_15 hP 0 rfl (v := .ref (a0 2)) rfl dX2_toldOfChange_45 ?_
      refine lv_iload_n hx hb dX2_toldOfChange_48 rfl (lv_at hl 0 rfl) ?_
      obtain ⟨hg6, hf⟩ := ggd hf
      refine g_iald hE hP 2 (f := (Lg_amounts s0)) rfl hg6 dX2_toldOfChange_49 ?_
      obtain ⟨r7, hc8, hf⟩ := gbd hf
      refine gr_callN (As := [.int ((Lg_places s0) (ix (irem (((Lg_total s0) - (1 : Int32)) - p1) (60 : Int32)))), .int p2, .int ((Lg_amounts s0) (ix (irem (((Lg_total s0) - (1 : Int32)) - p1) (60 : Int32))))]) (rest := []) (st1 := [.int r7]) hE hl.1 ml_X2_61 (c_X8_partOfRow l g ((Lg_places s0) (ix (irem (((Lg_total s0) - (1 : Int32)) - p1) (60 : Int32)))) p2 ((Lg_amounts s0) (ix (irem (((Lg_total s0) - (1 : Int32)) - p1) (60 : Int32)))) r7 hc8) hZ hS hP [] rfl rfl rfl rfl ⟨rfl, rfl⟩ ⟨Nat.le_of_ble_eq_true rfl, Nat.le_of_ble_eq_true rfl⟩ ⟨Nat.le_refl _, Nat.le_refl _⟩ (Nat.le_of_ble_eq_true rfl) dX2_toldOfChange_50 ?_
      cases hf
      exact hq rfl dX2_toldOfChange_53
    · have hf := gif_t h4 hf
      refine lv_aload_n hx hb dX2_toldOfChange_28 rfl (lv_at hl 1 rfl) ?_
      refine g_get hE okX2 fl_X2_18 hP 0 rfl (v := .ref (a0 3)) rfl dX2_toldOfChange_29 ?_
      refine lv_iload_n hx hb dX2_toldOfChange_32 rfl (lv_at hl 0 rfl) ?_
      obtain ⟨hg9, hf⟩ := ggd hf
      refine g_iald hE hP 3 (f := (Lg_numbers s0)) rfl hg9 dX2_toldOfChange_33 ?_
      refine lv_goto hx hb dX2_toldOfChange_34 (tgt := 53) rfl ?_
      cases hf
      exact hq rfl dX2_toldOfChange_53
  · have hf := gif_t h3 hf
    refine lv_ldc hx hb hE.2.2.2.2.2.1 (hE.2.2.2.2.2.2.1 _ kd_X2_60) dX2_toldOfChange_8 ?_
    cases hf
    exact hq rfl dX2_toldOfChange_10
theorem dX2_told_0 : decode cX2_told 0 = .ok (.iload_n 1, 1) := by decide +kernel
theorem dX2_told_1 : decode cX2_told 1 = .ok (.tableswitch 42 0 2 #[27, 32, 37], 27) := by decide +kernel
theorem dX2_told_28 : decode cX2_told 28 = .ok (.aload_n 0, 1) := by decide +kernel
theorem dX2_told_29 : decode cX2_told 29 = .ok (.getfield 28, 3) := by decide +kernel
theorem dX2_told_32 : decode cX2_told 32 = .ok (.ireturn, 1) := by decide +kernel
theorem dX2_told_33 : decode cX2_told 33 = .ok (.aload_n 0, 1) := by decide +kernel
theorem dX2_told_34 : decode cX2_told 34 = .ok (.getfield 31, 3) := by decide +kernel
theorem dX2_told_37 : decode cX2_told 37 = .ok (.ireturn, 1) := by decide +kernel
theorem dX2_told_38 : decode cX2_told 38 = .ok (.aload_n 0, 1) := by decide +kernel
theorem dX2_told_39 : decode cX2_told 39 = .ok (.getfield 24, 3) := by decide +kernel
theorem dX2_told_42 : decode cX2_told 42 = .ok (.ireturn, 1) := by decide +kernel
theorem dX2_told_43 : decode cX2_told 43 = .ok (.aload_n 0, 1) := by decide +kernel
theorem dX2_told_44 : decode cX2_told 44 = .ok (.getfield 40, 3) := by decide +kernel
theorem dX2_told_47 : decode cX2_told 47 = .ok (.ireturn, 1) := by decide +kernel
def f_X2_told (s0 : LgT) (p1 : Int32) : Option (Int32) :=
  if p1 = (0 : Int32) then some ((Lg_came s0))
  else if p1 = (1 : Int32) then some ((Lg_went s0))
  else if p1 = (2 : Int32) then some ((Lg_total s0))
  else some ((Lg_most s0))
abbrev rm_X2_told : Room := { frames := 0, cells := 0, slots := 0, locals := 0 }
set_option maxHeartbeats 4000000 in
set_option maxRecDepth 100000 in
theorem c_X2_told (l : Launch) (g : GK) (a0 : Nat → Nat) (s0 : LgT) (p1 : Int32) (res : (Int32)) (hf : f_X2_told s0 p1 = some res) : gR l yX2_told cX2_told 2 (some .int) rm_X2_told g [.ref (a0 0), .int p1] (Lg_c g a0 s0) (some (.int res)) := by
  refine gR_introI RX2 (by decide) rfl (Nat.le_of_ble_eq_true rfl) (fun p e s m args below meth c Q H locs ls hE hP hZ hS hq hl => ?_)
  have hl : lv_has ls 2 [(0, .ref (a0 0)), (1, .int p1)] := hl
  have hx := hE.1
  have hb := hE.2.1
  rw [f_X2_told] at hf
  refine lv_iload_n hx hb dX2_told_0 rfl (lv_at hl 1 rfl) ?_
  by_cases h1 : p1 = (0 : Int32)
  · have hf := gif_t h1 hf
    refine g_swIn hE h1 dX2_told_1 (0) ⟨by decide, by decide⟩ (by decide) (off := 27) rfl (tgt := 28) rfl ?_
    refine lv_aload_n hx hb dX2_told_28 rfl (lv_at hl 0 rfl) ?_
    refine g_get hE okX2 fl_X2_28 hP 0 rfl (v := .int (Lg_came s0)) rfl dX2_told_29 ?_
    cases hf
    exact hq rfl dX2_told_32
  have hf := gif_f h1 hf
  by_cases h2 : p1 = (1 : Int32)
  · have hf := gif_t h2 hf
    refine g_swIn hE h2 dX2_told_1 (1) ⟨by decide, by decide⟩ (by decide) (off := 32) rfl (tgt := 33) rfl ?_
    refine lv_aload_n hx hb dX2_told_33 rfl (lv_at hl 0 rfl) ?_
    refine g_get hE okX2 fl_X2_31 hP 0 rfl (v := .int (Lg_went s0)) rfl dX2_told_34 ?_
    cases hf
    exact hq rfl dX2_told_37
  have hf := gif_f h2 hf
  by_cases h3 : p1 = (2 : Int32)
  · have hf := gif_t h3 hf
    refine g_swIn hE h3 dX2_told_1 (2) ⟨by decide, by decide⟩ (by decide) (off := 37) rfl (tgt := 38) rfl ?_
    refine lv_aload_n hx hb dX2_told_38 rfl (lv_at hl 0 rfl) ?_
    refine g_get hE okX2 fl_X2_24 hP 0 rfl (v := .int (Lg_total s0)) rfl dX2_told_39 ?_
    cases hf
    exact hq rfl dX2_told_42
  have hf := gif_f h3 hf
  refine lv_tableOut hx hb dX2_told_1 (by have := nti h1 (k := 0) (by decide); have := nti h2 (k := 1) (by decide); have := nti h3 (k := 2) (by decide); omega) (tgt := 43) rfl ?_
  refine lv_aload_n hx hb dX2_told_43 rfl (lv_at hl 0 rfl) ?_
  refine g_get hE okX2 fl_X2_40 hP 0 rfl (v := .int (Lg_most s0)) rfl dX2_told_44 ?_
  cases hf
  exact hq rfl dX2_told_47
theorem dX2_keyOfMost_0 : decode cX2_keyOfMost 0 = .ok (.iconst 0, 1) := by decide +kernel
theorem dX2_keyOfMost_1 : decode cX2_keyOfMost 1 = .ok (.istore_n 1, 1) := by decide +kernel
theorem dX2_keyOfMost_2 : decode cX2_keyOfMost 2 = .ok (.iconst 1, 1) := by decide +kernel
theorem dX2_keyOfMost_3 : decode cX2_keyOfMost 3 = .ok (.istore_n 2, 1) := by decide +kernel
theorem dX2_keyOfMost_4 : decode cX2_keyOfMost 4 = .ok (.iload_n 2, 1) := by decide +kernel
theorem dX2_keyOfMost_5 : decode cX2_keyOfMost 5 = .ok (.bipush 8, 2) := by decide +kernel
theorem dX2_keyOfMost_7 : decode cX2_keyOfMost 7 = .ok (.if_icmp .ge 26, 3) := by decide +kernel
theorem dX2_keyOfMost_10 : decode cX2_keyOfMost 10 = .ok (.aload_n 0, 1) := by decide +kernel
theorem dX2_keyOfMost_11 : decode cX2_keyOfMost 11 = .ok (.getfield 21, 3) := by decide +kernel
theorem dX2_keyOfMost_14 : decode cX2_keyOfMost 14 = .ok (.iload_n 2, 1) := by decide +kernel
theorem dX2_keyOfMost_15 : decode cX2_keyOfMost 15 = .ok (.iaload, 1) := by decide +kernel
theorem dX2_keyOfMost_16 : decode cX2_keyOfMost 16 = .ok (.aload_n 0, 1) := by decide +kernel
theorem dX2_keyOfMost_17 : decode cX2_keyOfMost 17 = .ok (.getfield 21, 3) := by decide +kernel
theorem dX2_keyOfMost_20 : decode cX2_keyOfMost 20 = .ok (.iload_n 1, 1) := by decide +kernel
theorem dX2_keyOfMost_21 : decode cX2_keyOfMost 21 = .ok (.iaload, 1) := by decide +kernel
theorem dX2_keyOfMost_22 : decode cX2_keyOfMost 22 = .ok (.if_icmp .le 5, 3) := by decide +kernel
theorem dX2_keyOfMost_25 : decode cX2_keyOfMost 25 = .ok (.iload_n 2, 1) := by decide +kernel
theorem dX2_keyOfMost_26 : decode cX2_keyOfMost 26 = .ok (.istore_n 1, 1) := by decide +kernel
theorem dX2_keyOfMost_27 : decode cX2_keyOfMost 27 = .ok (.iinc 2 1, 3) := by decide +kernel
theorem dX2_keyOfMost_30 : decode cX2_keyOfMost 30 = .ok (.goto (-26), 3) := by decide +kernel
theorem dX2_keyOfMost_33 : decode cX2_keyOfMost 33 = .ok (.aload_n 0, 1) := by decide +kernel
theorem dX2_keyOfMost_34 : decode cX2_keyOfMost 34 = .ok (.getfield 24, 3) := by decide +kernel
theorem dX2_keyOfMost_37 : decode cX2_keyOfMost 37 = .ok (.ifCond .ne 8, 3) := by decide +kernel
theorem dX2_keyOfMost_40 : decode cX2_keyOfMost 40 = .ok (.bipush (-2), 2) := by decide +kernel
theorem dX2_keyOfMost_42 : decode cX2_keyOfMost 42 = .ok (.goto 4, 3) := by decide +kernel
theorem dX2_keyOfMost_45 : decode cX2_keyOfMost 45 = .ok (.iload_n 1, 1) := by decide +kernel
theorem dX2_keyOfMost_46 : decode cX2_keyOfMost 46 = .ok (.ireturn, 1) := by decide +kernel
def f_X2_keyOfMost_L4_6 (s0 : LgT) (K1 : (Int32 → Option (Int32))) : Nat → Int32 → Int32 → Option (Int32)
  | 0, _, _ => none
  | n7 + 1, x1_4, x2_5 => if (8 : Int32) ≤ x2_5 then K1 x1_4
  else if inb x2_5 8 then if inb x1_4 8 then if ((Lg_byKey s0) (ix x2_5)) ≤ ((Lg_byKey s0) (ix x1_4)) then f_X2_keyOfMost_L4_6 s0 K1 n7 x1_4 (x2_5 + (1 : Int32))
  else f_X2_keyOfMost_L4_6 s0 K1 n7 x2_5 (x2_5 + (1 : Int32)) else none else none
def f_X2_keyOfMost (s0 : LgT) : Option (Int32) :=
  glt (fun (x1_2 : Int32) => if (Lg_total s0) = 0 then some ((-2 : Int32))
  else some (x1_2)) fun K1 =>
  f_X2_keyOfMost_L4_6 s0 K1 10000 (0 : Int32) (1 : Int32)
abbrev rm_X2_keyOfMost : Room := { frames := 0, cells := 0, slots := 0, locals := 0 }
set_option maxHeartbeats 4000000 in
set_option maxRecDepth 100000 in
theorem c_X2_keyOfMost (l : Launch) (g : GK) (a0 : Nat → Nat) (s0 : LgT) (res : (Int32)) (hf : f_X2_keyOfMost s0 = some res) : gR l yX2_keyOfMost cX2_keyOfMost 3 (some .int) rm_X2_keyOfMost g [.ref (a0 0)] (Lg_c g a0 s0) (some (.int res)) := by
  refine gR_introI RX2 (by decide) rfl (Nat.le_of_ble_eq_true rfl) (fun p e s m args below meth c Q H locs ls hE hP hZ hS hq hl => ?_)
  have hl : lv_has ls 3 [(0, .ref (a0 0))] := hl
  have hx := hE.1
  have hb := hE.2.1
  rw [f_X2_keyOfMost] at hf
  refine lv_iconst hx hb dX2_keyOfMost_0 kci_0 ?_
  refine lv_istore_n hx hb dX2_keyOfMost_1 rfl hl (by decide) (lv' := [(1, .int (0 : Int32)), (0, .ref (a0 0))]) rfl (fun ls hl => ?_)
  refine lv_iconst hx hb dX2_keyOfMost_2 kci_1 ?_
  refine lv_istore_n hx hb dX2_keyOfMost_3 rfl hl (by decide) (lv' := [(2, .int (1 : Int32)), (1, .int (0 : Int32)), (0, .ref (a0 0))]) rfl (fun ls hl => ?_)
  obtain ⟨K1, eK1, hf⟩ := gltd hf
  have kK1 : ∀ (x1_2 : Int32) (ls : Array Slot), K1 x1_2 = some res → lv_has ls 3 [(0, .ref (a0 0)), (1, .int x1_2)] → W p l e rm_X2_keyOfMost s m args below meth c H locs 0 0 Q (F0 m 33 ls []) := by
    intro x1_2 ls hf hl
    rw [eK1] at hf
    refine lv_aload_n hx hb dX2_keyOfMost_33 rfl (lv_at hl 0 rfl) ?_
    refine g_get hE okX2 fl_X2_24 hP 0 rfl (v := .int (Lg_total s0)) rfl dX2_keyOfMost_34 ?_
    refine lv_if_ne hx hb dX2_keyOfMost_37 (tgt := 45) rfl (fun h3 => ?_) (fun h3 => ?_)
    · have hf := gif_f h3 hf
      refine lv_iload_n hx hb dX2_keyOfMost_45 rfl (lv_at hl 1 rfl) ?_
      cases hf
      exact hq rfl dX2_keyOfMost_46
    · have hf := gif_t h3 hf
      refine lv_bipush hx hb dX2_keyOfMost_40 kcb_m2 ?_
      refine lv_goto hx hb dX2_keyOfMost_42 (tgt := 46) rfl ?_
      cases hf
      exact hq rfl dX2_keyOfMost_46
  have lpn7 : ∀ (n7 : Nat) (x1_4 : Int32) (x2_5 : Int32) (ls : Array Slot), f_X2_keyOfMost_L4_6 s0 K1 n7 x1_4 x2_5 = some res → lv_has ls 3 [(0, .ref (a0 0)), (1, .int x1_4), (2, .int x2_5)] → W p l e rm_X2_keyOfMost s m args below meth c H locs 0 0 Q (F0 m 4 ls []) := by
    intro n7
    induction n7 with
    | zero => intro x1_4 x2_5 ls hf hl; rw [f_X2_keyOfMost_L4_6] at hf; cases hf
    | succ n7 ihn7 =>
      intro x1_4 x2_5 ls hf hl
      rw [f_X2_keyOfMost_L4_6] at hf
      refine lv_iload_n hx hb dX2_keyOfMost_4 rfl (lv_at hl 2 rfl) ?_
      refine lv_bipush hx hb dX2_keyOfMost_5 kcb_8 ?_
      refine lv_icmp_ge hx hb dX2_keyOfMost_7 (tgt := 33) rfl (fun h8 => ?_) (fun h8 => ?_)
      · have hf := gif_t h8 hf
        exact kK1 x1_4 ls hf (lv_sub hl [0, 1] rfl)
      · have hf := gif_f h8 hf
        refine lv_aload_n hx hb dX2_keyOfMost_10 rfl (lv_at hl 0 rfl) ?_
        refine g_get hE okX2 fl_X2_21 hP 0 rfl (v := .ref (a0 4)) rfl dX2_keyOfMost_11 ?_
        refine lv_iload_n hx hb dX2_keyOfMost_14 rfl (lv_at hl 2 rfl) ?_
        obtain ⟨hg9, hf⟩ := ggd hf
        refine g_iald hE hP 4 (f := (Lg_byKey s0)) rfl hg9 dX2_keyOfMost_15 ?_
        refine lv_aload_n hx hb dX2_keyOfMost_16 rfl (lv_at hl 0 rfl) ?_
        refine g_get hE okX2 fl_X2_21 hP 0 rfl (v := .ref (a0 4)) rfl dX2_keyOfMost_17 ?_
        refine lv_iload_n hx hb dX2_keyOfMost_20 rfl (lv_at hl 1 rfl) ?_
        obtain ⟨hg10, hf⟩ := ggd hf
        refine g_iald hE hP 4 (f := (Lg_byKey s0)) rfl hg10 dX2_keyOfMost_21 ?_
        refine lv_icmp_le hx hb dX2_keyOfMost_22 (tgt := 27) rfl (fun h11 => ?_) (fun h11 => ?_)
        · have hf := gif_t h11 hf
          refine lv_iinc hx hb dX2_keyOfMost_27 hl (k := 2) (x := x2_5) rfl (kinc_1 _) (by decide) (lv' := [(2, .int (x2_5 + (1 : Int32))), (0, .ref (a0 0)), (1, .int x1_4)]) rfl (fun ls hl => ?_)
          refine lv_goto hx hb dX2_keyOfMost_30 (tgt := 4) rfl ?_
          exact ihn7 x1_4 (x2_5 + (1 : Int32)) ls hf (lv_sub hl [1, 2, 0] rfl)
        · have hf := gif_f h11 hf
          refine lv_iload_n hx hb dX2_keyOfMost_25 rfl (lv_at hl 2 rfl) ?_
          refine lv_istore_n hx hb dX2_keyOfMost_26 rfl hl (by decide) (lv' := [(1, .int x2_5), (0, .ref (a0 0)), (2, .int x2_5)]) rfl (fun ls hl => ?_)
          refine lv_iinc hx hb dX2_keyOfMost_27 hl (k := 2) (x := x2_5) rfl (kinc_1 _) (by decide) (lv' := [(2, .int (x2_5 + (1 : Int32))), (1, .int x2_5), (0, .ref (a0 0))]) rfl (fun ls hl => ?_)
          refine lv_goto hx hb dX2_keyOfMost_30 (tgt := 4) rfl ?_
          exact ihn7 x2_5 (x2_5 + (1 : Int32)) ls hf (lv_sub hl [2, 1, 0] rfl)
  exact lpn7 10000 (0 : Int32) (1 : Int32) ls hf (lv_sub hl [2, 1, 0] rfl)
theorem dX2_clear_0 : decode cX2_clear 0 = .ok (.aload_n 0, 1) := by decide +kernel
theorem dX2_clear_1 : decode cX2_clear 1 = .ok (.getfield 21, 3) := by decide +kernel
theorem dX2_clear_4 : decode cX2_clear 4 = .ok (.iconst 0, 1) := by decide +kernel
theorem dX2_clear_5 : decode cX2_clear 5 = .ok (.invokestatic 65, 3) := by decide +kernel
theorem dX2_clear_8 : decode cX2_clear 8 = .ok (.aload_n 0, 1) := by decide +kernel
theorem dX2_clear_9 : decode cX2_clear 9 = .ok (.iconst 0, 1) := by decide +kernel
theorem dX2_clear_10 : decode cX2_clear 10 = .ok (.putfield 24, 3) := by decide +kernel
theorem dX2_clear_13 : decode cX2_clear 13 = .ok (.aload_n 0, 1) := by decide +kernel
theorem dX2_clear_14 : decode cX2_clear 14 = .ok (.iconst 0, 1) := by decide +kernel
theorem dX2_clear_15 : decode cX2_clear 15 = .ok (.putfield 28, 3) := by decide +kernel
theorem dX2_clear_18 : decode cX2_clear 18 = .ok (.aload_n 0, 1) := by decide +kernel
theorem dX2_clear_19 : decode cX2_clear 19 = .ok (.iconst 0, 1) := by decide +kernel
theorem dX2_clear_20 : decode cX2_clear 20 = .ok (.putfield 31, 3) := by decide +kernel
theorem dX2_clear_23 : decode cX2_clear 23 = .ok (.aload_n 0, 1) := by decide +kernel
theorem dX2_clear_24 : decode cX2_clear 24 = .ok (.iconst 0, 1) := by decide +kernel
theorem dX2_clear_25 : decode cX2_clear 25 = .ok (.putfield 34, 3) := by decide +kernel
theorem dX2_clear_28 : decode cX2_clear 28 = .ok (.aload_n 0, 1) := by decide +kernel
theorem dX2_clear_29 : decode cX2_clear 29 = .ok (.iconst 0, 1) := by decide +kernel
theorem dX2_clear_30 : decode cX2_clear 30 = .ok (.putfield 37, 3) := by decide +kernel
theorem dX2_clear_33 : decode cX2_clear 33 = .ok (.aload_n 0, 1) := by decide +kernel
theorem dX2_clear_34 : decode cX2_clear 34 = .ok (.iconst 0, 1) := by decide +kernel
theorem dX2_clear_35 : decode cX2_clear 35 = .ok (.putfield 40, 3) := by decide +kernel
theorem dX2_clear_38 : decode cX2_clear 38 = .ok (.aload_n 0, 1) := by decide +kernel
theorem dX2_clear_39 : decode cX2_clear 39 = .ok (.bipush (-2), 2) := by decide +kernel
theorem dX2_clear_41 : decode cX2_clear 41 = .ok (.putfield 43, 3) := by decide +kernel
theorem dX2_clear_44 : decode cX2_clear 44 = .ok (.return_, 1) := by decide +kernel
def f_X2_clear (s0 : LgT) : Option (LgT) :=
  (f_J7_fill_53178 8 (Lg_byKey s0) (0 : Int32)).bind fun r1 =>
  some ((Lg_w_actOfMost (Lg_w_most (Lg_w_inAct (Lg_w_acts (Lg_w_went (Lg_w_came (Lg_w_total (Lg_w_byKey s0 r1) (0 : Int32)) (0 : Int32)) (0 : Int32)) (0 : Int32)) (0 : Int32)) (0 : Int32)) (-2 : Int32)))
abbrev rm_X2_clear : Room := { frames := 1, cells := 0, slots := 0, locals := 23 }
set_option maxHeartbeats 4000000 in
set_option maxRecDepth 100000 in
theorem c_X2_clear (l : Launch) (g : GK) (a0 : Nat → Nat) (s0 : LgT) (res : (LgT)) (hf : f_X2_clear s0 = some res) : gM l yX2_clear cX2_clear 1 none rm_X2_clear g [.ref (a0 0)] (Lg_c g a0 s0) (fun _ : Unit => none) (fun _ => (Lg_c g a0 res)) 0 0 := by
  refine gM_introV RX2 (by decide) rfl (Nat.le_of_ble_eq_true rfl) (fun p e s m args below meth c Q H locs ls A hE hnm hZ hA hP hD hS hq hl => ?_)
  have hl : lv_has ls 1 [(0, .ref (a0 0))] := hl
  have hx := hE.1
  have hb := hE.2.1
  rw [f_X2_clear] at hf
  refine lv_aload_n hx hb dX2_clear_0 rfl (lv_at hl 0 rfl) ?_
  refine g_get hE okX2 fl_X2_21 hP 0 rfl (v := .ref (a0 4)) rfl dX2_clear_1 ?_
  refine lv_iconst hx hb dX2_clear_4 kci_0 ?_
  obtain ⟨r1, hc2, hf⟩ := gbd hf
  refine gm_callS1 (As := [.ref (a0 4), .int (0 : Int32)]) (rest := []) (st1 := fun _ => []) (ws' := fun _ => (Lg_c g a0 (Lg_w_byKey s0 r1))) hE hl.1 ml_X2_65 (c_J7_fill_53178 l g (a0 4) 8 (Lg_byKey s0) (0 : Int32) r1 hc2) hZ hP hD hS hA 4 5 rfl (fun _ => rfl)  rfl rfl (fun _ => rfl) ⟨rfl, rfl⟩ ⟨Nat.le_of_ble_eq_true rfl, Nat.le_of_ble_eq_true rfl⟩ ⟨Nat.le_refl _, Nat.le_refl _⟩ (Nat.le_of_ble_eq_true rfl) dX2_clear_5 (fun _ H locs hP hD hS => ?_)
  refine lv_aload_n hx hb dX2_clear_8 rfl (lv_at hl 0 rfl) ?_
  refine lv_iconst hx hb dX2_clear_9 kci_0 ?_
  refine g_put hE okX2 fl_X2_24 hP hD hS 0 rfl rfl rfl rfl (Nat.le_of_ble_eq_true rfl) (Lg_c g a0 (Lg_w_total (Lg_w_byKey s0 r1) (0 : Int32))) rfl dX2_clear_10 (fun H locs hP hD hS => ?_)
  refine lv_aload_n hx hb dX2_clear_13 rfl (lv_at hl 0 rfl) ?_
  refine lv_iconst hx hb dX2_clear_14 kci_0 ?_
  refine g_put hE okX2 fl_X2_28 hP hD hS 0 rfl rfl rfl rfl (Nat.le_of_ble_eq_true rfl) (Lg_c g a0 (Lg_w_came (Lg_w_total (Lg_w_byKey s0 r1) (0 : Int32)) (0 : Int32))) rfl dX2_clear_15 (fun H locs hP hD hS => ?_)
  refine lv_aload_n hx hb dX2_clear_18 rfl (lv_at hl 0 rfl) ?_
  refine lv_iconst hx hb dX2_clear_19 kci_0 ?_
  refine g_put hE okX2 fl_X2_31 hP hD hS 0 rfl rfl rfl rfl (Nat.le_of_ble_eq_true rfl) (Lg_c g a0 (Lg_w_went (Lg_w_came (Lg_w_total (Lg_w_byKey s0 r1) (0 : Int32)) (0 : Int32)) (0 : Int32))) rfl dX2_clear_20 (fun H locs hP hD hS => ?_)
  refine lv_aload_n hx hb dX2_clear_23 rfl (lv_at hl 0 rfl) ?_
  refine lv_iconst hx hb dX2_clear_24 kci_0 ?_
  refine g_put hE okX2 fl_X2_34 hP hD hS 0 rfl rfl rfl rfl (Nat.le_of_ble_eq_true rfl) (Lg_c g a0 (Lg_w_acts (Lg_w_went (Lg_w_came (Lg_w_total (Lg_w_byKey s0 r1) (0 : Int32)) (0 : Int32)) (0 : Int32)) (0 : Int32))) rfl dX2_clear_25 (fun H locs hP hD hS => ?_)
  refine lv_aload_n hx hb dX2_clear_28 rfl (lv_at hl 0 rfl) ?_
  refine lv_iconst hx hb dX2_clear_29 kci_0 ?_
  refine g_put hE okX2 fl_X2_37 hP hD hS 0 rfl rfl rfl rfl (Nat.le_of_ble_eq_true rfl) (Lg_c g a0 (Lg_w_inAct (Lg_w_acts (Lg_w_went (Lg_w_came (Lg_w_total (Lg_w_byKey s0 r1) (0 : Int32)) (0 : Int32)) (0 : Int32)) (0 : Int32)) (0 : Int32))) rfl dX2_clear_30 (fun H locs hP hD hS => ?_)
  refine lv_aload_n hx hb dX2_clear_33 rfl (lv_at hl 0 rfl) ?_
  refine lv_iconst hx hb dX2_clear_34 kci_0 ?_
  refine g_put hE okX2 fl_X2_40 hP hD hS 0 rfl rfl rfl rfl (Nat.le_of_ble_eq_true rfl) (Lg_c g a0 (Lg_w_most (Lg_w_inAct (Lg_w_acts (Lg_w_went (Lg_w_came (Lg_w_total (Lg_w_byKey s0 r1) (0 : Int32)) (0 : Int32)) (0 : Int32)) (0 : Int32)) (0 : Int32)) (0 : Int32))) rfl dX2_clear_35 (fun H locs hP hD hS => ?_)
  refine lv_aload_n hx hb dX2_clear_38 rfl (lv_at hl 0 rfl) ?_
  refine lv_bipush hx hb dX2_clear_39 kcb_m2 ?_
  refine g_put hE okX2 fl_X2_43 hP hD hS 0 rfl rfl rfl rfl (Nat.le_of_ble_eq_true rfl) (Lg_c g a0 (Lg_w_actOfMost (Lg_w_most (Lg_w_inAct (Lg_w_acts (Lg_w_went (Lg_w_came (Lg_w_total (Lg_w_byKey s0 r1) (0 : Int32)) (0 : Int32)) (0 : Int32)) (0 : Int32)) (0 : Int32)) (0 : Int32)) (-2 : Int32))) rfl dX2_clear_41 (fun H locs hP hD hS => ?_)
  cases hf
  exact hq () rfl hP hD hS dX2_clear_44
theorem dX2_copyFrom_0 : decode cX2_copyFrom 0 = .ok (.aload_n 1, 1) := by decide +kernel
theorem dX2_copyFrom_1 : decode cX2_copyFrom 1 = .ok (.getfield 11, 3) := by decide +kernel
theorem dX2_copyFrom_4 : decode cX2_copyFrom 4 = .ok (.iconst 0, 1) := by decide +kernel
theorem dX2_copyFrom_5 : decode cX2_copyFrom 5 = .ok (.aload_n 0, 1) := by decide +kernel
theorem dX2_copyFrom_6 : decode cX2_copyFrom 6 = .ok (.getfield 11, 3) := by decide +kernel
theorem dX2_copyFrom_9 : decode cX2_copyFrom 9 = .ok (.iconst 0, 1) := by decide +kernel
theorem dX2_copyFrom_10 : decode cX2_copyFrom 10 = .ok (.bipush 60, 2) := by decide +kernel
theorem dX2_copyFrom_12 : decode cX2_copyFrom 12 = .ok (.invokestatic 71, 3) := by decide +kernel
theorem dX2_copyFrom_15 : decode cX2_copyFrom 15 = .ok (.aload_n 1, 1) := by decide +kernel
theorem dX2_copyFrom_16 : decode cX2_copyFrom 16 = .ok (.getfield 15, 3) := by decide +kernel
theorem dX2_copyFrom_19 : decode cX2_copyFrom 19 = .ok (.iconst 0, 1) := by decide +kernel
theorem dX2_copyFrom_20 : decode cX2_copyFrom 20 = .ok (.aload_n 0, 1) := by decide +kernel
theorem dX2_copyFrom_21 : decode cX2_copyFrom 21 = .ok (.getfield 15, 3) := by decide +kernel
theorem dX2_copyFrom_24 : decode cX2_copyFrom 24 = .ok (.iconst 0, 1) := by decide +kernel
theorem dX2_copyFrom_25 : decode cX2_copyFrom 25 = .ok (.bipush 60, 2) := by decide +kernel
theorem dX2_copyFrom_27 : decode cX2_copyFrom 27 = .ok (.invokestatic 71, 3) := by decide +kernel
theorem dX2_copyFrom_30 : decode cX2_copyFrom 30 = .ok (.aload_n 1, 1) := by decide +kernel
theorem dX2_copyFrom_31 : decode cX2_copyFrom 31 = .ok (.getfield 18, 3) := by decide +kernel
theorem dX2_copyFrom_34 : decode cX2_copyFrom 34 = .ok (.iconst 0, 1) := by decide +kernel
theorem dX2_copyFrom_35 : decode cX2_copyFrom 35 = .ok (.aload_n 0, 1) := by decide +kernel
theorem dX2_copyFrom_36 : decode cX2_copyFrom 36 = .ok (.getfield 18, 3) := by decide +kernel
theorem dX2_copyFrom_39 : decode cX2_copyFrom 39 = .ok (.iconst 0, 1) := by decide +kernel
theorem dX2_copyFrom_40 : decode cX2_copyFrom 40 = .ok (.bipush 60, 2) := by decide +kernel
theorem dX2_copyFrom_42 : decode cX2_copyFrom 42 = .ok (.invokestatic 71, 3) := by decide +kernel
theorem dX2_copyFrom_45 : decode cX2_copyFrom 45 = .ok (.aload_n 1, 1) := by decide +kernel
theorem dX2_copyFrom_46 : decode cX2_copyFrom 46 = .ok (.getfield 21, 3) := by decide +kernel
theorem dX2_copyFrom_49 : decode cX2_copyFrom 49 = .ok (.iconst 0, 1) := by decide +kernel
theorem dX2_copyFrom_50 : decode cX2_copyFrom 50 = .ok (.aload_n 0, 1) := by decide +kernel
theorem dX2_copyFrom_51 : decode cX2_copyFrom 51 = .ok (.getfield 21, 3) := by decide +kernel
theorem dX2_copyFrom_54 : decode cX2_copyFrom 54 = .ok (.iconst 0, 1) := by decide +kernel
theorem dX2_copyFrom_55 : decode cX2_copyFrom 55 = .ok (.bipush 8, 2) := by decide +kernel
theorem dX2_copyFrom_57 : decode cX2_copyFrom 57 = .ok (.invokestatic 71, 3) := by decide +kernel
theorem dX2_copyFrom_60 : decode cX2_copyFrom 60 = .ok (.aload_n 0, 1) := by decide +kernel
theorem dX2_copyFrom_61 : decode cX2_copyFrom 61 = .ok (.aload_n 1, 1) := by decide +kernel
theorem dX2_copyFrom_62 : decode cX2_copyFrom 62 = .ok (.getfield 24, 3) := by decide +kernel
theorem dX2_copyFrom_65 : decode cX2_copyFrom 65 = .ok (.putfield 24, 3) := by decide +kernel
theorem dX2_copyFrom_68 : decode cX2_copyFrom 68 = .ok (.aload_n 0, 1) := by decide +kernel
theorem dX2_copyFrom_69 : decode cX2_copyFrom 69 = .ok (.aload_n 1, 1) := by decide +kernel
theorem dX2_copyFrom_70 : decode cX2_copyFrom 70 = .ok (.getfield 28, 3) := by decide +kernel
theorem dX2_copyFrom_73 : decode cX2_copyFrom 73 = .ok (.putfield 28, 3) := by decide +kernel
theorem dX2_copyFrom_76 : decode cX2_copyFrom 76 = .ok (.aload_n 0, 1) := by decide +kernel
theorem dX2_copyFrom_77 : decode cX2_copyFrom 77 = .ok (.aload_n 1, 1) := by decide +kernel
theorem dX2_copyFrom_78 : decode cX2_copyFrom 78 = .ok (.getfield 31, 3) := by decide +kernel
theorem dX2_copyFrom_81 : decode cX2_copyFrom 81 = .ok (.putfield 31, 3) := by decide +kernel
theorem dX2_copyFrom_84 : decode cX2_copyFrom 84 = .ok (.aload_n 0, 1) := by decide +kernel
theorem dX2_copyFrom_85 : decode cX2_copyFrom 85 = .ok (.aload_n 1, 1) := by decide +kernel
theorem dX2_copyFrom_86 : decode cX2_copyFrom 86 = .ok (.getfield 34, 3) := by decide +kernel
theorem dX2_copyFrom_89 : decode cX2_copyFrom 89 = .ok (.putfield 34, 3) := by decide +kernel
theorem dX2_copyFrom_92 : decode cX2_copyFrom 92 = .ok (.aload_n 0, 1) := by decide +kernel
theorem dX2_copyFrom_93 : decode cX2_copyFrom 93 = .ok (.aload_n 1, 1) := by decide +kernel
theorem dX2_copyFrom_94 : decode cX2_copyFrom 94 = .ok (.getfield 37, 3) := by decide +kernel
theorem dX2_copyFrom_97 : decode cX2_copyFrom 97 = .ok (.putfield 37, 3) := by decide +kernel
theorem dX2_copyFrom_100 : decode cX2_copyFrom 100 = .ok (.aload_n 0, 1) := by decide +kernel
theorem dX2_copyFrom_101 : decode cX2_copyFrom 101 = .ok (.aload_n 1, 1) := by decide +kernel
theorem dX2_copyFrom_102 : decode cX2_copyFrom 102 = .ok (.getfield 40, 3) := by decide +kernel
theorem dX2_copyFrom_105 : decode cX2_copyFrom 105 = .ok (.putfield 40, 3) := by decide +kernel
theorem dX2_copyFrom_108 : decode cX2_copyFrom 108 = .ok (.aload_n 0, 1) := by decide +kernel
theorem dX2_copyFrom_109 : decode cX2_copyFrom 109 = .ok (.aload_n 1, 1) := by decide +kernel
theorem dX2_copyFrom_110 : decode cX2_copyFrom 110 = .ok (.getfield 43, 3) := by decide +kernel
theorem dX2_copyFrom_113 : decode cX2_copyFrom 113 = .ok (.putfield 43, 3) := by decide +kernel
theorem dX2_copyFrom_116 : decode cX2_copyFrom 116 = .ok (.return_, 1) := by decide +kernel
def f_X2_copyFrom (s0 : LgT) (s1 : LgT) : Option (LgT) :=
  if cpok (0 : Int32) (0 : Int32) (60 : Int32) 60 60 then if cpok (0 : Int32) (0 : Int32) (60 : Int32) 60 60 then if cpok (0 : Int32) (0 : Int32) (60 : Int32) 60 60 then if cpok (0 : Int32) (0 : Int32) (8 : Int32) 8 8 then some ((Lg_w_actOfMost (Lg_w_most (Lg_w_inAct (Lg_w_acts (Lg_w_went (Lg_w_came (Lg_w_total (Lg_w_byKey (Lg_w_numbers (Lg_w_amounts (Lg_w_places s0 (va_cpy (Lg_places s1) (Lg_places s0) (ix (0 : Int32)) (ix (0 : Int32)) (ix (60 : Int32)))) (va_cpy (Lg_amounts s1) (Lg_amounts s0) (ix (0 : Int32)) (ix (0 : Int32)) (ix (60 : Int32)))) (va_cpy (Lg_numbers s1) (Lg_numbers s0) (ix (0 : Int32)) (ix (0 : Int32)) (ix (60 : Int32)))) (va_cpy (Lg_byKey s1) (Lg_byKey s0) (ix (0 : Int32)) (ix (0 : Int32)) (ix (8 : Int32)))) (Lg_total s1)) (Lg_came s1)) (Lg_went s1)) (Lg_acts s1)) (Lg_inAct s1)) (Lg_most s1)) (Lg_actOfMost s1))) else none else none else none else none
abbrev rm_X2_copyFrom : Room := { frames := 1, cells := 0, slots := 0, locals := 40 }
set_option maxHeartbeats 4000000 in
set_option maxRecDepth 100000 in
theorem c_X2_copyFrom (l : Launch) (g : GK) (a0 : Nat → Nat) (s0 : LgT) (a1 : Nat → Nat) (s1 : LgT) (res : (LgT)) (hf : f_X2_copyFrom s0 s1 = some res) : gM l yX2_copyFrom cX2_copyFrom 2 none rm_X2_copyFrom g [.ref (a0 0), .ref (a1 0)] (Lg_c g a0 s0 ++ Lg_c g a1 s1) (fun _ : Unit => none) (fun _ => (Lg_c g a0 res ++ Lg_c g a1 s1)) 0 0 := by
  refine gM_introV RX2 (by decide) rfl (Nat.le_of_ble_eq_true rfl) (fun p e s m args below meth c Q H locs ls A hE hnm hZ hA hP hD hS hq hl => ?_)
  have hl : lv_has ls 2 [(0, .ref (a0 0)), (1, .ref (a1 0))] := hl
  have hx := hE.1
  have hb := hE.2.1
  rw [f_X2_copyFrom] at hf
  refine lv_aload_n hx hb dX2_copyFrom_0 rfl (lv_at hl 1 rfl) ?_
  refine g_get hE okX2 fl_X2_11 hP 5 rfl (v := .ref (a1 1)) rfl dX2_copyFrom_1 ?_
  refine lv_iconst hx hb dX2_copyFrom_4 kci_0 ?_
  refine lv_aload_n hx hb dX2_copyFrom_5 rfl (lv_at hl 0 rfl) ?_
  refine g_get hE okX2 fl_X2_11 hP 0 rfl (v := .ref (a0 1)) rfl dX2_copyFrom_6 ?_
  refine lv_iconst hx hb dX2_copyFrom_9 kci_0 ?_
  refine lv_bipush hx hb dX2_copyFrom_10 kcb_60 ?_
  obtain ⟨hg1, hf⟩ := ggd hf
  refine g_copyi hE hl.1 km_X2_71 hP hD hS 6 1 (f := (Lg_places s1)) (f2 := (Lg_places s0)) rfl rfl hg1 (Nat.le_of_ble_eq_true rfl) (rest := []) (Nat.le_of_ble_eq_true rfl) (Lg_c g a0 (Lg_w_places s0 (va_cpy (Lg_places s1) (Lg_places s0) (ix (0 : Int32)) (ix (0 : Int32)) (ix (60 : Int32)))) ++ Lg_c g a1 s1) rfl dX2_copyFrom_12 (fun H locs hP hD hS => ?_)
  refine lv_aload_n hx hb dX2_copyFrom_15 rfl (lv_at hl 1 rfl) ?_
  refine g_get hE okX2 fl_X2_15 hP 5 rfl (v := .ref (a1 2)) rfl dX2_copyFrom_16 ?_
  refine lv_iconst hx hb dX2_copyFrom_19 kci_0 ?_
  refine lv_aload_n hx hb dX2_copyFrom_20 rfl (lv_at hl 0 rfl) ?_
  refine g_get hE okX2 fl_X2_15 hP 0 rfl (v := .ref (a0 2)) rfl dX2_copyFrom_21 ?_
  refine lv_iconst hx hb dX2_copyFrom_24 kci_0 ?_
  refine lv_bipush hx hb dX2_copyFrom_25 kcb_60 ?_
  obtain ⟨hg2, hf⟩ := ggd hf
  refine g_copyi hE hl.1 km_X2_71 hP hD hS 7 2 (f := (Lg_amounts s1)) (f2 := (Lg_amounts s0)) rfl rfl hg2 (Nat.le_of_ble_eq_true rfl) (rest := []) (Nat.le_of_ble_eq_true rfl) (Lg_c g a0 (Lg_w_amounts (Lg_w_places s0 (va_cpy (Lg_places s1) (Lg_places s0) (ix (0 : Int32)) (ix (0 : Int32)) (ix (60 : Int32)))) (va_cpy (Lg_amounts s1) (Lg_amounts s0) (ix (0 : Int32)) (ix (0 : Int32)) (ix (60 : Int32)))) ++ Lg_c g a1 s1) rfl dX2_copyFrom_27 (fun H locs hP hD hS => ?_)
  refine lv_aload_n hx hb dX2_copyFrom_30 rfl (lv_at hl 1 rfl) ?_
  refine g_get hE okX2 fl_X2_18 hP 5 rfl (v := .ref (a1 3)) rfl dX2_copyFrom_31 ?_
  refine lv_iconst hx hb dX2_copyFrom_34 kci_0 ?_
  refine lv_aload_n hx hb dX2_copyFrom_35 rfl (lv_at hl 0 rfl) ?_
  refine g_get hE okX2 fl_X2_18 hP 0 rfl (v := .ref (a0 3)) rfl dX2_copyFrom_36 ?_
  refine lv_iconst hx hb dX2_copyFrom_39 kci_0 ?_
  refine lv_bipush hx hb dX2_copyFrom_40 kcb_60 ?_
  obtain ⟨hg3, hf⟩ := ggd hf
  refine g_copyi hE hl.1 km_X2_71 hP hD hS 8 3 (f := (Lg_numbers s1)) (f2 := (Lg_numbers s0)) rfl rfl hg3 (Nat.le_of_ble_eq_true rfl) (rest := []) (Nat.le_of_ble_eq_true rfl) (Lg_c g a0 (Lg_w_numbers (Lg_w_amounts (Lg_w_places s0 (va_cpy (Lg_places s1) (Lg_places s0) (ix (0 : Int32)) (ix (0 : Int32)) (ix (60 : Int32)))) (va_cpy (Lg_amounts s1) (Lg_amounts s0) (ix (0 : Int32)) (ix (0 : Int32)) (ix (60 : Int32)))) (va_cpy (Lg_numbers s1) (Lg_numbers s0) (ix (0 : Int32)) (ix (0 : Int32)) (ix (60 : Int32)))) ++ Lg_c g a1 s1) rfl dX2_copyFrom_42 (fun H locs hP hD hS => ?_)
  refine lv_aload_n hx hb dX2_copyFrom_45 rfl (lv_at hl 1 rfl) ?_
  refine g_get hE okX2 fl_X2_21 hP 5 rfl (v := .ref (a1 4)) rfl dX2_copyFrom_46 ?_
  refine lv_iconst hx hb dX2_copyFrom_49 kci_0 ?_
  refine lv_aload_n hx hb dX2_copyFrom_50 rfl (lv_at hl 0 rfl) ?_
  refine g_get hE okX2 fl_X2_21 hP 0 rfl (v := .ref (a0 4)) rfl dX2_copyFrom_51 ?_
  refine lv_iconst hx hb dX2_copyFrom_54 kci_0 ?_
  refine lv_bipush hx hb dX2_copyFrom_55 kcb_8 ?_
  obtain ⟨hg4, hf⟩ := ggd hf
  refine g_copyi hE hl.1 km_X2_71 hP hD hS 9 4 (f := (Lg_byKey s1)) (f2 := (Lg_byKey s0)) rfl rfl hg4 (Nat.le_of_ble_eq_true rfl) (rest := []) (Nat.le_of_ble_eq_true rfl) (Lg_c g a0 (Lg_w_byKey (Lg_w_numbers (Lg_w_amounts (Lg_w_places s0 (va_cpy (Lg_places s1) (Lg_places s0) (ix (0 : Int32)) (ix (0 : Int32)) (ix (60 : Int32)))) (va_cpy (Lg_amounts s1) (Lg_amounts s0) (ix (0 : Int32)) (ix (0 : Int32)) (ix (60 : Int32)))) (va_cpy (Lg_numbers s1) (Lg_numbers s0) (ix (0 : Int32)) (ix (0 : Int32)) (ix (60 : Int32)))) (va_cpy (Lg_byKey s1) (Lg_byKey s0) (ix (0 : Int32)) (ix (0 : Int32)) (ix (8 : Int32)))) ++ Lg_c g a1 s1) rfl dX2_copyFrom_57 (fun H locs hP hD hS => ?_)
  refine lv_aload_n hx hb dX2_copyFrom_60 rfl (lv_at hl 0 rfl) ?_
  refine lv_aload_n hx hb dX2_copyFrom_61 rfl (lv_at hl 1 rfl) ?_
  refine g_get hE okX2 fl_X2_24 hP 5 rfl (v := .int (Lg_total s1)) rfl dX2_copyFrom_62 ?_
  refine g_put hE okX2 fl_X2_24 hP hD hS 0 rfl rfl rfl rfl (Nat.le_of_ble_eq_true rfl) (Lg_c g a0 (Lg_w_total (Lg_w_byKey (Lg_w_numbers (Lg_w_amounts (Lg_w_places s0 (va_cpy (Lg_places s1) (Lg_places s0) (ix (0 : Int32)) (ix (0 : Int32)) (ix (60 : Int32)))) (va_cpy (Lg_amounts s1) (Lg_amounts s0) (ix (0 : Int32)) (ix (0 : Int32)) (ix (60 : Int32)))) (va_cpy (Lg_numbers s1) (Lg_numbers s0) (ix (0 : Int32)) (ix (0 : Int32)) (ix (60 : Int32)))) (va_cpy (Lg_byKey s1) (Lg_byKey s0) (ix (0 : Int32)) (ix (0 : Int32)) (ix (8 : Int32)))) (Lg_total s1)) ++ Lg_c g a1 s1) rfl dX2_copyFrom_65 (fun H locs hP hD hS => ?_)
  refine lv_aload_n hx hb dX2_copyFrom_68 rfl (lv_at hl 0 rfl) ?_
  refine lv_aload_n hx hb dX2_copyFrom_69 rfl (lv_at hl 1 rfl) ?_
  refine g_get hE okX2 fl_X2_28 hP 5 rfl (v := .int (Lg_came s1)) rfl dX2_copyFrom_70 ?_
  refine g_put hE okX2 fl_X2_28 hP hD hS 0 rfl rfl rfl rfl (Nat.le_of_ble_eq_true rfl) (Lg_c g a0 (Lg_w_came (Lg_w_total (Lg_w_byKey (Lg_w_numbers (Lg_w_amounts (Lg_w_places s0 (va_cpy (Lg_places s1) (Lg_places s0) (ix (0 : Int32)) (ix (0 : Int32)) (ix (60 : Int32)))) (va_cpy (Lg_amounts s1) (Lg_amounts s0) (ix (0 : Int32)) (ix (0 : Int32)) (ix (60 : Int32)))) (va_cpy (Lg_numbers s1) (Lg_numbers s0) (ix (0 : Int32)) (ix (0 : Int32)) (ix (60 : Int32)))) (va_cpy (Lg_byKey s1) (Lg_byKey s0) (ix (0 : Int32)) (ix (0 : Int32)) (ix (8 : Int32)))) (Lg_total s1)) (Lg_came s1)) ++ Lg_c g a1 s1) rfl dX2_copyFrom_73 (fun H locs hP hD hS => ?_)
  refine lv_aload_n hx hb dX2_copyFrom_76 rfl (lv_at hl 0 rfl) ?_
  refine lv_aload_n hx hb dX2_copyFrom_77 rfl (lv_at hl 1 rfl) ?_
  refine g_get hE okX2 fl_X2_31 hP 5 rfl (v := .int (Lg_went s1)) rfl dX2_copyFrom_78 ?_
  refine g_put hE okX2 fl_X2_31 hP hD hS 0 rfl rfl rfl rfl (Nat.le_of_ble_eq_true rfl) (Lg_c g a0 (Lg_w_went (Lg_w_came (Lg_w_total (Lg_w_byKey (Lg_w_numbers (Lg_w_amounts (Lg_w_places s0 (va_cpy (Lg_places s1) (Lg_places s0) (ix (0 : Int32)) (ix (0 : Int32)) (ix (60 : Int32)))) (va_cpy (Lg_amounts s1) (Lg_amounts s0) (ix (0 : Int32)) (ix (0 : Int32)) (ix (60 : Int32)))) (va_cpy (Lg_numbers s1) (Lg_numbers s0) (ix (0 : Int32)) (ix (0 : Int32)) (ix (60 : Int32)))) (va_cpy (Lg_byKey s1) (Lg_byKey s0) (ix (0 : Int32)) (ix (0 : Int32)) (ix (8 : Int32)))) (Lg_total s1)) (Lg_came s1)) (Lg_went s1)) ++ Lg_c g a1 s1) rfl dX2_copyFrom_81 (fun H locs hP hD hS => ?_)
  refine lv_aload_n hx hb dX2_copyFrom_84 rfl (lv_at hl 0 rfl) ?_
  refine lv_aload_n hx hb dX2_copyFrom_85 rfl (lv_at hl 1 rfl) ?_
  refine g_get hE okX2 fl_X2_34 hP 5 rfl (v := .int (Lg_acts s1)) rfl dX2_copyFrom_86 ?_
  refine g_put hE okX2 fl_X2_34 hP hD hS 0 rfl rfl rfl rfl (Nat.le_of_ble_eq_true rfl) (Lg_c g a0 (Lg_w_acts (Lg_w_went (Lg_w_came (Lg_w_total (Lg_w_byKey (Lg_w_numbers (Lg_w_amounts (Lg_w_places s0 (va_cpy (Lg_places s1) (Lg_places s0) (ix (0 : Int32)) (ix (0 : Int32)) (ix (60 : Int32)))) (va_cpy (Lg_amounts s1) (Lg_amounts s0) (ix (0 : Int32)) (ix (0 : Int32)) (ix (60 : Int32)))) (va_cpy (Lg_numbers s1) (Lg_numbers s0) (ix (0 : Int32)) (ix (0 : Int32)) (ix (60 : Int32)))) (va_cpy (Lg_byKey s1) (Lg_byKey s0) (ix (0 : Int32)) (ix (0 : Int32)) (ix (8 : Int32)))) (Lg_total s1)) (Lg_came s1)) (Lg_went s1)) (Lg_acts s1)) ++ Lg_c g a1 s1) rfl dX2_copyFrom_89 (fun H locs hP hD hS => ?_)
  refine lv_aload_n hx hb dX2_copyFrom_92 rfl (lv_at hl 0 rfl) ?_
  refine lv_aload_n hx hb dX2_copyFrom_93 rfl (lv_at hl 1 rfl) ?_
  refine g_get hE okX2 fl_X2_37 hP 5 rfl (v := .int (Lg_inAct s1)) rfl dX2_copyFrom_94 ?_
  refine g_put hE okX2 fl_X2_37 hP hD hS 0 rfl rfl rfl rfl (Nat.le_of_ble_eq_true rfl) (Lg_c g a0 (Lg_w_inAct (Lg_w_acts (Lg_w_went (Lg_w_came (Lg_w_total (Lg_w_byKey (Lg_w_numbers (Lg_w_amounts (Lg_w_places s0 (va_cpy (Lg_places s1) (Lg_places s0) (ix (0 : Int32)) (ix (0 : Int32)) (ix (60 : Int32)))) (va_cpy (Lg_amounts s1) (Lg_amounts s0) (ix (0 : Int32)) (ix (0 : Int32)) (ix (60 : Int32)))) (va_cpy (Lg_numbers s1) (Lg_numbers s0) (ix (0 : Int32)) (ix (0 : Int32)) (ix (60 : Int32)))) (va_cpy (Lg_byKey s1) (Lg_byKey s0) (ix (0 : Int32)) (ix (0 : Int32)) (ix (8 : Int32)))) (Lg_total s1)) (Lg_came s1)) (Lg_went s1)) (Lg_acts s1)) (Lg_inAct s1)) ++ Lg_c g a1 s1) rfl dX2_copyFrom_97 (fun H locs hP hD hS => ?_)
  refine lv_aload_n hx hb dX2_copyFrom_100 rfl (lv_at hl 0 rfl) ?_
  refine lv_aload_n hx hb dX2_copyFrom_101 rfl (lv_at hl 1 rfl) ?_
  refine g_get hE okX2 fl_X2_40 hP 5 rfl (v := .int (Lg_most s1)) rfl dX2_copyFrom_102 ?_
  refine g_put hE okX2 fl_X2_40 hP hD hS 0 rfl rfl rfl rfl (Nat.le_of_ble_eq_true rfl) (Lg_c g a0 (Lg_w_most (Lg_w_inAct (Lg_w_acts (Lg_w_went (Lg_w_came (Lg_w_total (Lg_w_byKey (Lg_w_numbers (Lg_w_amounts (Lg_w_places s0 (va_cpy (Lg_places s1) (Lg_places s0) (ix (0 : Int32)) (ix (0 : Int32)) (ix (60 : Int32)))) (va_cpy (Lg_amounts s1) (Lg_amounts s0) (ix (0 : Int32)) (ix (0 : Int32)) (ix (60 : Int32)))) (va_cpy (Lg_numbers s1) (Lg_numbers s0) (ix (0 : Int32)) (ix (0 : Int32)) (ix (60 : Int32)))) (va_cpy (Lg_byKey s1) (Lg_byKey s0) (ix (0 : Int32)) (ix (0 : Int32)) (ix (8 : Int32)))) (Lg_total s1)) (Lg_came s1)) (Lg_went s1)) (Lg_acts s1)) (Lg_inAct s1)) (Lg_most s1)) ++ Lg_c g a1 s1) rfl dX2_copyFrom_105 (fun H locs hP hD hS => ?_)
  refine lv_aload_n hx hb dX2_copyFrom_108 rfl (lv_at hl 0 rfl) ?_
  refine lv_aload_n hx hb dX2_copyFrom_109 rfl (lv_at hl 1 rfl) ?_
  refine g_get hE okX2 fl_X2_43 hP 5 rfl (v := .int (Lg_actOfMost s1)) rfl dX2_copyFrom_110 ?_
  refine g_put hE okX2 fl_X2_43 hP hD hS 0 rfl rfl rfl rfl (Nat.le_of_ble_eq_true rfl) (Lg_c g a0 (Lg_w_actOfMost (Lg_w_most (Lg_w_inAct (Lg_w_acts (Lg_w_went (Lg_w_came (Lg_w_total (Lg_w_byKey (Lg_w_numbers (Lg_w_amounts (Lg_w_places s0 (va_cpy (Lg_places s1) (Lg_places s0) (ix (0 : Int32)) (ix (0 : Int32)) (ix (60 : Int32)))) (va_cpy (Lg_amounts s1) (Lg_amounts s0) (ix (0 : Int32)) (ix (0 : Int32)) (ix (60 : Int32)))) (va_cpy (Lg_numbers s1) (Lg_numbers s0) (ix (0 : Int32)) (ix (0 : Int32)) (ix (60 : Int32)))) (va_cpy (Lg_byKey s1) (Lg_byKey s0) (ix (0 : Int32)) (ix (0 : Int32)) (ix (8 : Int32)))) (Lg_total s1)) (Lg_came s1)) (Lg_went s1)) (Lg_acts s1)) (Lg_inAct s1)) (Lg_most s1)) (Lg_actOfMost s1)) ++ Lg_c g a1 s1) rfl dX2_copyFrom_113 (fun H locs hP hD hS => ?_)
  cases hf
  exact hq () rfl hP hD hS dX2_copyFrom_116
