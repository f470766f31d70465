abbrev WdT : Type := (Nat → Int64) × Int32
abbrev Wd_packs (s : WdT) : (Nat → Int64) := s.1
abbrev Wd_count (s : WdT) : Int32 := s.2
abbrev Wd_mk (x0 : (Nat → Int64)) (x1 : Int32) : WdT := (x0, x1)
abbrev Wd_w_packs (s : WdT) (v : (Nat → Int64)) : WdT := (v, s.2)
abbrev Wd_w_count (s : WdT) (v : Int32) : WdT := (s.1, v)
abbrev Wd_c (g : GK) (a : Nat → Nat) (s : WdT) : va_W := [(a 0, .inr (8, [.ref (a 1), .int (Wd_count s)])), (a 1, .inl (g.2.2.1, 8, .inr (.inl (Wd_packs s))))]
abbrev TpT : Type := (Nat → Int32) × Int32 × Int32 × Int32 × Int32 × Int32 × Int64 × Int32
abbrev Tp_bytes (s : TpT) : (Nat → Int32) := s.1
abbrev Tp_length (s : TpT) : Int32 := s.2.1
abbrev Tp_end (s : TpT) : Int32 := s.2.2.1
abbrev Tp_at (s : TpT) : Int32 := s.2.2.2.1
abbrev Tp_kind (s : TpT) : Int32 := s.2.2.2.2.1
abbrev Tp_start (s : TpT) : Int32 := s.2.2.2.2.2.1
abbrev Tp_word (s : TpT) : Int64 := s.2.2.2.2.2.2.1
abbrev Tp_whole (s : TpT) : Int32 := s.2.2.2.2.2.2.2
abbrev Tp_mk (x0 : (Nat → Int32)) (x1 : Int32) (x2 : Int32) (x3 : Int32) (x4 : Int32) (x5 : Int32) (x6 : Int64) (x7 : Int32) : TpT := (x0, x1, x2, x3, x4, x5, x6, x7)
abbrev Tp_w_bytes (s : TpT) (v : (Nat → Int32)) : TpT := (v, s.2.1, s.2.2.1, s.2.2.2.1, s.2.2.2.2.1, s.2.2.2.2.2.1, s.2.2.2.2.2.2.1, s.2.2.2.2.2.2.2)
abbrev Tp_w_length (s : TpT) (v : Int32) : TpT := (s.1, v, s.2.2.1, s.2.2.2.1, s.2.2.2.2.1, s.2.2.2.2.2.1, s.2.2.2.2.2.2.1, s.2.2.2.2.2.2.2)
abbrev Tp_w_end (s : TpT) (v : Int32) : TpT := (s.1, s.2.1, v, s.2.2.2.1, s.2.2.2.2.1, s.2.2.2.2.2.1, s.2.2.2.2.2.2.1, s.2.2.2.2.2.2.2)
abbrev Tp_w_at (s : TpT) (v : Int32) : TpT := (s.1, s.2.1, s.2.2.1, v, s.2.2.2.2.1, s.2.2.2.2.2.1, s.2.2.2.2.2.2.1, s.2.2.2.2.2.2.2)
abbrev Tp_w_kind (s : TpT) (v : Int32) : TpT := (s.1, s.2.1, s.2.2.1, s.2.2.2.1, v, s.2.2.2.2.2.1, s.2.2.2.2.2.2.1, s.2.2.2.2.2.2.2)
abbrev Tp_w_start (s : TpT) (v : Int32) : TpT := (s.1, s.2.1, s.2.2.1, s.2.2.2.1, s.2.2.2.2.1, v, s.2.2.2.2.2.2.1, s.2.2.2.2.2.2.2)
abbrev Tp_w_word (s : TpT) (v : Int64) : TpT := (s.1, s.2.1, s.2.2.1, s.2.2.2.1, s.2.2.2.2.1, s.2.2.2.2.2.1, v, s.2.2.2.2.2.2.2)
abbrev Tp_w_whole (s : TpT) (v : Int32) : TpT := (s.1, s.2.1, s.2.2.1, s.2.2.2.1, s.2.2.2.2.1, s.2.2.2.2.2.1, s.2.2.2.2.2.2.1, v)
abbrev Tp_c (g : GK) (a : Nat → Nat) (s : TpT) : va_W := [(a 0, .inr (7, [.ref (a 1), .int (Tp_length s), .int (Tp_end s), .int (Tp_at s), .int (Tp_kind s), .int (Tp_start s), .long (Tp_word s), .int (Tp_whole s)])), (a 1, .inl (g.2.2.2.1, 900, .inl (Tp_bytes s)))]
theorem km_X7_39 : Cond.methodLink RX7 39 arraycopyName ∈ TBL := tb (in3 (List.mem_of_getElem? (i := 33) (by decide +kernel))) (by decide +kernel)
theorem kcb_10 : (Int8.ofInt (10)).toInt32 = (10 : Int32) := by decide
theorem kcb_122 : (Int8.ofInt (122)).toInt32 = (122 : Int32) := by decide
theorem kcb_16 : (Int8.ofInt (16)).toInt32 = (16 : Int32) := by decide
theorem kcb_24 : (Int8.ofInt (24)).toInt32 = (24 : Int32) := by decide
theorem kcb_32 : (Int8.ofInt (32)).toInt32 = (32 : Int32) := by decide
theorem kcb_48 : (Int8.ofInt (48)).toInt32 = (48 : Int32) := by decide
theorem kcb_57 : (Int8.ofInt (57)).toInt32 = (57 : Int32) := by decide
theorem kcb_59 : (Int8.ofInt (59)).toInt32 = (59 : Int32) := by decide
theorem kcb_97 : (Int8.ofInt (97)).toInt32 = (97 : Int32) := by decide
theorem kci_5 : Int32.ofInt (5) = (5 : Int32) := by decide
theorem kcl_0 : Int64.ofNat 0 = (0 : Int64) := by decide
theorem kcs_900 : (Int16.ofInt (900)).toInt32 = (900 : Int32) := by decide
theorem kd_X7_27 : Cond.constantLong RX7 27 (255 : Int64) ∈ TBL := tb (in3 (List.mem_of_getElem? (i := 155) (by decide +kernel))) (by decide +kernel)
theorem dX7_knows_0 : decode cX7_knows 0 = .ok (.iload_n 1, 1) := by decide +kernel
theorem dX7_knows_1 : decode cX7_knows 1 = .ok (.ifCond .lt 21, 3) := by decide +kernel
theorem dX7_knows_4 : decode cX7_knows 4 = .ok (.iload_n 1, 1) := by decide +kernel
theorem dX7_knows_5 : decode cX7_knows 5 = .ok (.aload_n 0, 1) := by decide +kernel
theorem dX7_knows_6 : decode cX7_knows 6 = .ok (.getfield 15, 3) := by decide +kernel
theorem dX7_knows_9 : decode cX7_knows 9 = .ok (.if_icmp .ge 13, 3) := by decide +kernel
theorem dX7_knows_12 : decode cX7_knows 12 = .ok (.iload_n 1, 1) := by decide +kernel
theorem dX7_knows_13 : decode cX7_knows 13 = .ok (.bipush 8, 2) := by decide +kernel
theorem dX7_knows_15 : decode cX7_knows 15 = .ok (.if_icmp .ge 7, 3) := by decide +kernel
theorem dX7_knows_18 : decode cX7_knows 18 = .ok (.iconst 1, 1) := by decide +kernel
theorem dX7_knows_19 : decode cX7_knows 19 = .ok (.goto 4, 3) := by decide +kernel
theorem dX7_knows_22 : decode cX7_knows 22 = .ok (.iconst 0, 1) := by decide +kernel
theorem dX7_knows_23 : decode cX7_knows 23 = .ok (.ireturn, 1) := by decide +kernel
def f_X7_knows (s0 : WdT) (p1 : Int32) : Option (Int32) :=
  if p1 < 0 then some ((0 : Int32))
  else if (Wd_count s0) ≤ p1 then some ((0 : Int32))
  else if (8 : Int32) ≤ p1 then some ((0 : Int32))
  else some ((1 : Int32))
abbrev rm_X7_knows : Room := { frames := 0, cells := 0, slots := 0, locals := 0 }
set_option maxHeartbeats 4000000 in
set_option maxRecDepth 100000 in
theorem c_X7_knows (l : Launch) (g : GK) (a0 : Nat → Nat) (s0 : WdT) (p1 : Int32) (res : (Int32)) (hf : f_X7_knows s0 p1 = some res) : gR l yX7_knows cX7_knows 2 (some .boolean) rm_X7_knows g [.ref (a0 0), .int p1] (Wd_c g a0 s0) (some (.int res)) := by
  refine gR_introZ RX7 (by decide) rfl (Nat.le_of_ble_eq_true rfl) (fun p e s m args below meth c Q H locs ls hE hP hZ hS hq hl => ?_)
  have hl : lv_has ls 2 [(0, .ref (a0 0)), (1, .int p1)] := hl
  have hx := hE.1
  have hb := hE.2.1
  rw [f_X7_knows] at hf
  refine lv_iload_n hx hb dX7_knows_0 rfl (lv_at hl 1 rfl) ?_
  refine lv_if_lt hx hb dX7_knows_1 (tgt := 22) rfl (fun h1 => ?_) (fun h1 => ?_)
  · have hf := gif_t h1 hf
    refine lv_iconst hx hb dX7_knows_22 kci_0 ?_
    cases hf
    exact hq (by decide) rfl dX7_knows_23
  · have hf := gif_f h1 hf
    refine lv_iload_n hx hb dX7_knows_4 rfl (lv_at hl 1 rfl) ?_
    refine lv_aload_n hx hb dX7_knows_5 rfl (lv_at hl 0 rfl) ?_
    refine g_get hE okX7 fl_X7_15 hP 0 rfl (v := .int (Wd_count s0)) rfl dX7_knows_6 ?_
    refine lv_icmp_ge hx hb dX7_knows_9 (tgt := 22) rfl (fun h2 => ?_) (fun h2 => ?_)
    · have hf := gif_t h2 hf
      refine lv_iconst hx hb dX7_knows_22 kci_0 ?_
      cases hf
      exact hq (by decide) rfl dX7_knows_23
    · have hf := gif_f h2 hf
      refine lv_iload_n hx hb dX7_knows_12 rfl (lv_at hl 1 rfl) ?_
      refine lv_bipush hx hb dX7_knows_13 kcb_8 ?_
      refine lv_icmp_ge hx hb dX7_knows_15 (tgt := 22) rfl (fun h3 => ?_) (fun h3 => ?_)
      · have hf := gif_t h3 hf
        refine lv_iconst hx hb dX7_knows_22 kci_0 ?_
        cases hf
        exact hq (by decide) rfl dX7_knows_23
      · have hf := gif_f h3 hf
        refine lv_iconst hx hb dX7_knows_18 kci_1 ?_
        refine lv_goto hx hb dX7_knows_19 (tgt := 23) rfl ?_
        cases hf
        exact hq (by decide) rfl dX7_knows_23
theorem dX7_isFull_0 : decode cX7_isFull 0 = .ok (.aload_n 0, 1) := by decide +kernel
theorem dX7_isFull_1 : decode cX7_isFull 1 = .ok (.getfield 15, 3) := by decide +kernel
theorem dX7_isFull_4 : decode cX7_isFull 4 = .ok (.bipush 8, 2) := by decide +kernel
theorem dX7_isFull_6 : decode cX7_isFull 6 = .ok (.if_icmp .lt 7, 3) := by decide +kernel
theorem dX7_isFull_9 : decode cX7_isFull 9 = .ok (.iconst 1, 1) := by decide +kernel
theorem dX7_isFull_10 : decode cX7_isFull 10 = .ok (.goto 4, 3) := by decide +kernel
theorem dX7_isFull_13 : decode cX7_isFull 13 = .ok (.iconst 0, 1) := by decide +kernel
theorem dX7_isFull_14 : decode cX7_isFull 14 = .ok (.ireturn, 1) := by decide +kernel
def f_X7_isFull (s0 : WdT) : Option (Int32) :=
  if (Wd_count s0) < (8 : Int32) then some ((0 : Int32))
  else some ((1 : Int32))
abbrev rm_X7_isFull : Room := { frames := 0, cells := 0, slots := 0, locals := 0 }
set_option maxHeartbeats 4000000 in
set_option maxRecDepth 100000 in
theorem c_X7_isFull (l : Launch) (g : GK) (a0 : Nat → Nat) (s0 : WdT) (res : (Int32)) (hf : f_X7_isFull s0 = some res) : gR l yX7_isFull cX7_isFull 1 (some .boolean) rm_X7_isFull g [.ref (a0 0)] (Wd_c g a0 s0) (some (.int res)) := by
  refine gR_introZ RX7 (by decide) rfl (Nat.le_of_ble_eq_true rfl) (fun p e s m args below meth c Q H locs ls hE hP hZ hS hq hl => ?_)
  have hl : lv_has ls 1 [(0, .ref (a0 0))] := hl
  have hx := hE.1
  have hb := hE.2.1
  rw [f_X7_isFull] at hf
  refine lv_aload_n hx hb dX7_isFull_0 rfl (lv_at hl 0 rfl) ?_
  refine g_get hE okX7 fl_X7_15 hP 0 rfl (v := .int (Wd_count s0)) rfl dX7_isFull_1 ?_
  refine lv_bipush hx hb dX7_isFull_4 kcb_8 ?_
  refine lv_icmp_lt hx hb dX7_isFull_6 (tgt := 13) rfl (fun h1 => ?_) (fun h1 => ?_)
  · have hf := gif_t h1 hf
    refine lv_iconst hx hb dX7_isFull_13 kci_0 ?_
    cases hf
    exact hq (by decide) rfl dX7_isFull_14
  · have hf := gif_f h1 hf
    refine lv_iconst hx hb dX7_isFull_9 kci_1 ?_
    refine lv_goto hx hb dX7_isFull_10 (tgt := 14) rfl ?_
    cases hf
    exact hq (by decide) rfl dX7_isFull_14
theorem dX7_numberOf_0 : decode cX7_numberOf 0 = .ok (.iconst 0, 1) := by decide +kernel
theorem dX7_numberOf_1 : decode cX7_numberOf 1 = .ok (.istore_n 3, 1) := by decide +kernel
theorem dX7_numberOf_2 : decode cX7_numberOf 2 = .ok (.iload_n 3, 1) := by decide +kernel
theorem dX7_numberOf_3 : decode cX7_numberOf 3 = .ok (.aload_n 0, 1) := by decide +kernel
theorem dX7_numberOf_4 : decode cX7_numberOf 4 = .ok (.getfield 15, 3) := by decide +kernel
theorem dX7_numberOf_7 : decode cX7_numberOf 7 = .ok (.if_icmp .ge 28, 3) := by decide +kernel
theorem dX7_numberOf_10 : decode cX7_numberOf 10 = .ok (.iload_n 3, 1) := by decide +kernel
theorem dX7_numberOf_11 : decode cX7_numberOf 11 = .ok (.bipush 8, 2) := by decide +kernel
theorem dX7_numberOf_13 : decode cX7_numberOf 13 = .ok (.if_icmp .ge 22, 3) := by decide +kernel
theorem dX7_numberOf_16 : decode cX7_numberOf 16 = .ok (.aload_n 0, 1) := by decide +kernel
theorem dX7_numberOf_17 : decode cX7_numberOf 17 = .ok (.getfield 9, 3) := by decide +kernel
theorem dX7_numberOf_20 : decode cX7_numberOf 20 = .ok (.iload_n 3, 1) := by decide +kernel
theorem dX7_numberOf_21 : decode cX7_numberOf 21 = .ok (.laload, 1) := by decide +kernel
theorem dX7_numberOf_22 : decode cX7_numberOf 22 = .ok (.lload_n 1, 1) := by decide +kernel
theorem dX7_numberOf_23 : decode cX7_numberOf 23 = .ok (.lcmp, 1) := by decide +kernel
theorem dX7_numberOf_24 : decode cX7_numberOf 24 = .ok (.ifCond .ne 5, 3) := by decide +kernel
theorem dX7_numberOf_27 : decode cX7_numberOf 27 = .ok (.iload_n 3, 1) := by decide +kernel
theorem dX7_numberOf_28 : decode cX7_numberOf 28 = .ok (.ireturn, 1) := by decide +kernel
theorem dX7_numberOf_29 : decode cX7_numberOf 29 = .ok (.iinc 3 1, 3) := by decide +kernel
theorem dX7_numberOf_32 : decode cX7_numberOf 32 = .ok (.goto (-30), 3) := by decide +kernel
theorem dX7_numberOf_35 : decode cX7_numberOf 35 = .ok (.iconst (-1), 1) := by decide +kernel
theorem dX7_numberOf_36 : decode cX7_numberOf 36 = .ok (.ireturn, 1) := by decide +kernel
def f_X7_numberOf_L2_5 (s0 : WdT) (p1 : Int64) (K1 : (Int32 → Option (Int32))) (K3 : (Unit → Option (Int32))) : Nat → Int32 → Option (Int32)
  | 0, _ => none
  | n6 + 1, x3_4 => if (Wd_count s0) ≤ x3_4 then K3 ()
  else if (8 : Int32) ≤ x3_4 then K3 ()
  else if inb x3_4 8 then if (lg_cmp ((Wd_packs s0) (ix x3_4)) p1) = 0 then K1 x3_4
  else f_X7_numberOf_L2_5 s0 p1 K1 K3 n6 (x3_4 + (1 : Int32)) else none
def f_X7_numberOf (s0 : WdT) (p1 : Int64) : Option (Int32) :=
  glt (fun (x3_2 : Int32) => some (x3_2)) fun K1 =>
  glt (fun (_ : Unit) => some ((-1 : Int32))) fun K3 =>
  f_X7_numberOf_L2_5 s0 p1 K1 K3 10000 (0 : Int32)
abbrev rm_X7_numberOf : Room := { frames := 0, cells := 0, slots := 0, locals := 0 }
set_option maxHeartbeats 4000000 in
set_option maxRecDepth 100000 in
theorem c_X7_numberOf (l : Launch) (g : GK) (a0 : Nat → Nat) (s0 : WdT) (p1 : Int64) (res : (Int32)) (hf : f_X7_numberOf s0 p1 = some res) : gR l yX7_numberOf cX7_numberOf 4 (some .int) rm_X7_numberOf g [.ref (a0 0), .long p1] (Wd_c g a0 s0) (some (.int res)) := by
  refine gR_introI RX7 (by decide) rfl (Nat.le_of_ble_eq_true rfl) (fun p e s m args below meth c Q H locs ls hE hP hZ hS hq hl => ?_)
  have hl : lv_has ls 4 [(0, .ref (a0 0)), (1, .long p1)] := hl
  have hx := hE.1
  have hb := hE.2.1
  rw [f_X7_numberOf] at hf
  refine lv_iconst hx hb dX7_numberOf_0 kci_0 ?_
  refine lv_istore_n hx hb dX7_numberOf_1 rfl hl (by decide) (lv' := [(3, .int (0 : Int32)), (0, .ref (a0 0)), (1, .long p1)]) rfl (fun ls hl => ?_)
  obtain ⟨K1, eK1, hf⟩ := gltd hf
  have kK1 : ∀ (x3_2 : Int32) (ls : Array Slot), K1 x3_2 = some res → lv_has ls 4 [(3, .int x3_2)] → W p l e rm_X7_numberOf s m args below meth c H locs 0 0 Q (F0 m 27 ls []) := by
    intro x3_2 ls hf hl
    rw [eK1] at hf
    refine lv_iload_n hx hb dX7_numberOf_27 rfl (lv_at hl 0 rfl) ?_
    cases hf
    exact hq rfl dX7_numberOf_28
  obtain ⟨K3, eK3, hf⟩ := gltd hf
  have kK3 : ∀ (_ : Unit) (ls : Array Slot), K3 () = some res → lv_has ls 4 [] → W p l e rm_X7_numberOf s m args below meth c H locs 0 0 Q (F0 m 35 ls []) := by
    intro _ ls hf hl
    rw [eK3] at hf
    refine lv_iconst hx hb dX7_numberOf_35 kci_m1 ?_
    cases hf
    exact hq rfl dX7_numberOf_36
  have lpn6 : ∀ (n6 : Nat) (x3_4 : Int32) (ls : Array Slot), f_X7_numberOf_L2_5 s0 p1 K1 K3 n6 x3_4 = some res → lv_has ls 4 [(0, .ref (a0 0)), (1, .long p1), (3, .int x3_4)] → W p l e rm_X7_numberOf s m args below meth c H locs 0 0 Q (F0 m 2 ls []) := by
    intro n6
    induction n6 with
    | zero => intro x3_4 ls hf hl; rw [f_X7_numberOf_L2_5] at hf; cases hf
    | succ n6 ihn6 =>
      intro x3_4 ls hf hl
      rw [f_X7_numberOf_L2_5] at hf
      refine lv_iload_n hx hb dX7_numberOf_2 rfl (lv_at hl 2 rfl) ?_
      refine lv_aload_n hx hb dX7_numberOf_3 rfl (lv_at hl 0 rfl) ?_
      refine g_get hE okX7 fl_X7_15 hP 0 rfl (v := .int (Wd_count s0)) rfl dX7_numberOf_4 ?_
      refine lv_icmp_ge hx hb dX7_numberOf_7 (tgt := 35) rfl (fun h7 => ?_) (fun h7 => ?_)
      · have hf := gif_t h7 hf
        exact kK3 () ls hf (lv_sub hl [] rfl)
      · have hf := gif_f h7 hf
        refine lv_iload_n hx hb dX7_numberOf_10 rfl (lv_at hl 2 rfl) ?_
        refine lv_bipush hx hb dX7_numberOf_11 kcb_8 ?_
        refine lv_icmp_ge hx hb dX7_numberOf_13 (tgt := 35) rfl (fun h8 => ?_) (fun h8 => ?_)
        · have hf := gif_t h8 hf
          exact kK3 () ls hf (lv_sub hl [] rfl)
        · have hf := gif_f h8 hf
          refine lv_aload_n hx hb dX7_numberOf_16 rfl (lv_at hl 0 rfl) ?_
          refine g_get hE okX7 fl_X7_9 hP 0 rfl (v := .ref (a0 1)) rfl dX7_numberOf_17 ?_
          refine lv_iload_n hx hb dX7_numberOf_20 rfl (lv_at hl 2 rfl) ?_
          obtain ⟨hg9, hf⟩ := ggd hf
          refine g_lald hE hP 1 (f := (Wd_packs s0)) rfl hg9 dX7_numberOf_21 ?_
          refine lv_lload_n hx hb dX7_numberOf_22 rfl (lv_at hl 1 rfl) ?_
          refine W.lcmp hx hb dX7_numberOf_23 ?_
          refine lv_if_ne hx hb dX7_numberOf_24 (tgt := 29) rfl (fun h10 => ?_) (fun h10 => ?_)
          · have hf := gif_f h10 hf
            refine lv_iinc hx hb dX7_numberOf_29 hl (k := 2) (x := x3_4) rfl (kinc_1 _) (by decide) (lv' := [(3, .int (x3_4 + (1 : Int32))), (0, .ref (a0 0)), (1, .long p1)]) rfl (fun ls hl => ?_)
            refine lv_goto hx hb dX7_numberOf_32 (tgt := 2) rfl ?_
            exact ihn6 (x3_4 + (1 : Int32)) ls hf (lv_sub hl [1, 2, 0] rfl)
          · have hf := gif_t h10 hf
            exact kK1 x3_4 ls hf (lv_sub hl [2] rfl)
  exact lpn6 10000 (0 : Int32) ls hf (lv_sub hl [1, 2, 0] rfl)
theorem dX7_add_0 : decode cX7_add 0 = .ok (.aload_n 0, 1) := by decide +kernel
theorem dX7_add_1 : decode cX7_add 1 = .ok (.invokevirtual 19, 3) := by decide +kernel
theorem dX7_add_4 : decode cX7_add 4 = .ok (.ifCond .eq 5, 3) := by decide +kernel
theorem dX7_add_7 : decode cX7_add 7 = .ok (.iconst (-1), 1) := by decide +kernel
theorem dX7_add_8 : decode cX7_add 8 = .ok (.ireturn, 1) := by decide +kernel
theorem dX7_add_9 : decode cX7_add 9 = .ok (.aload_n 0, 1) := by decide +kernel
theorem dX7_add_10 : decode cX7_add 10 = .ok (.getfield 9, 3) := by decide +kernel
theorem dX7_add_13 : decode cX7_add 13 = .ok (.aload_n 0, 1) := by decide +kernel
theorem dX7_add_14 : decode cX7_add 14 = .ok (.getfield 15, 3) := by decide +kernel
theorem dX7_add_17 : decode cX7_add 17 = .ok (.lload_n 1, 1) := by decide +kernel
theorem dX7_add_18 : decode cX7_add 18 = .ok (.lastore, 1) := by decide +kernel
theorem dX7_add_19 : decode cX7_add 19 = .ok (.aload_n 0, 1) := by decide +kernel
theorem dX7_add_20 : decode cX7_add 20 = .ok (.dup, 1) := by decide +kernel
theorem dX7_add_21 : decode cX7_add 21 = .ok (.getfield 15, 3) := by decide +kernel
theorem dX7_add_24 : decode cX7_add 24 = .ok (.iconst 1, 1) := by decide +kernel
theorem dX7_add_25 : decode cX7_add 25 = .ok (.iadd, 1) := by decide +kernel
theorem dX7_add_26 : decode cX7_add 26 = .ok (.putfield 15, 3) := by decide +kernel
theorem dX7_add_29 : decode cX7_add 29 = .ok (.aload_n 0, 1) := by decide +kernel
theorem dX7_add_30 : decode cX7_add 30 = .ok (.getfield 15, 3) := by decide +kernel
theorem dX7_add_33 : decode cX7_add 33 = .ok (.iconst 1, 1) := by decide +kernel
theorem dX7_add_34 : decode cX7_add 34 = .ok (.isub, 1) := by decide +kernel
theorem dX7_add_35 : decode cX7_add 35 = .ok (.ireturn, 1) := by decide +kernel
def f_X7_add (s0 : WdT) (p1 : Int64) : Option (Int32 × WdT) :=
  (f_X7_isFull s0).bind fun r1 =>
  if r1 = 0 then if inb (Wd_count s0) 8 then some ((((Wd_count s0) + (1 : Int32)) - (1 : Int32)), (Wd_w_count (Wd_w_packs s0 (vp_updL (Wd_packs s0) (ix (Wd_count s0)) p1)) ((Wd_count s0) + (1 : Int32)))) else none
  else some ((-1 : Int32), s0)
abbrev rm_X7_add : Room := { frames := 1, cells := 0, slots := 0, locals := 20 }
set_option maxHeartbeats 4000000 in
set_option maxRecDepth 100000 in
theorem c_X7_add (l : Launch) (g : GK) (a0 : Nat → Nat) (s0 : WdT) (p1 : Int64) (res : (Int32 × WdT)) (hf : f_X7_add s0 p1 = some res) : gM l yX7_add cX7_add 3 (some .int) rm_X7_add g [.ref (a0 0), .long p1] (Wd_c g a0 s0) (fun _ : Unit => (some (.int (res.1)))) (fun _ => (Wd_c g a0 (res.2))) 0 0 := by
  refine gM_introI RX7 (by decide) rfl (Nat.le_of_ble_eq_true rfl) (fun p e s m args below meth c Q H locs ls A hE hZ hA hP hD hS hq hl => ?_)
  have hl : lv_has ls 3 [(0, .ref (a0 0)), (1, .long p1)] := hl
  have hx := hE.1
  have hb := hE.2.1
  rw [f_X7_add] at hf
  refine lv_aload_n hx hb dX7_add_0 rfl (lv_at hl 0 rfl) ?_
  obtain ⟨r1, hc2, hf⟩ := gbd hf
  refine gr_callV (As := []) (rest := []) (st1 := [.int r1]) hE hl.1 ml_X7_19 (c_X7_isFull l g a0 s0 r1 hc2) hZ hS hP [(0, 2)] rfl okX7 rfl rfl rfl rfl ⟨rfl, rfl⟩ ⟨Nat.le_of_ble_eq_true rfl, Nat.le_of_ble_eq_true rfl⟩ ⟨Nat.le_refl _, Nat.le_refl _⟩ (Nat.le_of_ble_eq_true rfl) dX7_add_1 ?_
  refine lv_if_eq hx hb dX7_add_4 (tgt := 9) rfl (fun h3 => ?_) (fun h3 => ?_)
  · have hf := gif_t h3 hf
    refine lv_aload_n hx hb dX7_add_9 rfl (lv_at hl 0 rfl) ?_
    refine g_get hE okX7 fl_X7_9 hP 0 rfl (v := .ref (a0 1)) rfl dX7_add_10 ?_
    refine lv_aload_n hx hb dX7_add_13 rfl (lv_at hl 0 rfl) ?_
    refine g_get hE okX7 fl_X7_15 hP 0 rfl (v := .int (Wd_count s0)) rfl dX7_add_14 ?_
    refine lv_lload_n hx hb dX7_add_17 rfl (lv_at hl 1 rfl) ?_
    obtain ⟨hg4, hf⟩ := ggd hf
    refine g_last hE hP hD hS 1 (f := (Wd_packs s0)) rfl hg4 (Wd_c g a0 (Wd_w_packs s0 (vp_updL (Wd_packs s0) (ix (Wd_count s0)) p1))) rfl dX7_add_18 (fun H locs hP hD hS => ?_)
    refine lv_aload_n hx hb dX7_add_19 rfl (lv_at hl 0 rfl) ?_
    refine lv_dup hx hb dX7_add_20 rfl ?_
    refine g_get hE okX7 fl_X7_15 hP 0 rfl (v := .int (Wd_count s0)) rfl dX7_add_21 ?_
    refine lv_iconst hx hb dX7_add_24 kci_1 ?_
    refine lv_iadd hx hb dX7_add_25 ?_
    refine g_put hE okX7 fl_X7_15 hP hD hS 0 rfl rfl rfl rfl (Nat.le_of_ble_eq_true rfl) (Wd_c g a0 (Wd_w_count (Wd_w_packs s0 (vp_updL (Wd_packs s0) (ix (Wd_count s0)) p1)) ((Wd_count s0) + (1 : Int32)))) rfl dX7_add_26 (fun H locs hP hD hS => ?_)
    refine lv_aload_n hx hb dX7_add_29 rfl (lv_at hl 0 rfl) ?_
    refine g_get hE okX7 fl_X7_15 hP 0 rfl (v := .int ((Wd_count s0) + (1 : Int32))) rfl dX7_add_30 ?_
    refine lv_iconst hx hb dX7_add_33 kci_1 ?_
    refine lv_isub hx hb dX7_add_34 ?_
    cases hf
    exact hq () rfl hP hD hS dX7_add_35
  · have hf := gif_f h3 hf
    refine lv_iconst hx hb dX7_add_7 kci_m1 ?_
    cases hf
    exact hq () rfl hP hD hS dX7_add_8
theorem dX7_letterAt_0 : decode cX7_letterAt 0 = .ok (.aload_n 0, 1) := by decide +kernel
theorem dX7_letterAt_1 : decode cX7_letterAt 1 = .ok (.iload_n 1, 1) := by decide +kernel
theorem dX7_letterAt_2 : decode cX7_letterAt 2 = .ok (.invokevirtual 23, 3) := by decide +kernel
theorem dX7_letterAt_5 : decode cX7_letterAt 5 = .ok (.ifCond .eq 12, 3) := by decide +kernel
theorem dX7_letterAt_8 : decode cX7_letterAt 8 = .ok (.iload_n 2, 1) := by decide +kernel
theorem dX7_letterAt_9 : decode cX7_letterAt 9 = .ok (.ifCond .lt 8, 3) := by decide +kernel
theorem dX7_letterAt_12 : decode cX7_letterAt 12 = .ok (.iload_n 2, 1) := by decide +kernel
theorem dX7_letterAt_13 : decode cX7_letterAt 13 = .ok (.iconst 5, 1) := by decide +kernel
theorem dX7_letterAt_14 : decode cX7_letterAt 14 = .ok (.if_icmp .lt 5, 3) := by decide +kernel
theorem dX7_letterAt_17 : decode cX7_letterAt 17 = .ok (.iconst 0, 1) := by decide +kernel
theorem dX7_letterAt_18 : decode cX7_letterAt 18 = .ok (.ireturn, 1) := by decide +kernel
theorem dX7_letterAt_19 : decode cX7_letterAt 19 = .ok (.aload_n 0, 1) := by decide +kernel
theorem dX7_letterAt_20 : decode cX7_letterAt 20 = .ok (.getfield 9, 3) := by decide +kernel
theorem dX7_letterAt_23 : decode cX7_letterAt 23 = .ok (.iload_n 1, 1) := by decide +kernel
theorem dX7_letterAt_24 : decode cX7_letterAt 24 = .ok (.laload, 1) := by decide +kernel
theorem dX7_letterAt_25 : decode cX7_letterAt 25 = .ok (.bipush 8, 2) := by decide +kernel
theorem dX7_letterAt_27 : decode cX7_letterAt 27 = .ok (.iload_n 2, 1) := by decide +kernel
theorem dX7_letterAt_28 : decode cX7_letterAt 28 = .ok (.imul, 1) := by decide +kernel
theorem dX7_letterAt_29 : decode cX7_letterAt 29 = .ok (.lshr, 1) := by decide +kernel
theorem dX7_letterAt_30 : decode cX7_letterAt 30 = .ok (.ldc2_w 27, 3) := by decide +kernel
theorem dX7_letterAt_33 : decode cX7_letterAt 33 = .ok (.land, 1) := by decide +kernel
theorem dX7_letterAt_34 : decode cX7_letterAt 34 = .ok (.l2i, 1) := by decide +kernel
theorem dX7_letterAt_35 : decode cX7_letterAt 35 = .ok (.ireturn, 1) := by decide +kernel
def f_X7_letterAt (s0 : WdT) (p1 : Int32) (p2 : Int32) : Option (Int32) :=
  (f_X7_knows s0 p1).bind fun r1 =>
  if r1 = 0 then some ((0 : Int32))
  else if p2 < 0 then some ((0 : Int32))
  else if p2 < (5 : Int32) then if inb p1 8 then some (((((Wd_packs s0) (ix p1)) >>> (((8 : Int32) * p2).toInt64 &&& 63)) &&& (255 : Int64)).toInt32) else none
  else some ((0 : Int32))
abbrev rm_X7_letterAt : Room := { frames := 1, cells := 0, slots := 0, locals := 21 }
set_option maxHeartbeats 4000000 in
set_option maxRecDepth 100000 in
theorem c_X7_letterAt (l : Launch) (g : GK) (a0 : Nat → Nat) (s0 : WdT) (p1 : Int32) (p2 : Int32) (res : (Int32)) (hf : f_X7_letterAt s0 p1 p2 = some res) : gR l yX7_letterAt cX7_letterAt 3 (some .int) rm_X7_letterAt g [.ref (a0 0), .int p1, .int p2] (Wd_c g a0 s0) (some (.int res)) := by
  refine gR_introI RX7 (by decide) rfl (Nat.le_of_ble_eq_true rfl) (fun p e s m args below meth c Q H locs ls hE hP hZ hS hq hl => ?_)
  have hl : lv_has ls 3 [(0, .ref (a0 0)), (1, .int p1), (2, .int p2)] := hl
  have hx := hE.1
  have hb := hE.2.1
  rw [f_X7_letterAt] at hf
  refine lv_aload_n hx hb dX7_letterAt_0 rfl (lv_at hl 0 rfl) ?_
  refine lv_iload_n hx hb dX7_letterAt_1 rfl (lv_at hl 1 rfl) ?_
  obtain ⟨r1, hc2, hf⟩ := gbd hf
  refine gr_callV (As := [.int p1]) (rest := []) (st1 := [.int r1]) hE hl.1 ml_X7_23 (c_X7_knows l g a0 s0 p1 r1 hc2) hZ hS hP [(0, 2)] rfl okX7 rfl rfl rfl rfl ⟨rfl, rfl⟩ ⟨Nat.le_of_ble_eq_true rfl, Nat.le_of_ble_eq_true rfl⟩ ⟨Nat.le_refl _, Nat.le_refl _⟩ (Nat.le_of_ble_eq_true rfl) dX7_letterAt_2 ?_
  refine lv_if_eq hx hb dX7_letterAt_5 (tgt := 17) rfl (fun h3 => ?_) (fun h3 => ?_)
  · have hf := gif_t h3 hf
    refine lv_iconst hx hb dX7_letterAt_17 kci_0 ?_
    cases hf
    exact hq rfl dX7_letterAt_18
  · have hf := gif_f h3 hf
    refine lv_iload_n hx hb dX7_letterAt_8 rfl (lv_at hl 2 rfl) ?_
    refine lv_if_lt hx hb dX7_letterAt_9 (tgt := 17) rfl (fun h4 => ?_) (fun h4 => ?_)
    · have hf := gif_t h4 hf
      refine lv_iconst hx hb dX7_letterAt_17 kci_0 ?_
      cases hf
      exact hq rfl dX7_letterAt_18
    · have hf := gif_f h4 hf
      refine lv_iload_n hx hb dX7_letterAt_12 rfl (lv_at hl 2 rfl) ?_
      refine lv_iconst hx hb dX7_letterAt_13 kci_5 ?_
      refine lv_icmp_lt hx hb dX7_letterAt_14 (tgt := 19) rfl (fun h5 => ?_) (fun h5 => ?_)
      · have hf := gif_t h5 hf
        refine lv_aload_n hx hb dX7_letterAt_19 rfl (lv_at hl 0 rfl) ?_
        refine g_get hE okX7 fl_X7_9 hP 0 rfl (v := .ref (a0 1)) rfl dX7_letterAt_20 ?_
        refine lv_iload_n hx hb dX7_letterAt_23 rfl (lv_at hl 1 rfl) ?_
        obtain ⟨hg6, hf⟩ := ggd hf
        refine g_lald hE hP 1 (f := (Wd_packs s0)) rfl hg6 dX7_letterAt_24 ?_
        refine lv_bipush hx hb dX7_letterAt_25 kcb_8 ?_
        refine lv_iload_n hx hb dX7_letterAt_27 rfl (lv_at hl 2 rfl) ?_
        refine lv_imul hx hb dX7_letterAt_28 ?_
        refine lv_lshr hx hb dX7_letterAt_29 rfl ?_
        refine lv_ldc2 hx hb hE.2.2.2.2.2.1 (hE.2.2.2.2.2.2.1 _ kd_X7_27) dX7_letterAt_30 ?_
        refine lv_land hx hb dX7_letterAt_33 ?_
        refine lv_l2i hx hb dX7_letterAt_34 rfl ?_
        cases hf
        exact hq rfl dX7_letterAt_35
      · have hf := gif_f h5 hf
        refine lv_iconst hx hb dX7_letterAt_17 kci_0 ?_
        cases hf
        exact hq rfl dX7_letterAt_18
theorem dX7_clear_0 : decode cX7_clear 0 = .ok (.aload_n 0, 1) := by decide +kernel
theorem dX7_clear_1 : decode cX7_clear 1 = .ok (.iconst 0, 1) := by decide +kernel
theorem dX7_clear_2 : decode cX7_clear 2 = .ok (.putfield 15, 3) := by decide +kernel
theorem dX7_clear_5 : decode cX7_clear 5 = .ok (.return_, 1) := by decide +kernel
def f_X7_clear (s0 : WdT) : Option (WdT) :=
  some ((Wd_w_count s0 (0 : Int32)))
abbrev rm_X7_clear : Room := { frames := 0, cells := 0, slots := 0, locals := 0 }
set_option maxHeartbeats 4000000 in
set_option maxRecDepth 100000 in
theorem c_X7_clear (l : Launch) (g : GK) (a0 : Nat → Nat) (s0 : WdT) (res : (WdT)) (hf : f_X7_clear s0 = some res) : gM l yX7_clear cX7_clear 1 none rm_X7_clear g [.ref (a0 0)] (Wd_c g a0 s0) (fun _ : Unit => none) (fun _ => (Wd_c g a0 res)) 0 0 := by
  refine gM_introV RX7 (by decide) rfl (Nat.le_of_ble_eq_true rfl) (fun p e s m args below meth c Q H locs ls A hE hnm hZ hA hP hD hS hq hl => ?_)
  have hl : lv_has ls 1 [(0, .ref (a0 0))] := hl
  have hx := hE.1
  have hb := hE.2.1
  rw [f_X7_clear] at hf
  refine lv_aload_n hx hb dX7_clear_0 rfl (lv_at hl 0 rfl) ?_
  refine lv_iconst hx hb dX7_clear_1 kci_0 ?_
  refine g_put hE okX7 fl_X7_15 hP hD hS 0 rfl rfl rfl rfl (Nat.le_of_ble_eq_true rfl) (Wd_c g a0 (Wd_w_count s0 (0 : Int32))) rfl dX7_clear_2 (fun H locs hP hD hS => ?_)
  cases hf
  exact hq () rfl hP hD hS dX7_clear_5
theorem dX7_copyFrom_0 : decode cX7_copyFrom 0 = .ok (.aload_n 1, 1) := by decide +kernel
theorem dX7_copyFrom_1 : decode cX7_copyFrom 1 = .ok (.getfield 9, 3) := by decide +kernel
theorem dX7_copyFrom_4 : decode cX7_copyFrom 4 = .ok (.iconst 0, 1) := by decide +kernel
theorem dX7_copyFrom_5 : decode cX7_copyFrom 5 = .ok (.aload_n 0, 1) := by decide +kernel
theorem dX7_copyFrom_6 : decode cX7_copyFrom 6 = .ok (.getfield 9, 3) := by decide +kernel
theorem dX7_copyFrom_9 : decode cX7_copyFrom 9 = .ok (.iconst 0, 1) := by decide +kernel
theorem dX7_copyFrom_10 : decode cX7_copyFrom 10 = .ok (.bipush 8, 2) := by decide +kernel
theorem dX7_copyFrom_12 : decode cX7_copyFrom 12 = .ok (.invokestatic 39, 3) := by decide +kernel
theorem dX7_copyFrom_15 : decode cX7_copyFrom 15 = .ok (.aload_n 0, 1) := by decide +kernel
theorem dX7_copyFrom_16 : decode cX7_copyFrom 16 = .ok (.aload_n 1, 1) := by decide +kernel
theorem dX7_copyFrom_17 : decode cX7_copyFrom 17 = .ok (.getfield 15, 3) := by decide +kernel
theorem dX7_copyFrom_20 : decode cX7_copyFrom 20 = .ok (.putfield 15, 3) := by decide +kernel
theorem dX7_copyFrom_23 : decode cX7_copyFrom 23 = .ok (.return_, 1) := by decide +kernel
def f_X7_copyFrom (s0 : WdT) (s1 : WdT) : Option (WdT) :=
  if cpok (0 : Int32) (0 : Int32) (8 : Int32) 8 8 then some ((Wd_w_count (Wd_w_packs s0 (va_cpy (Wd_packs s1) (Wd_packs s0) (ix (0 : Int32)) (ix (0 : Int32)) (ix (8 : Int32)))) (Wd_count s1))) else none
abbrev rm_X7_copyFrom : Room := { frames := 1, cells := 0, slots := 0, locals := 40 }
set_option maxHeartbeats 4000000 in
set_option maxRecDepth 100000 in
theorem c_X7_copyFrom (l : Launch) (g : GK) (a0 : Nat → Nat) (s0 : WdT) (a1 : Nat → Nat) (s1 : WdT) (res : (WdT)) (hf : f_X7_copyFrom s0 s1 = some res) : gM l yX7_copyFrom cX7_copyFrom 2 none rm_X7_copyFrom g [.ref (a0 0), .ref (a1 0)] (Wd_c g a0 s0 ++ Wd_c g a1 s1) (fun _ : Unit => none) (fun _ => (Wd_c g a0 res ++ Wd_c g a1 s1)) 0 0 := by
  refine gM_introV RX7 (by decide) rfl (Nat.le_of_ble_eq_true rfl) (fun p e s m args below meth c Q H locs ls A hE hnm hZ hA hP hD hS hq hl => ?_)
  have hl : lv_has ls 2 [(0, .ref (a0 0)), (1, .ref (a1 0))] := hl
  have hx := hE.1
  have hb := hE.2.1
  rw [f_X7_copyFrom] at hf
  refine lv_aload_n hx hb dX7_copyFrom_0 rfl (lv_at hl 1 rfl) ?_
  refine g_get hE okX7 fl_X7_9 hP 2 rfl (v := .ref (a1 1)) rfl dX7_copyFrom_1 ?_
  refine lv_iconst hx hb dX7_copyFrom_4 kci_0 ?_
  refine lv_aload_n hx hb dX7_copyFrom_5 rfl (lv_at hl 0 rfl) ?_
  refine g_get hE okX7 fl_X7_9 hP 0 rfl (v := .ref (a0 1)) rfl dX7_copyFrom_6 ?_
  refine lv_iconst hx hb dX7_copyFrom_9 kci_0 ?_
  refine lv_bipush hx hb dX7_copyFrom_10 kcb_8 ?_
  obtain ⟨hg1, hf⟩ := ggd hf
  refine g_copyl hE hl.1 km_X7_39 hP hD hS 3 1 (f := (Wd_packs s1)) (f2 := (Wd_packs s0)) rfl rfl hg1 (Nat.le_of_ble_eq_true rfl) (rest := []) (Nat.le_of_ble_eq_true rfl) (Wd_c g a0 (Wd_w_packs s0 (va_cpy (Wd_packs s1) (Wd_packs s0) (ix (0 : Int32)) (ix (0 : Int32)) (ix (8 : Int32)))) ++ Wd_c g a1 s1) rfl dX7_copyFrom_12 (fun H locs hP hD hS => ?_)
  refine lv_aload_n hx hb dX7_copyFrom_15 rfl (lv_at hl 0 rfl) ?_
  refine lv_aload_n hx hb dX7_copyFrom_16 rfl (lv_at hl 1 rfl) ?_
  refine g_get hE okX7 fl_X7_15 hP 2 rfl (v := .int (Wd_count s1)) rfl dX7_copyFrom_17 ?_
  refine g_put hE okX7 fl_X7_15 hP hD hS 0 rfl rfl rfl rfl (Nat.le_of_ble_eq_true rfl) (Wd_c g a0 (Wd_w_count (Wd_w_packs s0 (va_cpy (Wd_packs s1) (Wd_packs s0) (ix (0 : Int32)) (ix (0 : Int32)) (ix (8 : Int32)))) (Wd_count s1)) ++ Wd_c g a1 s1) rfl dX7_copyFrom_20 (fun H locs hP hD hS => ?_)
  cases hf
  exact hq () rfl hP hD hS dX7_copyFrom_23
theorem dX6_hasRoomFor_0 : decode cX6_hasRoomFor 0 = .ok (.aload_n 0, 1) := by decide +kernel
theorem dX6_hasRoomFor_1 : decode cX6_hasRoomFor 1 = .ok (.getfield 13, 3) := by decide +kernel
theorem dX6_hasRoomFor_4 : decode cX6_hasRoomFor 4 = .ok (.iload_n 1, 1) := by decide +kernel
theorem dX6_hasRoomFor_5 : decode cX6_hasRoomFor 5 = .ok (.iadd, 1) := by decide +kernel
theorem dX6_hasRoomFor_6 : decode cX6_hasRoomFor 6 = .ok (.sipush 900, 3) := by decide +kernel
theorem dX6_hasRoomFor_9 : decode cX6_hasRoomFor 9 = .ok (.if_icmp .gt 7, 3) := by decide +kernel
theorem dX6_hasRoomFor_12 : decode cX6_hasRoomFor 12 = .ok (.iconst 1, 1) := by decide +kernel
theorem dX6_hasRoomFor_13 : decode cX6_hasRoomFor 13 = .ok (.goto 4, 3) := by decide +kernel
theorem dX6_hasRoomFor_16 : decode cX6_hasRoomFor 16 = .ok (.iconst 0, 1) := by decide +kernel
theorem dX6_hasRoomFor_17 : decode cX6_hasRoomFor 17 = .ok (.ireturn, 1) := by decide +kernel
def f_X6_hasRoomFor (s0 : TpT) (p1 : Int32) : Option (Int32) :=
  if (900 : Int32) < ((Tp_length s0) + p1) then some ((0 : Int32))
  else some ((1 : Int32))
abbrev rm_X6_hasRoomFor : Room := { frames := 0, cells := 0, slots := 0, locals := 0 }
set_option maxHeartbeats 4000000 in
set_option maxRecDepth 100000 in
theorem c_X6_hasRoomFor (l : Launch) (g : GK) (a0 : Nat → Nat) (s0 : TpT) (p1 : Int32) (res : (Int32)) (hf : f_X6_hasRoomFor s0 p1 = some res) : gR l yX6_hasRoomFor cX6_hasRoomFor 2 (some .boolean) rm_X6_hasRoomFor g [.ref (a0 0), .int p1] (Tp_c g a0 s0) (some (.int res)) := by
  refine gR_introZ RX6 (by decide) rfl (Nat.le_of_ble_eq_true rfl) (fun p e s m args below meth c Q H locs ls hE hP hZ hS hq hl => ?_)
  have hl : lv_has ls 2 [(0, .ref (a0 0)), (1, .int p1)] := hl
  have hx := hE.1
  have hb := hE.2.1
  rw [f_X6_hasRoomFor] at hf
  refine lv_aload_n hx hb dX6_hasRoomFor_0 rfl (lv_at hl 0 rfl) ?_
  refine g_get hE okX6 fl_X6_13 hP 0 rfl (v := .int (Tp_length s0)) rfl dX6_hasRoomFor_1 ?_
  refine lv_iload_n hx hb dX6_hasRoomFor_4 rfl (lv_at hl 1 rfl) ?_
  refine lv_iadd hx hb dX6_hasRoomFor_5 ?_
  refine lv_sipush hx hb dX6_hasRoomFor_6 kcs_900 ?_
  refine lv_icmp_gt hx hb dX6_hasRoomFor_9 (tgt := 16) rfl (fun h1 => ?_) (fun h1 => ?_)
  · have hf := gif_t h1 hf
    refine lv_iconst hx hb dX6_hasRoomFor_16 kci_0 ?_
    cases hf
    exact hq (by decide) rfl dX6_hasRoomFor_17
  · have hf := gif_f h1 hf
    refine lv_iconst hx hb dX6_hasRoomFor_12 kci_1 ?_
    refine lv_goto hx hb dX6_hasRoomFor_13 (tgt := 17) rfl ?_
    cases hf
    exact hq (by decide) rfl dX6_hasRoomFor_17
theorem dX6_put_0 : decode cX6_put 0 = .ok (.aload_n 0, 1) := by decide +kernel
theorem dX6_put_1 : decode cX6_put 1 = .ok (.iconst 4, 1) := by decide +kernel
theorem dX6_put_2 : decode cX6_put 2 = .ok (.invokevirtual 36, 3) := by decide +kernel
theorem dX6_put_5 : decode cX6_put 5 = .ok (.ifCond .ne 4, 3) := by decide +kernel
theorem dX6_put_8 : decode cX6_put 8 = .ok (.return_, 1) := by decide +kernel
theorem dX6_put_9 : decode cX6_put 9 = .ok (.aload_n 0, 1) := by decide +kernel
theorem dX6_put_10 : decode cX6_put 10 = .ok (.getfield 9, 3) := by decide +kernel
theorem dX6_put_13 : decode cX6_put 13 = .ok (.aload_n 0, 1) := by decide +kernel
theorem dX6_put_14 : decode cX6_put 14 = .ok (.getfield 13, 3) := by decide +kernel
theorem dX6_put_17 : decode cX6_put 17 = .ok (.iload_n 1, 1) := by decide +kernel
theorem dX6_put_18 : decode cX6_put 18 = .ok (.bipush 24, 2) := by decide +kernel
theorem dX6_put_20 : decode cX6_put 20 = .ok (.ishr, 1) := by decide +kernel
theorem dX6_put_21 : decode cX6_put 21 = .ok (.i2b, 1) := by decide +kernel
theorem dX6_put_22 : decode cX6_put 22 = .ok (.bastore, 1) := by decide +kernel
theorem dX6_put_23 : decode cX6_put 23 = .ok (.aload_n 0, 1) := by decide +kernel
theorem dX6_put_24 : decode cX6_put 24 = .ok (.getfield 9, 3) := by decide +kernel
theorem dX6_put_27 : decode cX6_put 27 = .ok (.aload_n 0, 1) := by decide +kernel
theorem dX6_put_28 : decode cX6_put 28 = .ok (.getfield 13, 3) := by decide +kernel
theorem dX6_put_31 : decode cX6_put 31 = .ok (.iconst 1, 1) := by decide +kernel
theorem dX6_put_32 : decode cX6_put 32 = .ok (.iadd, 1) := by decide +kernel
theorem dX6_put_33 : decode cX6_put 33 = .ok (.iload_n 1, 1) := by decide +kernel
theorem dX6_put_34 : decode cX6_put 34 = .ok (.bipush 16, 2) := by decide +kernel
theorem dX6_put_36 : decode cX6_put 36 = .ok (.ishr, 1) := by decide +kernel
theorem dX6_put_37 : decode cX6_put 37 = .ok (.i2b, 1) := by decide +kernel
theorem dX6_put_38 : decode cX6_put 38 = .ok (.bastore, 1) := by decide +kernel
theorem dX6_put_39 : decode cX6_put 39 = .ok (.aload_n 0, 1) := by decide +kernel
theorem dX6_put_40 : decode cX6_put 40 = .ok (.getfield 9, 3) := by decide +kernel
theorem dX6_put_43 : decode cX6_put 43 = .ok (.aload_n 0, 1) := by decide +kernel
theorem dX6_put_44 : decode cX6_put 44 = .ok (.getfield 13, 3) := by decide +kernel
theorem dX6_put_47 : decode cX6_put 47 = .ok (.iconst 2, 1) := by decide +kernel
theorem dX6_put_48 : decode cX6_put 48 = .ok (.iadd, 1) := by decide +kernel
theorem dX6_put_49 : decode cX6_put 49 = .ok (.iload_n 1, 1) := by decide +kernel
theorem dX6_put_50 : decode cX6_put 50 = .ok (.bipush 8, 2) := by decide +kernel
theorem dX6_put_52 : decode cX6_put 52 = .ok (.ishr, 1) := by decide +kernel
theorem dX6_put_53 : decode cX6_put 53 = .ok (.i2b, 1) := by decide +kernel
theorem dX6_put_54 : decode cX6_put 54 = .ok (.bastore, 1) := by decide +kernel
theorem dX6_put_55 : decode cX6_put 55 = .ok (.aload_n 0, 1) := by decide +kernel
theorem dX6_put_56 : decode cX6_put 56 = .ok (.getfield 9, 3) := by decide +kernel
theorem dX6_put_59 : decode cX6_put 59 = .ok (.aload_n 0, 1) := by decide +kernel
theorem dX6_put_60 : decode cX6_put 60 = .ok (.getfield 13, 3) := by decide +kernel
theorem dX6_put_63 : decode cX6_put 63 = .ok (.iconst 3, 1) := by decide +kernel
theorem dX6_put_64 : decode cX6_put 64 = .ok (.iadd, 1) := by decide +kernel
theorem dX6_put_65 : decode cX6_put 65 = .ok (.iload_n 1, 1) := by decide +kernel
theorem dX6_put_66 : decode cX6_put 66 = .ok (.i2b, 1) := by decide +kernel
theorem dX6_put_67 : decode cX6_put 67 = .ok (.bastore, 1) := by decide +kernel
theorem dX6_put_68 : decode cX6_put 68 = .ok (.aload_n 0, 1) := by decide +kernel
theorem dX6_put_69 : decode cX6_put 69 = .ok (.dup, 1) := by decide +kernel
theorem dX6_put_70 : decode cX6_put 70 = .ok (.getfield 13, 3) := by decide +kernel
theorem dX6_put_73 : decode cX6_put 73 = .ok (.iconst 4, 1) := by decide +kernel
theorem dX6_put_74 : decode cX6_put 74 = .ok (.iadd, 1) := by decide +kernel
theorem dX6_put_75 : decode cX6_put 75 = .ok (.putfield 13, 3) := by decide +kernel
theorem dX6_put_78 : decode cX6_put 78 = .ok (.return_, 1) := by decide +kernel
def f_X6_put (s0 : TpT) (p1 : Int32) : Option (TpT) :=
  (f_X6_hasRoomFor s0 (4 : Int32)).bind fun r1 =>
  if r1 = 0 then some (s0)
  else if inb (Tp_length s0) 900 then if inb ((Tp_length s0) + (1 : Int32)) 900 then if inb ((Tp_length s0) + (2 : Int32)) 900 then if inb ((Tp_length s0) + (3 : Int32)) 900 then some ((Tp_w_length (Tp_w_bytes s0 (upd (upd (upd (upd (Tp_bytes s0) (ix (Tp_length s0)) (vp_nar .byte (p1 >>> ((24 : Int32) &&& 31)).toInt8.toInt32)) (ix ((Tp_length s0) + (1 : Int32))) (vp_nar .byte (p1 >>> ((16 : Int32) &&& 31)).toInt8.toInt32)) (ix ((Tp_length s0) + (2 : Int32))) (vp_nar .byte (p1 >>> ((8 : Int32) &&& 31)).toInt8.toInt32)) (ix ((Tp_length s0) + (3 : Int32))) (vp_nar .byte p1.toInt8.toInt32))) ((Tp_length s0) + (4 : Int32)))) else none else none else none else none
abbrev rm_X6_put : Room := { frames := 1, cells := 0, slots := 0, locals := 21 }
set_option maxHeartbeats 4000000 in
set_option maxRecDepth 100000 in
theorem c_X6_put (l : Launch) (g : GK) (a0 : Nat → Nat) (s0 : TpT) (p1 : Int32) (res : (TpT)) (hf : f_X6_put s0 p1 = some res) : gM l yX6_put cX6_put 2 none rm_X6_put g [.ref (a0 0), .int p1] (Tp_c g a0 s0) (fun _ : Unit => none) (fun _ => (Tp_c g a0 res)) 0 0 := by
  refine gM_introV RX6 (by decide) rfl (Nat.le_of_ble_eq_true rfl) (fun p e s m args below meth c Q H locs ls A hE hnm hZ hA hP hD hS hq hl => ?_)
  have hl : lv_has ls 2 [(0, .ref (a0 0)), (1, .int p1)] := hl
  have hx := hE.1
  have hb := hE.2.1
  rw [f_X6_put] at hf
  refine lv_aload_n hx hb dX6_put_0 rfl (lv_at hl 0 rfl) ?_
  refine lv_iconst hx hb dX6_put_1 kci_4 ?_
  obtain ⟨r1, hc2, hf⟩ := gbd hf
  refine gr_callV (As := [.int (4 : Int32)]) (rest := []) (st1 := [.int r1]) hE hl.1 ml_X6_36 (c_X6_hasRoomFor l g a0 s0 (4 : Int32) r1 hc2) hZ hS hP [(0, 2)] rfl okX6 rfl rfl rfl rfl ⟨rfl, rfl⟩ ⟨Nat.le_of_ble_eq_true rfl, Nat.le_of_ble_eq_true rfl⟩ ⟨Nat.le_refl _, Nat.le_refl _⟩ (Nat.le_of_ble_eq_true rfl) dX6_put_2 ?_
  refine lv_if_ne hx hb dX6_put_5 (tgt := 9) rfl (fun h3 => ?_) (fun h3 => ?_)
  · have hf := gif_f h3 hf
    refine lv_aload_n hx hb dX6_put_9 rfl (lv_at hl 0 rfl) ?_
    refine g_get hE okX6 fl_X6_9 hP 0 rfl (v := .ref (a0 1)) rfl dX6_put_10 ?_
    refine lv_aload_n hx hb dX6_put_13 rfl (lv_at hl 0 rfl) ?_
    refine g_get hE okX6 fl_X6_13 hP 0 rfl (v := .int (Tp_length s0)) rfl dX6_put_14 ?_
    refine lv_iload_n hx hb dX6_put_17 rfl (lv_at hl 1 rfl) ?_
    refine lv_bipush hx hb dX6_put_18 kcb_24 ?_
    refine lv_ishr hx hb dX6_put_20 ?_
    refine lv_i2b hx hb dX6_put_21 rfl ?_
    obtain ⟨hg4, hf⟩ := ggd hf
    refine g_bast hE hP hD hS 1 (f := (Tp_bytes s0)) rfl hg4 (Tp_c g a0 (Tp_w_bytes s0 (upd (Tp_bytes s0) (ix (Tp_length s0)) (vp_nar .byte (p1 >>> ((24 : Int32) &&& 31)).toInt8.toInt32)))) rfl dX6_put_22 (fun H locs hP hD hS => ?_)
    refine lv_aload_n hx hb dX6_put_23 rfl (lv_at hl 0 rfl) ?_
    refine g_get hE okX6 fl_X6_9 hP 0 rfl (v := .ref (a0 1)) rfl dX6_put_24 ?_
    refine lv_aload_n hx hb dX6_put_27 rfl (lv_at hl 0 rfl) ?_
    refine g_get hE okX6 fl_X6_13 hP 0 rfl (v := .int (Tp_length s0)) rfl dX6_put_28 ?_
    refine lv_iconst hx hb dX6_put_31 kci_1 ?_
    refine lv_iadd hx hb dX6_put_32 ?_
    refine lv_iload_n hx hb dX6_put_33 rfl (lv_at hl 1 rfl) ?_
    refine lv_bipush hx hb dX6_put_34 kcb_16 ?_
    refine lv_ishr hx hb dX6_put_36 ?_
    refine lv_i2b hx hb dX6_put_37 rfl ?_
    obtain ⟨hg5, hf⟩ := ggd hf
    refine g_bast hE hP hD hS 1 (f := (upd (Tp_bytes s0) (ix (Tp_length s0)) (vp_nar .byte (p1 >>> ((24 : Int32) &&& 31)).toInt8.toInt32))) rfl hg5 (Tp_c g a0 (Tp_w_bytes s0 (upd (upd (Tp_bytes s0) (ix (Tp_length s0)) (vp_nar .byte (p1 >>> ((24 : Int32) &&& 31)).toInt8.toInt32)) (ix ((Tp_length s0) + (1 : Int32))) (vp_nar .byte (p1 >>> ((16 : Int32) &&& 31)).toInt8.toInt32)))) rfl dX6_put_38 (fun H locs hP hD hS => ?_)
    refine lv_aload_n hx hb dX6_put_39 rfl (lv_at hl 0 rfl) ?_
    refine g_get hE okX6 fl_X6_9 hP 0 rfl (v := .ref (a0 1)) rfl dX6_put_40 ?_
    refine lv_aload_n hx hb dX6_put_43 rfl (lv_at hl 0 rfl) ?_
    refine g_get hE okX6 fl_X6_13 hP 0 rfl (v := .int (Tp_length s0)) rfl dX6_put_44 ?_
    refine lv_iconst hx hb dX6_put_47 kci_2 ?_
    refine lv_iadd hx hb dX6_put_48 ?_
    refine lv_iload_n hx hb dX6_put_49 rfl (lv_at hl 1 rfl) ?_
    refine lv_bipush hx hb dX6_put_50 kcb_8 ?_
    refine lv_ishr hx hb dX6_put_52 ?_
    refine lv_i2b hx hb dX6_put_53 rfl ?_
    obtain ⟨hg6, hf⟩ := ggd hf
    refine g_bast hE hP hD hS 1 (f := (upd (upd (Tp_bytes s0) (ix (Tp_length s0)) (vp_nar .byte (p1 >>> ((24 : Int32) &&& 31)).toInt8.toInt32)) (ix ((Tp_length s0) + (1 : Int32))) (vp_nar .byte (p1 >>> ((16 : Int32) &&& 31)).toInt8.toInt32))) rfl hg6 (Tp_c g a0 (Tp_w_bytes s0 (upd (upd (upd (Tp_bytes s0) (ix (Tp_length s0)) (vp_nar .byte (p1 >>> ((24 : Int32) &&& 31)).toInt8.toInt32)) (ix ((Tp_length s0) + (1 : Int32))) (vp_nar .byte (p1 >>> ((16 : Int32) &&& 31)).toInt8.toInt32)) (ix ((Tp_length s0) + (2 : Int32))) (vp_nar .byte (p1 >>> ((8 : Int32) &&& 31)).toInt8.toInt32)))) rfl dX6_put_54 (fun H locs hP hD hS => ?_)
    refine lv_aload_n hx hb dX6_put_55 rfl (lv_at hl 0 rfl) ?_
    refine g_get hE okX6 fl_X6_9 hP 0 rfl (v := .ref (a0 1)) rfl dX6_put_56 ?_
    refine lv_aload_n hx hb dX6_put_59 rfl (lv_at hl 0 rfl) ?_
    refine g_get hE okX6 fl_X6_13 hP 0 rfl (v := .int (Tp_length s0)) rfl dX6_put_60 ?_
    refine lv_iconst hx hb dX6_put_63 kci_3 ?_
    refine lv_iadd hx hb dX6_put_64 ?_
    refine lv_iload_n hx hb dX6_put_65 rfl (lv_at hl 1 rfl) ?_
    refine lv_i2b hx hb dX6_put_66 rfl ?_
    obtain ⟨hg7, hf⟩ := ggd hf
    refine g_bast hE hP hD hS 1 (f := (upd (upd (upd (Tp_bytes s0) (ix (Tp_length s0)) (vp_nar .byte (p1 >>> ((24 : Int32) &&& 31)).toInt8.toInt32)) (ix ((Tp_length s0) + (1 : Int32))) (vp_nar .byte (p1 >>> ((16 : Int32) &&& 31)).toInt8.toInt32)) (ix ((Tp_length s0) + (2 : Int32))) (vp_nar .byte (p1 >>> ((8 : Int32) &&& 31)).toInt8.toInt32))) rfl hg7 (Tp_c g a0 (Tp_w_bytes s0 (upd (upd (upd (upd (Tp_bytes s0) (ix (Tp_length s0)) (vp_nar .byte (p1 >>> ((24 : Int32) &&& 31)).toInt8.toInt32)) (ix ((Tp_length s0) + (1 : Int32))) (vp_nar .byte (p1 >>> ((16 : Int32) &&& 31)).toInt8.toInt32)) (ix ((Tp_length s0) + (2 : Int32))) (vp_nar .byte (p1 >>> ((8 : Int32) &&& 31)).toInt8.toInt32)) (ix ((Tp_length s0) + (3 : Int32))) (vp_nar .byte p1.toInt8.toInt32)))) rfl dX6_put_67 (fun H locs hP hD hS => ?_)
    refine lv_aload_n hx hb dX6_put_68 rfl (lv_at hl 0 rfl) ?_
    refine lv_dup hx hb dX6_put_69 rfl ?_
    refine g_get hE okX6 fl_X6_13 hP 0 rfl (v := .int (Tp_length s0)) rfl dX6_put_70 ?_
    refine lv_iconst hx hb dX6_put_73 kci_4 ?_
    refine lv_iadd hx hb dX6_put_74 ?_
    refine g_put hE okX6 fl_X6_13 hP hD hS 0 rfl rfl rfl rfl (Nat.le_of_ble_eq_true rfl) (Tp_c g a0 (Tp_w_length (Tp_w_bytes s0 (upd (upd (upd (upd (Tp_bytes s0) (ix (Tp_length s0)) (vp_nar .byte (p1 >>> ((24 : Int32) &&& 31)).toInt8.toInt32)) (ix ((Tp_length s0) + (1 : Int32))) (vp_nar .byte (p1 >>> ((16 : Int32) &&& 31)).toInt8.toInt32)) (ix ((Tp_length s0) + (2 : Int32))) (vp_nar .byte (p1 >>> ((8 : Int32) &&& 31)).toInt8.toInt32)) (ix ((Tp_length s0) + (3 : Int32))) (vp_nar .byte p1.toInt8.toInt32))) ((Tp_length s0) + (4 : Int32)))) rfl dX6_put_75 (fun H locs hP hD hS => ?_)
    cases hf
    exact hq () rfl hP hD hS dX6_put_78
  · have hf := gif_t h3 hf
    cases hf
    exact hq () rfl hP hD hS dX6_put_8
theorem dX6_passRun_0 : decode cX6_passRun 0 = .ok (.aload_n 0, 1) := by decide +kernel
theorem dX6_passRun_1 : decode cX6_passRun 1 = .ok (.getfield 20, 3) := by decide +kernel
theorem dX6_passRun_4 : decode cX6_passRun 4 = .ok (.aload_n 0, 1) := by decide +kernel
theorem dX6_passRun_5 : decode cX6_passRun 5 = .ok (.getfield 17, 3) := by decide +kernel
theorem dX6_passRun_8 : decode cX6_passRun 8 = .ok (.if_icmp .ge 42, 3) := by decide +kernel
theorem dX6_passRun_11 : decode cX6_passRun 11 = .ok (.aload_n 0, 1) := by decide +kernel
theorem dX6_passRun_12 : decode cX6_passRun 12 = .ok (.getfield 9, 3) := by decide +kernel
theorem dX6_passRun_15 : decode cX6_passRun 15 = .ok (.aload_n 0, 1) := by decide +kernel
theorem dX6_passRun_16 : decode cX6_passRun 16 = .ok (.getfield 20, 3) := by decide +kernel
theorem dX6_passRun_19 : decode cX6_passRun 19 = .ok (.baload, 1) := by decide +kernel
theorem dX6_passRun_20 : decode cX6_passRun 20 = .ok (.iload_n 1, 1) := by decide +kernel
theorem dX6_passRun_21 : decode cX6_passRun 21 = .ok (.if_icmp .lt 29, 3) := by decide +kernel
theorem dX6_passRun_24 : decode cX6_passRun 24 = .ok (.aload_n 0, 1) := by decide +kernel
theorem dX6_passRun_25 : decode cX6_passRun 25 = .ok (.getfield 9, 3) := by decide +kernel
theorem dX6_passRun_28 : decode cX6_passRun 28 = .ok (.aload_n 0, 1) := by decide +kernel
theorem dX6_passRun_29 : decode cX6_passRun 29 = .ok (.getfield 20, 3) := by decide +kernel
theorem dX6_passRun_32 : decode cX6_passRun 32 = .ok (.baload, 1) := by decide +kernel
theorem dX6_passRun_33 : decode cX6_passRun 33 = .ok (.iload_n 2, 1) := by decide +kernel
theorem dX6_passRun_34 : decode cX6_passRun 34 = .ok (.if_icmp .gt 16, 3) := by decide +kernel
theorem dX6_passRun_37 : decode cX6_passRun 37 = .ok (.aload_n 0, 1) := by decide +kernel
theorem dX6_passRun_38 : decode cX6_passRun 38 = .ok (.dup, 1) := by decide +kernel
theorem dX6_passRun_39 : decode cX6_passRun 39 = .ok (.getfield 20, 3) := by decide +kernel
theorem dX6_passRun_42 : decode cX6_passRun 42 = .ok (.iconst 1, 1) := by decide +kernel
theorem dX6_passRun_43 : decode cX6_passRun 43 = .ok (.iadd, 1) := by decide +kernel
theorem dX6_passRun_44 : decode cX6_passRun 44 = .ok (.putfield 20, 3) := by decide +kernel
theorem dX6_passRun_47 : decode cX6_passRun 47 = .ok (.goto (-47), 3) := by decide +kernel
theorem dX6_passRun_50 : decode cX6_passRun 50 = .ok (.aload_n 0, 1) := by decide +kernel
theorem dX6_passRun_51 : decode cX6_passRun 51 = .ok (.getfield 20, 3) := by decide +kernel
theorem dX6_passRun_54 : decode cX6_passRun 54 = .ok (.aload_n 0, 1) := by decide +kernel
theorem dX6_passRun_55 : decode cX6_passRun 55 = .ok (.getfield 26, 3) := by decide +kernel
theorem dX6_passRun_58 : decode cX6_passRun 58 = .ok (.if_icmp .le 7, 3) := by decide +kernel
theorem dX6_passRun_61 : decode cX6_passRun 61 = .ok (.iconst 1, 1) := by decide +kernel
theorem dX6_passRun_62 : decode cX6_passRun 62 = .ok (.goto 4, 3) := by decide +kernel
theorem dX6_passRun_65 : decode cX6_passRun 65 = .ok (.iconst 0, 1) := by decide +kernel
theorem dX6_passRun_66 : decode cX6_passRun 66 = .ok (.ireturn, 1) := by decide +kernel
def f_X6_passRun_L0_5 (p1 : Int32) (p2 : Int32) (K1 : (TpT → Option (Int32 × TpT))) : Nat → TpT → Option (Int32 × TpT)
  | 0, _ => none
  | n6 + 1, s0_4 => if (Tp_end s0_4) ≤ (Tp_at s0_4) then K1 s0_4
  else if inb (Tp_at s0_4) 900 then if ((Tp_bytes s0_4) (ix (Tp_at s0_4))) < p1 then K1 s0_4
  else if inb (Tp_at s0_4) 900 then if p2 < ((Tp_bytes s0_4) (ix (Tp_at s0_4))) then K1 s0_4
  else f_X6_passRun_L0_5 p1 p2 K1 n6 (Tp_w_at s0_4 ((Tp_at s0_4) + (1 : Int32))) else none else none
def f_X6_passRun (s0 : TpT) (p1 : Int32) (p2 : Int32) : Option (Int32 × TpT) :=
  glt (fun (s0_2 : TpT) => if (Tp_at s0_2) ≤ (Tp_start s0_2) then some ((0 : Int32), s0_2)
  else some ((1 : Int32), s0_2)) fun K1 =>
  f_X6_passRun_L0_5 p1 p2 K1 10000 s0
abbrev rm_X6_passRun : Room := { frames := 0, cells := 0, slots := 0, locals := 0 }
set_option maxHeartbeats 4000000 in
set_option maxRecDepth 100000 in
theorem c_X6_passRun (l : Launch) (g : GK) (a0 : Nat → Nat) (s0 : TpT) (p1 : Int32) (p2 : Int32) (res : (Int32 × TpT)) (hf : f_X6_passRun s0 p1 p2 = some res) : gM l yX6_passRun cX6_passRun 3 (some .boolean) rm_X6_passRun g [.ref (a0 0), .int p1, .int p2] (Tp_c g a0 s0) (fun _ : Unit => (some (.int (res.1)))) (fun _ => (Tp_c g a0 (res.2))) 0 0 := by
  refine gM_introZ RX6 (by decide) rfl (Nat.le_of_ble_eq_true rfl) (fun p e s m args below meth c Q H locs ls A hE hZ hA hP hD hS hq hl => ?_)
  have hl : lv_has ls 3 [(0, .ref (a0 0)), (1, .int p1), (2, .int p2)] := hl
  have hx := hE.1
  have hb := hE.2.1
  rw [f_X6_passRun] at hf
  obtain ⟨K1, eK1, hf⟩ := gltd hf
  have kK1 : ∀ (s0_2 : TpT) (ls : Array Slot) (H : Heap) (locs : List Loc), K1 s0_2 = some res → lv_has ls 3 [(0, .ref (a0 0))] → gP g (Tp_c g a0 s0_2) H → va_D A (Tp_c g a0 s0_2) → va_S A s.heap H locs → W p l e rm_X6_passRun s m args below meth c H locs 0 0 Q (F0 m 50 ls []) := by
    intro s0_2 ls H locs hf hl hP hD hS
    rw [eK1] at hf
    refine lv_aload_n hx hb dX6_passRun_50 rfl (lv_at hl 0 rfl) ?_
    refine g_get hE okX6 fl_X6_20 hP 0 rfl (v := .int (Tp_at s0_2)) rfl dX6_passRun_51 ?_
    refine lv_aload_n hx hb dX6_passRun_54 rfl (lv_at hl 0 rfl) ?_
    refine g_get hE okX6 fl_X6_26 hP 0 rfl (v := .int (Tp_start s0_2)) rfl dX6_passRun_55 ?_
    refine lv_icmp_le hx hb dX6_passRun_58 (tgt := 65) rfl (fun h3 => ?_) (fun h3 => ?_)
    · have hf := gif_t h3 hf
      refine lv_iconst hx hb dX6_passRun_65 kci_0 ?_
      cases hf
      exact hq () (by decide) rfl hP hD hS dX6_passRun_66
    · have hf := gif_f h3 hf
      refine lv_iconst hx hb dX6_passRun_61 kci_1 ?_
      refine lv_goto hx hb dX6_passRun_62 (tgt := 66) rfl ?_
      cases hf
      exact hq () (by decide) rfl hP hD hS dX6_passRun_66
  have lpn6 : ∀ (n6 : Nat) (s0_4 : TpT) (ls : Array Slot) (H : Heap) (locs : List Loc), f_X6_passRun_L0_5 p1 p2 K1 n6 s0_4 = some res → lv_has ls 3 [(0, .ref (a0 0)), (1, .int p1), (2, .int p2)] → gP g (Tp_c g a0 s0_4) H → va_D A (Tp_c g a0 s0_4) → va_S A s.heap H locs → W p l e rm_X6_passRun s m args below meth c H locs 0 0 Q (F0 m 0 ls []) := by
    intro n6
    induction n6 with
    | zero => intro s0_4 ls H locs hf hl hP hD hS; rw [f_X6_passRun_L0_5] at hf; cases hf
    | succ n6 ihn6 =>
      intro s0_4 ls H locs hf hl hP hD hS
      rw [f_X6_passRun_L0_5] at hf
      refine lv_aload_n hx hb dX6_passRun_0 rfl (lv_at hl 0 rfl) ?_
      refine g_get hE okX6 fl_X6_20 hP 0 rfl (v := .int (Tp_at s0_4)) rfl dX6_passRun_1 ?_
      refine lv_aload_n hx hb dX6_passRun_4 rfl (lv_at hl 0 rfl) ?_
      refine g_get hE okX6 fl_X6_17 hP 0 rfl (v := .int (Tp_end s0_4)) rfl dX6_passRun_5 ?_
      refine lv_icmp_ge hx hb dX6_passRun_8 (tgt := 50) rfl (fun h7 => ?_) (fun h7 => ?_)
      · have hf := gif_t h7 hf
        exact kK1 s0_4 ls H locs hf (lv_sub hl [0] rfl) hP hD hS
      · have hf := gif_f h7 hf
        refine lv_aload_n hx hb dX6_passRun_11 rfl (lv_at hl 0 rfl) ?_
        refine g_get hE okX6 fl_X6_9 hP 0 rfl (v := .ref (a0 1)) rfl dX6_passRun_12 ?_
        refine lv_aload_n hx hb dX6_passRun_15 rfl (lv_at hl 0 rfl) ?_
        refine g_get hE okX6 fl_X6_20 hP 0 rfl (v := .int (Tp_at s0_4)) rfl dX6_passRun_16 ?_
        obtain ⟨hg8, hf⟩ := ggd hf
        refine g_bald hE hP 1 (f := (Tp_bytes s0_4)) rfl hg8 dX6_passRun_19 ?_
        refine lv_iload_n hx hb dX6_passRun_20 rfl (lv_at hl 1 rfl) ?_
        refine lv_icmp_lt hx hb dX6_passRun_21 (tgt := 50) rfl (fun h9 => ?_) (fun h9 => ?_)
        · have hf := gif_t h9 hf
          exact kK1 s0_4 ls H locs hf (lv_sub hl [0] rfl) hP hD hS
        · have hf := gif_f h9 hf
          refine lv_aload_n hx hb dX6_passRun_24 rfl (lv_at hl 0 rfl) ?_
          refine g_get hE okX6 fl_X6_9 hP 0 rfl (v := .ref (a0 1)) rfl dX6_passRun_25 ?_
          refine lv_aload_n hx hb dX6_passRun_28 rfl (lv_at hl 0 rfl) ?_
          refine g_get hE okX6 fl_X6_20 hP 0 rfl (v := .int (Tp_at s0_4)) rfl dX6_passRun_29 ?_
          obtain ⟨hg10, hf⟩ := ggd hf
          refine g_bald hE hP 1 (f := (Tp_bytes s0_4)) rfl hg10 dX6_passRun_32 ?_
          refine lv_iload_n hx hb dX6_passRun_33 rfl (lv_at hl 2 rfl) ?_
          refine lv_icmp_gt hx hb dX6_passRun_34 (tgt := 50) rfl (fun h11 => ?_) (fun h11 => ?_)
          · have hf := gif_t h11 hf
            exact kK1 s0_4 ls H locs hf (lv_sub hl [0] rfl) hP hD hS
          · have hf := gif_f h11 hf
            refine lv_aload_n hx hb dX6_passRun_37 rfl (lv_at hl 0 rfl) ?_
            refine lv_dup hx hb dX6_passRun_38 rfl ?_
            refine g_get hE okX6 fl_X6_20 hP 0 rfl (v := .int (Tp_at s0_4)) rfl dX6_passRun_39 ?_
            refine lv_iconst hx hb dX6_passRun_42 kci_1 ?_
            refine lv_iadd hx hb dX6_passRun_43 ?_
            refine g_put hE okX6 fl_X6_20 hP hD hS 0 rfl rfl rfl rfl (Nat.le_of_ble_eq_true rfl) (Tp_c g a0 (Tp_w_at s0_4 ((Tp_at s0_4) + (1 : Int32)))) rfl dX6_passRun_44 (fun H locs hP hD hS => ?_)
            refine lv_goto hx hb dX6_passRun_47 (tgt := 0) rfl ?_
            exact ihn6 (Tp_w_at s0_4 ((Tp_at s0_4) + (1 : Int32))) ls H locs hf (lv_sub hl [0, 1, 2] rfl) hP hD hS
  exact lpn6 10000 s0 ls H locs hf (lv_sub hl [0, 1, 2] rfl) hP hD hS
theorem dX6_takeWord_0 : decode cX6_takeWord 0 = .ok (.aload_n 0, 1) := by decide +kernel
theorem dX6_takeWord_1 : decode cX6_takeWord 1 = .ok (.aload_n 0, 1) := by decide +kernel
theorem dX6_takeWord_2 : decode cX6_takeWord 2 = .ok (.getfield 20, 3) := by decide +kernel
theorem dX6_takeWord_5 : decode cX6_takeWord 5 = .ok (.aload_n 0, 1) := by decide +kernel
theorem dX6_takeWord_6 : decode cX6_takeWord 6 = .ok (.getfield 26, 3) := by decide +kernel
theorem dX6_takeWord_9 : decode cX6_takeWord 9 = .ok (.isub, 1) := by decide +kernel
theorem dX6_takeWord_10 : decode cX6_takeWord 10 = .ok (.iconst 5, 1) := by decide +kernel
theorem dX6_takeWord_11 : decode cX6_takeWord 11 = .ok (.if_icmp .gt 7, 3) := by decide +kernel
theorem dX6_takeWord_14 : decode cX6_takeWord 14 = .ok (.iconst 1, 1) := by decide +kernel
theorem dX6_takeWord_15 : decode cX6_takeWord 15 = .ok (.goto 4, 3) := by decide +kernel
theorem dX6_takeWord_18 : decode cX6_takeWord 18 = .ok (.iconst 4, 1) := by decide +kernel
theorem dX6_takeWord_19 : decode cX6_takeWord 19 = .ok (.putfield 23, 3) := by decide +kernel
theorem dX6_takeWord_22 : decode cX6_takeWord 22 = .ok (.aload_n 0, 1) := by decide +kernel
theorem dX6_takeWord_23 : decode cX6_takeWord 23 = .ok (.lconst 0, 1) := by decide +kernel
theorem dX6_takeWord_24 : decode cX6_takeWord 24 = .ok (.putfield 29, 3) := by decide +kernel
theorem dX6_takeWord_27 : decode cX6_takeWord 27 = .ok (.iconst 0, 1) := by decide +kernel
theorem dX6_takeWord_28 : decode cX6_takeWord 28 = .ok (.istore_n 1, 1) := by decide +kernel
theorem dX6_takeWord_29 : decode cX6_takeWord 29 = .ok (.iload_n 1, 1) := by decide +kernel
theorem dX6_takeWord_30 : decode cX6_takeWord 30 = .ok (.iconst 5, 1) := by decide +kernel
theorem dX6_takeWord_31 : decode cX6_takeWord 31 = .ok (.if_icmp .ge 48, 3) := by decide +kernel
theorem dX6_takeWord_34 : decode cX6_takeWord 34 = .ok (.aload_n 0, 1) := by decide +kernel
theorem dX6_takeWord_35 : decode cX6_takeWord 35 = .ok (.getfield 26, 3) := by decide +kernel
theorem dX6_takeWord_38 : decode cX6_takeWord 38 = .ok (.iload_n 1, 1) := by decide +kernel
theorem dX6_takeWord_39 : decode cX6_takeWord 39 = .ok (.iadd, 1) := by decide +kernel
theorem dX6_takeWord_40 : decode cX6_takeWord 40 = .ok (.aload_n 0, 1) := by decide +kernel
theorem dX6_takeWord_41 : decode cX6_takeWord 41 = .ok (.getfield 20, 3) := by decide +kernel
theorem dX6_takeWord_44 : decode cX6_takeWord 44 = .ok (.if_icmp .ge 35, 3) := by decide +kernel
theorem dX6_takeWord_47 : decode cX6_takeWord 47 = .ok (.aload_n 0, 1) := by decide +kernel
theorem dX6_takeWord_48 : decode cX6_takeWord 48 = .ok (.aload_n 0, 1) := by decide +kernel
theorem dX6_takeWord_49 : decode cX6_takeWord 49 = .ok (.getfield 29, 3) := by decide +kernel
theorem dX6_takeWord_52 : decode cX6_takeWord 52 = .ok (.aload_n 0, 1) := by decide +kernel
theorem dX6_takeWord_53 : decode cX6_takeWord 53 = .ok (.getfield 9, 3) := by decide +kernel
theorem dX6_takeWord_56 : decode cX6_takeWord 56 = .ok (.aload_n 0, 1) := by decide +kernel
theorem dX6_takeWord_57 : decode cX6_takeWord 57 = .ok (.getfield 26, 3) := by decide +kernel
theorem dX6_takeWord_60 : decode cX6_takeWord 60 = .ok (.iload_n 1, 1) := by decide +kernel
theorem dX6_takeWord_61 : decode cX6_takeWord 61 = .ok (.iadd, 1) := by decide +kernel
theorem dX6_takeWord_62 : decode cX6_takeWord 62 = .ok (.baload, 1) := by decide +kernel
theorem dX6_takeWord_63 : decode cX6_takeWord 63 = .ok (.i2l, 1) := by decide +kernel
theorem dX6_takeWord_64 : decode cX6_takeWord 64 = .ok (.bipush 8, 2) := by decide +kernel
theorem dX6_takeWord_66 : decode cX6_takeWord 66 = .ok (.iload_n 1, 1) := by decide +kernel
theorem dX6_takeWord_67 : decode cX6_takeWord 67 = .ok (.imul, 1) := by decide +kernel
theorem dX6_takeWord_68 : decode cX6_takeWord 68 = .ok (.lshl, 1) := by decide +kernel
theorem dX6_takeWord_69 : decode cX6_takeWord 69 = .ok (.lor, 1) := by decide +kernel
theorem dX6_takeWord_70 : decode cX6_takeWord 70 = .ok (.putfield 29, 3) := by decide +kernel
theorem dX6_takeWord_73 : decode cX6_takeWord 73 = .ok (.iinc 1 1, 3) := by decide +kernel
theorem dX6_takeWord_76 : decode cX6_takeWord 76 = .ok (.goto (-47), 3) := by decide +kernel
theorem dX6_takeWord_79 : decode cX6_takeWord 79 = .ok (.return_, 1) := by decide +kernel
def f_X6_takeWord_L29_7 (K3 : (TpT → Option (TpT))) : Nat → Int32 → TpT → Option (TpT)
  | 0, _, _ => none
  | n8 + 1, x1_5, s0_6 => if (5 : Int32) ≤ x1_5 then K3 s0_6
  else if (Tp_at s0_6) ≤ ((Tp_start s0_6) + x1_5) then K3 s0_6
  else if inb ((Tp_start s0_6) + x1_5) 900 then f_X6_takeWord_L29_7 K3 n8 (x1_5 + (1 : Int32)) (Tp_w_word s0_6 ((Tp_word s0_6) ||| (((Tp_bytes s0_6) (ix ((Tp_start s0_6) + x1_5))).toInt64 <<< (((8 : Int32) * x1_5).toInt64 &&& 63)))) else none
def f_X6_takeWord (s0 : TpT) : Option (TpT) :=
  glt (fun (y2 : Int32) => glt (fun (s0_4 : TpT) => some (s0_4)) fun K3 =>
  f_X6_takeWord_L29_7 K3 10000 (0 : Int32) (Tp_w_word (Tp_w_kind s0 y2) (0 : Int64))) fun J1 =>
  if (5 : Int32) < ((Tp_at s0) - (Tp_start s0)) then J1 (4 : Int32)
  else J1 (1 : Int32)
abbrev rm_X6_takeWord : Room := { frames := 0, cells := 0, slots := 0, locals := 0 }
set_option maxHeartbeats 4000000 in
set_option maxRecDepth 100000 in
theorem c_X6_takeWord (l : Launch) (g : GK) (a0 : Nat → Nat) (s0 : TpT) (res : (TpT)) (hf : f_X6_takeWord s0 = some res) : gM l yX6_takeWord cX6_takeWord 2 none rm_X6_takeWord g [.ref (a0 0)] (Tp_c g a0 s0) (fun _ : Unit => none) (fun _ => (Tp_c g a0 res)) 0 0 := by
  refine gM_introV RX6 (by decide) rfl (Nat.le_of_ble_eq_true rfl) (fun p e s m args below meth c Q H locs ls A hE hnm hZ hA hP hD hS hq hl => ?_)
  have hl : lv_has ls 2 [(0, .ref (a0 0))] := hl
  have hx := hE.1
  have hb := hE.2.1
  rw [f_X6_takeWord] at hf
  refine lv_aload_n hx hb dX6_takeWord_0 rfl (lv_at hl 0 rfl) ?_
  refine lv_aload_n hx hb dX6_takeWord_1 rfl (lv_at hl 0 rfl) ?_
  refine g_get hE okX6 fl_X6_20 hP 0 rfl (v := .int (Tp_at s0)) rfl dX6_takeWord_2 ?_
  refine lv_aload_n hx hb dX6_takeWord_5 rfl (lv_at hl 0 rfl) ?_
  refine g_get hE okX6 fl_X6_26 hP 0 rfl (v := .int (Tp_start s0)) rfl dX6_takeWord_6 ?_
  refine lv_isub hx hb dX6_takeWord_9 ?_
  refine lv_iconst hx hb dX6_takeWord_10 kci_5 ?_
  obtain ⟨J1, eJ1, hf⟩ := gltd hf
  have kJ1 : ∀ (y2 : Int32) (ls : Array Slot) (H : Heap) (locs : List Loc), J1 y2 = some res → lv_has ls 2 [(0, .ref (a0 0))] → gP g (Tp_c g a0 s0) H → va_D A (Tp_c g a0 s0) → va_S A s.heap H locs → W p l e rm_X6_takeWord s m args below meth c H locs 0 0 Q (F0 m 19 ls [.int y2, .ref (a0 0)]) := by
    intro y2 ls H locs hf hl hP hD hS
    rw [eJ1] at hf
    refine g_put hE okX6 fl_X6_23 hP hD hS 0 rfl rfl rfl rfl (Nat.le_of_ble_eq_true rfl) (Tp_c g a0 (Tp_w_kind s0 y2)) rfl dX6_takeWord_19 (fun H locs hP hD hS => ?_)
    refine lv_aload_n hx hb dX6_takeWord_22 rfl (lv_at hl 0 rfl) ?_
    refine lv_lconst hx hb dX6_takeWord_23 kcl_0 ?_
    refine g_put hE okX6 fl_X6_29 hP hD hS 0 rfl rfl rfl rfl (Nat.le_of_ble_eq_true rfl) (Tp_c g a0 (Tp_w_word (Tp_w_kind s0 y2) (0 : Int64))) rfl dX6_takeWord_24 (fun H locs hP hD hS => ?_)
    refine lv_iconst hx hb dX6_takeWord_27 kci_0 ?_
    refine lv_istore_n hx hb dX6_takeWord_28 rfl hl (by decide) (lv' := [(1, .int (0 : Int32)), (0, .ref (a0 0))]) rfl (fun ls hl => ?_)
    obtain ⟨K3, eK3, hf⟩ := gltd hf
    have kK3 : ∀ (s0_4 : TpT) (ls : Array Slot) (H : Heap) (locs : List Loc), K3 s0_4 = some res → lv_has ls 2 [] → gP g (Tp_c g a0 s0_4) H → va_D A (Tp_c g a0 s0_4) → va_S A s.heap H locs → W p l e rm_X6_takeWord s m args below meth c H locs 0 0 Q (F0 m 79 ls []) := by
      intro s0_4 ls H locs hf hl hP hD hS
      rw [eK3] at hf
      cases hf
      exact hq () rfl hP hD hS dX6_takeWord_79
    have lpn8 : ∀ (n8 : Nat) (x1_5 : Int32) (s0_6 : TpT) (ls : Array Slot) (H : Heap) (locs : List Loc), f_X6_takeWord_L29_7 K3 n8 x1_5 s0_6 = some res → lv_has ls 2 [(0, .ref (a0 0)), (1, .int x1_5)] → gP g (Tp_c g a0 s0_6) H → va_D A (Tp_c g a0 s0_6) → va_S A s.heap H locs → W p l e rm_X6_takeWord s m args below meth c H locs 0 0 Q (F0 m 29 ls []) := by
      intro n8
      induction n8 with
      | zero => intro x1_5 s0_6 ls H locs hf hl hP hD hS; rw [f_X6_takeWord_L29_7] at hf; cases hf
      | succ n8 ihn8 =>
        intro x1_5 s0_6 ls H locs hf hl hP hD hS
        rw [f_X6_takeWord_L29_7] at hf
        refine lv_iload_n hx hb dX6_takeWord_29 rfl (lv_at hl 1 rfl) ?_
        refine lv_iconst hx hb dX6_takeWord_30 kci_5 ?_
        refine lv_icmp_ge hx hb dX6_takeWord_31 (tgt := 79) rfl (fun h9 => ?_) (fun h9 => ?_)
        · have hf := gif_t h9 hf
          exact kK3 s0_6 ls H locs hf (lv_sub hl [] rfl) hP hD hS
        · have hf := gif_f h9 hf
          refine lv_aload_n hx hb dX6_takeWord_34 rfl (lv_at hl 0 rfl) ?_
          refine g_get hE okX6 fl_X6_26 hP 0 rfl (v := .int (Tp_start s0_6)) rfl dX6_takeWord_35 ?_
          refine lv_iload_n hx hb dX6_takeWord_38 rfl (lv_at hl 1 rfl) ?_
          refine lv_iadd hx hb dX6_takeWord_39 ?_
          refine lv_aload_n hx hb dX6_takeWord_40 rfl (lv_at hl 0 rfl) ?_
          refine g_get hE okX6 fl_X6_20 hP 0 rfl (v := .int (Tp_at s0_6)) rfl dX6_takeWord_41 ?_
          refine lv_icmp_ge hx hb dX6_takeWord_44 (tgt := 79) rfl (fun h10 => ?_) (fun h10 => ?_)
          · have hf := gif_t h10 hf
            exact kK3 s0_6 ls H locs hf (lv_sub hl [] rfl) hP hD hS
          · have hf := gif_f h10 hf
            refine lv_aload_n hx hb dX6_takeWord_47 rfl (lv_at hl 0 rfl) ?_
            refine lv_aload_n hx hb dX6_takeWord_48 rfl (lv_at hl 0 rfl) ?_
            refine g_get hE okX6 fl_X6_29 hP 0 rfl (v := .long (Tp_word s0_6)) rfl dX6_takeWord_49 ?_
            refine lv_aload_n hx hb dX6_takeWord_52 rfl (lv_at hl 0 rfl) ?_
            refine g_get hE okX6 fl_X6_9 hP 0 rfl (v := .ref (a0 1)) rfl dX6_takeWord_53 ?_
            refine lv_aload_n hx hb dX6_takeWord_56 rfl (lv_at hl 0 rfl) ?_
            refine g_get hE okX6 fl_X6_26 hP 0 rfl (v := .int (Tp_start s0_6)) rfl dX6_takeWord_57 ?_
            refine lv_iload_n hx hb dX6_takeWord_60 rfl (lv_at hl 1 rfl) ?_
            refine lv_iadd hx hb dX6_takeWord_61 ?_
            obtain ⟨hg11, hf⟩ := ggd hf
            refine g_bald hE hP 1 (f := (Tp_bytes s0_6)) rfl hg11 dX6_takeWord_62 ?_
            refine lv_i2l hx hb dX6_takeWord_63 rfl ?_
            refine lv_bipush hx hb dX6_takeWord_64 kcb_8 ?_
            refine lv_iload_n hx hb dX6_takeWord_66 rfl (lv_at hl 1 rfl) ?_
            refine lv_imul hx hb dX6_takeWord_67 ?_
            refine lv_lshl hx hb dX6_takeWord_68 rfl ?_
            refine lv_lor hx hb dX6_takeWord_69 ?_
            refine g_put hE okX6 fl_X6_29 hP hD hS 0 rfl rfl rfl rfl (Nat.le_of_ble_eq_true rfl) (Tp_c g a0 (Tp_w_word s0_6 ((Tp_word s0_6) ||| (((Tp_bytes s0_6) (ix ((Tp_start s0_6) + x1_5))).toInt64 <<< (((8 : Int32) * x1_5).toInt64 &&& 63))))) rfl dX6_takeWord_70 (fun H locs hP hD hS => ?_)
            refine lv_iinc hx hb dX6_takeWord_73 hl (k := 1) (x := x1_5) rfl (kinc_1 _) (by decide) (lv' := [(1, .int (x1_5 + (1 : Int32))), (0, .ref (a0 0))]) rfl (fun ls hl => ?_)
            refine lv_goto hx hb dX6_takeWord_76 (tgt := 29) rfl ?_
            exact ihn8 (x1_5 + (1 : Int32)) (Tp_w_word s0_6 ((Tp_word s0_6) ||| (((Tp_bytes s0_6) (ix ((Tp_start s0_6) + x1_5))).toInt64 <<< (((8 : Int32) * x1_5).toInt64 &&& 63)))) ls H locs hf (lv_sub hl [1, 0] rfl) hP hD hS
    exact lpn8 10000 (0 : Int32) (Tp_w_word (Tp_w_kind s0 y2) (0 : Int64)) ls H locs hf (lv_sub hl [1, 0] rfl) hP hD hS
  refine lv_icmp_gt hx hb dX6_takeWord_11 (tgt := 18) rfl (fun h12 => ?_) (fun h12 => ?_)
  · have hf := gif_t h12 hf
    refine lv_iconst hx hb dX6_takeWord_18 kci_4 ?_
    exact kJ1 (4 : Int32) ls H locs hf (lv_sub hl [0] rfl) hP hD hS
  · have hf := gif_f h12 hf
    refine lv_iconst hx hb dX6_takeWord_14 kci_1 ?_
    refine lv_goto hx hb dX6_takeWord_15 (tgt := 19) rfl ?_
    exact kJ1 (1 : Int32) ls H locs hf (lv_sub hl [0] rfl) hP hD hS
theorem dX6_takeWhole_0 : decode cX6_takeWhole 0 = .ok (.aload_n 0, 1) := by decide +kernel
theorem dX6_takeWhole_1 : decode cX6_takeWhole 1 = .ok (.aload_n 0, 1) := by decide +kernel
theorem dX6_takeWhole_2 : decode cX6_takeWhole 2 = .ok (.getfield 20, 3) := by decide +kernel
theorem dX6_takeWhole_5 : decode cX6_takeWhole 5 = .ok (.aload_n 0, 1) := by decide +kernel
theorem dX6_takeWhole_6 : decode cX6_takeWhole 6 = .ok (.getfield 26, 3) := by decide +kernel
theorem dX6_takeWhole_9 : decode cX6_takeWhole 9 = .ok (.isub, 1) := by decide +kernel
theorem dX6_takeWhole_10 : decode cX6_takeWhole 10 = .ok (.iconst 4, 1) := by decide +kernel
theorem dX6_takeWhole_11 : decode cX6_takeWhole 11 = .ok (.if_icmp .gt 7, 3) := by decide +kernel
theorem dX6_takeWhole_14 : decode cX6_takeWhole 14 = .ok (.iconst 2, 1) := by decide +kernel
theorem dX6_takeWhole_15 : decode cX6_takeWhole 15 = .ok (.goto 4, 3) := by decide +kernel
theorem dX6_takeWhole_18 : decode cX6_takeWhole 18 = .ok (.iconst 4, 1) := by decide +kernel
theorem dX6_takeWhole_19 : decode cX6_takeWhole 19 = .ok (.putfield 23, 3) := by decide +kernel
theorem dX6_takeWhole_22 : decode cX6_takeWhole 22 = .ok (.aload_n 0, 1) := by decide +kernel
theorem dX6_takeWhole_23 : decode cX6_takeWhole 23 = .ok (.iconst 0, 1) := by decide +kernel
theorem dX6_takeWhole_24 : decode cX6_takeWhole 24 = .ok (.putfield 33, 3) := by decide +kernel
theorem dX6_takeWhole_27 : decode cX6_takeWhole 27 = .ok (.iconst 0, 1) := by decide +kernel
theorem dX6_takeWhole_28 : decode cX6_takeWhole 28 = .ok (.istore_n 1, 1) := by decide +kernel
theorem dX6_takeWhole_29 : decode cX6_takeWhole 29 = .ok (.iload_n 1, 1) := by decide +kernel
theorem dX6_takeWhole_30 : decode cX6_takeWhole 30 = .ok (.iconst 4, 1) := by decide +kernel
theorem dX6_takeWhole_31 : decode cX6_takeWhole 31 = .ok (.if_icmp .ge 48, 3) := by decide +kernel
theorem dX6_takeWhole_34 : decode cX6_takeWhole 34 = .ok (.aload_n 0, 1) := by decide +kernel
theorem dX6_takeWhole_35 : decode cX6_takeWhole 35 = .ok (.getfield 26, 3) := by decide +kernel
theorem dX6_takeWhole_38 : decode cX6_takeWhole 38 = .ok (.iload_n 1, 1) := by decide +kernel
theorem dX6_takeWhole_39 : decode cX6_takeWhole 39 = .ok (.iadd, 1) := by decide +kernel
theorem dX6_takeWhole_40 : decode cX6_takeWhole 40 = .ok (.aload_n 0, 1) := by decide +kernel
theorem dX6_takeWhole_41 : decode cX6_takeWhole 41 = .ok (.getfield 20, 3) := by decide +kernel
theorem dX6_takeWhole_44 : decode cX6_takeWhole 44 = .ok (.if_icmp .ge 35, 3) := by decide +kernel
theorem dX6_takeWhole_47 : decode cX6_takeWhole 47 = .ok (.aload_n 0, 1) := by decide +kernel
theorem dX6_takeWhole_48 : decode cX6_takeWhole 48 = .ok (.aload_n 0, 1) := by decide +kernel
theorem dX6_takeWhole_49 : decode cX6_takeWhole 49 = .ok (.getfield 33, 3) := by decide +kernel
theorem dX6_takeWhole_52 : decode cX6_takeWhole 52 = .ok (.bipush 10, 2) := by decide +kernel
theorem dX6_takeWhole_54 : decode cX6_takeWhole 54 = .ok (.imul, 1) := by decide +kernel
theorem dX6_takeWhole_55 : decode cX6_takeWhole 55 = .ok (.aload_n 0, 1) := by decide +kernel
theorem dX6_takeWhole_56 : decode cX6_takeWhole 56 = .ok (.getfield 9, 3) := by decide +kernel
theorem dX6_takeWhole_59 : decode cX6_takeWhole 59 = .ok (.aload_n 0, 1) := by decide +kernel
theorem dX6_takeWhole_60 : decode cX6_takeWhole 60 = .ok (.getfield 26, 3) := by decide +kernel
theorem dX6_takeWhole_63 : decode cX6_takeWhole 63 = .ok (.iload_n 1, 1) := by decide +kernel
theorem dX6_takeWhole_64 : decode cX6_takeWhole 64 = .ok (.iadd, 1) := by decide +kernel
theorem dX6_takeWhole_65 : decode cX6_takeWhole 65 = .ok (.baload, 1) := by decide +kernel
theorem dX6_takeWhole_66 : decode cX6_takeWhole 66 = .ok (.bipush 48, 2) := by decide +kernel
theorem dX6_takeWhole_68 : decode cX6_takeWhole 68 = .ok (.isub, 1) := by decide +kernel
theorem dX6_takeWhole_69 : decode cX6_takeWhole 69 = .ok (.iadd, 1) := by decide +kernel
theorem dX6_takeWhole_70 : decode cX6_takeWhole 70 = .ok (.putfield 33, 3) := by decide +kernel
theorem dX6_takeWhole_73 : decode cX6_takeWhole 73 = .ok (.iinc 1 1, 3) := by decide +kernel
theorem dX6_takeWhole_76 : decode cX6_takeWhole 76 = .ok (.goto (-47), 3) := by decide +kernel
theorem dX6_takeWhole_79 : decode cX6_takeWhole 79 = .ok (.return_, 1) := by decide +kernel
def f_X6_takeWhole_L29_7 (K3 : (TpT → Option (TpT))) : Nat → Int32 → TpT → Option (TpT)
  | 0, _, _ => none
  | n8 + 1, x1_5, s0_6 => if (4 : Int32) ≤ x1_5 then K3 s0_6
  else if (Tp_at s0_6) ≤ ((Tp_start s0_6) + x1_5) then K3 s0_6
  else if inb ((Tp_start s0_6) + x1_5) 900 then f_X6_takeWhole_L29_7 K3 n8 (x1_5 + (1 : Int32)) (Tp_w_whole s0_6 (((Tp_whole s0_6) * (10 : Int32)) + (((Tp_bytes s0_6) (ix ((Tp_start s0_6) + x1_5))) - (48 : Int32)))) else none
def f_X6_takeWhole (s0 : TpT) : Option (TpT) :=
  glt (fun (y2 : Int32) => glt (fun (s0_4 : TpT) => some (s0_4)) fun K3 =>
  f_X6_takeWhole_L29_7 K3 10000 (0 : Int32) (Tp_w_whole (Tp_w_kind s0 y2) (0 : Int32))) fun J1 =>
  if (4 : Int32) < ((Tp_at s0) - (Tp_start s0)) then J1 (4 : Int32)
  else J1 (2 : Int32)
abbrev rm_X6_takeWhole : Room := { frames := 0, cells := 0, slots := 0, locals := 0 }
set_option maxHeartbeats 4000000 in
set_option maxRecDepth 100000 in
theorem c_X6_takeWhole (l : Launch) (g : GK) (a0 : Nat → Nat) (s0 : TpT) (res : (TpT)) (hf : f_X6_takeWhole s0 = some res) : gM l yX6_takeWhole cX6_takeWhole 2 none rm_X6_takeWhole g [.ref (a0 0)] (Tp_c g a0 s0) (fun _ : Unit => none) (fun _ => (Tp_c g a0 res)) 0 0 := by
  refine gM_introV RX6 (by decide) rfl (Nat.le_of_ble_eq_true rfl) (fun p e s m args below meth c Q H locs ls A hE hnm hZ hA hP hD hS hq hl => ?_)
  have hl : lv_has ls 2 [(0, .ref (a0 0))] := hl
  have hx := hE.1
  have hb := hE.2.1
  rw [f_X6_takeWhole] at hf
  refine lv_aload_n hx hb dX6_takeWhole_0 rfl (lv_at hl 0 rfl) ?_
  refine lv_aload_n hx hb dX6_takeWhole_1 rfl (lv_at hl 0 rfl) ?_
  refine g_get hE okX6 fl_X6_20 hP 0 rfl (v := .int (Tp_at s0)) rfl dX6_takeWhole_2 ?_
  refine lv_aload_n hx hb dX6_takeWhole_5 rfl (lv_at hl 0 rfl) ?_
  refine g_get hE okX6 fl_X6_26 hP 0 rfl (v := .int (Tp_start s0)) rfl dX6_takeWhole_6 ?_
  refine lv_isub hx hb dX6_takeWhole_9 ?_
  refine lv_iconst hx hb dX6_takeWhole_10 kci_4 ?_
  obtain ⟨J1, eJ1, hf⟩ := gltd hf
  have kJ1 : ∀ (y2 : Int32) (ls : Array Slot) (H : Heap) (locs : List Loc), J1 y2 = some res → lv_has ls 2 [(0, .ref (a0 0))] → gP g (Tp_c g a0 s0) H → va_D A (Tp_c g a0 s0) → va_S A s.heap H locs → W p l e rm_X6_takeWhole s m args below meth c H locs 0 0 Q (F0 m 19 ls [.int y2, .ref (a0 0)]) := by
    intro y2 ls H locs hf hl hP hD hS
    rw [eJ1] at hf
    refine g_put hE okX6 fl_X6_23 hP hD hS 0 rfl rfl rfl rfl (Nat.le_of_ble_eq_true rfl) (Tp_c g a0 (Tp_w_kind s0 y2)) rfl dX6_takeWhole_19 (fun H locs hP hD hS => ?_)
    refine lv_aload_n hx hb dX6_takeWhole_22 rfl (lv_at hl 0 rfl) ?_
    refine lv_iconst hx hb dX6_takeWhole_23 kci_0 ?_
    refine g_put hE okX6 fl_X6_33 hP hD hS 0 rfl rfl rfl rfl (Nat.le_of_ble_eq_true rfl) (Tp_c g a0 (Tp_w_whole (Tp_w_kind s0 y2) (0 : Int32))) rfl dX6_takeWhole_24 (fun H locs hP hD hS => ?_)
    refine lv_iconst hx hb dX6_takeWhole_27 kci_0 ?_
    refine lv_istore_n hx hb dX6_takeWhole_28 rfl hl (by decide) (lv' := [(1, .int (0 : Int32)), (0, .ref (a0 0))]) rfl (fun ls hl => ?_)
    obtain ⟨K3, eK3, hf⟩ := gltd hf
    have kK3 : ∀ (s0_4 : TpT) (ls : Array Slot) (H : Heap) (locs : List Loc), K3 s0_4 = some res → lv_has ls 2 [] → gP g (Tp_c g a0 s0_4) H → va_D A (Tp_c g a0 s0_4) → va_S A s.heap H locs → W p l e rm_X6_takeWhole s m args below meth c H locs 0 0 Q (F0 m 79 ls []) := by
      intro s0_4 ls H locs hf hl hP hD hS
      rw [eK3] at hf
      cases hf
      exact hq () rfl hP hD hS dX6_takeWhole_79
    have lpn8 : ∀ (n8 : Nat) (x1_5 : Int32) (s0_6 : TpT) (ls : Array Slot) (H : Heap) (locs : List Loc), f_X6_takeWhole_L29_7 K3 n8 x1_5 s0_6 = some res → lv_has ls 2 [(0, .ref (a0 0)), (1, .int x1_5)] → gP g (Tp_c g a0 s0_6) H → va_D A (Tp_c g a0 s0_6) → va_S A s.heap H locs → W p l e rm_X6_takeWhole s m args below meth c H locs 0 0 Q (F0 m 29 ls []) := by
      intro n8
      induction n8 with
      | zero => intro x1_5 s0_6 ls H locs hf hl hP hD hS; rw [f_X6_takeWhole_L29_7] at hf; cases hf
      | succ n8 ihn8 =>
        intro x1_5 s0_6 ls H locs hf hl hP hD hS
        rw [f_X6_takeWhole_L29_7] at hf
        refine lv_iload_n hx hb dX6_takeWhole_29 rfl (lv_at hl 1 rfl) ?_
        refine lv_iconst hx hb dX6_takeWhole_30 kci_4 ?_
        refine lv_icmp_ge hx hb dX6_takeWhole_31 (tgt := 79) rfl (fun h9 => ?_) (fun h9 => ?_)
        · have hf := gif_t h9 hf
          exact kK3 s0_6 ls H locs hf (lv_sub hl [] rfl) hP hD hS
        · have hf := gif_f h9 hf
          refine lv_aload_n hx hb dX6_takeWhole_34 rfl (lv_at hl 0 rfl) ?_
          refine g_get hE okX6 fl_X6_26 hP 0 rfl (v := .int (Tp_start s0_6)) rfl dX6_takeWhole_35 ?_
          refine lv_iload_n hx hb dX6_takeWhole_38 rfl (lv_at hl 1 rfl) ?_
          refine lv_iadd hx hb dX6_takeWhole_39 ?_
          refine lv_aload_n hx hb dX6_takeWhole_40 rfl (lv_at hl 0 rfl) ?_
          refine g_get hE okX6 fl_X6_20 hP 0 rfl (v := .int (Tp_at s0_6)) rfl dX6_takeWhole_41 ?_
          refine lv_icmp_ge hx hb dX6_takeWhole_44 (tgt := 79) rfl (fun h10 => ?_) (fun h10 => ?_)
          · have hf := gif_t h10 hf
            exact kK3 s0_6 ls H locs hf (lv_sub hl [] rfl) hP hD hS
          · have hf := gif_f h10 hf
            refine lv_aload_n hx hb dX6_takeWhole_47 rfl (lv_at hl 0 rfl) ?_
            refine lv_aload_n hx hb dX6_takeWhole_48 rfl (lv_at hl 0 rfl) ?_
            refine g_get hE okX6 fl_X6_33 hP 0 rfl (v := .int (Tp_whole s0_6)) rfl dX6_takeWhole_49 ?_
            refine lv_bipush hx hb dX6_takeWhole_52 kcb_10 ?_
            refine lv_imul hx hb dX6_takeWhole_54 ?_
            refine lv_aload_n hx hb dX6_takeWhole_55 rfl (lv_at hl 0 rfl) ?_
            refine g_get hE okX6 fl_X6_9 hP 0 rfl (v := .ref (a0 1)) rfl dX6_takeWhole_56 ?_
            refine lv_aload_n hx hb dX6_takeWhole_59 rfl (lv_at hl 0 rfl) ?_
            refine g_get hE okX6 fl_X6_26 hP 0 rfl (v := .int (Tp_start s0_6)) rfl dX6_takeWhole_60 ?_
            refine lv_iload_n hx hb dX6_takeWhole_63 rfl (lv_at hl 1 rfl) ?_
            refine lv_iadd hx hb dX6_takeWhole_64 ?_
            obtain ⟨hg11, hf⟩ := ggd hf
            refine g_bald hE hP 1 (f := (Tp_bytes s0_6)) rfl hg11 dX6_takeWhole_65 ?_
            refine lv_bipush hx hb dX6_takeWhole_66 kcb_48 ?_
            refine lv_isub hx hb dX6_takeWhole_68 ?_
            refine lv_iadd hx hb dX6_takeWhole_69 ?_
            refine g_put hE okX6 fl_X6_33 hP hD hS 0 rfl rfl rfl rfl (Nat.le_of_ble_eq_true rfl) (Tp_c g a0 (Tp_w_whole s0_6 (((Tp_whole s0_6) * (10 : Int32)) + (((Tp_bytes s0_6) (ix ((Tp_start s0_6) + x1_5))) - (48 : Int32))))) rfl dX6_takeWhole_70 (fun H locs hP hD hS => ?_)
            refine lv_iinc hx hb dX6_takeWhole_73 hl (k := 1) (x := x1_5) rfl (kinc_1 _) (by decide) (lv' := [(1, .int (x1_5 + (1 : Int32))), (0, .ref (a0 0))]) rfl (fun ls hl => ?_)
            refine lv_goto hx hb dX6_takeWhole_76 (tgt := 29) rfl ?_
            exact ihn8 (x1_5 + (1 : Int32)) (Tp_w_whole s0_6 (((Tp_whole s0_6) * (10 : Int32)) + (((Tp_bytes s0_6) (ix ((Tp_start s0_6) + x1_5))) - (48 : Int32)))) ls H locs hf (lv_sub hl [1, 0] rfl) hP hD hS
    exact lpn8 10000 (0 : Int32) (Tp_w_whole (Tp_w_kind s0 y2) (0 : Int32)) ls H locs hf (lv_sub hl [1, 0] rfl) hP hD hS
  refine lv_icmp_gt hx hb dX6_takeWhole_11 (tgt := 18) rfl (fun h12 => ?_) (fun h12 => ?_)
  · have hf := gif_t h12 hf
    refine lv_iconst hx hb dX6_takeWhole_18 kci_4 ?_
    exact kJ1 (4 : Int32) ls H locs hf (lv_sub hl [0] rfl) hP hD hS
  · have hf := gif_f h12 hf
    refine lv_iconst hx hb dX6_takeWhole_14 kci_2 ?_
    refine lv_goto hx hb dX6_takeWhole_15 (tgt := 19) rfl ?_
    exact kJ1 (2 : Int32) ls H locs hf (lv_sub hl [0] rfl) hP hD hS
theorem dX6_next_0 : decode cX6_next 0 = .ok (.aload_n 0, 1) := by decide +kernel
theorem dX6_next_1 : decode cX6_next 1 = .ok (.getfield 20, 3) := by decide +kernel
theorem dX6_next_4 : decode cX6_next 4 = .ok (.aload_n 0, 1) := by decide +kernel
theorem dX6_next_5 : decode cX6_next 5 = .ok (.getfield 17, 3) := by decide +kernel
theorem dX6_next_8 : decode cX6_next 8 = .ok (.if_icmp .ge 30, 3) := by decide +kernel
theorem dX6_next_11 : decode cX6_next 11 = .ok (.aload_n 0, 1) := by decide +kernel
theorem dX6_next_12 : decode cX6_next 12 = .ok (.getfield 9, 3) := by decide +kernel
theorem dX6_next_15 : decode cX6_next 15 = .ok (.aload_n 0, 1) := by decide +kernel
theorem dX6_next_16 : decode cX6_next 16 = .ok (.getfield 20, 3) := by decide +kernel
theorem dX6_next_19 : decode cX6_next 19 = .ok (.baload, 1) := by decide +kernel
theorem dX6_next_20 : decode cX6_next 20 = .ok (.bipush 32, 2) := by decide +kernel
theorem dX6_next_22 : decode cX6_next 22 = .ok (.if_icmp .ne 16, 3) := by decide +kernel
theorem dX6_next_25 : decode cX6_next 25 = .ok (.aload_n 0, 1) := by decide +kernel
theorem dX6_next_26 : decode cX6_next 26 = .ok (.dup, 1) := by decide +kernel
theorem dX6_next_27 : decode cX6_next 27 = .ok (.getfield 20, 3) := by decide +kernel
theorem dX6_next_30 : decode cX6_next 30 = .ok (.iconst 1, 1) := by decide +kernel
theorem dX6_next_31 : decode cX6_next 31 = .ok (.iadd, 1) := by decide +kernel
theorem dX6_next_32 : decode cX6_next 32 = .ok (.putfield 20, 3) := by decide +kernel
theorem dX6_next_35 : decode cX6_next 35 = .ok (.goto (-35), 3) := by decide +kernel
theorem dX6_next_38 : decode cX6_next 38 = .ok (.aload_n 0, 1) := by decide +kernel
theorem dX6_next_39 : decode cX6_next 39 = .ok (.aload_n 0, 1) := by decide +kernel
theorem dX6_next_40 : decode cX6_next 40 = .ok (.getfield 20, 3) := by decide +kernel
theorem dX6_next_43 : decode cX6_next 43 = .ok (.putfield 26, 3) := by decide +kernel
theorem dX6_next_46 : decode cX6_next 46 = .ok (.aload_n 0, 1) := by decide +kernel
theorem dX6_next_47 : decode cX6_next 47 = .ok (.getfield 20, 3) := by decide +kernel
theorem dX6_next_50 : decode cX6_next 50 = .ok (.aload_n 0, 1) := by decide +kernel
theorem dX6_next_51 : decode cX6_next 51 = .ok (.getfield 17, 3) := by decide +kernel
theorem dX6_next_54 : decode cX6_next 54 = .ok (.if_icmp .lt 11, 3) := by decide +kernel
theorem dX6_next_57 : decode cX6_next 57 = .ok (.aload_n 0, 1) := by decide +kernel
theorem dX6_next_58 : decode cX6_next 58 = .ok (.iconst 0, 1) := by decide +kernel
theorem dX6_next_59 : decode cX6_next 59 = .ok (.putfield 23, 3) := by decide +kernel
theorem dX6_next_62 : decode cX6_next 62 = .ok (.goto 72, 3) := by decide +kernel
theorem dX6_next_65 : decode cX6_next 65 = .ok (.aload_n 0, 1) := by decide +kernel
theorem dX6_next_66 : decode cX6_next 66 = .ok (.bipush 97, 2) := by decide +kernel
theorem dX6_next_68 : decode cX6_next 68 = .ok (.bipush 122, 2) := by decide +kernel
theorem dX6_next_70 : decode cX6_next 70 = .ok (.invokevirtual 43, 3) := by decide +kernel
theorem dX6_next_73 : decode cX6_next 73 = .ok (.ifCond .eq 10, 3) := by decide +kernel
theorem dX6_next_76 : decode cX6_next 76 = .ok (.aload_n 0, 1) := by decide +kernel
theorem dX6_next_77 : decode cX6_next 77 = .ok (.invokevirtual 47, 3) := by decide +kernel
theorem dX6_next_80 : decode cX6_next 80 = .ok (.goto 54, 3) := by decide +kernel
theorem dX6_next_83 : decode cX6_next 83 = .ok (.aload_n 0, 1) := by decide +kernel
theorem dX6_next_84 : decode cX6_next 84 = .ok (.bipush 48, 2) := by decide +kernel
theorem dX6_next_86 : decode cX6_next 86 = .ok (.bipush 57, 2) := by decide +kernel
theorem dX6_next_88 : decode cX6_next 88 = .ok (.invokevirtual 43, 3) := by decide +kernel
theorem dX6_next_91 : decode cX6_next 91 = .ok (.ifCond .eq 10, 3) := by decide +kernel
theorem dX6_next_94 : decode cX6_next 94 = .ok (.aload_n 0, 1) := by decide +kernel
theorem dX6_next_95 : decode cX6_next 95 = .ok (.invokevirtual 50, 3) := by decide +kernel
theorem dX6_next_98 : decode cX6_next 98 = .ok (.goto 36, 3) := by decide +kernel
theorem dX6_next_101 : decode cX6_next 101 = .ok (.aload_n 0, 1) := by decide +kernel
theorem dX6_next_102 : decode cX6_next 102 = .ok (.aload_n 0, 1) := by decide +kernel
theorem dX6_next_103 : decode cX6_next 103 = .ok (.getfield 9, 3) := by decide +kernel
theorem dX6_next_106 : decode cX6_next 106 = .ok (.aload_n 0, 1) := by decide +kernel
theorem dX6_next_107 : decode cX6_next 107 = .ok (.getfield 20, 3) := by decide +kernel
theorem dX6_next_110 : decode cX6_next 110 = .ok (.baload, 1) := by decide +kernel
theorem dX6_next_111 : decode cX6_next 111 = .ok (.bipush 59, 2) := by decide +kernel
theorem dX6_next_113 : decode cX6_next 113 = .ok (.if_icmp .ne 7, 3) := by decide +kernel
theorem dX6_next_116 : decode cX6_next 116 = .ok (.iconst 3, 1) := by decide +kernel
theorem dX6_next_117 : decode cX6_next 117 = .ok (.goto 4, 3) := by decide +kernel
theorem dX6_next_120 : decode cX6_next 120 = .ok (.iconst 4, 1) := by decide +kernel
theorem dX6_next_121 : decode cX6_next 121 = .ok (.putfield 23, 3) := by decide +kernel
theorem dX6_next_124 : decode cX6_next 124 = .ok (.aload_n 0, 1) := by decide +kernel
theorem dX6_next_125 : decode cX6_next 125 = .ok (.dup, 1) := by decide +kernel
theorem dX6_next_126 : decode cX6_next 126 = .ok (.getfield 20, 3) := by decide +kernel
theorem dX6_next_129 : decode cX6_next 129 = .ok (.iconst 1, 1) := by decide +kernel
theorem dX6_next_130 : decode cX6_next 130 = .ok (.iadd, 1) := by decide +kernel
theorem dX6_next_131 : decode cX6_next 131 = .ok (.putfield 20, 3) := by decide +kernel
theorem dX6_next_134 : decode cX6_next 134 = .ok (.return_, 1) := by decide +kernel
def f_X6_next_L0_19 (K1 : (TpT → Option (TpT))) : Nat → TpT → Option (TpT)
  | 0, _ => none
  | n20 + 1, s0_18 => if (Tp_end s0_18) ≤ (Tp_at s0_18) then K1 s0_18
  else if inb (Tp_at s0_18) 900 then if ((Tp_bytes s0_18) (ix (Tp_at s0_18))) = (32 : Int32) then f_X6_next_L0_19 K1 n20 (Tp_w_at s0_18 ((Tp_at s0_18) + (1 : Int32)))
  else K1 s0_18 else none
def f_X6_next (s0 : TpT) : Option (TpT) :=
  glt (fun (s0_2 : TpT) => if (Tp_at s0_2) < (Tp_end s0_2) then (f_X6_passRun (Tp_w_start s0_2 (Tp_at s0_2)) (97 : Int32) (122 : Int32)).bind fun r4 =>
  if (r4.1) = 0 then (f_X6_passRun (r4.2) (48 : Int32) (57 : Int32)).bind fun r7 =>
  if (r7.1) = 0 then if inb (Tp_at (r7.2)) 900 then glt (fun (y12 : Int32) => some ((Tp_w_kind (Tp_w_at (r7.2) ((Tp_at (r7.2)) + (1 : Int32))) y12))) fun J11 =>
  if ((Tp_bytes (r7.2)) (ix (Tp_at (r7.2)))) = (59 : Int32) then J11 (3 : Int32)
  else J11 (4 : Int32) else none
  else (f_X6_takeWhole (r7.2)).bind fun r14 =>
  some (r14)
  else (f_X6_takeWord (r4.2)).bind fun r16 =>
  some (r16)
  else some ((Tp_w_start (Tp_w_kind s0_2 (0 : Int32)) (Tp_at s0_2)))) fun K1 =>
  f_X6_next_L0_19 K1 10000 s0
abbrev rm_X6_next : Room := { frames := 1, cells := 0, slots := 0, locals := 22 }
set_option maxHeartbeats 4000000 in
set_option maxRecDepth 100000 in
theorem c_X6_next (l : Launch) (g : GK) (a0 : Nat → Nat) (s0 : TpT) (res : (TpT)) (hf : f_X6_next s0 = some res) : gM l yX6_next cX6_next 1 none rm_X6_next g [.ref (a0 0)] (Tp_c g a0 s0) (fun _ : Unit => none) (fun _ => (Tp_c g a0 res)) 0 0 := by
  refine gM_introV RX6 (by decide) rfl (Nat.le_of_ble_eq_true rfl) (fun p e s m args below meth c Q H locs ls A hE hnm hZ hA hP hD hS hq hl => ?_)
  have hl : lv_has ls 1 [(0, .ref (a0 0))] := hl
  have hx := hE.1
  have hb := hE.2.1
  rw [f_X6_next] at hf
  obtain ⟨K1, eK1, hf⟩ := gltd hf
  have kK1 : ∀ (s0_2 : TpT) (ls : Array Slot) (H : Heap) (locs : List Loc), K1 s0_2 = some res → lv_has ls 1 [(0, .ref (a0 0))] → gP g (Tp_c g a0 s0_2) H → va_D A (Tp_c g a0 s0_2) → va_S A s.heap H locs → W p l e rm_X6_next s m args below meth c H locs 0 0 Q (F0 m 38 ls []) := by
    intro s0_2 ls H locs hf hl hP hD hS
    rw [eK1] at hf
    refine lv_aload_n hx hb dX6_next_38 rfl (lv_at hl 0 rfl) ?_
    refine lv_aload_n hx hb dX6_next_39 rfl (lv_at hl 0 rfl) ?_
    refine g_get hE okX6 fl_X6_20 hP 0 rfl (v := .int (Tp_at s0_2)) rfl dX6_next_40 ?_
    refine g_put hE okX6 fl_X6_26 hP hD hS 0 rfl rfl rfl rfl (Nat.le_of_ble_eq_true rfl) (Tp_c g a0 (Tp_w_start s0_2 (Tp_at s0_2))) rfl dX6_next_43 (fun H locs hP hD hS => ?_)
    refine lv_aload_n hx hb dX6_next_46 rfl (lv_at hl 0 rfl) ?_
    refine g_get hE okX6 fl_X6_20 hP 0 rfl (v := .int (Tp_at s0_2)) rfl dX6_next_47 ?_
    refine lv_aload_n hx hb dX6_next_50 rfl (lv_at hl 0 rfl) ?_
    refine g_get hE okX6 fl_X6_17 hP 0 rfl (v := .int (Tp_end s0_2)) rfl dX6_next_51 ?_
    refine lv_icmp_lt hx hb dX6_next_54 (tgt := 65) rfl (fun h3 => ?_) (fun h3 => ?_)
    · have hf := gif_t h3 hf
      refine lv_aload_n hx hb dX6_next_65 rfl (lv_at hl 0 rfl) ?_
      refine lv_bipush hx hb dX6_next_66 kcb_97 ?_
      refine lv_bipush hx hb dX6_next_68 kcb_122 ?_
      obtain ⟨r4, hc5, hf⟩ := gbd hf
      refine gm_callV1 (As := [.int (97 : Int32), .int (122 : Int32)]) (rest := []) (st1 := fun _ => [.int (r4.1)]) (ws' := fun _ => (Tp_c g a0 (r4.2))) hE hl.1 ml_X6_43 (c_X6_passRun l g a0 (Tp_w_start s0_2 (Tp_at s0_2)) (97 : Int32) (122 : Int32) r4 hc5) hZ hP hD hS hA 0 2 rfl (fun _ => rfl) okX6 rfl rfl rfl (fun _ => rfl) ⟨rfl, rfl⟩ ⟨Nat.le_of_ble_eq_true rfl, Nat.le_of_ble_eq_true rfl⟩ ⟨Nat.le_refl _, Nat.le_refl _⟩ (Nat.le_of_ble_eq_true rfl) dX6_next_70 (fun _ H locs hP hD hS => ?_)
      refine lv_if_eq hx hb dX6_next_73 (tgt := 83) rfl (fun h6 => ?_) (fun h6 => ?_)
      · have hf := gif_t h6 hf
        refine lv_aload_n hx hb dX6_next_83 rfl (lv_at hl 0 rfl) ?_
        refine lv_bipush hx hb dX6_next_84 kcb_48 ?_
        refine lv_bipush hx hb dX6_next_86 kcb_57 ?_
        obtain ⟨r7, hc8, hf⟩ := gbd hf
        refine gm_callV1 (As := [.int (48 : Int32), .int (57 : Int32)]) (rest := []) (st1 := fun _ => [.int (r7.1)]) (ws' := fun _ => (Tp_c g a0 (r7.2))) hE hl.1 ml_X6_43 (c_X6_passRun l g a0 (r4.2) (48 : Int32) (57 : Int32) r7 hc8) hZ hP hD hS hA 0 2 rfl (fun _ => rfl) okX6 rfl rfl rfl (fun _ => rfl) ⟨rfl, rfl⟩ ⟨Nat.le_of_ble_eq_true rfl, Nat.le_of_ble_eq_true rfl⟩ ⟨Nat.le_refl _, Nat.le_refl _⟩ (Nat.le_of_ble_eq_true rfl) dX6_next_88 (fun _ H locs hP hD hS => ?_)
        refine lv_if_eq hx hb dX6_next_91 (tgt := 101) rfl (fun h9 => ?_) (fun h9 => ?_)
        · have hf := gif_t h9 hf
          refine lv_aload_n hx hb dX6_next_101 rfl (lv_at hl 0 rfl) ?_
          refine lv_aload_n hx hb dX6_next_102 rfl (lv_at hl 0 rfl) ?_
          refine g_get hE okX6 fl_X6_9 hP 0 rfl (v := .ref (a0 1)) rfl dX6_next_103 ?_
          refine lv_aload_n hx hb dX6_next_106 rfl (lv_at hl 0 rfl) ?_
          refine g_get hE okX6 fl_X6_20 hP 0 rfl (v := .int (Tp_at (r7.2))) rfl dX6_next_107 ?_
          obtain ⟨hg10, hf⟩ := ggd hf
          refine g_bald hE hP 1 (f := (Tp_bytes (r7.2))) rfl hg10 dX6_next_110 ?_
          refine lv_bipush hx hb dX6_next_111 kcb_59 ?_
          obtain ⟨J11, eJ11, hf⟩ := gltd hf
          have kJ11 : ∀ (y12 : Int32) (ls : Array Slot) (H : Heap) (locs : List Loc), J11 y12 = some res → lv_has ls 1 [(0, .ref (a0 0))] → gP g (Tp_c g a0 (r7.2)) H → va_D A (Tp_c g a0 (r7.2)) → va_S A s.heap H locs → W p l e rm_X6_next s m args below meth c H locs 0 0 Q (F0 m 121 ls [.int y12, .ref (a0 0)]) := by
            intro y12 ls H locs hf hl hP hD hS
            rw [eJ11] at hf
            refine g_put hE okX6 fl_X6_23 hP hD hS 0 rfl rfl rfl rfl (Nat.le_of_ble_eq_true rfl) (Tp_c g a0 (Tp_w_kind (r7.2) y12)) rfl dX6_next_121 (fun H locs hP hD hS => ?_)
            refine lv_aload_n hx hb dX6_next_124 rfl (lv_at hl 0 rfl) ?_
            refine lv_dup hx hb dX6_next_125 rfl ?_
            refine g_get hE okX6 fl_X6_20 hP 0 rfl (v := .int (Tp_at (r7.2))) rfl dX6_next_126 ?_
            refine lv_iconst hx hb dX6_next_129 kci_1 ?_
            refine lv_iadd hx hb dX6_next_130 ?_
            refine g_put hE okX6 fl_X6_20 hP hD hS 0 rfl rfl rfl rfl (Nat.le_of_ble_eq_true rfl) (Tp_c g a0 (Tp_w_kind (Tp_w_at (r7.2) ((Tp_at (r7.2)) + (1 : Int32))) y12)) rfl dX6_next_131 (fun H locs hP hD hS => ?_)
            cases hf
            exact hq () rfl hP hD hS dX6_next_134
          refine lv_icmp_ne hx hb dX6_next_113 (tgt := 120) rfl (fun h13 => ?_) (fun h13 => ?_)
          · have hf := gif_f h13 hf
            refine lv_iconst hx hb dX6_next_120 kci_4 ?_
            exact kJ11 (4 : Int32) ls H locs hf (lv_sub hl [0] rfl) hP hD hS
          · have hf := gif_t h13 hf
            refine lv_iconst hx hb dX6_next_116 kci_3 ?_
            refine lv_goto hx hb dX6_next_117 (tgt := 121) rfl ?_
            exact kJ11 (3 : Int32) ls H locs hf (lv_sub hl [0] rfl) hP hD hS
        · have hf := gif_f h9 hf
          refine lv_aload_n hx hb dX6_next_94 rfl (lv_at hl 0 rfl) ?_
          obtain ⟨r14, hc15, hf⟩ := gbd hf
          refine gm_callV1 (As := []) (rest := []) (st1 := fun _ => []) (ws' := fun _ => (Tp_c g a0 r14)) hE hl.1 ml_X6_50 (c_X6_takeWhole l g a0 (r7.2) r14 hc15) hZ hP hD hS hA 0 2 rfl (fun _ => rfl) okX6 rfl rfl rfl (fun _ => rfl) ⟨rfl, rfl⟩ ⟨Nat.le_of_ble_eq_true rfl, Nat.le_of_ble_eq_true rfl⟩ ⟨Nat.le_refl _, Nat.le_refl _⟩ (Nat.le_of_ble_eq_true rfl) dX6_next_95 (fun _ H locs hP hD hS => ?_)
          refine lv_goto hx hb dX6_next_98 (tgt := 134) rfl ?_
          cases hf
          exact hq () rfl hP hD hS dX6_next_134
      · have hf := gif_f h6 hf
        refine lv_aload_n hx hb dX6_next_76 rfl (lv_at hl 0 rfl) ?_
        obtain ⟨r16, hc17, hf⟩ := gbd hf
        refine gm_callV1 (As := []) (rest := []) (st1 := fun _ => []) (ws' := fun _ => (Tp_c g a0 r16)) hE hl.1 ml_X6_47 (c_X6_takeWord l g a0 (r4.2) r16 hc17) hZ hP hD hS hA 0 2 rfl (fun _ => rfl) okX6 rfl rfl rfl (fun _ => rfl) ⟨rfl, rfl⟩ ⟨Nat.le_of_ble_eq_true rfl, Nat.le_of_ble_eq_true rfl⟩ ⟨Nat.le_refl _, Nat.le_refl _⟩ (Nat.le_of_ble_eq_true rfl) dX6_next_77 (fun _ H locs hP hD hS => ?_)
        refine lv_goto hx hb dX6_next_80 (tgt := 134) rfl ?_
        cases hf
        exact hq () rfl hP hD hS dX6_next_134
    · have hf := gif_f h3 hf
      refine lv_aload_n hx hb dX6_next_57 rfl (lv_at hl 0 rfl) ?_
      refine lv_iconst hx hb dX6_next_58 kci_0 ?_
      refine g_put hE okX6 fl_X6_23 hP hD hS 0 rfl rfl rfl rfl (Nat.le_of_ble_eq_true rfl) (Tp_c g a0 (Tp_w_start (Tp_w_kind s0_2 (0 : Int32)) (Tp_at s0_2))) rfl dX6_next_59 (fun H locs hP hD hS => ?_)
      refine lv_goto hx hb dX6_next_62 (tgt := 134) rfl ?_
      cases hf
      exact hq () rfl hP hD hS dX6_next_134
  have lpn20 : ∀ (n20 : Nat) (s0_18 : TpT) (ls : Array Slot) (H : Heap) (locs : List Loc), f_X6_next_L0_19 K1 n20 s0_18 = some res → lv_has ls 1 [(0, .ref (a0 0))] → gP g (Tp_c g a0 s0_18) H → va_D A (Tp_c g a0 s0_18) → va_S A s.heap H locs → W p l e rm_X6_next s m args below meth c H locs 0 0 Q (F0 m 0 ls []) := by
    intro n20
    induction n20 with
    | zero => intro s0_18 ls H locs hf hl hP hD hS; rw [f_X6_next_L0_19] at hf; cases hf
    | succ n20 ihn20 =>
      intro s0_18 ls H locs hf hl hP hD hS
      rw [f_X6_next_L0_19] at hf
      refine lv_aload_n hx hb dX6_next_0 rfl (lv_at hl 0 rfl) ?_
      refine g_get hE okX6 fl_X6_20 hP 0 rfl (v := .int (Tp_at s0_18)) rfl dX6_next_1 ?_
      refine lv_aload_n hx hb dX6_next_4 rfl (lv_at hl 0 rfl) ?_
      refine g_get hE okX6 fl_X6_17 hP 0 rfl (v := .int (Tp_end s0_18)) rfl dX6_next_5 ?_
      refine lv_icmp_ge hx hb dX6_next_8 (tgt := 38) rfl (fun h21 => ?_) (fun h21 => ?_)
      · have hf := gif_t h21 hf
        exact kK1 s0_18 ls H locs hf (lv_sub hl [0] rfl) hP hD hS
      · have hf := gif_f h21 hf
        refine lv_aload_n hx hb dX6_next_11 rfl (lv_at hl 0 rfl) ?_
        refine g_get hE okX6 fl_X6_9 hP 0 rfl (v := .ref (a0 1)) rfl dX6_next_12 ?_
        refine lv_aload_n hx hb dX6_next_15 rfl (lv_at hl 0 rfl) ?_
        refine g_get hE okX6 fl_X6_20 hP 0 rfl (v := .int (Tp_at s0_18)) rfl dX6_next_16 ?_
        obtain ⟨hg22, hf⟩ := ggd hf
        refine g_bald hE hP 1 (f := (Tp_bytes s0_18)) rfl hg22 dX6_next_19 ?_
        refine lv_bipush hx hb dX6_next_20 kcb_32 ?_
        refine lv_icmp_ne hx hb dX6_next_22 (tgt := 38) rfl (fun h23 => ?_) (fun h23 => ?_)
        · have hf := gif_f h23 hf
          exact kK1 s0_18 ls H locs hf (lv_sub hl [0] rfl) hP hD hS
        · have hf := gif_t h23 hf
          refine lv_aload_n hx hb dX6_next_25 rfl (lv_at hl 0 rfl) ?_
          refine lv_dup hx hb dX6_next_26 rfl ?_
          refine g_get hE okX6 fl_X6_20 hP 0 rfl (v := .int (Tp_at s0_18)) rfl dX6_next_27 ?_
          refine lv_iconst hx hb dX6_next_30 kci_1 ?_
          refine lv_iadd hx hb dX6_next_31 ?_
          refine g_put hE okX6 fl_X6_20 hP hD hS 0 rfl rfl rfl rfl (Nat.le_of_ble_eq_true rfl) (Tp_c g a0 (Tp_w_at s0_18 ((Tp_at s0_18) + (1 : Int32)))) rfl dX6_next_32 (fun H locs hP hD hS => ?_)
          refine lv_goto hx hb dX6_next_35 (tgt := 0) rfl ?_
          exact ihn20 (Tp_w_at s0_18 ((Tp_at s0_18) + (1 : Int32))) ls H locs hf (lv_sub hl [0] rfl) hP hD hS
  exact lpn20 10000 s0 ls H locs hf (lv_sub hl [0] rfl) hP hD hS
theorem dX6_rewind_0 : decode cX6_rewind 0 = .ok (.aload_n 0, 1) := by decide +kernel
theorem dX6_rewind_1 : decode cX6_rewind 1 = .ok (.iload_n 1, 1) := by decide +kernel
theorem dX6_rewind_2 : decode cX6_rewind 2 = .ok (.putfield 17, 3) := by decide +kernel
theorem dX6_rewind_5 : decode cX6_rewind 5 = .ok (.aload_n 0, 1) := by decide +kernel
theorem dX6_rewind_6 : decode cX6_rewind 6 = .ok (.iconst 0, 1) := by decide +kernel
theorem dX6_rewind_7 : decode cX6_rewind 7 = .ok (.putfield 20, 3) := by decide +kernel
theorem dX6_rewind_10 : decode cX6_rewind 10 = .ok (.aload_n 0, 1) := by decide +kernel
theorem dX6_rewind_11 : decode cX6_rewind 11 = .ok (.invokevirtual 40, 3) := by decide +kernel
theorem dX6_rewind_14 : decode cX6_rewind 14 = .ok (.return_, 1) := by decide +kernel
def f_X6_rewind (s0 : TpT) (p1 : Int32) : Option (TpT) :=
  (f_X6_next (Tp_w_at (Tp_w_end s0 p1) (0 : Int32))).bind fun r1 =>
  some (r1)
abbrev rm_X6_rewind : Room := { frames := 2, cells := 0, slots := 0, locals := 42 }
set_option maxHeartbeats 4000000 in
set_option maxRecDepth 100000 in
theorem c_X6_rewind (l : Launch) (g : GK) (a0 : Nat → Nat) (s0 : TpT) (p1 : Int32) (res : (TpT)) (hf : f_X6_rewind s0 p1 = some res) : gM l yX6_rewind cX6_rewind 2 none rm_X6_rewind g [.ref (a0 0), .int p1] (Tp_c g a0 s0) (fun _ : Unit => none) (fun _ => (Tp_c g a0 res)) 0 0 := by
  refine gM_introV RX6 (by decide) rfl (Nat.le_of_ble_eq_true rfl) (fun p e s m args below meth c Q H locs ls A hE hnm hZ hA hP hD hS hq hl => ?_)
  have hl : lv_has ls 2 [(0, .ref (a0 0)), (1, .int p1)] := hl
  have hx := hE.1
  have hb := hE.2.1
  rw [f_X6_rewind] at hf
  refine lv_aload_n hx hb dX6_rewind_0 rfl (lv_at hl 0 rfl) ?_
  refine lv_iload_n hx hb dX6_rewind_1 rfl (lv_at hl 1 rfl) ?_
  refine g_put hE okX6 fl_X6_17 hP hD hS 0 rfl rfl rfl rfl (Nat.le_of_ble_eq_true rfl) (Tp_c g a0 (Tp_w_end s0 p1)) rfl dX6_rewind_2 (fun H locs hP hD hS => ?_)
  refine lv_aload_n hx hb dX6_rewind_5 rfl (lv_at hl 0 rfl) ?_
  refine lv_iconst hx hb dX6_rewind_6 kci_0 ?_
  refine g_put hE okX6 fl_X6_20 hP hD hS 0 rfl rfl rfl rfl (Nat.le_of_ble_eq_true rfl) (Tp_c g a0 (Tp_w_at (Tp_w_end s0 p1) (0 : Int32))) rfl dX6_rewind_7 (fun H locs hP hD hS => ?_)
  refine lv_aload_n hx hb dX6_rewind_10 rfl (lv_at hl 0 rfl) ?_
  obtain ⟨r1, hc2, hf⟩ := gbd hf
  refine gm_callV1 (As := []) (rest := []) (st1 := fun _ => []) (ws' := fun _ => (Tp_c g a0 r1)) hE hl.1 ml_X6_40 (c_X6_next l g a0 (Tp_w_at (Tp_w_end s0 p1) (0 : Int32)) r1 hc2) hZ hP hD hS hA 0 2 rfl (fun _ => rfl) okX6 rfl rfl rfl (fun _ => rfl) ⟨rfl, rfl⟩ ⟨Nat.le_of_ble_eq_true rfl, Nat.le_of_ble_eq_true rfl⟩ ⟨Nat.le_refl _, Nat.le_refl _⟩ (Nat.le_of_ble_eq_true rfl) dX6_rewind_11 (fun _ H locs hP hD hS => ?_)
  cases hf
  exact hq () rfl hP hD hS dX6_rewind_14
theorem dX6_says_0 : decode cX6_says 0 = .ok (.aload_n 0, 1) := by decide +kernel
theorem dX6_says_1 : decode cX6_says 1 = .ok (.getfield 23, 3) := by decide +kernel
theorem dX6_says_4 : decode cX6_says 4 = .ok (.iconst 1, 1) := by decide +kernel
theorem dX6_says_5 : decode cX6_says 5 = .ok (.if_icmp .ne 16, 3) := by decide +kernel
theorem dX6_says_8 : decode cX6_says 8 = .ok (.aload_n 0, 1) := by decide +kernel
theorem dX6_says_9 : decode cX6_says 9 = .ok (.getfield 29, 3) := by decide +kernel
theorem dX6_says_12 : decode cX6_says 12 = .ok (.lload_n 1, 1) := by decide +kernel
theorem dX6_says_13 : decode cX6_says 13 = .ok (.lcmp, 1) := by decide +kernel
theorem dX6_says_14 : decode cX6_says 14 = .ok (.ifCond .ne 7, 3) := by decide +kernel
theorem dX6_says_17 : decode cX6_says 17 = .ok (.iconst 1, 1) := by decide +kernel
theorem dX6_says_18 : decode cX6_says 18 = .ok (.goto 4, 3) := by decide +kernel
theorem dX6_says_21 : decode cX6_says 21 = .ok (.iconst 0, 1) := by decide +kernel
theorem dX6_says_22 : decode cX6_says 22 = .ok (.ireturn, 1) := by decide +kernel
def f_X6_says (s0 : TpT) (p1 : Int64) : Option (Int32) :=
  if (Tp_kind s0) = (1 : Int32) then if (lg_cmp (Tp_word s0) p1) = 0 then some ((1 : Int32))
  else some ((0 : Int32))
  else some ((0 : Int32))
abbrev rm_X6_says : Room := { frames := 0, cells := 0, slots := 0, locals := 0 }
set_option maxHeartbeats 4000000 in
set_option maxRecDepth 100000 in
theorem c_X6_says (l : Launch) (g : GK) (a0 : Nat → Nat) (s0 : TpT) (p1 : Int64) (res : (Int32)) (hf : f_X6_says s0 p1 = some res) : gR l yX6_says cX6_says 3 (some .boolean) rm_X6_says g [.ref (a0 0), .long p1] (Tp_c g a0 s0) (some (.int res)) := by
  refine gR_introZ RX6 (by decide) rfl (Nat.le_of_ble_eq_true rfl) (fun p e s m args below meth c Q H locs ls hE hP hZ hS hq hl => ?_)
  have hl : lv_has ls 3 [(0, .ref (a0 0)), (1, .long p1)] := hl
  have hx := hE.1
  have hb := hE.2.1
  rw [f_X6_says] at hf
  refine lv_aload_n hx hb dX6_says_0 rfl (lv_at hl 0 rfl) ?_
  refine g_get hE okX6 fl_X6_23 hP 0 rfl (v := .int (Tp_kind s0)) rfl dX6_says_1 ?_
  refine lv_iconst hx hb dX6_says_4 kci_1 ?_
  refine lv_icmp_ne hx hb dX6_says_5 (tgt := 21) rfl (fun h1 => ?_) (fun h1 => ?_)
  · have hf := gif_f h1 hf
    refine lv_iconst hx hb dX6_says_21 kci_0 ?_
    cases hf
    exact hq (by decide) rfl dX6_says_22
  · have hf := gif_t h1 hf
    refine lv_aload_n hx hb dX6_says_8 rfl (lv_at hl 0 rfl) ?_
    refine g_get hE okX6 fl_X6_29 hP 0 rfl (v := .long (Tp_word s0)) rfl dX6_says_9 ?_
    refine lv_lload_n hx hb dX6_says_12 rfl (lv_at hl 1 rfl) ?_
    refine W.lcmp hx hb dX6_says_13 ?_
    refine lv_if_ne hx hb dX6_says_14 (tgt := 21) rfl (fun h2 => ?_) (fun h2 => ?_)
    · have hf := gif_f h2 hf
      refine lv_iconst hx hb dX6_says_21 kci_0 ?_
      cases hf
      exact hq (by decide) rfl dX6_says_22
    · have hf := gif_t h2 hf
      refine lv_iconst hx hb dX6_says_17 kci_1 ?_
      refine lv_goto hx hb dX6_says_18 (tgt := 22) rfl ?_
      cases hf
      exact hq (by decide) rfl dX6_says_22
