theorem dX7_appendTo_0 : decode cX7_appendTo 0 = .ok (.iload_n 2, 1) := by decide +kernel
theorem dX7_appendTo_1 : decode cX7_appendTo 1 = .ok (.bipush (-2), 2) := by decide +kernel
theorem dX7_appendTo_3 : decode cX7_appendTo 3 = .ok (.if_icmp .ne 11, 3) := by decide +kernel
theorem dX7_appendTo_6 : decode cX7_appendTo 6 = .ok (.aload_n 1, 1) := by decide +kernel
theorem dX7_appendTo_7 : decode cX7_appendTo 7 = .ok (.bipush 45, 2) := by decide +kernel
theorem dX7_appendTo_9 : decode cX7_appendTo 9 = .ok (.invokevirtual 29, 3) := by decide +kernel
theorem dX7_appendTo_12 : decode cX7_appendTo 12 = .ok (.pop, 1) := by decide +kernel
theorem dX7_appendTo_13 : decode cX7_appendTo 13 = .ok (.return_, 1) := by decide +kernel
theorem dX7_appendTo_14 : decode cX7_appendTo 14 = .ok (.iconst 0, 1) := by decide +kernel
theorem dX7_appendTo_15 : decode cX7_appendTo 15 = .ok (.istore_n 3, 1) := by decide +kernel
theorem dX7_appendTo_16 : decode cX7_appendTo 16 = .ok (.iload_n 3, 1) := by decide +kernel
theorem dX7_appendTo_17 : decode cX7_appendTo 17 = .ok (.iconst 5, 1) := by decide +kernel
theorem dX7_appendTo_18 : decode cX7_appendTo 18 = .ok (.if_icmp .ge 30, 3) := by decide +kernel
theorem dX7_appendTo_21 : decode cX7_appendTo 21 = .ok (.aload_n 0, 1) := by decide +kernel
theorem dX7_appendTo_22 : decode cX7_appendTo 22 = .ok (.iload_n 2, 1) := by decide +kernel
theorem dX7_appendTo_23 : decode cX7_appendTo 23 = .ok (.iload_n 3, 1) := by decide +kernel
theorem dX7_appendTo_24 : decode cX7_appendTo 24 = .ok (.invokevirtual 35, 3) := by decide +kernel
theorem dX7_appendTo_27 : decode cX7_appendTo 27 = .ok (.istore 4, 2) := by decide +kernel
theorem dX7_appendTo_29 : decode cX7_appendTo 29 = .ok (.iload 4, 2) := by decide +kernel
theorem dX7_appendTo_31 : decode cX7_appendTo 31 = .ok (.ifCond .eq 11, 3) := by decide +kernel
theorem dX7_appendTo_34 : decode cX7_appendTo 34 = .ok (.aload_n 1, 1) := by decide +kernel
theorem dX7_appendTo_35 : decode cX7_appendTo 35 = .ok (.iload 4, 2) := by decide +kernel
theorem dX7_appendTo_37 : decode cX7_appendTo 37 = .ok (.i2c, 1) := by decide +kernel
theorem dX7_appendTo_38 : decode cX7_appendTo 38 = .ok (.invokevirtual 29, 3) := by decide +kernel
theorem dX7_appendTo_41 : decode cX7_appendTo 41 = .ok (.pop, 1) := by decide +kernel
theorem dX7_appendTo_42 : decode cX7_appendTo 42 = .ok (.iinc 3 1, 3) := by decide +kernel
theorem dX7_appendTo_45 : decode cX7_appendTo 45 = .ok (.goto (-29), 3) := by decide +kernel
theorem dX7_appendTo_48 : decode cX7_appendTo 48 = .ok (.return_, 1) := by decide +kernel
theorem dX1_textOfRow_0 : decode cX1_textOfRow 0 = .ok (.new 164, 3) := by decide +kernel
theorem dX1_textOfRow_3 : decode cX1_textOfRow 3 = .ok (.dup, 1) := by decide +kernel
theorem dX1_textOfRow_4 : decode cX1_textOfRow 4 = .ok (.invokespecial 166, 3) := by decide +kernel
theorem dX1_textOfRow_7 : decode cX1_textOfRow 7 = .ok (.astore_n 2, 1) := by decide +kernel
theorem dX1_textOfRow_8 : decode cX1_textOfRow 8 = .ok (.aload_n 0, 1) := by decide +kernel
theorem dX1_textOfRow_9 : decode cX1_textOfRow 9 = .ok (.getfield 12, 3) := by decide +kernel
theorem dX1_textOfRow_12 : decode cX1_textOfRow 12 = .ok (.aload_n 2, 1) := by decide +kernel
theorem dX1_textOfRow_13 : decode cX1_textOfRow 13 = .ok (.iload_n 1, 1) := by decide +kernel
theorem dX1_textOfRow_14 : decode cX1_textOfRow 14 = .ok (.invokestatic 167, 3) := by decide +kernel
theorem dX1_textOfRow_17 : decode cX1_textOfRow 17 = .ok (.invokevirtual 170, 3) := by decide +kernel
theorem dX1_textOfRow_20 : decode cX1_textOfRow 20 = .ok (.aload_n 2, 1) := by decide +kernel
theorem dX1_textOfRow_21 : decode cX1_textOfRow 21 = .ok (.bipush 58, 2) := by decide +kernel
theorem dX1_textOfRow_23 : decode cX1_textOfRow 23 = .ok (.invokevirtual 174, 3) := by decide +kernel
theorem dX1_textOfRow_26 : decode cX1_textOfRow 26 = .ok (.pop, 1) := by decide +kernel
theorem dX1_textOfRow_27 : decode cX1_textOfRow 27 = .ok (.aload_n 0, 1) := by decide +kernel
theorem dX1_textOfRow_28 : decode cX1_textOfRow 28 = .ok (.getfield 18, 3) := by decide +kernel
theorem dX1_textOfRow_31 : decode cX1_textOfRow 31 = .ok (.aload_n 2, 1) := by decide +kernel
theorem dX1_textOfRow_32 : decode cX1_textOfRow 32 = .ok (.iload_n 1, 1) := by decide +kernel
theorem dX1_textOfRow_33 : decode cX1_textOfRow 33 = .ok (.invokestatic 178, 3) := by decide +kernel
theorem dX1_textOfRow_36 : decode cX1_textOfRow 36 = .ok (.invokevirtual 170, 3) := by decide +kernel
theorem dX1_textOfRow_39 : decode cX1_textOfRow 39 = .ok (.aload_n 2, 1) := by decide +kernel
theorem dX1_textOfRow_40 : decode cX1_textOfRow 40 = .ok (.bipush 124, 2) := by decide +kernel
theorem dX1_textOfRow_42 : decode cX1_textOfRow 42 = .ok (.invokevirtual 174, 3) := by decide +kernel
theorem dX1_textOfRow_45 : decode cX1_textOfRow 45 = .ok (.pop, 1) := by decide +kernel
theorem dX1_textOfRow_46 : decode cX1_textOfRow 46 = .ok (.aload_n 0, 1) := by decide +kernel
theorem dX1_textOfRow_47 : decode cX1_textOfRow 47 = .ok (.getfield 18, 3) := by decide +kernel
theorem dX1_textOfRow_50 : decode cX1_textOfRow 50 = .ok (.aload_n 2, 1) := by decide +kernel
theorem dX1_textOfRow_51 : decode cX1_textOfRow 51 = .ok (.iload_n 1, 1) := by decide +kernel
theorem dX1_textOfRow_52 : decode cX1_textOfRow 52 = .ok (.invokestatic 181, 3) := by decide +kernel
theorem dX1_textOfRow_55 : decode cX1_textOfRow 55 = .ok (.invokevirtual 170, 3) := by decide +kernel
theorem dX1_textOfRow_58 : decode cX1_textOfRow 58 = .ok (.aload_n 2, 1) := by decide +kernel
theorem dX1_textOfRow_59 : decode cX1_textOfRow 59 = .ok (.bipush 42, 2) := by decide +kernel
theorem dX1_textOfRow_61 : decode cX1_textOfRow 61 = .ok (.invokevirtual 174, 3) := by decide +kernel
theorem dX1_textOfRow_64 : decode cX1_textOfRow 64 = .ok (.pop, 1) := by decide +kernel
theorem dX1_textOfRow_65 : decode cX1_textOfRow 65 = .ok (.aload_n 2, 1) := by decide +kernel
theorem dX1_textOfRow_66 : decode cX1_textOfRow 66 = .ok (.aload_n 0, 1) := by decide +kernel
theorem dX1_textOfRow_67 : decode cX1_textOfRow 67 = .ok (.getfield 24, 3) := by decide +kernel
theorem dX1_textOfRow_70 : decode cX1_textOfRow 70 = .ok (.getfield 184, 3) := by decide +kernel
theorem dX1_textOfRow_73 : decode cX1_textOfRow 73 = .ok (.iload_n 1, 1) := by decide +kernel
theorem dX1_textOfRow_74 : decode cX1_textOfRow 74 = .ok (.iaload, 1) := by decide +kernel
theorem dX1_textOfRow_75 : decode cX1_textOfRow 75 = .ok (.invokevirtual 187, 3) := by decide +kernel
theorem dX1_textOfRow_78 : decode cX1_textOfRow 78 = .ok (.pop, 1) := by decide +kernel
theorem dX1_textOfRow_79 : decode cX1_textOfRow 79 = .ok (.aload_n 2, 1) := by decide +kernel
theorem dX1_textOfRow_80 : decode cX1_textOfRow 80 = .ok (.areturn, 1) := by decide +kernel
/-- the byte of a letter, as append((char) letter) puts it -/
abbrev c2c (v : Int32) : Int32 := (v.toUInt32 % 65536).toInt32
def f_apL (s : WdT) (p : Int32) : Nat → Nat → List Int32 → Option (List Int32)
  | 0, _, tx => some tx
  | j + 1, i, tx => (f_X7_letterAt s p (nI i)).bind fun v => if v = 0 then f_apL s p j (i + 1) tx else if (¬ (255 : Int32) < c2c v) ∧ tx.length < 34 then f_apL s p j (i + 1) (tx ++ [(c2c v).toInt8.toInt32]) else none
def f_ap (s : WdT) (p : Int32) (tx : List Int32) : Option (List Int32) := if p = (-2 : Int32) then (if tx.length < 34 then some (tx ++ [(45 : Int32).toInt8.toInt32]) else none) else f_apL s p 5 0 tx
def f_ch (ch : Int32) (tx : List Int32) : Option (List Int32) := if (¬ (255 : Int32) < ch) ∧ tx.length < 34 then some (tx ++ [ch.toInt8.toInt32]) else none
def f_text (dg : Int32 → List Int32) (s : BkT) (p : Int32) : Option (List Int32) :=
  (f_X8_keyOfPlace p).bind fun k => (f_ap (Bk_keys s) k []).bind fun t1 => (f_ch 58 t1).bind fun t2 =>
  (f_X8_leftOfPlace p).bind fun lf => (f_ap (Bk_values s) lf t2).bind fun t3 => (f_ch 124 t3).bind fun t4 =>
  (f_X8_rightOfPlace p).bind fun rg => (f_ap (Bk_values s) rg t4).bind fun t5 => (f_ch 42 t5).bind fun t6 =>
  if inb p 648 then (if t6.length + (dg (Bd_sums (Bk_board s) (ix p))).length < 35 then some (t6 ++ dg (Bd_sums (Bk_board s) (ix p))) else none) else none
set_option maxHeartbeats 4000000 in
set_option maxRecDepth 100000 in
theorem c_appendTo (l : Launch) (g : GK) (a : Nat → Nat) (s0 : WdT) (h : Nat) (tx : List Int32) (x0 : SBX tx) (p1 : Int32) (tx' : List Int32) (hf : f_ap s0 p1 tx = some tx') : gM l yX7_appendTo cX7_appendTo 5 none (rmL 6 133 5 170) g [.ref (a 0), .ref h, .int p1] (Wd_c g a s0 ++ SBw g h tx x0) (fun _ : SBX tx' => none) (fun x => Wd_c g a s0 ++ SBw g h tx' x) 5 170 := by
  refine gM_introV RX7 (by decide) rfl (Nat.le_of_ble_eq_true rfl) (fun p e s m args below meth c Q H locs ls A hE hnm hZ hA hP hD hS hq hl => ?_)
  have hl : lv_has ls 5 [(0, .ref (a 0)), (1, .ref h), (2, .int p1)] := hl
  have hx := hE.1
  have hb := hE.2.1
  rw [f_ap] at hf
  refine lv_iload_n hx hb dX7_appendTo_0 rfl (lv_at hl 2 rfl) ?_
  refine lv_bipush hx hb dX7_appendTo_1 kcb_m2 ?_
  refine lv_icmp_ne hx hb dX7_appendTo_3 (tgt := 14) rfl (fun hc => ?_) (fun hc => ?_)
  · rw [if_neg hc] at hf
    refine lv_iconst hx hb dX7_appendTo_14 kci_0 ?_
    refine lv_istore_n hx hb dX7_appendTo_15 rfl hl (by decide) (lv' := [(3, .int 0), (0, .ref (a 0)), (1, .ref h), (2, .int p1)]) rfl (fun ls hl => ?_)
    have lp : ∀ (j i : Nat) (ty : List Int32) (x : SBX ty) (ls : Array Slot) (H : Heap) (locs : List Loc) (cl sl : Nat), i + j = 5 → cl ≤ i → sl ≤ 34 * i → f_apL s0 p1 j i ty = some tx' → lv_has ls 5 [(3, .int (nI i)), (0, .ref (a 0)), (1, .ref h), (2, .int p1)] → gP g (Wd_c g a s0 ++ SBw g h ty x) H → va_D A (Wd_c g a s0 ++ SBw g h ty x) → va_S A s.heap H locs → W p l e (rmL 6 133 5 170) s m args below meth c H locs cl sl Q (F0 m 16 ls []) := by
      intro j
      induction j with
      | zero =>
        intro i ty x ls H locs cl sl hij hcl hsl hf hl hP hD hS
        rw [f_apL] at hf
        cases hf
        refine lv_iload_n hx hb dX7_appendTo_16 rfl (lv_at hl 0 rfl) ?_
        refine lv_iconst hx hb dX7_appendTo_17 kci_5 ?_
        refine lv_icmp_ge hx hb dX7_appendTo_18 (tgt := 48) rfl (fun _ => ?_) (fun h => absurd (show (5 : Int32) ≤ nI i by rw [show i = 5 by omega]; decide) h)
        exact W.widen (k := 5) (n := 170) (by omega) (by omega) (hq x rfl hP hD hS dX7_appendTo_48)
      | succ j ih =>
        intro i ty x ls H locs cl sl hij hcl hsl hf hl hP hD hS
        rw [f_apL] at hf
        obtain ⟨v, hv, hf⟩ := gbd hf
        refine lv_iload_n hx hb dX7_appendTo_16 rfl (lv_at hl 0 rfl) ?_
        refine lv_iconst hx hb dX7_appendTo_17 kci_5 ?_
        refine lv_icmp_ge hx hb dX7_appendTo_18 (tgt := 48) rfl (fun h => absurd h (nI_ge (b := 5) (by omega) (by omega))) (fun _ => ?_)
        refine lv_aload_n hx hb dX7_appendTo_21 rfl (lv_at hl 1 rfl) ?_
        refine lv_iload_n hx hb dX7_appendTo_22 rfl (lv_at hl 3 rfl) ?_
        refine lv_iload_n hx hb dX7_appendTo_23 rfl (lv_at hl 0 rfl) ?_
        refine gr_callV (As := [.int p1, .int (nI i)]) (rest := []) (st1 := [.int v]) hE hl.1 ml_X7_35 (c_X7_letterAt l g a s0 p1 (nI i) v hv) hZ hS hP [(0, 2)] rfl okX7 rfl rfl rfl rfl ⟨rfl, rfl⟩ ⟨Nat.le_of_ble_eq_true rfl, Nat.le_of_ble_eq_true rfl⟩ ⟨by show cl ≤ 5; omega, by show sl ≤ 170; omega⟩ (Nat.le_of_ble_eq_true rfl) dX7_appendTo_24 ?_
        refine lv_istore hx hb dX7_appendTo_27 hl (by decide) (lv' := [(4, .int v), (3, .int (nI i)), (0, .ref (a 0)), (1, .ref h), (2, .int p1)]) rfl (fun ls hl => ?_)
        refine lv_iload hx hb dX7_appendTo_29 (lv_at hl 0 rfl) ?_
        refine lv_if_eq hx hb dX7_appendTo_31 (tgt := 42) rfl (fun hv0 => ?_) (fun hv0 => ?_)
        · rw [if_pos hv0] at hf
          refine lv_iinc hx hb dX7_appendTo_42 hl (k := 1) (x := nI i) rfl ((kinc_1 _).trans (nI_1 i)) (by decide) (lv' := [(3, .int (nI (i + 1))), (4, .int v), (0, .ref (a 0)), (1, .ref h), (2, .int p1)]) rfl (fun ls hl => ?_)
          refine lv_goto hx hb dX7_appendTo_45 (tgt := 16) rfl ?_
          exact ih (i + 1) ty x ls H locs cl sl (by omega) (by omega) (by omega) hf (lv_sub hl [0, 2, 3, 4] rfl) hP hD hS
        · rw [if_neg hv0] at hf
          obtain ⟨⟨hch, hlt⟩, hf⟩ := ggd hf
          refine lv_aload_n hx hb dX7_appendTo_34 rfl (lv_at hl 3 rfl) ?_
          refine lv_iload hx hb dX7_appendTo_35 (lv_at hl 0 rfl) ?_
          refine lv_i2c hx hb dX7_appendTo_37 rfl ?_
          refine gm_callV1 (As := [.int (c2c v)]) (rest := []) (st1 := fun _ => [.ref h]) (ws' := fun x => Wd_c g a s0 ++ SBw g h _ x) hE hl.1 ml_X7_29 (c_sbAppC l g h ty x hlt (c2c v) hch) hZ hP hD hS hA 2 4 rfl (fun _ => rfl) okJ4 rfl rfl rfl (fun _ => rfl) ⟨rfl, rfl⟩ ⟨Nat.le_of_ble_eq_true rfl, Nat.le_of_ble_eq_true rfl⟩ ⟨by show _ + 1 ≤ 5; omega, by show _ + 34 ≤ 170; omega⟩ (Nat.le_of_ble_eq_true rfl) dX7_appendTo_38 (fun x H locs hP hD hS => ?_)
          refine lv_pop hx hb dX7_appendTo_41 rfl ?_
          refine lv_iinc hx hb dX7_appendTo_42 hl (k := 1) (x := nI i) rfl ((kinc_1 _).trans (nI_1 i)) (by decide) (lv' := [(3, .int (nI (i + 1))), (4, .int v), (0, .ref (a 0)), (1, .ref h), (2, .int p1)]) rfl (fun ls hl => ?_)
          refine lv_goto hx hb dX7_appendTo_45 (tgt := 16) rfl ?_
          exact ih (i + 1) _ x ls H locs (cl + 1) (sl + 34) (by omega) (by omega) (by omega) hf (lv_sub hl [0, 2, 3, 4] rfl) hP hD hS
    exact lp 5 0 tx x0 ls H locs 0 0 rfl (Nat.le_refl _) (Nat.le_refl _) hf hl hP hD hS
  · rw [if_pos hc] at hf
    obtain ⟨hlt, hf⟩ := ggd hf
    cases hf
    refine lv_aload_n hx hb dX7_appendTo_6 rfl (lv_at hl 1 rfl) ?_
    refine lv_bipush hx hb dX7_appendTo_7 kcb_45 ?_
    refine gm_callV1 (As := [.int (45 : Int32)]) (rest := []) (st1 := fun _ => [.ref h]) (ws' := fun x => Wd_c g a s0 ++ SBw g h _ x) hE hl.1 ml_X7_29 (c_sbAppC l g h tx x0 hlt (45 : Int32) (by decide)) hZ hP hD hS hA 2 4 rfl (fun _ => rfl) okJ4 rfl rfl rfl (fun _ => rfl) ⟨rfl, rfl⟩ ⟨Nat.le_of_ble_eq_true rfl, Nat.le_of_ble_eq_true rfl⟩ ⟨Nat.le_of_ble_eq_true rfl, Nat.le_of_ble_eq_true rfl⟩ (Nat.le_of_ble_eq_true rfl) dX7_appendTo_9 (fun x H locs hP hD hS => ?_)
    refine lv_pop hx hb dX7_appendTo_12 rfl ?_
    exact W.widen (k := 5) (n := 170) (Nat.le_of_ble_eq_true rfl) (Nat.le_of_ble_eq_true rfl) (hq x rfl hP hD hS dX7_appendTo_13)
theorem cl_X1_164 : Cond.classLink RX1 164 RJ4 ∈ TBL := tb (in4 (List.mem_of_getElem? (i := 19) (by decide +kernel))) (by decide +kernel)
theorem inst_J4 : Cond.instantiable RJ4 4 ∈ TBL := tb (in4 (List.mem_of_getElem? (i := 20) (by decide +kernel))) (by decide +kernel)
theorem ini_J4 : Cond.initialized RJ4 ∈ TBL := tb (in1 (List.mem_of_getElem? (i := 19) (by decide +kernel))) (by decide +kernel)
theorem dfJ4 : ∀ j, j < 4 → defaultValue (tyJ4 j) = vp_V [.null, .int 0, .int 0, .int 0] j := by decide
set_option maxHeartbeats 4000000 in
set_option maxRecDepth 100000 in
theorem c_textOfRow (l : Launch) (g : GK) (dg : Int32 → List Int32) (hdg : ∀ v, DigOK v (dg v)) (a : Nat → Nat) (s0 : BkT) (p1 : Int32) (tx : List Int32) (hf : f_text dg s0 p1 = some tx) : gM l yX1_textOfRow cX1_textOfRow 3 (some (.object "java/lang/StringBuilder")) (rmL 7 157 21 666) g [.ref (a 0), .int p1] (Bk_c g a s0) (fun x : Nat × SBX tx => some (.ref x.1)) (fun x => Bk_c g a s0 ++ SBw g x.1 tx x.2) 21 666 := by
  refine gM_introA (.object "java/lang/StringBuilder") (Or.inl ⟨_, rfl⟩) RX1 (by decide) rfl (Nat.le_of_ble_eq_true rfl) (fun p e s m args below meth c Q H locs ls A hE hZ hA hP hD hS hq hl => ?_)
  have hl : lv_has ls 3 [(0, .ref (a 0)), (1, .int p1)] := hl
  have hx := hE.1
  have hb := hE.2.1
  rw [f_text] at hf
  obtain ⟨k, hk, hf⟩ := gbd hf
  obtain ⟨t1, ht1, hf⟩ := gbd hf
  obtain ⟨t2, ht2, hf⟩ := gbd hf
  obtain ⟨lf, hlf, hf⟩ := gbd hf
  obtain ⟨t3, ht3, hf⟩ := gbd hf
  obtain ⟨t4, ht4, hf⟩ := gbd hf
  obtain ⟨rg, hrg, hf⟩ := gbd hf
  obtain ⟨t5, ht5, hf⟩ := gbd hf
  obtain ⟨t6, ht6, hf⟩ := gbd hf
  obtain ⟨hin, hf⟩ := ggd hf
  obtain ⟨hl35, hf⟩ := ggd hf
  cases hf
  obtain ⟨⟨hc2, hn2⟩, ht2⟩ := ggd ht2
  cases ht2
  obtain ⟨⟨hc4, hn4⟩, ht4⟩ := ggd ht4
  cases ht4
  obtain ⟨⟨hc6, hn6⟩, ht6⟩ := ggd ht6
  cases ht6
  refine g_new hE okJ4 cl_X1_164 inst_J4 ini_J4 hP hD hS hA (fs := [.null, .int 0, .int 0, .int 0]) dfJ4 (Nat.le_of_ble_eq_true rfl) (Nat.le_of_ble_eq_true rfl) dX1_textOfRow_0 (fun h H hP hD hS => ?_)
  refine lv_dup hx hb dX1_textOfRow_3 rfl ?_
  refine gm_callI1 (As := []) (rest := [.ref h]) (st1 := fun _ => [.ref h]) (ws' := fun x => Bk_c g a s0 ++ SBw g h [] x) hE hl.1 ml_X1_166 (c_sbInit l g h) hZ hP hD hS hA 25 26 rfl (fun _ => rfl) rfl rfl (fun _ => rfl) ⟨rfl, rfl⟩ ⟨Nat.le_of_ble_eq_true rfl, Nat.le_of_ble_eq_true rfl⟩ ⟨Nat.le_of_ble_eq_true rfl, Nat.le_of_ble_eq_true rfl⟩ (Nat.le_of_ble_eq_true rfl) dX1_textOfRow_4 (fun x0 H locs hP hD hS => ?_)
  refine lv_astore_n hx hb dX1_textOfRow_7 rfl hl (by decide) (lv' := [(2, .ref h), (0, .ref (a 0)), (1, .int p1)]) rfl (fun ls hl => ?_)
  refine lv_aload_n hx hb dX1_textOfRow_8 rfl (lv_at hl 1 rfl) ?_
  refine g_get hE okX1 fl_X1_12 hP 0 rfl (v := .ref (a 1)) rfl dX1_textOfRow_9 ?_
  refine lv_aload_n hx hb dX1_textOfRow_12 rfl (lv_at hl 0 rfl) ?_
  refine lv_iload_n hx hb dX1_textOfRow_13 rfl (lv_at hl 2 rfl) ?_
  refine gr_callN (As := [.int p1]) (rest := [.ref h, .ref (a 1)]) (st1 := [.int k, .ref h, .ref (a 1)]) hE hl.1 ml_X1_167 (c_X8_keyOfPlace l g p1 k hk) hZ hS hP [] rfl rfl rfl rfl ⟨rfl, rfl⟩ ⟨Nat.le_of_ble_eq_true rfl, Nat.le_of_ble_eq_true rfl⟩ ⟨Nat.le_of_ble_eq_true rfl, Nat.le_of_ble_eq_true rfl⟩ (Nat.le_of_ble_eq_true rfl) dX1_textOfRow_14 ?_
  refine gm_callV2 (As := [.ref h, .int k]) (rest := []) (st1 := fun _ => []) (ws' := fun x => Bk_c g a s0 ++ SBw g h t1 x) hE hl.1 ml_X1_170 (c_appendTo l g (fun k => a (k + 1)) (Bk_keys s0) h [] x0 k t1 ht1) hZ hP hD hS hA 1 3 22 27 rfl (fun _ => rfl) okX7 rfl rfl rfl (fun _ => rfl) ⟨rfl, rfl⟩ ⟨Nat.le_of_ble_eq_true rfl, Nat.le_of_ble_eq_true rfl⟩ ⟨Nat.le_of_ble_eq_true rfl, Nat.le_of_ble_eq_true rfl⟩ (Nat.le_of_ble_eq_true rfl) dX1_textOfRow_17 (fun x1 H locs hP hD hS => ?_)
  refine lv_aload_n hx hb dX1_textOfRow_20 rfl (lv_at hl 0 rfl) ?_
  refine lv_bipush hx hb dX1_textOfRow_21 kcb_58 ?_
  refine gm_callV1 (As := [.int (58 : Int32)]) (rest := []) (st1 := fun _ => [.ref h]) (ws' := fun x => Bk_c g a s0 ++ SBw g h _ x) hE hl.1 ml_X1_174 (c_sbAppC l g h t1 x1 hn2 (58 : Int32) (by decide)) hZ hP hD hS hA 25 27 rfl (fun _ => rfl) okJ4 rfl rfl rfl (fun _ => rfl) ⟨rfl, rfl⟩ ⟨Nat.le_of_ble_eq_true rfl, Nat.le_of_ble_eq_true rfl⟩ ⟨Nat.le_of_ble_eq_true rfl, Nat.le_of_ble_eq_true rfl⟩ (Nat.le_of_ble_eq_true rfl) dX1_textOfRow_23 (fun x2 H locs hP hD hS => ?_)
  refine lv_pop hx hb dX1_textOfRow_26 rfl ?_
  refine lv_aload_n hx hb dX1_textOfRow_27 rfl (lv_at hl 1 rfl) ?_
  refine g_get hE okX1 fl_X1_18 hP 0 rfl (v := .ref (a 3)) rfl dX1_textOfRow_28 ?_
  refine lv_aload_n hx hb dX1_textOfRow_31 rfl (lv_at hl 0 rfl) ?_
  refine lv_iload_n hx hb dX1_textOfRow_32 rfl (lv_at hl 2 rfl) ?_
  refine gr_callN (As := [.int p1]) (rest := [.ref h, .ref (a 3)]) (st1 := [.int lf, .ref h, .ref (a 3)]) hE hl.1 ml_X1_178 (c_X8_leftOfPlace l g p1 lf hlf) hZ hS hP [] rfl rfl rfl rfl ⟨rfl, rfl⟩ ⟨Nat.le_of_ble_eq_true rfl, Nat.le_of_ble_eq_true rfl⟩ ⟨Nat.le_of_ble_eq_true rfl, Nat.le_of_ble_eq_true rfl⟩ (Nat.le_of_ble_eq_true rfl) dX1_textOfRow_33 ?_
  refine gm_callV2 (As := [.ref h, .int lf]) (rest := []) (st1 := fun _ => []) (ws' := fun x => Bk_c g a s0 ++ SBw g h t3 x) hE hl.1 ml_X1_170 (c_appendTo l g (fun k => a (k + 3)) (Bk_values s0) h (t1 ++ [(58 : Int32).toInt8.toInt32]) x2 lf t3 ht3) hZ hP hD hS hA 3 5 20 27 rfl (fun _ => rfl) okX7 rfl rfl rfl (fun _ => rfl) ⟨rfl, rfl⟩ ⟨Nat.le_of_ble_eq_true rfl, Nat.le_of_ble_eq_true rfl⟩ ⟨Nat.le_of_ble_eq_true rfl, Nat.le_of_ble_eq_true rfl⟩ (Nat.le_of_ble_eq_true rfl) dX1_textOfRow_36 (fun x3 H locs hP hD hS => ?_)
  refine lv_aload_n hx hb dX1_textOfRow_39 rfl (lv_at hl 0 rfl) ?_
  refine lv_bipush hx hb dX1_textOfRow_40 kcb_124 ?_
  refine gm_callV1 (As := [.int (124 : Int32)]) (rest := []) (st1 := fun _ => [.ref h]) (ws' := fun x => Bk_c g a s0 ++ SBw g h _ x) hE hl.1 ml_X1_174 (c_sbAppC l g h t3 x3 hn4 (124 : Int32) (by decide)) hZ hP hD hS hA 25 27 rfl (fun _ => rfl) okJ4 rfl rfl rfl (fun _ => rfl) ⟨rfl, rfl⟩ ⟨Nat.le_of_ble_eq_true rfl, Nat.le_of_ble_eq_true rfl⟩ ⟨Nat.le_of_ble_eq_true rfl, Nat.le_of_ble_eq_true rfl⟩ (Nat.le_of_ble_eq_true rfl) dX1_textOfRow_42 (fun x4 H locs hP hD hS => ?_)
  refine lv_pop hx hb dX1_textOfRow_45 rfl ?_
  refine lv_aload_n hx hb dX1_textOfRow_46 rfl (lv_at hl 1 rfl) ?_
  refine g_get hE okX1 fl_X1_18 hP 0 rfl (v := .ref (a 3)) rfl dX1_textOfRow_47 ?_
  refine lv_aload_n hx hb dX1_textOfRow_50 rfl (lv_at hl 0 rfl) ?_
  refine lv_iload_n hx hb dX1_textOfRow_51 rfl (lv_at hl 2 rfl) ?_
  refine gr_callN (As := [.int p1]) (rest := [.ref h, .ref (a 3)]) (st1 := [.int rg, .ref h, .ref (a 3)]) hE hl.1 ml_X1_181 (c_X8_rightOfPlace l g p1 rg hrg) hZ hS hP [] rfl rfl rfl rfl ⟨rfl, rfl⟩ ⟨Nat.le_of_ble_eq_true rfl, Nat.le_of_ble_eq_true rfl⟩ ⟨Nat.le_of_ble_eq_true rfl, Nat.le_of_ble_eq_true rfl⟩ (Nat.le_of_ble_eq_true rfl) dX1_textOfRow_52 ?_
  refine gm_callV2 (As := [.ref h, .int rg]) (rest := []) (st1 := fun _ => []) (ws' := fun x => Bk_c g a s0 ++ SBw g h t5 x) hE hl.1 ml_X1_170 (c_appendTo l g (fun k => a (k + 3)) (Bk_values s0) h (t3 ++ [(124 : Int32).toInt8.toInt32]) x4 rg t5 ht5) hZ hP hD hS hA 3 5 20 27 rfl (fun _ => rfl) okX7 rfl rfl rfl (fun _ => rfl) ⟨rfl, rfl⟩ ⟨Nat.le_of_ble_eq_true rfl, Nat.le_of_ble_eq_true rfl⟩ ⟨Nat.le_of_ble_eq_true rfl, Nat.le_of_ble_eq_true rfl⟩ (Nat.le_of_ble_eq_true rfl) dX1_textOfRow_55 (fun x5 H locs hP hD hS => ?_)
  refine lv_aload_n hx hb dX1_textOfRow_58 rfl (lv_at hl 0 rfl) ?_
  refine lv_bipush hx hb dX1_textOfRow_59 kcb_42 ?_
  refine gm_callV1 (As := [.int (42 : Int32)]) (rest := []) (st1 := fun _ => [.ref h]) (ws' := fun x => Bk_c g a s0 ++ SBw g h _ x) hE hl.1 ml_X1_174 (c_sbAppC l g h t5 x5 hn6 (42 : Int32) (by decide)) hZ hP hD hS hA 25 27 rfl (fun _ => rfl) okJ4 rfl rfl rfl (fun _ => rfl) ⟨rfl, rfl⟩ ⟨Nat.le_of_ble_eq_true rfl, Nat.le_of_ble_eq_true rfl⟩ ⟨Nat.le_of_ble_eq_true rfl, Nat.le_of_ble_eq_true rfl⟩ (Nat.le_of_ble_eq_true rfl) dX1_textOfRow_61 (fun x6 H locs hP hD hS => ?_)
  refine lv_pop hx hb dX1_textOfRow_64 rfl ?_
  refine lv_aload_n hx hb dX1_textOfRow_65 rfl (lv_at hl 0 rfl) ?_
  refine lv_aload_n hx hb dX1_textOfRow_66 rfl (lv_at hl 1 rfl) ?_
  refine g_get hE okX1 fl_X1_24 hP 0 rfl (v := .ref (a 5)) rfl dX1_textOfRow_67 ?_
  refine g_get hE okX0 fl_X1_184 hP 5 rfl (v := .ref (a 7)) rfl dX1_textOfRow_70 ?_
  refine lv_iload_n hx hb dX1_textOfRow_73 rfl (lv_at hl 2 rfl) ?_
  refine g_iald hE hP 7 (f := Bd_sums (Bk_board s0)) rfl hin dX1_textOfRow_74 ?_
  refine gm_callV1 (As := [.int (Bd_sums (Bk_board s0) (ix p1))]) (rest := []) (st1 := fun _ => [.ref h]) (ws' := fun x => Bk_c g a s0 ++ SBw g h _ x) hE hl.1 ml_X1_187 (c_sbAppI l g h (t5 ++ [(42 : Int32).toInt8.toInt32]) x6 (Bd_sums (Bk_board s0) (ix p1)) (dg (Bd_sums (Bk_board s0) (ix p1))) (hdg _) hl35) hZ hP hD hS hA 25 27 rfl (fun _ => rfl) okJ4 rfl rfl rfl (fun _ => rfl) ⟨rfl, rfl⟩ ⟨Nat.le_of_ble_eq_true rfl, Nat.le_of_ble_eq_true rfl⟩ ⟨Nat.le_of_ble_eq_true rfl, Nat.le_of_ble_eq_true rfl⟩ (Nat.le_of_ble_eq_true rfl) dX1_textOfRow_75 (fun x7 H locs hP hD hS => ?_)
  refine lv_pop hx hb dX1_textOfRow_78 rfl ?_
  refine lv_aload_n hx hb dX1_textOfRow_79 rfl (lv_at hl 0 rfl) ?_
  exact W.widen (k := 21) (n := 666) (Nat.le_of_ble_eq_true rfl) (Nat.le_of_ble_eq_true rfl) (hq (h, x7) rfl hP hD hS dX1_textOfRow_80)
def f_spell (dg : Int32 → List Int32) (s0 : OuBT) (p1 p2 : Int32) : Option (Int32 × OuBT) :=
  if 0 ≤ p2 then (f_X8_filledPlace 648 (Bd_sums (Bk_board (OuB_books s0))) (0 : Int32) p1).bind fun r =>
    if r = (-1 : Int32) then f_X8_refuse_B s0 (1 : Int32) (-1 : Int32)
    else (f_text dg (OuB_books s0) r).bind fun tx => if nI tx.length ≤ p2 then f_X8_accept_B s0 (-1 : Int32) else f_X8_accept_B s0 (((tx.getD (ix p2) 0 &&& 255).toUInt32 % 65536).toInt32)
  else f_X8_refuse_B s0 (1 : Int32) (-1 : Int32)
set_option maxHeartbeats 4000000 in
set_option maxRecDepth 100000 in
theorem c_spell_B (l : Launch) (g : GK) (dg : Int32 → List Int32) (hdg : ∀ v, DigOK v (dg v)) (hd34 : ∀ s p tx, f_text dg s p = some tx → tx.length < 35) (a : Nat → Nat) (v_shelf : Value) (s0 : OuBT) (p1 p2 : Int32) (res : Int32 × OuBT) (hf : f_spell dg s0 p1 p2 = some res) : gM l yX8_spell cX8_spell 5 (some .int) (rmL 8 179 21 666) g [.ref (a 0), .int p1, .int p2] (OuB_c g a v_shelf s0) (fun _ : Unit => some (.int res.1)) (fun _ => OuB_c g a v_shelf res.2) 21 666 := by
  refine gM_introI RX8 (by decide) rfl (Nat.le_of_ble_eq_true rfl) (fun p e s m args below meth c Q H locs ls A hE hZ hA hP hD hS hq hl => ?_)
  have hl : lv_has ls 5 [(0, .ref (a 0)), (1, .int p1), (2, .int p2)] := hl
  have hx := hE.1
  have hb := hE.2.1
  rw [f_spell] at hf
  refine lv_aload_n hx hb dX8_spell_0 rfl (lv_at hl 0 rfl) ?_
  refine g_get hE okX8 fl_X8_31 hP 0 rfl (v := .ref (a 19)) rfl dX8_spell_1 ?_
  refine lv_ifnull hx hb dX8_spell_4 ?_
  refine lv_iload_n hx hb dX8_spell_7 rfl (lv_at hl 2 rfl) ?_
  refine lv_if_ge hx hb dX8_spell_8 (tgt := 18) rfl (fun hc => ?_) (fun hc => ?_)
  · rw [if_pos hc] at hf
    obtain ⟨r, hr, hf⟩ := gbd hf
    refine lv_aload_n hx hb dX8_spell_18 rfl (lv_at hl 0 rfl) ?_
    refine g_get hE okX8 fl_X8_31 hP 0 rfl (v := .ref (a 19)) rfl dX8_spell_19 ?_
    refine g_get hE okX1 fl_X8_139 hP 19 rfl (v := .ref (a 24)) rfl dX8_spell_22 ?_
    refine g_get hE okX0 fl_X8_159 hP 24 rfl (v := .ref (a 26)) rfl dX8_spell_25 ?_
    refine lv_iconst hx hb dX8_spell_28 kci_0 ?_
    refine lv_iload_n hx hb dX8_spell_29 rfl (lv_at hl 1 rfl) ?_
    refine gr_callS (As := [.ref (a 26), .int 0, .int p1]) (rest := []) (st1 := [.int r]) hE hl.1 ml_X8_172 (c_X8_filledPlace l g (a 26) 648 (Bd_sums (Bk_board (OuB_books s0))) 0 p1 r hr) hZ hS hP [(26, 1)] rfl rfl rfl rfl ⟨rfl, rfl⟩ ⟨Nat.le_of_ble_eq_true rfl, Nat.le_of_ble_eq_true rfl⟩ ⟨Nat.le_of_ble_eq_true rfl, Nat.le_of_ble_eq_true rfl⟩ (Nat.le_of_ble_eq_true rfl) dX8_spell_30 ?_
    refine lv_istore_n hx hb dX8_spell_33 rfl hl (by decide) (lv' := [(3, .int r), (0, .ref (a 0)), (1, .int p1), (2, .int p2)]) rfl (fun ls hl => ?_)
    refine lv_iload_n hx hb dX8_spell_34 rfl (lv_at hl 0 rfl) ?_
    refine lv_iconst hx hb dX8_spell_35 kci_m1 ?_
    refine lv_icmp_ne hx hb dX8_spell_36 (tgt := 46) rfl (fun hc2 => ?_) (fun hc2 => ?_)
    · rw [if_neg hc2] at hf
      obtain ⟨tx, htx, hf⟩ := gbd hf
      refine lv_aload_n hx hb dX8_spell_46 rfl (lv_at hl 1 rfl) ?_
      refine g_get hE okX8 fl_X8_31 hP 0 rfl (v := .ref (a 19)) rfl dX8_spell_47 ?_
      refine lv_iload_n hx hb dX8_spell_50 rfl (lv_at hl 0 rfl) ?_
      refine gm_callV1 (As := [.int r]) (rest := []) (st1 := fun x => [.ref x.1]) (ws' := fun x => OuB_c g a v_shelf s0 ++ SBw g x.1 tx x.2) hE hl.1 ml_X8_179 (c_textOfRow l g dg hdg (fun k => a (k + 19)) (OuB_books s0) r tx htx) hZ hP hD hS hA 19 44 rfl (fun _ => rfl) okX1 rfl rfl rfl (fun _ => rfl) ⟨rfl, rfl⟩ ⟨Nat.le_of_ble_eq_true rfl, Nat.le_of_ble_eq_true rfl⟩ ⟨Nat.le_of_ble_eq_true rfl, Nat.le_of_ble_eq_true rfl⟩ (Nat.le_of_ble_eq_true rfl) dX8_spell_51 (fun x H locs hP hD hS => ?_)
      obtain ⟨h, ⟨⟨q, N, t⟩, hp⟩⟩ := x
      dsimp only at hP hD hp ⊢
      have hN : N < 35 := by rcases hp.1 with h | h <;> omega
      refine lv_astore hx hb dX8_spell_54 hl (by decide) (lv' := [(4, .ref h), (3, .int r), (0, .ref (a 0)), (1, .int p1), (2, .int p2)]) rfl (fun ls hl => ?_)
      refine lv_aload_n hx hb dX8_spell_56 rfl (lv_at hl 2 rfl) ?_
      refine lv_iload_n hx hb dX8_spell_57 rfl (lv_at hl 4 rfl) ?_
      refine lv_aload hx hb dX8_spell_58 (lv_at hl 0 rfl) ?_
      refine gr_callV (As := []) (rest := [.int p2, .ref (a 0)]) (st1 := [.int (nI tx.length), .int p2, .ref (a 0)]) hE hl.1 ml_X8_183 (c_sbLen l g h q N t (nI tx.length)) hZ hS hP [(44, 2)] rfl okJ4 rfl rfl rfl rfl ⟨rfl, rfl⟩ ⟨Nat.le_of_ble_eq_true rfl, Nat.le_of_ble_eq_true rfl⟩ ⟨Nat.le_of_ble_eq_true rfl, Nat.le_of_ble_eq_true rfl⟩ (Nat.le_of_ble_eq_true rfl) dX8_spell_60 ?_
      refine lv_icmp_ge hx hb dX8_spell_63 (tgt := 75) rfl (fun hc3 => ?_) (fun hc3 => ?_)
      · rw [if_pos hc3] at hf
        refine lv_iconst hx hb dX8_spell_75 kci_m1 ?_
        refine gm_callV1 (As := [.int (-1)]) (rest := []) (st1 := fun _ => [.int res.1]) (ws' := fun _ => OuB_c g a v_shelf res.2 ++ SB_c g h q N t (nI tx.length)) hE hl.1 ml_X8_103 (c_X8_accept_B l g a v_shelf s0 _ res hf) hZ hP hD hS hA 0 44 rfl (fun _ => rfl) okX8 rfl rfl rfl (fun _ => rfl) ⟨rfl, rfl⟩ ⟨Nat.le_of_ble_eq_true rfl, Nat.le_of_ble_eq_true rfl⟩ ⟨Nat.le_of_ble_eq_true rfl, Nat.le_of_ble_eq_true rfl⟩ (Nat.le_of_ble_eq_true rfl) dX8_spell_76 (fun _ H locs hP hD hS => ?_)
        exact hq () rfl (vaP_seg hP [(0, 44)] rfl) (hD.sub (List.range 44) rfl rfl) hS dX8_spell_79
      · rw [if_neg hc3] at hf
        obtain ⟨j, hj, rfl⟩ : ∃ j : Nat, j < tx.length ∧ p2 = nI j := by
          obtain ⟨j, hj, rfl⟩ := nI_of (x := p2) (fun z => by have h1 := Int32.lt_iff_toInt_lt.mp z; have h2 := Int32.le_iff_toInt_le.mp hc; omega)
          exact ⟨j, Nat.lt_of_not_le (fun z => hc3 (nI_le z hj)), rfl⟩
        have hix : ix (nI j) = j := nI_clamp (by have := hp.2.1; omega)
        rw [hix, ← hp.2.2.2 j hj] at hf
        refine lv_aload hx hb dX8_spell_66 (lv_at hl 0 rfl) ?_
        refine lv_iload_n hx hb dX8_spell_68 rfl (lv_at hl 4 rfl) ?_
        refine gr_callV (As := [.int (nI j)]) (rest := [.ref (a 0)]) (st1 := [.int ((t j &&& 255).toUInt32 % 65536).toInt32, .ref (a 0)]) hE hl.1 ml_X8_188 (c_sbAt l g h q N t tx.length j hj hp.2.1 hN) hZ hS hP [(44, 2)] rfl okJ4 rfl rfl rfl rfl ⟨rfl, rfl⟩ ⟨Nat.le_of_ble_eq_true rfl, Nat.le_of_ble_eq_true rfl⟩ ⟨Nat.le_of_ble_eq_true rfl, Nat.le_of_ble_eq_true rfl⟩ (Nat.le_of_ble_eq_true rfl) dX8_spell_69 ?_
        refine lv_goto hx hb dX8_spell_72 (tgt := 76) rfl ?_
        refine gm_callV1 (As := [.int ((t j &&& 255).toUInt32 % 65536).toInt32]) (rest := []) (st1 := fun _ => [.int res.1]) (ws' := fun _ => OuB_c g a v_shelf res.2 ++ SB_c g h q N t (nI tx.length)) hE hl.1 ml_X8_103 (c_X8_accept_B l g a v_shelf s0 _ res hf) hZ hP hD hS hA 0 44 rfl (fun _ => rfl) okX8 rfl rfl rfl (fun _ => rfl) ⟨rfl, rfl⟩ ⟨Nat.le_of_ble_eq_true rfl, Nat.le_of_ble_eq_true rfl⟩ ⟨Nat.le_of_ble_eq_true rfl, Nat.le_of_ble_eq_true rfl⟩ (Nat.le_of_ble_eq_true rfl) dX8_spell_76 (fun _ H locs hP hD hS => ?_)
        exact hq () rfl (vaP_seg hP [(0, 44)] rfl) (hD.sub (List.range 44) rfl rfl) hS dX8_spell_79
    · rw [if_pos hc2] at hf
      refine lv_aload_n hx hb dX8_spell_39 rfl (lv_at hl 1 rfl) ?_
      refine lv_iconst hx hb dX8_spell_40 kci_1 ?_
      refine lv_iconst hx hb dX8_spell_41 kci_m1 ?_
      refine gm_callV1 (As := [.int 1, .int (-1)]) (rest := []) (st1 := fun _ => [.int res.1]) (ws' := fun _ => OuB_c g a v_shelf res.2) hE hl.1 ml_X8_69 (c_X8_refuse_B l g a v_shelf s0 _ _ res hf) hZ hP hD hS hA 0 44 rfl (fun _ => rfl) okX8 rfl rfl rfl (fun _ => rfl) ⟨rfl, rfl⟩ ⟨Nat.le_of_ble_eq_true rfl, Nat.le_of_ble_eq_true rfl⟩ ⟨Nat.le_of_ble_eq_true rfl, Nat.le_of_ble_eq_true rfl⟩ (Nat.le_of_ble_eq_true rfl) dX8_spell_42 (fun _ H locs hP hD hS => ?_)
      exact W.widen (k := 21) (n := 666) (Nat.le_of_ble_eq_true rfl) (Nat.le_of_ble_eq_true rfl) (hq () rfl hP hD hS dX8_spell_45)
  · rw [if_neg hc] at hf
    refine lv_aload_n hx hb dX8_spell_11 rfl (lv_at hl 0 rfl) ?_
    refine lv_iconst hx hb dX8_spell_12 kci_1 ?_
    refine lv_iconst hx hb dX8_spell_13 kci_m1 ?_
    refine gm_callV1 (As := [.int 1, .int (-1)]) (rest := []) (st1 := fun _ => [.int res.1]) (ws' := fun _ => OuB_c g a v_shelf res.2) hE hl.1 ml_X8_69 (c_X8_refuse_B l g a v_shelf s0 _ _ res hf) hZ hP hD hS hA 0 44 rfl (fun _ => rfl) okX8 rfl rfl rfl (fun _ => rfl) ⟨rfl, rfl⟩ ⟨Nat.le_of_ble_eq_true rfl, Nat.le_of_ble_eq_true rfl⟩ ⟨Nat.le_of_ble_eq_true rfl, Nat.le_of_ble_eq_true rfl⟩ (Nat.le_of_ble_eq_true rfl) dX8_spell_14 (fun _ H locs hP hD hS => ?_)
    exact W.widen (k := 21) (n := 666) (Nat.le_of_ble_eq_true rfl) (Nat.le_of_ble_eq_true rfl) (hq () rfl hP hD hS dX8_spell_17)
