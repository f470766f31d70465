def f_X8_desk_N1 (s0 : OuNT) (p1 : Int32) : Option (Int32 × OuBT) :=
  if p1 < 0 then (f_X8_refuse_N s0 (2 : Int32) (-1 : Int32)).bind fun r2 =>
  none
  else if p1 ≤ (Tp_length (Rd_tape (OuN_reader s0))) then (f_X3_expectDesk (OuN_reader s0)).bind fun r5 =>
  (f_X3_readLines r5 p1).bind fun r7 =>
  (f_X8_tookText_N (OuN_w_reader s0 (r7.2)) (r7.1)).bind fun r9 =>
  if (r9.1) = 0 then (f_X8_refuse_N (r9.2) (4 : Int32) (-1 : Int32)).bind fun r18 =>
  none
  else (f_X1_clear (OuB_books (OuB_mk (OuN_reader (r9.2)) (OuN_trial (r9.2)) (OuN_order (r9.2)) Bk_0 (OuN_isKept (r9.2)) (OuN_trouble (r9.2)) (OuN_fault (r9.2)) (OuN_place (r9.2)))) (Rd_how (OuB_reader (OuB_mk (OuN_reader (r9.2)) (OuN_trial (r9.2)) (OuN_order (r9.2)) Bk_0 (OuN_isKept (r9.2)) (OuN_trouble (r9.2)) (OuN_fault (r9.2)) (OuN_place (r9.2))))) (Rd_keep (OuB_reader (OuB_mk (OuN_reader (r9.2)) (OuN_trial (r9.2)) (OuN_order (r9.2)) Bk_0 (OuN_isKept (r9.2)) (OuN_trouble (r9.2)) (OuN_fault (r9.2)) (OuN_place (r9.2))))) (Rd_late (OuB_reader (OuB_mk (OuN_reader (r9.2)) (OuN_trial (r9.2)) (OuN_order (r9.2)) Bk_0 (OuN_isKept (r9.2)) (OuN_trouble (r9.2)) (OuN_fault (r9.2)) (OuN_place (r9.2)))))).bind fun r12 =>
  (f_X8_doLines_B (OuB_w_isKept (OuB_w_books (OuB_mk (OuN_reader (r9.2)) (OuN_trial (r9.2)) (OuN_order (r9.2)) Bk_0 (OuN_isKept (r9.2)) (OuN_trouble (r9.2)) (OuN_fault (r9.2)) (OuN_place (r9.2))) r12) (0 : Int32))).bind fun r14 =>
  (f_X8_accept_B (r14.2) (r14.1)).bind fun r16 =>
  some ((r16.1), (r16.2))
  else (f_X8_refuse_N s0 (2 : Int32) (-1 : Int32)).bind fun r20 =>
  none
abbrev rm_X8_desk_N1 : Room := { frames := 6, cells := 25, slots := 6480, locals := 155 }
set_option maxHeartbeats 4000000 in
set_option maxRecDepth 100000 in
theorem c_X8_desk_N1 (l : Launch) (g : GK) (a0 : Nat → Nat) (s0 : OuNT) (p1 : Int32) (res : (Int32 × OuBT)) (hf : f_X8_desk_N1 s0 p1 = some res) : gM l yX8_desk cX8_desk 2 (some .int) rm_X8_desk_N1 g [.ref (a0 0), .int p1] (OuN_c g a0 s0) (fun _ : Nat → Nat => (some (.int (res.1)))) (fun x => (OuB_c g (jo 19 a0 x) .null (res.2))) 25 6480 := by
  refine gM_introI RX8 (by decide) rfl (Nat.le_of_ble_eq_true rfl) (fun p e s m args below meth c Q H locs ls A hE hZ hA hP hD hS hq hl => ?_)
  have hl : lv_has ls 2 [(0, .ref (a0 0)), (1, .int p1)] := hl
  have hx := hE.1
  have hb := hE.2.1
  rw [f_X8_desk_N1] at hf
  refine lv_iload_n hx hb dX8_desk_0 rfl (lv_at hl 1 rfl) ?_
  refine lv_if_lt hx hb dX8_desk_1 (tgt := 18) rfl (fun h1 => ?_) (fun h1 => ?_)
  · have hf := gif_t h1 hf
    refine lv_aload_n hx hb dX8_desk_18 rfl (lv_at hl 0 rfl) ?_
    refine lv_iconst hx hb dX8_desk_19 kci_2 ?_
    refine lv_iconst hx hb dX8_desk_20 kci_m1 ?_
    obtain ⟨r2, hc3, hf⟩ := gbd hf
    refine gm_callV1 (As := [.int (2 : Int32), .int (-1 : Int32)]) (rest := []) (st1 := fun _ => [.int (r2.1)]) (ws' := fun _ => (OuN_c g a0 (r2.2))) hE hl.1 ml_X8_69 (c_X8_refuse_N l g a0 s0 (2 : Int32) (-1 : Int32) r2 hc3) hZ hP hD hS hA 0 19 rfl (fun _ => rfl) okX8 rfl rfl rfl (fun _ => rfl) ⟨rfl, rfl⟩ ⟨Nat.le_of_ble_eq_true rfl, Nat.le_of_ble_eq_true rfl⟩ ⟨Nat.le_of_ble_eq_true rfl, Nat.le_of_ble_eq_true rfl⟩ (Nat.le_of_ble_eq_true rfl) dX8_desk_21 (fun _ H locs hP hD hS => ?_)
    cases hf
  · have hf := gif_f h1 hf
    refine lv_iload_n hx hb dX8_desk_4 rfl (lv_at hl 1 rfl) ?_
    refine lv_aload_n hx hb dX8_desk_5 rfl (lv_at hl 0 rfl) ?_
    refine g_get hE okX8 fl_X8_14 hP 0 rfl (v := .ref (a0 1)) rfl dX8_desk_6 ?_
    refine g_get hE okX3 fl_X8_52 hP 1 rfl (v := .ref (a0 2)) rfl dX8_desk_9 ?_
    refine g_get hE okX6 fl_X8_66 hP 2 rfl (v := .int (Tp_length (Rd_tape (OuN_reader s0)))) rfl dX8_desk_12 ?_
    refine lv_icmp_le hx hb dX8_desk_15 (tgt := 25) rfl (fun h4 => ?_) (fun h4 => ?_)
    · have hf := gif_t h4 hf
      refine lv_aload_n hx hb dX8_desk_25 rfl (lv_at hl 0 rfl) ?_
      refine g_get hE okX8 fl_X8_14 hP 0 rfl (v := .ref (a0 1)) rfl dX8_desk_26 ?_
      obtain ⟨r5, hc6, hf⟩ := gbd hf
      refine gm_callV1 (As := []) (rest := []) (st1 := fun _ => []) (ws' := fun _ => (OuN_c g a0 (OuN_w_reader s0 r5))) hE hl.1 ml_X8_73 (c_X3_expectDesk l g (fun k => a0 (k + 1)) (OuN_reader s0) r5 hc6) hZ hP hD hS hA 1 9 rfl (fun _ => rfl) okX3 rfl rfl rfl (fun _ => rfl) ⟨rfl, rfl⟩ ⟨Nat.le_of_ble_eq_true rfl, Nat.le_of_ble_eq_true rfl⟩ ⟨Nat.le_of_ble_eq_true rfl, Nat.le_of_ble_eq_true rfl⟩ (Nat.le_of_ble_eq_true rfl) dX8_desk_29 (fun _ H locs hP hD hS => ?_)
      refine lv_aload_n hx hb dX8_desk_32 rfl (lv_at hl 0 rfl) ?_
      refine lv_aload_n hx hb dX8_desk_33 rfl (lv_at hl 0 rfl) ?_
      refine g_get hE okX8 fl_X8_14 hP 0 rfl (v := .ref (a0 1)) rfl dX8_desk_34 ?_
      refine lv_iload_n hx hb dX8_desk_37 rfl (lv_at hl 1 rfl) ?_
      obtain ⟨r7, hc8, hf⟩ := gbd hf
      refine gm_callV1 (As := [.int p1]) (rest := [.ref (a0 0)]) (st1 := fun _ => [.int (r7.1), .ref (a0 0)]) (ws' := fun _ => (OuN_c g a0 (OuN_w_reader s0 (r7.2)))) hE hl.1 ml_X8_76 (c_X3_readLines l g (fun k => a0 (k + 1)) r5 p1 r7 hc8) hZ hP hD hS hA 1 9 rfl (fun _ => rfl) okX3 rfl rfl rfl (fun _ => rfl) ⟨rfl, rfl⟩ ⟨Nat.le_of_ble_eq_true rfl, Nat.le_of_ble_eq_true rfl⟩ ⟨Nat.le_of_ble_eq_true rfl, Nat.le_of_ble_eq_true rfl⟩ (Nat.le_of_ble_eq_true rfl) dX8_desk_38 (fun _ H locs hP hD hS => ?_)
      obtain ⟨r9, hc10, hf⟩ := gbd hf
      refine gm_callV1 (As := [.int (r7.1)]) (rest := []) (st1 := fun _ => [.int (r9.1)]) (ws' := fun _ => (OuN_c g a0 (r9.2))) hE hl.1 ml_X8_79 (c_X8_tookText_N l g a0 (OuN_w_reader s0 (r7.2)) (r7.1) r9 hc10) hZ hP hD hS hA 0 19 rfl (fun _ => rfl) okX8 rfl rfl rfl (fun _ => rfl) ⟨rfl, rfl⟩ ⟨Nat.le_of_ble_eq_true rfl, Nat.le_of_ble_eq_true rfl⟩ ⟨Nat.le_of_ble_eq_true rfl, Nat.le_of_ble_eq_true rfl⟩ (Nat.le_of_ble_eq_true rfl) dX8_desk_41 (fun _ H locs hP hD hS => ?_)
      refine lv_if_ne hx hb dX8_desk_44 (tgt := 54) rfl (fun h11 => ?_) (fun h11 => ?_)
      · have hf := gif_f h11 hf
        refine lv_aload_n hx hb dX8_desk_54 rfl (lv_at hl 0 rfl) ?_
        refine g_get hE okX8 fl_X8_31 hP 0 rfl (v := .null) rfl dX8_desk_55 ?_
        refine lv_ifnonnullN hx hb dX8_desk_58 ?_
        refine lv_aload_n hx hb dX8_desk_61 rfl (lv_at hl 0 rfl) ?_
        refine g_newBooks hE hl.1 hZ hP hD hS hA (Nat.le_of_ble_eq_true rfl) (Nat.le_of_ble_eq_true rfl) ⟨Nat.le_of_ble_eq_true rfl, Nat.le_of_ble_eq_true rfl⟩ (Nat.le_of_ble_eq_true rfl) dX8_desk_62 dX8_desk_65 dX8_desk_66 (fun b0 H locs hP hD hS => ?_)
        refine g_put hE okX8 fl_X8_31 hP hD hS 0 rfl rfl rfl rfl (Nat.le_of_ble_eq_true rfl) (OuB_c g (jo 19 a0 b0) .null (OuB_mk (OuN_reader (r9.2)) (OuN_trial (r9.2)) (OuN_order (r9.2)) Bk_0 (OuN_isKept (r9.2)) (OuN_trouble (r9.2)) (OuN_fault (r9.2)) (OuN_place (r9.2)))) rfl dX8_desk_69 (fun H locs hP hD hS => ?_)
        refine lv_aload_n hx hb dX8_desk_72 rfl (lv_at hl 0 rfl) ?_
        refine g_get hE okX8 fl_X8_31 hP 0 rfl (v := .ref ((jo 19 a0 b0) 19)) rfl dX8_desk_73 ?_
        refine lv_aload_n hx hb dX8_desk_76 rfl (lv_at hl 0 rfl) ?_
        refine g_get hE okX8 fl_X8_14 hP 0 rfl (v := .ref ((jo 19 a0 b0) 1)) rfl dX8_desk_77 ?_
        refine g_get hE okX3 fl_X8_86 hP 1 rfl (v := .int (Rd_how (OuB_reader (OuB_mk (OuN_reader (r9.2)) (OuN_trial (r9.2)) (OuN_order (r9.2)) Bk_0 (OuN_isKept (r9.2)) (OuN_trouble (r9.2)) (OuN_fault (r9.2)) (OuN_place (r9.2)))))) rfl dX8_desk_80 ?_
        refine lv_aload_n hx hb dX8_desk_83 rfl (lv_at hl 0 rfl) ?_
        refine g_get hE okX8 fl_X8_14 hP 0 rfl (v := .ref ((jo 19 a0 b0) 1)) rfl dX8_desk_84 ?_
        refine g_get hE okX3 fl_X8_89 hP 1 rfl (v := .int (Rd_keep (OuB_reader (OuB_mk (OuN_reader (r9.2)) (OuN_trial (r9.2)) (OuN_order (r9.2)) Bk_0 (OuN_isKept (r9.2)) (OuN_trouble (r9.2)) (OuN_fault (r9.2)) (OuN_place (r9.2)))))) rfl dX8_desk_87 ?_
        refine lv_aload_n hx hb dX8_desk_90 rfl (lv_at hl 0 rfl) ?_
        refine g_get hE okX8 fl_X8_14 hP 0 rfl (v := .ref ((jo 19 a0 b0) 1)) rfl dX8_desk_91 ?_
        refine g_get hE okX3 fl_X8_92 hP 1 rfl (v := .int (Rd_late (OuB_reader (OuB_mk (OuN_reader (r9.2)) (OuN_trial (r9.2)) (OuN_order (r9.2)) Bk_0 (OuN_isKept (r9.2)) (OuN_trouble (r9.2)) (OuN_fault (r9.2)) (OuN_place (r9.2)))))) rfl dX8_desk_94 ?_
        obtain ⟨r12, hc13, hf⟩ := gbd hf
        refine gm_callV1 (As := [.int (Rd_how (OuB_reader (OuB_mk (OuN_reader (r9.2)) (OuN_trial (r9.2)) (OuN_order (r9.2)) Bk_0 (OuN_isKept (r9.2)) (OuN_trouble (r9.2)) (OuN_fault (r9.2)) (OuN_place (r9.2))))), .int (Rd_keep (OuB_reader (OuB_mk (OuN_reader (r9.2)) (OuN_trial (r9.2)) (OuN_order (r9.2)) Bk_0 (OuN_isKept (r9.2)) (OuN_trouble (r9.2)) (OuN_fault (r9.2)) (OuN_place (r9.2))))), .int (Rd_late (OuB_reader (OuB_mk (OuN_reader (r9.2)) (OuN_trial (r9.2)) (OuN_order (r9.2)) Bk_0 (OuN_isKept (r9.2)) (OuN_trouble (r9.2)) (OuN_fault (r9.2)) (OuN_place (r9.2)))))]) (rest := []) (st1 := fun _ => []) (ws' := fun _ => (OuB_c g (jo 19 a0 b0) .null (OuB_w_books (OuB_mk (OuN_reader (r9.2)) (OuN_trial (r9.2)) (OuN_order (r9.2)) Bk_0 (OuN_isKept (r9.2)) (OuN_trouble (r9.2)) (OuN_fault (r9.2)) (OuN_place (r9.2))) r12))) hE hl.1 ml_X8_95 (c_X1_clear l g (fun k => (jo 19 a0 b0) (k + 19)) (OuB_books (OuB_mk (OuN_reader (r9.2)) (OuN_trial (r9.2)) (OuN_order (r9.2)) Bk_0 (OuN_isKept (r9.2)) (OuN_trouble (r9.2)) (OuN_fault (r9.2)) (OuN_place (r9.2)))) (Rd_how (OuB_reader (OuB_mk (OuN_reader (r9.2)) (OuN_trial (r9.2)) (OuN_order (r9.2)) Bk_0 (OuN_isKept (r9.2)) (OuN_trouble (r9.2)) (OuN_fault (r9.2)) (OuN_place (r9.2))))) (Rd_keep (OuB_reader (OuB_mk (OuN_reader (r9.2)) (OuN_trial (r9.2)) (OuN_order (r9.2)) Bk_0 (OuN_isKept (r9.2)) (OuN_trouble (r9.2)) (OuN_fault (r9.2)) (OuN_place (r9.2))))) (Rd_late (OuB_reader (OuB_mk (OuN_reader (r9.2)) (OuN_trial (r9.2)) (OuN_order (r9.2)) Bk_0 (OuN_isKept (r9.2)) (OuN_trouble (r9.2)) (OuN_fault (r9.2)) (OuN_place (r9.2))))) r12 hc13) hZ hP hD hS hA 19 44 rfl (fun _ => rfl) okX1 rfl rfl rfl (fun _ => rfl) ⟨rfl, rfl⟩ ⟨Nat.le_of_ble_eq_true rfl, Nat.le_of_ble_eq_true rfl⟩ ⟨Nat.le_of_ble_eq_true rfl, Nat.le_of_ble_eq_true rfl⟩ (Nat.le_of_ble_eq_true rfl) dX8_desk_97 (fun _ H locs hP hD hS => ?_)
        refine lv_aload_n hx hb dX8_desk_100 rfl (lv_at hl 0 rfl) ?_
        refine lv_iconst hx hb dX8_desk_101 kci_0 ?_
        refine g_put hE okX8 fl_X8_38 hP hD hS 0 rfl rfl rfl rfl (Nat.le_of_ble_eq_true rfl) (OuB_c g (jo 19 a0 b0) .null (OuB_w_isKept (OuB_w_books (OuB_mk (OuN_reader (r9.2)) (OuN_trial (r9.2)) (OuN_order (r9.2)) Bk_0 (OuN_isKept (r9.2)) (OuN_trouble (r9.2)) (OuN_fault (r9.2)) (OuN_place (r9.2))) r12) (0 : Int32))) rfl dX8_desk_102 (fun H locs hP hD hS => ?_)
        refine lv_aload_n hx hb dX8_desk_105 rfl (lv_at hl 0 rfl) ?_
        refine lv_aload_n hx hb dX8_desk_106 rfl (lv_at hl 0 rfl) ?_
        refine lv_aload_n hx hb dX8_desk_107 rfl (lv_at hl 0 rfl) ?_
        refine g_get hE okX8 fl_X8_31 hP 0 rfl (v := .ref ((jo 19 a0 b0) 19)) rfl dX8_desk_108 ?_
        obtain ⟨r14, hc15, hf⟩ := gbd hf
        refine gm_callV1 (As := [.ref ((jo 19 a0 b0) 19)]) (rest := [.ref ((jo 19 a0 b0) 0)]) (st1 := fun _ => [.int (r14.1), .ref ((jo 19 a0 b0) 0)]) (ws' := fun _ => (OuB_c g (jo 19 a0 b0) .null (r14.2))) hE hl.1 ml_X8_99 (c_X8_doLines_B l g (jo 19 a0 b0) .null (OuB_w_isKept (OuB_w_books (OuB_mk (OuN_reader (r9.2)) (OuN_trial (r9.2)) (OuN_order (r9.2)) Bk_0 (OuN_isKept (r9.2)) (OuN_trouble (r9.2)) (OuN_fault (r9.2)) (OuN_place (r9.2))) r12) (0 : Int32)) r14 hc15) hZ hP hD hS hA 0 44 rfl (fun _ => rfl) okX8 rfl rfl rfl (fun _ => rfl) ⟨rfl, rfl⟩ ⟨Nat.le_of_ble_eq_true rfl, Nat.le_of_ble_eq_true rfl⟩ ⟨Nat.le_of_ble_eq_true rfl, Nat.le_of_ble_eq_true rfl⟩ (Nat.le_of_ble_eq_true rfl) dX8_desk_111 (fun _ H locs hP hD hS => ?_)
        obtain ⟨r16, hc17, hf⟩ := gbd hf
        refine gm_callV1 (As := [.int (r14.1)]) (rest := []) (st1 := fun _ => [.int (r16.1)]) (ws' := fun _ => (OuB_c g (jo 19 a0 b0) .null (r16.2))) hE hl.1 ml_X8_103 (c_X8_accept_B l g (jo 19 a0 b0) .null (r14.2) (r14.1) r16 hc17) hZ hP hD hS hA 0 44 rfl (fun _ => rfl) okX8 rfl rfl rfl (fun _ => rfl) ⟨rfl, rfl⟩ ⟨Nat.le_of_ble_eq_true rfl, Nat.le_of_ble_eq_true rfl⟩ ⟨Nat.le_of_ble_eq_true rfl, Nat.le_of_ble_eq_true rfl⟩ (Nat.le_of_ble_eq_true rfl) dX8_desk_114 (fun _ H locs hP hD hS => ?_)
        cases hf
        exact hq b0 rfl hP hD hS dX8_desk_117
      · have hf := gif_t h11 hf
        refine lv_aload_n hx hb dX8_desk_47 rfl (lv_at hl 0 rfl) ?_
        refine lv_iconst hx hb dX8_desk_48 kci_4 ?_
        refine lv_iconst hx hb dX8_desk_49 kci_m1 ?_
        obtain ⟨r18, hc19, hf⟩ := gbd hf
        refine gm_callV1 (As := [.int (4 : Int32), .int (-1 : Int32)]) (rest := []) (st1 := fun _ => [.int (r18.1)]) (ws' := fun _ => (OuN_c g a0 (r18.2))) hE hl.1 ml_X8_69 (c_X8_refuse_N l g a0 (r9.2) (4 : Int32) (-1 : Int32) r18 hc19) hZ hP hD hS hA 0 19 rfl (fun _ => rfl) okX8 rfl rfl rfl (fun _ => rfl) ⟨rfl, rfl⟩ ⟨Nat.le_of_ble_eq_true rfl, Nat.le_of_ble_eq_true rfl⟩ ⟨Nat.le_of_ble_eq_true rfl, Nat.le_of_ble_eq_true rfl⟩ (Nat.le_of_ble_eq_true rfl) dX8_desk_50 (fun _ H locs hP hD hS => ?_)
        cases hf
    · have hf := gif_f h4 hf
      refine lv_aload_n hx hb dX8_desk_18 rfl (lv_at hl 0 rfl) ?_
      refine lv_iconst hx hb dX8_desk_19 kci_2 ?_
      refine lv_iconst hx hb dX8_desk_20 kci_m1 ?_
      obtain ⟨r20, hc21, hf⟩ := gbd hf
      refine gm_callV1 (As := [.int (2 : Int32), .int (-1 : Int32)]) (rest := []) (st1 := fun _ => [.int (r20.1)]) (ws' := fun _ => (OuN_c g a0 (r20.2))) hE hl.1 ml_X8_69 (c_X8_refuse_N l g a0 s0 (2 : Int32) (-1 : Int32) r20 hc21) hZ hP hD hS hA 0 19 rfl (fun _ => rfl) okX8 rfl rfl rfl (fun _ => rfl) ⟨rfl, rfl⟩ ⟨Nat.le_of_ble_eq_true rfl, Nat.le_of_ble_eq_true rfl⟩ ⟨Nat.le_of_ble_eq_true rfl, Nat.le_of_ble_eq_true rfl⟩ (Nat.le_of_ble_eq_true rfl) dX8_desk_21 (fun _ H locs hP hD hS => ?_)
      cases hf
def f_X8_keep_K1 (s0 : OuKT) : Option (Int32 × OuST) :=
  (f_X1_copyFrom (OuS_shelf (OuS_mk (OuK_reader s0) (OuK_trial s0) (OuK_order s0) (OuK_books s0) Bk_0 (OuK_isKept s0) (OuK_trouble s0) (OuK_fault s0) (OuK_place s0))) (OuS_books (OuS_mk (OuK_reader s0) (OuK_trial s0) (OuK_order s0) (OuK_books s0) Bk_0 (OuK_isKept s0) (OuK_trouble s0) (OuK_fault s0) (OuK_place s0)))).bind fun r1 =>
  (f_X8_accept_S (OuS_w_isKept (OuS_w_shelf (OuS_mk (OuK_reader s0) (OuK_trial s0) (OuK_order s0) (OuK_books s0) Bk_0 (OuK_isKept s0) (OuK_trouble s0) (OuK_fault s0) (OuK_place s0)) r1) (1 : Int32)) (1 : Int32)).bind fun r3 =>
  if (r3.1) = 0 then some ((0 : Int32), (r3.2))
  else some ((1 : Int32), (r3.2))
abbrev rm_X8_keep_K1 : Room := { frames := 4, cells := 25, slots := 6480, locals := 103 }
set_option maxHeartbeats 4000000 in
set_option maxRecDepth 100000 in
theorem c_X8_keep_K1 (l : Launch) (g : GK) (a0 : Nat → Nat) (s0 : OuKT) (res : (Int32 × OuST)) (hf : f_X8_keep_K1 s0 = some res) : gM l yX8_keep cX8_keep 1 (some .boolean) rm_X8_keep_K1 g [.ref (a0 0)] (OuK_c g a0 s0) (fun _ : Nat → Nat => (some (.int (res.1)))) (fun x => (OuS_c g (jo 44 a0 x) (res.2))) 25 6480 := by
  refine gM_introZ RX8 (by decide) rfl (Nat.le_of_ble_eq_true rfl) (fun p e s m args below meth c Q H locs ls A hE hZ hA hP hD hS hq hl => ?_)
  have hl : lv_has ls 1 [(0, .ref (a0 0))] := hl
  have hx := hE.1
  have hb := hE.2.1
  rw [f_X8_keep_K1] at hf
  refine lv_aload_n hx hb dX8_keep_0 rfl (lv_at hl 0 rfl) ?_
  refine g_get hE okX8 fl_X8_31 hP 0 rfl (v := .ref (a0 19)) rfl dX8_keep_1 ?_
  refine lv_ifnonnull hx hb dX8_keep_4 (tgt := 22) rfl ?_
  refine lv_aload_n hx hb dX8_keep_22 rfl (lv_at hl 0 rfl) ?_
  refine g_get hE okX8 fl_X8_35 hP 0 rfl (v := .null) rfl dX8_keep_23 ?_
  refine lv_ifnonnullN hx hb dX8_keep_26 ?_
  refine lv_aload_n hx hb dX8_keep_29 rfl (lv_at hl 0 rfl) ?_
  refine g_newBooks hE hl.1 hZ hP hD hS hA (Nat.le_of_ble_eq_true rfl) (Nat.le_of_ble_eq_true rfl) ⟨Nat.le_of_ble_eq_true rfl, Nat.le_of_ble_eq_true rfl⟩ (Nat.le_of_ble_eq_true rfl) dX8_keep_30 dX8_keep_33 dX8_keep_34 (fun b0 H locs hP hD hS => ?_)
  refine g_put hE okX8 fl_X8_35 hP hD hS 0 rfl rfl rfl rfl (Nat.le_of_ble_eq_true rfl) (OuS_c g (jo 44 a0 b0) (OuS_mk (OuK_reader s0) (OuK_trial s0) (OuK_order s0) (OuK_books s0) Bk_0 (OuK_isKept s0) (OuK_trouble s0) (OuK_fault s0) (OuK_place s0))) rfl dX8_keep_37 (fun H locs hP hD hS => ?_)
  refine lv_aload_n hx hb dX8_keep_40 rfl (lv_at hl 0 rfl) ?_
  refine g_get hE okX8 fl_X8_35 hP 0 rfl (v := .ref ((jo 44 a0 b0) 44)) rfl dX8_keep_41 ?_
  refine lv_aload_n hx hb dX8_keep_44 rfl (lv_at hl 0 rfl) ?_
  refine g_get hE okX8 fl_X8_31 hP 0 rfl (v := .ref ((jo 44 a0 b0) 19)) rfl dX8_keep_45 ?_
  obtain ⟨r1, hc2, hf⟩ := gbd hf
  refine gm_callV2r (As := [.ref ((jo 44 a0 b0) 19)]) (rest := []) (st1 := fun _ => []) (ws' := fun _ => (OuS_c g (jo 44 a0 b0) (OuS_w_shelf (OuS_mk (OuK_reader s0) (OuK_trial s0) (OuK_order s0) (OuK_books s0) Bk_0 (OuK_isKept s0) (OuK_trouble s0) (OuK_fault s0) (OuK_place s0)) r1))) hE hl.1 ml_X8_314 (c_X1_copyFrom l g (fun k => (jo 44 a0 b0) (k + 44)) (OuS_shelf (OuS_mk (OuK_reader s0) (OuK_trial s0) (OuK_order s0) (OuK_books s0) Bk_0 (OuK_isKept s0) (OuK_trouble s0) (OuK_fault s0) (OuK_place s0))) (fun k => (jo 44 a0 b0) (k + 19)) (OuS_books (OuS_mk (OuK_reader s0) (OuK_trial s0) (OuK_order s0) (OuK_books s0) Bk_0 (OuK_isKept s0) (OuK_trouble s0) (OuK_fault s0) (OuK_place s0))) r1 hc2) hZ hP hD hS hA 19 44 0 69 rfl (fun _ => rfl) okX1 rfl rfl rfl (fun _ => rfl) ⟨rfl, rfl⟩ ⟨Nat.le_of_ble_eq_true rfl, Nat.le_of_ble_eq_true rfl⟩ ⟨Nat.le_of_ble_eq_true rfl, Nat.le_of_ble_eq_true rfl⟩ (Nat.le_of_ble_eq_true rfl) dX8_keep_48 (fun _ H locs hP hD hS => ?_)
  refine lv_aload_n hx hb dX8_keep_51 rfl (lv_at hl 0 rfl) ?_
  refine lv_iconst hx hb dX8_keep_52 kci_1 ?_
  refine g_put hE okX8 fl_X8_38 hP hD hS 0 rfl rfl rfl rfl (Nat.le_of_ble_eq_true rfl) (OuS_c g (jo 44 a0 b0) (OuS_w_isKept (OuS_w_shelf (OuS_mk (OuK_reader s0) (OuK_trial s0) (OuK_order s0) (OuK_books s0) Bk_0 (OuK_isKept s0) (OuK_trouble s0) (OuK_fault s0) (OuK_place s0)) r1) (1 : Int32))) rfl dX8_keep_53 (fun H locs hP hD hS => ?_)
  refine lv_aload_n hx hb dX8_keep_56 rfl (lv_at hl 0 rfl) ?_
  refine lv_iconst hx hb dX8_keep_57 kci_1 ?_
  obtain ⟨r3, hc4, hf⟩ := gbd hf
  refine gm_callV1 (As := [.int (1 : Int32)]) (rest := []) (st1 := fun _ => [.int (r3.1)]) (ws' := fun _ => (OuS_c g (jo 44 a0 b0) (r3.2))) hE hl.1 ml_X8_103 (c_X8_accept_S l g (jo 44 a0 b0) (OuS_w_isKept (OuS_w_shelf (OuS_mk (OuK_reader s0) (OuK_trial s0) (OuK_order s0) (OuK_books s0) Bk_0 (OuK_isKept s0) (OuK_trouble s0) (OuK_fault s0) (OuK_place s0)) r1) (1 : Int32)) (1 : Int32) r3 hc4) hZ hP hD hS hA 0 69 rfl (fun _ => rfl) okX8 rfl rfl rfl (fun _ => rfl) ⟨rfl, rfl⟩ ⟨Nat.le_of_ble_eq_true rfl, Nat.le_of_ble_eq_true rfl⟩ ⟨Nat.le_of_ble_eq_true rfl, Nat.le_of_ble_eq_true rfl⟩ (Nat.le_of_ble_eq_true rfl) dX8_keep_58 (fun _ H locs hP hD hS => ?_)
  refine lv_if_eq hx hb dX8_keep_61 (tgt := 68) rfl (fun h5 => ?_) (fun h5 => ?_)
  · have hf := gif_t h5 hf
    refine lv_iconst hx hb dX8_keep_68 kci_0 ?_
    cases hf
    exact hq b0 (by decide) rfl hP hD hS dX8_keep_69
  · have hf := gif_f h5 hf
    refine lv_iconst hx hb dX8_keep_64 kci_1 ?_
    refine lv_goto hx hb dX8_keep_65 (tgt := 69) rfl ?_
    cases hf
    exact hq b0 (by decide) rfl hP hD hS dX8_keep_69
