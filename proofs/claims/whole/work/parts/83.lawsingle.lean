/-! single in the law -/
theorem lsg_perm (w0 po mo lo : va_W) : (w0 ++ (po ++ (mo ++ lo))).Perm ([] ++ ((w0 ++ lo) ++ (po ++ mo))) := by
  rw [List.nil_append, List.append_assoc]
  refine List.Perm.append_left _ ?_
  rw [← List.append_assoc]
  exact List.perm_append_comm
theorem lg_cmp_self (x : Int64) : lg_cmp x x = 0 := by
  unfold lg_cmp
  simp
section LAWS
variable {p : Program} {l : Launch} {e : Env} {s : State} {m : MethodId} {below : List Frame} {meth : Method} {c : Code} {H : Heap} {locs : List Loc} {cells slots : Nat} {Q : State → Prop} {g : GK} {ls : Array Slot} {b L ax d : Nat} {am : Nat → Nat} {xs : Nat → Int32} {i : Int32}
theorem goodTCw {w : Cond} (h : w ∈ TBL) : GoodIn TBL (w :: TBL) := fun w' hw => (List.mem_cons.mp hw).elim (fun q => by rw [q]; exact good_tbl _ h) (fun q => good_tbl _ q)
set_option maxHeartbeats 1000000 in
theorem lsg_call {w0 po mo : va_W} {r : Int32} {t t' : Nat → Int64} {a1 : Int32} (hL : LE p c meth s m g b L xs) (hls : ls.size = 7)
    (hM : gMx l g [.ref ax, .int a1, .ref d] (w0 ++ Lout g d t) r (w0 ++ Lout g d t')) (hcs : cells + 1 ≤ 601024 ∧ slots + 6 ≤ 7293034)
    (hP : gP g (w0 ++ (po ++ (mo ++ Lout g d t))) H) (hD : va_D (lA s) (w0 ++ (po ++ (mo ++ Lout g d t)))) (hS : va_S (lA s) s.heap H locs)
    (next : ∀ (H1 : Heap) (locs1 : List Loc), gP g (w0 ++ (po ++ (mo ++ Lout g d t'))) H1 → va_D (lA s) (w0 ++ (po ++ (mo ++ Lout g d t'))) → va_S (lA s) s.heap H1 locs1 → W p l e room_1 s m #[Value.ref b] below meth c H1 locs1 (cells + 1) (slots + 6) Q (F0 m 1488 ls [.int r])) :
    W p l e room_1 s m #[Value.ref b] below meth c H locs cells slots Q (F0 m 1485 ls [.ref d, .int a1, .ref ax]) := by
  have hE := hL.1
  have ht := hE.2.2.2.2.2.2.1
  have hA : ∀ q : Nat, s.heap.size ≤ q → lA s q := fun _ h => h
  have hP' := vaP_perm (lsg_perm _ _ _ _) hP
  have hD' := vaD_perm (lsg_perm _ _ _ _) hD
  have hP0 := vaP_mid hP'
  have hD0 := vaD_mid hD'
  have cw : vx_CSW room_1 s #[Value.ref b] RL 174 yL_single cL_single 4 (some .int) [(0, 9, 12, 13)] (Cond.codeWith yL_single cL_single 4 (some .int) [(0, 9, 12, 13)] :: TBL) rmXL 1 6 3 :=
    ⟨⟨rfl, rfl, Nat.le_of_ble_eq_true rfl, Nat.le_of_ble_eq_true rfl, pay_in ht (goodTCw xcw), List.mem_cons_self⟩, ht _ xcw, ht _ xin, ⟨by decide, by decide⟩, fun sig h => by
      have h2 : (parseMethodDescriptor yL_single.desc).map (fun d => d.parameters.length) = some 3 := by decide +kernel
      rw [h] at h2
      exact (Option.some.inj h2).symm, ht _ xlk, ht _ xst⟩
  exact gm_goes1 (st1 := fun _ : Unit => [.int r]) (vx_runSW (Ts := TBL) (own := RL) (As := [.ref ax, .int a1, .ref d]) (rest := []) ⟨hE.1, hE.2.1, hE.2.2.2.2.1, hE.2.2.2.2.2.1, ht⟩ (hM H.size) cw ⟨gblindXm, fun U hU hW => ⟨rfl, by rw [hU], by rw [hU]; exact hP0, hE.2.2.2.2.2.2.2.warm hW, hD0.weaken (fun _ _ _ _ => trivial), by rw [hU]; exact ((hL.2.2.2.1.kept hS.2.1).narrow (gA_mid hD' hS hA)).moved hW.alike, gX.warm hW hL.2.2.2.2⟩⟩ rfl rfl hls rfl (lv_room (Nat.le_of_ble_eq_true rfl)) dl_1485 hcs) hP' hD' hS hA [] (po ++ mo) rfl (fun _ => rfl) (fun _ => rfl)
    (fun _ H1 locs1 hP hD hS => next H1 locs1 (vaP_perm (lsg_perm _ _ _ _).symm hP) (vaD_perm (lsg_perm _ _ _ _).symm hD) hS)
set_option maxHeartbeats 1000000 in
theorem lsg_mid {w0 po : va_W} {r v : Int32} {sm sm' : MoT} {t t' : Nat → Int64} (hL : LE p c meth s m g b L xs) (hl : LV ls b ax (am 0) d i) (hin : LI i L)
    (hM : gMx l g [.ref ax, .int (sa xs i 1), .ref d] (w0 ++ Lout g d t) r (w0 ++ Lout g d t')) (hf : f_X9_single sm (sa xs i 1) = some (v, sm')) (hth : f_X9_thrown sm' = some r) (hcs : cells + 1 ≤ 601024 ∧ slots + 6 ≤ 7293034)
    (hP : gP g (w0 ++ (po ++ (Mo_c g am sm ++ Lout g d t))) H) (hD : va_D (lA s) (w0 ++ (po ++ (Mo_c g am sm ++ Lout g d t)))) (hS : va_S (lA s) s.heap H locs)
    (next : ∀ (ls1 : Array Slot) (H1 : Heap) (locs1 : List Loc), lv_has ls1 7 [(6, .int v), (5, .int r), (0, .ref b), (1, .ref ax), (2, .ref (am 0)), (3, .ref d), (4, .int i)] → gP g (w0 ++ (po ++ (Mo_c g am sm' ++ Lout g d t'))) H1 → va_D (lA s) (w0 ++ (po ++ (Mo_c g am sm' ++ Lout g d t'))) → va_S (lA s) s.heap H1 locs1 → W p l e room_1 s m #[Value.ref b] below meth c H1 locs1 (cells + 1) (slots + 6) Q (F0 m 1513 ls1 [])) :
    W p l e room_1 s m #[Value.ref b] below meth c H locs cells slots Q (F0 m 1477 ls []) := by
  have hE := hL.1
  have hx := hE.1
  have hb := hE.2.1
  have hZ := hL.2.2.2.1
  have hA : ∀ q : Nat, s.heap.size ≤ q → lA s q := fun _ h => h
  refine lv_aload_n hx hb dl_1477 rfl (lv_at hl 1 rfl) ?_
  refine law_arg hL hl hS hin.1 dl_1478 dl_1479 dl_1481 kci_1 dl_1482 dl_1483 ?_
  refine lv_aload_n hx hb dl_1484 rfl (lv_at hl 3 rfl) ?_
  refine lsg_call hL hl.1 hM hcs hP hD hS (fun H locs hP hD hS => ?_)
  refine lv_istore hx hb dl_1488 hl (by decide) (lv' := [(5, .int r), (0, .ref b), (1, .ref ax), (2, .ref (am 0)), (3, .ref d), (4, .int i)]) rfl (fun ls hl => ?_)
  have hl0 : LV ls b ax (am 0) d i := lv_sub hl [1, 2, 3, 4, 5] rfl
  refine lv_aload_n hx hb dl_1490 rfl (lv_at hl0 2 rfl) ?_
  refine law_arg hL hl0 hS hin.1 dl_1491 dl_1492 dl_1494 kci_1 dl_1495 dl_1496 ?_
  refine gm_callVp (As := [.int (sa xs i 1)]) (rest := []) (st1 := fun _ => [.int v]) (ws' := fun _ : Unit => w0 ++ (po ++ (Mo_c g am sm' ++ Lout g d t'))) hE hl.1 ml_L_179 (c_X9_single l g am sm (sa xs i 1) (v, sm') hf) hZ hP hD hS hA (w0 ++ po) (Lout g d t') (List.append_assoc _ _ _).symm (fun _ => List.append_assoc _ _ _) okX9 rfl rfl rfl (fun _ => rfl) ⟨rfl, rfl⟩ ⟨Nat.le_of_ble_eq_true rfl, Nat.le_of_ble_eq_true rfl⟩ hcs (Nat.le_of_ble_eq_true rfl) dl_1497 (fun _ H locs hP hD hS => ?_)
  refine lv_istore hx hb dl_1500 hl (by decide) (lv' := [(6, .int v), (5, .int r), (0, .ref b), (1, .ref ax), (2, .ref (am 0)), (3, .ref d), (4, .int i)]) rfl (fun ls hl => ?_)
  refine lv_aload_n hx hb dl_1502 rfl (lv_at hl 4 rfl) ?_
  refine gm_callVp (As := []) (rest := []) (st1 := fun _ => [.int r]) (ws' := fun _ : Unit => w0 ++ (po ++ (Mo_c g am sm' ++ Lout g d t'))) hE hl.1 ml_L_180 (gR_gM (c_X9_thrown l g am sm' r hth)) hZ hP hD hS hA (w0 ++ po) (Lout g d t') (List.append_assoc _ _ _).symm (fun _ => List.append_assoc _ _ _) okX9 rfl rfl rfl (fun _ => rfl) ⟨rfl, rfl⟩ ⟨Nat.le_of_ble_eq_true rfl, Nat.le_of_ble_eq_true rfl⟩ hcs (Nat.le_of_ble_eq_true rfl) dl_1503 (fun _ H locs hP hD hS => ?_)
  refine lv_iload hx hb dl_1506 (lv_at hl 1 rfl) ?_
  exact lv_icmp_eq hx hb dl_1508 (tgt := 1513) rfl (fun _ => next ls H locs hl hP hD hS) (fun h => absurd rfl h)
set_option maxHeartbeats 1000000 in
theorem lo_single_x {w0 po : va_W} {v : Int32} {sm sm' : MoT} {t : Nat → Int64} (hL : LE p c meth s m g b L xs) (hl : LV ls b ax (am 0) d i) (hin : LI i L)
    (hM : gMx l g [.ref ax, .int (sa xs i 1), .ref d] (w0 ++ Lout g d t) 1 (w0 ++ Lout g d t)) (hf : f_X9_single sm (sa xs i 1) = some (v, sm')) (hth : f_X9_thrown sm' = some 1) (hcs : cells + 1 ≤ 601024 ∧ slots + 6 ≤ 7293034)
    (hP : gP g (w0 ++ (po ++ (Mo_c g am sm ++ Lout g d t))) H) (hD : va_D (lA s) (w0 ++ (po ++ (Mo_c g am sm ++ Lout g d t)))) (hS : va_S (lA s) s.heap H locs)
    (next : ∀ (ls1 : Array Slot) (H1 : Heap) (locs1 : List Loc), LV ls1 b ax (am 0) d i → gP g (w0 ++ (po ++ (Mo_c g am sm' ++ Lout g d t))) H1 → va_D (lA s) (w0 ++ (po ++ (Mo_c g am sm' ++ Lout g d t))) → va_S (lA s) s.heap H1 locs1 → W p l e room_1 s m #[Value.ref b] below meth c H1 locs1 (cells + 1) (slots + 6) Q (F0 m 1571 ls1 [])) :
    W p l e room_1 s m #[Value.ref b] below meth c H locs cells slots Q (F0 m 1477 ls []) := by
  have hx := hL.1.1
  have hb := hL.1.2.1
  refine lsg_mid hL hl hin hM hf hth hcs hP hD hS (fun ls H locs hl hP hD hS => ?_)
  refine lv_iload hx hb dl_1513 (lv_at hl 1 rfl) ?_
  refine lv_if_ne hx hb dl_1515 (tgt := 1530) rfl (fun _ => ?_) (fun h => absurd h (by decide))
  exact lv_goto hx hb dl_1530 (tgt := 1571) rfl (next ls H locs (lv_sub hl [2, 3, 4, 5, 6] rfl) hP hD hS)
set_option maxHeartbeats 1000000 in
theorem lo_single_r {w0 po : va_W} {v : Int32} {sm sm' : MoT} {t t' : Nat → Int64} (hL : LE p c meth s m g b L xs) (hl : LV ls b ax (am 0) d i) (hin : LI i L)
    (hM : gMx l g [.ref ax, .int (sa xs i 1), .ref d] (w0 ++ Lout g d t) 0 (w0 ++ Lout g d t')) (ht' : t' (ix 0) = v.toInt64) (hf : f_X9_single sm (sa xs i 1) = some (v, sm')) (hth : f_X9_thrown sm' = some 0) (hcs : cells + 1 ≤ 601024 ∧ slots + 6 ≤ 7293034)
    (hP : gP g (w0 ++ (po ++ (Mo_c g am sm ++ Lout g d t))) H) (hD : va_D (lA s) (w0 ++ (po ++ (Mo_c g am sm ++ Lout g d t)))) (hS : va_S (lA s) s.heap H locs)
    (next : ∀ (ls1 : Array Slot) (H1 : Heap) (locs1 : List Loc), LV ls1 b ax (am 0) d i → gP g (w0 ++ (po ++ (Mo_c g am sm' ++ Lout g d t'))) H1 → va_D (lA s) (w0 ++ (po ++ (Mo_c g am sm' ++ Lout g d t'))) → va_S (lA s) s.heap H1 locs1 → W p l e room_1 s m #[Value.ref b] below meth c H1 locs1 (cells + 1) (slots + 6) Q (F0 m 1571 ls1 [])) :
    W p l e room_1 s m #[Value.ref b] below meth c H locs cells slots Q (F0 m 1477 ls []) := by
  have hE := hL.1
  have hx := hL.1.1
  have hb := hL.1.2.1
  refine lsg_mid hL hl hin hM hf hth hcs hP hD hS (fun ls H locs hl hP hD hS => ?_)
  refine lv_iload hx hb dl_1513 (lv_at hl 1 rfl) ?_
  refine lv_if_ne hx hb dl_1515 (tgt := 1530) rfl (fun h => absurd rfl h) (fun _ => ?_)
  refine lv_aload_n hx hb dl_1518 rfl (lv_at hl 5 rfl) ?_
  refine lv_iconst hx hb dl_1519 kci_0 ?_
  have hP0 : gP g (Lout g d t') H := vaP_mem.mpr fun q hq => vaP_mem.mp hP q (List.mem_append_right _ (List.mem_append_right _ (List.mem_append_right _ hq)))
  refine g_lald hE hP0 0 rfl (by decide) dl_1520 ?_
  refine lv_iload hx hb dl_1521 (lv_at hl 0 rfl) ?_
  refine lv_i2l hx hb dl_1523 rfl ?_
  refine W.lcmp hx hb dl_1524 ?_
  rw [ht', lg_cmp_self]
  refine lv_if_eq hx hb dl_1525 (tgt := 1530) rfl (fun _ => ?_) (fun h => absurd rfl h)
  exact lv_goto hx hb dl_1530 (tgt := 1571) rfl (next ls H locs (lv_sub hl [2, 3, 4, 5, 6] rfl) hP hD hS)
end LAWS
