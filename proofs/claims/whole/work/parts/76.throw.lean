theorem dL_single_0 : decode cL_single 0 = .ok (.aload_n 2, 1) := by decide +kernel
theorem dL_single_1 : decode cL_single 1 = .ok (.iconst 0, 1) := by decide +kernel
theorem dL_single_2 : decode cL_single 2 = .ok (.aload_n 0, 1) := by decide +kernel
theorem dL_single_3 : decode cL_single 3 = .ok (.iload_n 1, 1) := by decide +kernel
theorem dL_single_4 : decode cL_single 4 = .ok (.invokevirtual 7, 3) := by decide +kernel
theorem dL_single_7 : decode cL_single 7 = .ok (.i2l, 1) := by decide +kernel
theorem dL_single_8 : decode cL_single 8 = .ok (.lastore, 1) := by decide +kernel
theorem dL_single_9 : decode cL_single 9 = .ok (.goto 6, 3) := by decide +kernel
theorem dL_single_12 : decode cL_single 12 = .ok (.astore_n 3, 1) := by decide +kernel
theorem dL_single_13 : decode cL_single 13 = .ok (.iconst 1, 1) := by decide +kernel
theorem dL_single_14 : decode cL_single 14 = .ok (.ireturn, 1) := by decide +kernel
theorem dL_single_15 : decode cL_single 15 = .ok (.iconst 0, 1) := by decide +kernel
theorem dL_single_16 : decode cL_single 16 = .ok (.ireturn, 1) := by decide +kernel
def xN : String := "java/util/NoSuchElementException"
def xS : String := "java/lang/RuntimeException"
def xNames : List String := ["java/lang/Exception"]
def xAt : List Cond := nAt RX8 325 xN xS xNames
def xBad : List Cond := [.declares (Bundle.initS xS), .declares (Bundle.initS "java/lang/Exception"), .declares (Bundle.initS Bundle.tN)]
set_option maxRecDepth 100000 in
theorem xAt_good : ∀ w ∈ xAt.filter goodWord, w ∈ lw_tbl := by decide +kernel
theorem xAt_bad : ∀ w ∈ xAt.filter (fun w => !goodWord w), w ∈ xBad := by decide +kernel
theorem xAt_ot : ∀ w ∈ Cond.classLink RX8 321 xN :: Cond.initialized xN :: xAt, vx_ot w = true := by decide +kernel
theorem xc_1 : Cond.classLink RX8 321 xN ∈ TBL := tb (in5 (List.mem_of_getElem? (i := 196) (by decide +kernel))) (by decide +kernel)
theorem xc_2 : Cond.initialized xN ∈ TBL := tb (in1 (List.mem_of_getElem? (i := 26) (by decide +kernel))) (by decide +kernel)
theorem xc_3 : Cond.classLink RL 13 xN ∈ TBL := tb (in5 (List.mem_of_getElem? (i := 186) (by decide +kernel))) (by decide +kernel)
def gX (U : State) : Prop := va_Nw (.castable xN xN) U ∧ va_Nw (.declares (Bundle.initS xS)) U ∧ va_Nw (.declares (Bundle.initS "java/lang/Exception")) U ∧ va_Nw (.declares (Bundle.initS Bundle.tN)) U
theorem gX.warm {s U : State} (hW : s.WarmedH U.vm) (h : gX s) : gX U := ⟨va_Nw.warmC hW h.1, va_Nw.warmD hW h.2.1, va_Nw.warmD hW h.2.2.1, va_Nw.warmD hW h.2.2.2⟩
theorem gX.same {s U : State} (hv : s.vm = U.vm) (h : gX s) : gX U := ⟨va_Nw.same rfl hv h.1, va_Nw.same rfl hv h.2.1, va_Nw.same rfl hv h.2.2.1, va_Nw.same rfl hv h.2.2.2⟩
theorem gX.bad {A : Array Value} {s : State} (h : gX s) : ∀ w ∈ xBad, w.before A s = true := vx_c (va_Nw.use rfl h.2.1) (vx_c (va_Nw.use rfl h.2.2.1) (vx_c (va_Nw.use rfl h.2.2.2) vx_n))
def gPx (g : GK) (av : List Value) (w0 : va_W) : Array Value → State → Prop := va_Pc av (fun U => gP g w0 U.heap ∧ gK g U ∧ gZ g gN U U.heap ∧ gX U)
theorem gblindX {g : GK} {av : List Value} {w0 : va_W} : FrameBlind (gPx g av w0) := fun a U _ mk q => ⟨q.1, q.2.1, q.2.2.1.call _ mk a, gZ.moved (u := U) (Vm.Alike.refl U.vm) q.2.2.2.1, gX.same (s := U) rfl q.2.2.2.2⟩
abbrev gXQ : Array Value → State → Outcome → State → Prop := va_Qi (fun (_ : Int32) (_ : Unit) => False) (fun _ _ => True) gN
abbrev gXC : String → State → State → Prop := vx_X (fun _ : Unit => True) (fun E _ _ => E = xN) gN
abbrev rmX : Room := { frames := 6, cells := 1, slots := 6, locals := 90 }
set_option maxHeartbeats 4000000 in
set_option maxRecDepth 100000 in
theorem c_single_xN (l : Launch) (hst : l.stackTraces = false) (g : GK) (a0 : Nat → Nat) (s0 : OuNT) (p1 : Int32) : vx_Met l yX8_single (Cond.code yX8_single cX8_single 3 (some .int) :: TBL) rmX (gPx g [.ref (a0 0), .int p1] (OuN_c g a0 s0)) gXQ gXC 1 6 gN := by
  refine vx_ofW (cc := cX8_single) (maxL := 3) (ret := some .int) (by decide) rfl ?_
  intro p e s m args below meth c s₁ B hml hnoh hv
  obtain ⟨rfl, hP, hK, hZ, hX⟩ := hv
  have hts := atoms_spec (ws := Cond.code yX8_single cX8_single 3 (some .int) :: TBL) B.pre
  have hown : s.vm.findClass RX8 = some m.cls := findClass_of_methodNamed B.named
  have hE : GE p c meth s [Value.ref (a0 0), .int p1].toArray m g RX8 cX8_single 3 (some .int) := ⟨B.exec, B.bytes, B.returns, B.notSynchronized, hml, hown, fun w h => hts w (List.mem_cons_of_mem _ h), hK⟩
  have hl := lv_entry [.ref (a0 0), .int p1] (n := 3) (Nat.le_of_ble_eq_true rfl)
  rw [lg_entry_eq]
  generalize (lg_sl [.ref (a0 0), .int p1] ++ List.replicate (3 - (lg_sl [.ref (a0 0), .int p1]).length) Slot.unset).toArray = ls at hl ⊢
  have hl : lv_has ls 3 [(0, .ref (a0 0)), (1, .int p1)] := hl
  have hS : va_S gN s.heap s.heap [] := va_S.rf
  have hx := hE.1
  have hb := hE.2.1
  refine lv_aload_n hx hb dX8_single_0 rfl (lv_at hl 0 rfl) ?_
  refine g_get hE okX8 fl_X8_31 hP 0 rfl (v := .null) rfl dX8_single_1 ?_
  refine lv_ifnonnullN hx hb dX8_single_4 ?_
  refine lv_iconst hx hb dX8_single_7 kci_m1 ?_
  refine lv_goto hx hb dX8_single_8 (tgt := 19) rfl ?_
  refine lv_istore_n hx hb dX8_single_19 rfl hl (by decide) (lv' := [(2, .int (-1)), (0, .ref (a0 0)), (1, .int p1)]) rfl (fun ls hl => ?_)
  refine lv_iload_n hx hb dX8_single_20 rfl (lv_at hl 0 rfl) ?_
  refine lv_iconst hx hb dX8_single_21 kci_m1 ?_
  refine lv_icmp_ne hx hb dX8_single_22 (tgt := 36) rfl (fun h => absurd rfl h) (fun _ => ?_)
  have ht := hE.2.2.2.2.2.2.1
  exact nse_throw (sup := xS) (names := xNames) hx hb hst hown (by decide) (by decide) (by decide) (ht _ xc_1) (ht _ xc_2) hK.2.2.2 (vx_hat (fun w hw => ht w (tb (xAt_good w hw) (List.mem_filter.mp hw).2)) xAt_bad hX.bad) xAt_ot hZ.2.2.2.2.2.2.1 hZ.2.2.2.2.2.2.2.1 hS (hl.1.trans hml.symm) dX8_single_25 dX8_single_28 dX8_single_29 dX8_single_32 dX8_single_35 (fun x h => (hnoh x h).elim) (Nat.le_of_ble_eq_true rfl) (Nat.le_of_ble_eq_true rfl) (Nat.le_of_ble_eq_true rfl) (Nat.le_of_ble_eq_true rfl) B.notSynchronized (fun t _ h1 h2 => ⟨(), trivial, rfl, h1, fun q hq _ => h2 q hq⟩) (fun _ h => by cases h) (Nat.le_of_ble_eq_true rfl) (Nat.le_of_ble_eq_true rfl)
set_option maxHeartbeats 4000000 in
set_option maxRecDepth 100000 in
theorem c_single_xB (l : Launch) (hst : l.stackTraces = false) (g : GK) (a0 : Nat → Nat) (v_shelf : Value) (s0 : OuBT) (p1 : Int32) (hf : f_X1_lonelyKey (OuB_books s0) p1 = some (-1 : Int32)) : vx_Met l yX8_single (Cond.code yX8_single cX8_single 3 (some .int) :: TBL) rmX (gPx g [.ref (a0 0), .int p1] (OuB_c g a0 v_shelf s0)) gXQ gXC 1 6 gN := by
  refine vx_ofW (cc := cX8_single) (maxL := 3) (ret := some .int) (by decide) rfl ?_
  intro p e s m args below meth c s₁ B hml hnoh hv
  obtain ⟨rfl, hP, hK, hZ, hX⟩ := hv
  have hts := atoms_spec (ws := Cond.code yX8_single cX8_single 3 (some .int) :: TBL) B.pre
  have hown : s.vm.findClass RX8 = some m.cls := findClass_of_methodNamed B.named
  have hE : GE p c meth s [Value.ref (a0 0), .int p1].toArray m g RX8 cX8_single 3 (some .int) := ⟨B.exec, B.bytes, B.returns, B.notSynchronized, hml, hown, fun w h => hts w (List.mem_cons_of_mem _ h), hK⟩
  have hl := lv_entry [.ref (a0 0), .int p1] (n := 3) (Nat.le_of_ble_eq_true rfl)
  rw [lg_entry_eq]
  generalize (lg_sl [.ref (a0 0), .int p1] ++ List.replicate (3 - (lg_sl [.ref (a0 0), .int p1]).length) Slot.unset).toArray = ls at hl ⊢
  have hl : lv_has ls 3 [(0, .ref (a0 0)), (1, .int p1)] := hl
  have hS : va_S gN s.heap s.heap [] := va_S.rf
  have hx := hE.1
  have hb := hE.2.1
  refine lv_aload_n hx hb dX8_single_0 rfl (lv_at hl 0 rfl) ?_
  refine g_get hE okX8 fl_X8_31 hP 0 rfl (v := .ref (a0 19)) rfl dX8_single_1 ?_
  refine lv_ifnonnull hx hb dX8_single_4 (tgt := 11) rfl ?_
  refine lv_aload_n hx hb dX8_single_11 rfl (lv_at hl 0 rfl) ?_
  refine g_get hE okX8 fl_X8_31 hP 0 rfl (v := .ref (a0 19)) rfl dX8_single_12 ?_
  refine lv_iload_n hx hb dX8_single_15 rfl (lv_at hl 1 rfl) ?_
  refine gr_callV (As := [.int p1]) (rest := []) (st1 := [.int (-1)]) hE hl.1 ml_X8_318 (c_X1_lonelyKey l g (fun k => a0 (k + 19)) (OuB_books s0) p1 (-1) hf) hZ hS hP [(19, 25)] rfl okX1 rfl rfl rfl rfl ⟨rfl, rfl⟩ ⟨Nat.le_of_ble_eq_true rfl, Nat.le_of_ble_eq_true rfl⟩ ⟨Nat.le_of_ble_eq_true rfl, Nat.le_of_ble_eq_true rfl⟩ (Nat.le_of_ble_eq_true rfl) dX8_single_16 ?_
  refine lv_istore_n hx hb dX8_single_19 rfl hl (by decide) (lv' := [(2, .int (-1)), (0, .ref (a0 0)), (1, .int p1)]) rfl (fun ls hl => ?_)
  refine lv_iload_n hx hb dX8_single_20 rfl (lv_at hl 0 rfl) ?_
  refine lv_iconst hx hb dX8_single_21 kci_m1 ?_
  refine lv_icmp_ne hx hb dX8_single_22 (tgt := 36) rfl (fun h => absurd rfl h) (fun _ => ?_)
  have ht := hE.2.2.2.2.2.2.1
  exact nse_throw (sup := xS) (names := xNames) hx hb hst hown (by decide) (by decide) (by decide) (ht _ xc_1) (ht _ xc_2) hK.2.2.2 (vx_hat (fun w hw => ht w (tb (xAt_good w hw) (List.mem_filter.mp hw).2)) xAt_bad hX.bad) xAt_ot hZ.2.2.2.2.2.2.1 hZ.2.2.2.2.2.2.2.1 hS (hl.1.trans hml.symm) dX8_single_25 dX8_single_28 dX8_single_29 dX8_single_32 dX8_single_35 (fun x h => (hnoh x h).elim) (Nat.le_of_ble_eq_true rfl) (Nat.le_of_ble_eq_true rfl) (Nat.le_of_ble_eq_true rfl) (Nat.le_of_ble_eq_true rfl) B.notSynchronized (fun t _ h1 h2 => ⟨(), trivial, rfl, h1, fun q hq _ => h2 q hq⟩) (fun _ h => by cases h) (Nat.le_of_ble_eq_true rfl) (Nat.le_of_ble_eq_true rfl)
theorem xcw : Cond.codeWith yL_single cL_single 4 (some .int) [(0, 9, 12, 13)] ∈ TBL := tb (in5 (List.mem_of_getElem? (i := 185) (by decide +kernel))) (by decide +kernel)
theorem xlk : Cond.methodLink RL 174 yL_single ∈ TBL := tb (in5 (List.mem_of_getElem? (i := 183) (by decide +kernel))) (by decide +kernel)
theorem xst : Cond.static yL_single ∈ TBL := tb (in5 (List.mem_of_getElem? (i := 184) (by decide +kernel))) (by decide +kernel)
theorem xin : Cond.initialized RL ∈ TBL := tb (in1 (List.mem_of_getElem? (i := 0) (by decide +kernel))) (by decide +kernel)
def gPxm (g : GK) (av : List Value) (w0 : va_W) (sz : Nat) : Array Value → State → Prop := va_Pc av (fun U => U.heap.size = sz ∧ gP g w0 U.heap ∧ gK g U ∧ va_D (fun _ => True) w0 ∧ gZ g (va_A w0 sz) U U.heap ∧ gX U)
theorem gblindXm {g : GK} {av : List Value} {w0 : va_W} {sz : Nat} : FrameBlind (gPxm g av w0 sz) := fun a U _ mk q => ⟨q.1, q.2.1, q.2.2.1, q.2.2.2.1.call _ mk a, q.2.2.2.2.1, gZ.moved (u := U) (Vm.Alike.refl U.vm) q.2.2.2.2.2.1, gX.same (s := U) rfl q.2.2.2.2.2.2⟩
abbrev rmXL : Room := { frames := 7, cells := 1, slots := 6, locals := 112 }
/-- single of the law: what it answers (0: out has it; 1: thrown) and the world behind it -/
def gMx (l : Launch) (g : GK) (av : List Value) (w0 : va_W) (rv : Int32) (w1 : va_W) : Prop := ∀ sz : Nat, Met l yL_single (Cond.codeWith yL_single cL_single 4 (some .int) [(0, 9, 12, 13)] :: TBL) rmXL (gPxm g av w0 sz) (gQm g (fun _ : Unit => some (.int rv)) (fun _ => w1) (va_A w0 sz)) 1 6 (va_A w0 sz)
set_option maxHeartbeats 4000000 in
set_option maxRecDepth 100000 in
theorem c_Lsingle_r (l : Launch) (g : GK) (a0 : Nat → Nat) (v_shelf : Value) (s0 : OuBT) (p1 : Int32) (d : Nat) (t : Nat → Int64) (k : Int32) (hf : f_X8_single_B s0 p1 = some k) : gMx l g [.ref (a0 0), .int p1, .ref d] (OuB_c g a0 v_shelf s0 ++ [(d, .inl (g.2.2.1, 1, .inr (.inl t)))]) 0 (OuB_c g a0 v_shelf s0 ++ [(d, .inl (g.2.2.1, 1, .inr (.inl (vp_updL t (ix 0) k.toInt64))))]) := by
  intro sz
  refine va_MetW (cc := cL_single) (maxL := 4) (ret := some .int) (hh := [(0, 9, 12, 13)]) (by decide) rfl ?_
  intro p e s m args below meth c s₁ B hml hv
  obtain ⟨rfl, hsz, hP, hK, hD0, hZ, hX⟩ := hv
  subst hsz
  have hts := atoms_spec (ws := Cond.codeWith yL_single cL_single 4 (some .int) [(0, 9, 12, 13)] :: TBL) B.pre
  have hown : s.vm.findClass RL = some m.cls := findClass_of_methodNamed B.named
  have hE : GE p c meth s ([.ref (a0 0), .int p1, .ref d] : List Value).toArray m g RL cL_single 4 (some .int) := ⟨B.exec, B.bytes, B.returns, B.notSynchronized, hml, hown, fun w h => hts w (List.mem_cons_of_mem _ h), hK⟩
  have htab := vx_table (x := yL_single) B (hts _ List.mem_cons_self)
  have hA : ∀ q : Nat, s.heap.size ≤ q → va_A (OuB_c g a0 v_shelf s0 ++ [(d, .inl (g.2.2.1, 1, .inr (.inl t)))]) s.heap.size q := fun q h => Or.inr h
  have hD := hD0.self (sz := s.heap.size)
  generalize va_A (OuB_c g a0 v_shelf s0 ++ [(d, .inl (g.2.2.1, 1, .inr (.inl t)))]) s.heap.size = A at hA hD hZ ⊢
  have hS : va_S A s.heap s.heap [] := va_S.rf
  have hl := lv_entry [.ref (a0 0), .int p1, .ref d] (n := 4) (Nat.le_of_ble_eq_true rfl)
  rw [lg_entry_eq]
  generalize (lg_sl [.ref (a0 0), .int p1, .ref d] ++ List.replicate (4 - (lg_sl [.ref (a0 0), .int p1, .ref d]).length) Slot.unset).toArray = ls at hl ⊢
  have hl : lv_has ls 4 [(0, .ref (a0 0)), (1, .int p1), (2, .ref d)] := hl
  have hx := hE.1
  have hb := hE.2.1
  have ht := hE.2.2.2.2.2.2.1
  refine lv_aload_n hx hb dL_single_0 rfl (lv_at hl 2 rfl) ?_
  refine lv_iconst hx hb dL_single_1 kci_0 ?_
  refine lv_aload_n hx hb dL_single_2 rfl (lv_at hl 0 rfl) ?_
  refine lv_iload_n hx hb dL_single_3 rfl (lv_at hl 1 rfl) ?_
  refine gr_callV (As := [.int p1]) (rest := [.int 0, .ref d]) (st1 := [.int k, .int 0, .ref d]) hE hl.1 ml_L_7 (c_X8_single_B l g a0 v_shelf s0 p1 k hf) hZ hS hP [(0, 44)] rfl okX8 rfl rfl rfl rfl ⟨rfl, rfl⟩ ⟨Nat.le_of_ble_eq_true rfl, Nat.le_of_ble_eq_true rfl⟩ ⟨Nat.le_of_ble_eq_true rfl, Nat.le_of_ble_eq_true rfl⟩ (Nat.le_of_ble_eq_true rfl) dL_single_4 ?_
  refine lv_i2l hx hb dL_single_7 rfl ?_
  refine g_last hE hP hD hS 44 (f := t) rfl (by decide) (OuB_c g a0 v_shelf s0 ++ [(d, .inl (g.2.2.1, 1, .inr (.inl (vp_updL t (ix 0) k.toInt64))))]) rfl dL_single_8 (fun H locs hP hD hS => ?_)
  refine lv_goto hx hb dL_single_9 (tgt := 15) rfl ?_
  refine lv_iconst hx hb dL_single_15 kci_0 ?_
  refine W.widen (k := 1) (n := 6) (Nat.le_of_ble_eq_true rfl) (Nat.le_of_ble_eq_true rfl) ?_
  refine W.iret B.exec B.bytes B.returns (fun t ht _ => ⟨⟨(), rfl, by rw [ht]; exact hP, hD⟩, hS.F ht⟩) hS.2.2 dL_single_16 B.notSynchronized
set_option maxHeartbeats 4000000 in
set_option maxRecDepth 100000 in
theorem c_Lsingle_xB (l : Launch) (hst : l.stackTraces = false) (g : GK) (a0 : Nat → Nat) (v_shelf : Value) (s0 : OuBT) (p1 : Int32) (d : Nat) (t : Nat → Int64) (hf : f_X1_lonelyKey (OuB_books s0) p1 = some (-1 : Int32)) : gMx l g [.ref (a0 0), .int p1, .ref d] (OuB_c g a0 v_shelf s0 ++ [(d, .inl (g.2.2.1, 1, .inr (.inl t)))]) 1 (OuB_c g a0 v_shelf s0 ++ [(d, .inl (g.2.2.1, 1, .inr (.inl t)))]) := by
  intro sz
  refine va_MetW (cc := cL_single) (maxL := 4) (ret := some .int) (hh := [(0, 9, 12, 13)]) (by decide) rfl ?_
  intro p e s m args below meth c s₁ B hml hv
  obtain ⟨rfl, hsz, hP, hK, hD0, hZ, hX⟩ := hv
  subst hsz
  have hts := atoms_spec (ws := Cond.codeWith yL_single cL_single 4 (some .int) [(0, 9, 12, 13)] :: TBL) B.pre
  have hown : s.vm.findClass RL = some m.cls := findClass_of_methodNamed B.named
  have hE : GE p c meth s ([.ref (a0 0), .int p1, .ref d] : List Value).toArray m g RL cL_single 4 (some .int) := ⟨B.exec, B.bytes, B.returns, B.notSynchronized, hml, hown, fun w h => hts w (List.mem_cons_of_mem _ h), hK⟩
  have htab := vx_table (x := yL_single) B (hts _ List.mem_cons_self)
  have hA : ∀ q : Nat, s.heap.size ≤ q → va_A (OuB_c g a0 v_shelf s0 ++ [(d, .inl (g.2.2.1, 1, .inr (.inl t)))]) s.heap.size q := fun q h => Or.inr h
  have hD := hD0.self (sz := s.heap.size)
  generalize va_A (OuB_c g a0 v_shelf s0 ++ [(d, .inl (g.2.2.1, 1, .inr (.inl t)))]) s.heap.size = A at hA hD hZ ⊢
  have hS : va_S A s.heap s.heap [] := va_S.rf
  have hl := lv_entry [.ref (a0 0), .int p1, .ref d] (n := 4) (Nat.le_of_ble_eq_true rfl)
  rw [lg_entry_eq]
  generalize (lg_sl [.ref (a0 0), .int p1, .ref d] ++ List.replicate (4 - (lg_sl [.ref (a0 0), .int p1, .ref d]).length) Slot.unset).toArray = ls at hl ⊢
  have hl : lv_has ls 4 [(0, .ref (a0 0)), (1, .int p1), (2, .ref d)] := hl
  have hx := hE.1
  have hb := hE.2.1
  have ht := hE.2.2.2.2.2.2.1
  refine lv_aload_n hx hb dL_single_0 rfl (lv_at hl 2 rfl) ?_
  refine lv_iconst hx hb dL_single_1 kci_0 ?_
  refine lv_aload_n hx hb dL_single_2 rfl (lv_at hl 0 rfl) ?_
  refine lv_iload_n hx hb dL_single_3 rfl (lv_at hl 1 rfl) ?_
  have hP0 : gP g (OuB_c g a0 v_shelf s0) s.heap := vaP_seg hP [(0, 44)] rfl
  have cw : CallW rmXL s ([.ref (a0 0), .int p1, .ref d] : List Value).toArray RL yX8_single.cls 7 yX8_single cX8_single 3 (some .int) (Cond.code yX8_single cX8_single 3 (some .int) :: TBL) rmX 1 6 1 := ⟨callB_of 1 ht (goodTC ml_L_7.2.2.2.2.1) rfl rfl rfl (ht _ ml_L_7.2.2.2.1) (ht _ ml_L_7.1) ml_L_7.2.2.2.2.2 ⟨Nat.le_of_ble_eq_true rfl, Nat.le_of_ble_eq_true rfl⟩, ht _ ml_L_7.2.1, ht _ ml_L_7.2.2.1⟩
  refine vx_calli (vx_runV (Ts := TBL) (own := RL) (C := yX8_single.cls) (As := [.int p1]) (rest := [.int 0, .ref d]) ⟨hx, hb, hml, hown, ht⟩ (c_single_xB l hst g a0 v_shelf s0 p1 hf) cw ⟨gblindX, va_recv (q0 := 0) hK.1 hP0 okX8.1 rfl, fun U hU hW => ⟨rfl, by rw [hU]; exact hP0, hK.warm hW, by rw [hU]; exact (hZ.narrow (fun _ h => h.elim)).moved hW.alike, gX.warm hW hX⟩⟩ rfl rfl hl.1 rfl (lv_room (Nat.le_of_ble_eq_true rfl)) dL_single_4 ⟨Nat.le_of_ble_eq_true rfl, Nat.le_of_ble_eq_true rfl⟩) hS (fun q _ h => h.elim) (fun q h => h.elim) (fun q _ h => h.elim) ?_ (fun r u t H1 locs1 _ _ h => h.elim)
  intro E ce q9 u t1 H1 locs1 ht1 hal _ hEx hz hk hS hc hv hcl
  subst hEx
  refine vx_catch (name := xN) hown [] ⟨0, 9, 12, 13⟩ [] htab (fun _ h => by cases h) (by decide) (by decide) (ht _ xc_3) (va_Nw.use rfl hX.1) hc hv hcl ?_
  have hP : gP g (OuB_c g a0 v_shelf s0 ++ [(d, .inl (g.2.2.1, 1, .inr (.inl t)))]) H1 := vaP_mem.mpr fun q hq => (vaP_mem.mp hP q hq).kept (hk q.1 ((vaP_mem.mp hP q hq).lt) (fun h => h))
  refine lv_astore_n hx hb dL_single_12 rfl hl (by decide) (lv' := [(3, .ref q9), (0, .ref (a0 0)), (1, .int p1), (2, .ref d)]) rfl (fun ls hl => ?_)
  refine lv_iconst hx hb dL_single_13 kci_1 ?_
  refine W.iret B.exec B.bytes B.returns (fun t ht _ => ⟨⟨(), rfl, by rw [ht]; exact hP, hD⟩, hS.F ht⟩) hS.2.2 dL_single_14 B.notSynchronized
set_option maxHeartbeats 4000000 in
set_option maxRecDepth 100000 in
theorem c_Lsingle_xN (l : Launch) (hst : l.stackTraces = false) (g : GK) (a0 : Nat → Nat) (s0 : OuNT) (p1 : Int32) (d : Nat) (t : Nat → Int64) : gMx l g [.ref (a0 0), .int p1, .ref d] (OuN_c g a0 s0 ++ [(d, .inl (g.2.2.1, 1, .inr (.inl t)))]) 1 (OuN_c g a0 s0 ++ [(d, .inl (g.2.2.1, 1, .inr (.inl t)))]) := by
  intro sz
  refine va_MetW (cc := cL_single) (maxL := 4) (ret := some .int) (hh := [(0, 9, 12, 13)]) (by decide) rfl ?_
  intro p e s m args below meth c s₁ B hml hv
  obtain ⟨rfl, hsz, hP, hK, hD0, hZ, hX⟩ := hv
  subst hsz
  have hts := atoms_spec (ws := Cond.codeWith yL_single cL_single 4 (some .int) [(0, 9, 12, 13)] :: TBL) B.pre
  have hown : s.vm.findClass RL = some m.cls := findClass_of_methodNamed B.named
  have hE : GE p c meth s ([.ref (a0 0), .int p1, .ref d] : List Value).toArray m g RL cL_single 4 (some .int) := ⟨B.exec, B.bytes, B.returns, B.notSynchronized, hml, hown, fun w h => hts w (List.mem_cons_of_mem _ h), hK⟩
  have htab := vx_table (x := yL_single) B (hts _ List.mem_cons_self)
  have hA : ∀ q : Nat, s.heap.size ≤ q → va_A (OuN_c g a0 s0 ++ [(d, .inl (g.2.2.1, 1, .inr (.inl t)))]) s.heap.size q := fun q h => Or.inr h
  have hD := hD0.self (sz := s.heap.size)
  generalize va_A (OuN_c g a0 s0 ++ [(d, .inl (g.2.2.1, 1, .inr (.inl t)))]) s.heap.size = A at hA hD hZ ⊢
  have hS : va_S A s.heap s.heap [] := va_S.rf
  have hl := lv_entry [.ref (a0 0), .int p1, .ref d] (n := 4) (Nat.le_of_ble_eq_true rfl)
  rw [lg_entry_eq]
  generalize (lg_sl [.ref (a0 0), .int p1, .ref d] ++ List.replicate (4 - (lg_sl [.ref (a0 0), .int p1, .ref d]).length) Slot.unset).toArray = ls at hl ⊢
  have hl : lv_has ls 4 [(0, .ref (a0 0)), (1, .int p1), (2, .ref d)] := hl
  have hx := hE.1
  have hb := hE.2.1
  have ht := hE.2.2.2.2.2.2.1
  refine lv_aload_n hx hb dL_single_0 rfl (lv_at hl 2 rfl) ?_
  refine lv_iconst hx hb dL_single_1 kci_0 ?_
  refine lv_aload_n hx hb dL_single_2 rfl (lv_at hl 0 rfl) ?_
  refine lv_iload_n hx hb dL_single_3 rfl (lv_at hl 1 rfl) ?_
  have hP0 : gP g (OuN_c g a0 s0) s.heap := vaP_seg hP [(0, 19)] rfl
  have cw : CallW rmXL s ([.ref (a0 0), .int p1, .ref d] : List Value).toArray RL yX8_single.cls 7 yX8_single cX8_single 3 (some .int) (Cond.code yX8_single cX8_single 3 (some .int) :: TBL) rmX 1 6 1 := ⟨callB_of 1 ht (goodTC ml_L_7.2.2.2.2.1) rfl rfl rfl (ht _ ml_L_7.2.2.2.1) (ht _ ml_L_7.1) ml_L_7.2.2.2.2.2 ⟨Nat.le_of_ble_eq_true rfl, Nat.le_of_ble_eq_true rfl⟩, ht _ ml_L_7.2.1, ht _ ml_L_7.2.2.1⟩
  refine vx_calli (vx_runV (Ts := TBL) (own := RL) (C := yX8_single.cls) (As := [.int p1]) (rest := [.int 0, .ref d]) ⟨hx, hb, hml, hown, ht⟩ (c_single_xN l hst g a0 s0 p1) cw ⟨gblindX, va_recv (q0 := 0) hK.1 hP0 okX8.1 rfl, fun U hU hW => ⟨rfl, by rw [hU]; exact hP0, hK.warm hW, by rw [hU]; exact (hZ.narrow (fun _ h => h.elim)).moved hW.alike, gX.warm hW hX⟩⟩ rfl rfl hl.1 rfl (lv_room (Nat.le_of_ble_eq_true rfl)) dL_single_4 ⟨Nat.le_of_ble_eq_true rfl, Nat.le_of_ble_eq_true rfl⟩) hS (fun q _ h => h.elim) (fun q h => h.elim) (fun q _ h => h.elim) ?_ (fun r u t H1 locs1 _ _ h => h.elim)
  intro E ce q9 u t1 H1 locs1 ht1 hal _ hEx hz hk hS hc hv hcl
  subst hEx
  refine vx_catch (name := xN) hown [] ⟨0, 9, 12, 13⟩ [] htab (fun _ h => by cases h) (by decide) (by decide) (ht _ xc_3) (va_Nw.use rfl hX.1) hc hv hcl ?_
  have hP : gP g (OuN_c g a0 s0 ++ [(d, .inl (g.2.2.1, 1, .inr (.inl t)))]) H1 := vaP_mem.mpr fun q hq => (vaP_mem.mp hP q hq).kept (hk q.1 ((vaP_mem.mp hP q hq).lt) (fun h => h))
  refine lv_astore_n hx hb dL_single_12 rfl hl (by decide) (lv' := [(3, .ref q9), (0, .ref (a0 0)), (1, .int p1), (2, .ref d)]) rfl (fun ls hl => ?_)
  refine lv_iconst hx hb dL_single_13 kci_1 ?_
  refine W.iret B.exec B.bytes B.returns (fun t ht _ => ⟨⟨(), rfl, by rw [ht]; exact hP, hD⟩, hS.F ht⟩) hS.2.2 dL_single_14 B.notSynchronized
