/-! the store tried anew, in any order -/
theorem q_x_order (s : MoT) (v : Nat → Int32) : Mo_x (Mo_w_order s v) = Mo_x s := rfl
theorem q_words_order (s : MoT) (v : Nat → Int32) : Mo_words (Mo_w_order s v) = Mo_words s := rfl
theorem q_tape_order (s : MoT) (v : Nat → Int32) : Mo_tape (Mo_w_order s v) = Mo_tape s := rfl
theorem q_taped_order (s : MoT) (v : Nat → Int32) : Mo_taped (Mo_w_order s v) = Mo_taped s := rfl
theorem q_isThere_order (s : MoT) (v : Nat → Int32) : Mo_isThere (Mo_w_order s v) = Mo_isThere s := rfl
theorem q_hasImage_order (s : MoT) (v : Nat → Int32) : Mo_hasImage (Mo_w_order s v) = Mo_hasImage s := rfl
theorem q_fault_order (s : MoT) (v : Nat → Int32) : Mo_fault (Mo_w_order s v) = Mo_fault s := rfl
theorem q_trouble_order (s : MoT) (v : Nat → Int32) : Mo_trouble (Mo_w_order s v) = Mo_trouble s := rfl
theorem q_wrongAt_order (s : MoT) (v : Nat → Int32) : Mo_wrongAt (Mo_w_order s v) = Mo_wrongAt s := rfl
theorem q_order_order (s : MoT) (v : Nat → Int32) : Mo_order (Mo_w_order s v) = v := rfl
theorem q_order_x (s : MoT) (v : Nat → Int32) : Mo_order (mo s v) = Mo_order s := rfl
def mO (sm : MoT) (o : Nat → Int32) : MoT := Mo_w_order (mT sm) o
theorem x_mO (sm : MoT) (o : Nat → Int32) : Mo_x (mO sm o) = Mo_x sm := (q_x_order _ _).trans (x_mT _)
theorem order_mO (sm : MoT) (o : Nat → Int32) : Mo_order (mO sm o) = o := q_order_order _ _
theorem SC.mO (sm : MoT) (o : Nat → Int32) : SC sm (mO sm o) := ⟨(q_words_order _ _).trans (words_mT _), (q_tape_order _ _).trans (tape_mT _), (q_taped_order _ _).trans (taped_mT _), (q_isThere_order _ _).trans (isThere_mT _), (q_hasImage_order _ _).trans (hasImage_mT _), (q_fault_order _ _).trans (fault_mT _)⟩
theorem mO_mo (sm : MoT) (o : Nat → Int32) : mO sm o = mo (mO sm o) (Mo_x sm) := (mx (mO sm o)).symm.trans (congrArg (mo (mO sm o)) (x_mO sm o))
theorem q_oo (t : MoT) (o p : Nat → Int32) : Mo_w_order (Mo_w_order t o) p = Mo_w_order t p := rfl
theorem q_ro (t : MoT) : Mo_w_order t (Mo_order t) = t := rfl
theorem mO_w (sm : MoT) (o p : Nat → Int32) : Mo_w_order (mO sm o) p = mO sm p := q_oo (mT sm) o p
theorem trial2 {n kc vc c h0 : Nat} {s : OuBT} {sm : MoT} {oc orr : Nat → Int32} (hn : n < 512) (h : RB n kc vc s sm) (hh : h0 < 4) (hc : St_count (Bk_store (OuB_books s)) = nI c) (hc60 : c ≤ 60) (hA : Ag c oc orr) :
    ∃ bd y T', f_X8_tryStore_B (OuB_w_order s oc) (nI h0) = some (OuB_w_trial (OuB_w_order s oc) bd) ∧ f_X9_replays (mO sm orr) (nI h0) = some (mo (mO sm orr) y) ∧ RBd 1 h0 T' bd y ∧ T' ≤ 1440 ∧ RNb 540 (Bd_nets bd) ∧ (∀ i, (i < 6571 ∨ 13142 ≤ i) → y i = Mo_x sm i) ∧ (∀ q, q < 648 → y (6571 * 1 + (175 + q)) = nI 0) := by
  obtain ⟨_, _, _, T, _, _, _, _, _, _, _, ⟨c', d1, d2, d3, d4⟩, _⟩ := h
  have ec : c = c' := (nI_eq (by omega) (by omega)).mp (hc.symm.trans d2)
  subst ec
  have hOr : Mo_order (mO sm orr) = orr := order_mO sm orr
  obtain ⟨bd0, a1, a2, a3, a4, a5, a6⟩ := c_clear (OuB_trial (OuB_w_order s oc)) (nI h0)
  obtain ⟨y0, b1, b2, b3, b4, b5, b6⟩ := r_begins (mO sm orr) (Mo_x sm) (b := 1) (nI h0) (999 : Int32) (999 : Int32) (by omega)
  have b1 : f_X9_begins (mO sm orr) (nI 1) (nI h0) (999 : Int32) (999 : Int32) = some (mo (mO sm orr) y0) := (congrArg (fun z => f_X9_begins z (nI 1) (nI h0) (999 : Int32) (999 : Int32)) (mO_mo sm orr)).trans b1
  generalize mO sm orr = MM at b1 hOr ⊢
  obtain ⟨R0, L0⟩ := RBd.new (b := 1) hh a2 a3 a4 a5 a6 b2 b5
  have loop : ∃ bd y T', f_X8_tryStore_B_L10_7 (fun (s0_4 : OuBT) => some (s0_4)) 10000 0 (OuB_w_trial (OuB_w_order s oc) bd0) = some (OuB_w_trial (OuB_w_order s oc) bd) ∧ f_X9_replays_L14_7 (fun (s0_4 : MoT) => some (s0_4)) 10000 0 (mo MM y0) = some (mo MM y) ∧ RBd 1 h0 T' bd y ∧ T' ≤ 1440 ∧ RNb 540 (Bd_nets bd) ∧ (∀ i, (i < 6571 ∨ 13142 ≤ i) → y i = Mo_x sm i) ∧ (∀ q, q < 648 → y (6571 * 1 + (175 + q)) = nI 0) := by
    rw [li_0]
    refine lpp (L := fun n i t => f_X8_tryStore_B_L10_7 (fun (s0_4 : OuBT) => some (s0_4)) n i t) (M := fun n i t => f_X9_replays_L14_7 (fun (s0_4 : MoT) => some (s0_4)) n i t) c
      (fun i t u => ∃ bd y T', t = OuB_w_trial (OuB_w_order s oc) bd ∧ u = mo MM y ∧ RBd 1 h0 T' bd y ∧ LM (Bd_ledger bd) 0 T' 0 m2 ∧ T' ≤ 24 * i ∧ RNb (9 * i) (Bd_nets bd) ∧ (∀ i, (i < 6571 ∨ 13142 ≤ i) → y i = Mo_x sm i) ∧ (∀ q, q < 648 → y (6571 * 1 + (175 + q)) = nI 0))
      (fun p q => ∃ bd y T', p = some (OuB_w_trial (OuB_w_order s oc) bd) ∧ q = some (mo MM y) ∧ RBd 1 h0 T' bd y ∧ T' ≤ 1440 ∧ RNb 540 (Bd_nets bd) ∧ (∀ i, (i < 6571 ∨ 13142 ≤ i) → y i = Mo_x sm i) ∧ (∀ q, q < 648 → y (6571 * 1 + (175 + q)) = nI 0)) ?_ ?_ 10000 10000 0 _ _ (by omega) (by omega) (by omega)
      ⟨bd0, y0, 0, rfl, rfl, R0, L0, by omega, fun i hi => by rw [a2 i hi]; exact ⟨Int.le_refl _, Int.le_refl _⟩, fun i hi => b6 i (by omega), fun q hq => b5 _ (by omega) (by omega)⟩
    · rintro n n2 t u ⟨bd, y, T', rfl, rfl, e1, e2, e3, e4, e5, e6⟩
      refine ⟨bd, y, T', ?_, ?_, e1, by omega, e4.mono (by omega), e5, e6⟩
      · show f_X8_tryStore_B_L10_7 _ (n + 1) (nI c) _ = _
        rw [f_X8_tryStore_B_L10_7]
        refine if_pos ?_
        show St_count (Bk_store (OuB_books s)) ≤ nI c
        rw [hc]
        exact Int32.le_refl _
      · show f_X9_replays_L14_7 _ (n2 + 1) (nI c) _ = _
        rw [f_X9_replays_L14_7]
        have g := gXx MM y (i := 13) (by omega)
        rw [e5 13 (by omega), show Mo_x sm 13 = nI c from d3] at g
        exact eb g (if_pos (Int32.le_refl _))
    · rintro n n2 i t u hi ⟨bd, y, T', rfl, rfl, e1, e2, e3, e4, e5, e6⟩
      obtain ⟨o1, e, he, o2⟩ := hA i hi
      obtain ⟨sd, k, v, p1, p2, p3, p4, p5, p6, p7, p8, p9, p10, p11, p12⟩ := d4 e he
      have hI : inb (nI i) 60 := inbN (by omega) (by omega)
      have hix : ix (nI i) = i := ixN (by omega)
      have hIe : inb (nI e) 60 := inbN (by omega) (by omega)
      have hixe : ix (nI e) = e := ixN (by omega)
      have g13 := gXx MM y (i := 13) (by omega)
      rw [e5 13 (by omega), show Mo_x sm 13 = nI c from d3] at g13
      have ga := gXx MM y (i := 1123 + 4 * e) (by omega)
      have gb := gXx MM y (i := 1123 + 4 * e + 1) (by omega)
      have gc := gXx MM y (i := 1123 + 4 * e + 2) (by omega)
      have gd := gXx MM y (i := 1123 + 4 * e + 3) (by omega)
      rw [e5 _ (by omega), show Mo_x sm (1123 + 4 * e) = nI sd from (congrArg (Mo_x sm) (by omega)).trans p9] at ga
      rw [e5 _ (by omega), show Mo_x sm (1123 + 4 * e + 1) = nI k from (congrArg (Mo_x sm) (by omega)).trans p10] at gb
      rw [e5 _ (by omega), show Mo_x sm (1123 + 4 * e + 2) = nI v from (congrArg (Mo_x sm) (by omega)).trans p11] at gc
      rw [e5 _ (by omega), show Mo_x sm (1123 + 4 * e + 3) = St_manies (Bk_store (OuB_books s)) e from (congrArg (Mo_x sm) (by omega)).trans p12] at gd
      have nb' := e4.upd (i := (sd * 8 + k) * 8 + v) (many := St_manies (Bk_store (OuB_books s)) e) (by omega) p7 p8 (by omega)
      obtain ⟨bd', s', w1, w2, y', T'', w3, w4, w5, w6⟩ := change2 (b := 1) (T0 := 0) (m0 := 0) (am := m2) MM (by omega) p1 p2 p3 hh (by omega) (by omega) e1.2.1 e1.2.2.1 e1.1 (e4.nB (by omega)) (nb'.nB (by omega)) e1.2.2.2.2.2.1 e2
      subst w3
      have fr : FrC 1 y y' := w6.2.2.2.2.2.2.2
      refine ⟨OuB_w_trial (OuB_w_order s oc) bd', mo MM y', ⟨bd', y', T'', rfl, rfl, e1.chg w6, w6.2.2.2.1, by omega, ?_, fun j hj => by rw [fr _ (by omega)]; exact e5 j hj, fun q hq => by rw [fr _ (by omega)]; exact e6 q hq⟩, ?_, ?_⟩
      · rw [w6.1]
        exact nb'.mono (by omega)
      · show f_X8_tryStore_B_L10_7 _ (n + 1) (nI i) (OuB_w_trial (OuB_w_order s oc) bd) = _
        rw [f_X8_tryStore_B_L10_7, show nI i + (1 : Int32) = nI (i + 1) from nI_1 i]
        refine (if_neg ?_).trans ((if_neg (nI_ge (b := 60) (by omega) (by omega))).trans ((if_pos hI).trans ?_))
        · show ¬ St_count (Bk_store (OuB_books s)) ≤ nI i
          rw [hc]
          exact nI_ge hi (by omega)
        · show (if inb (oc (ix (nI i))) 60 then if inb (oc (ix (nI i))) 60 then if inb (oc (ix (nI i))) 60 then if inb (oc (ix (nI i))) 60 then (f_X0_change bd ((St_sides (Bk_store (OuB_books s))) (ix (oc (ix (nI i))))) ((St_keys (Bk_store (OuB_books s))) (ix (oc (ix (nI i))))) ((St_values (Bk_store (OuB_books s))) (ix (oc (ix (nI i))))) ((St_manies (Bk_store (OuB_books s))) (ix (oc (ix (nI i)))))).bind fun r16 => f_X8_tryStore_B_L10_7 (fun (s0_4 : OuBT) => some (s0_4)) n (nI (i + 1)) (OuB_w_trial (OuB_w_trial (OuB_w_order s oc) bd) r16) else none else none else none else none) = _
          rw [hix, o2, hixe, p4, p5, p6]
          exact (if_pos hIe).trans ((if_pos hIe).trans ((if_pos hIe).trans ((if_pos hIe).trans (eb w1 rfl))))
      · show f_X9_replays_L14_7 _ (n2 + 1) (nI i) (mo MM y) = _
        have oe : Mo_order (mo MM y) (ix (nI i)) = nI e := (congrFun ((q_order_x MM y).trans hOr) _).trans (by rw [hix, ← o1, o2])
        have i0 : (1123 : Int32) + ((4 : Int32) * nI e) = nI (1123 + 4 * e) := by
          simp (disch := omega) only [li_0, li_1, li_2, li_3, li_4, li_5, li_6, li_7, li_8, li_9, li_10, li_11, li_12, li_13, li_14, li_15, li_16, li_20, li_30, li_31, li_32, li_40, li_42, li_45, li_48, li_57, li_58, li_59, li_60, li_64, li_74, li_75, li_81, li_97, li_122, li_124, li_143, li_151, li_159, li_167, li_175, li_200, li_255, li_648, li_650, li_823, li_900, li_999, li_1123, li_1298, li_1363, li_1379, li_2592, li_6571, li_9999, li_65536, li_65537, ng1, ng2, nI_add, pk_mul, remN, divN, inbI, ixN, leN, ltN, eqN, m1E, m1E', m2E, m12, m21, bsm, glE, b2iT, b2iF, if_pos, if_neg, ite_true, ite_false, not_true, not_false_iff, reduceCtorEq]
        rw [f_X9_replays_L14_7, oe, i0, show nI (1123 + 4 * e) + (1 : Int32) = nI (1123 + 4 * e + 1) from nI_1 _, show nI (1123 + 4 * e) + (2 : Int32) = nI (1123 + 4 * e + 2) from nI_add _ 2, show nI (1123 + 4 * e) + (3 : Int32) = nI (1123 + 4 * e + 3) from nI_add _ 3, show nI i + (1 : Int32) = nI (i + 1) from nI_1 i]
        exact eb g13 ((if_neg (nI_ge hi (by omega))).trans ((if_pos hI).trans (eb ga (eb gb (eb gc (eb gd (eb w2 rfl)))))))
  obtain ⟨bd, y, T', w1, w2, w3⟩ := loop
  refine ⟨bd, y, T', ?_, ?_, w3⟩
  · unfold f_X8_tryStore_B
    exact eb a1 (eg w1)
  · unfold f_X9_replays
    exact eb b1 (eg w2)
/-- what the first cost and replay do: the order as stored -/
theorem c_order (s : OuBT) : f_X8_orderAsStored_B s = some (OuB_w_order s (fun j => if j < 60 then nI j else OuB_order s j)) := by
  unfold f_X8_orderAsStored_B
  rw [glE]
  have main := lpc (L := fun n i t => f_X8_orderAsStored_B_L2_5 (fun (s0_2 : OuBT) => some (s0_2)) n i t) (K := fun (s0_2 : OuBT) => some (s0_2)) 60 (fun i => OuB_w_order s (fun j => if j < i then nI j else OuB_order s j)) (fuel := 10000) ?_ ?_ (by omega)
  · have e0 : OuB_w_order s (fun j => if j < 0 then nI j else OuB_order s j) = s := by
      have e : (fun j => if j < 0 then nI j else OuB_order s j) = OuB_order s := by funext j; rw [if_neg (by omega)]
      rw [e]
    simp only [e0] at main
    exact main
  · intro n
    show f_X8_orderAsStored_B_L2_5 _ (n + 1) (nI 60) _ = _
    rw [f_X8_orderAsStored_B_L2_5]
    exact if_pos (Int32.le_refl _)
  · intro n i hi
    have e : upd (fun j => if j < i then nI j else OuB_order s j) i (nI i) = (fun j => if j < i + 1 then nI j else OuB_order s j) := by
      funext j
      by_cases q : j = i
      · rw [ue q, if_pos (by omega), q]
      · rw [un q]
        by_cases g : j < i
        · rw [if_pos g, if_pos (by omega)]
        · rw [if_neg g, if_neg (by omega)]
    show f_X8_orderAsStored_B_L2_5 (fun (s0_2 : OuBT) => some (s0_2)) (n + 1) (nI i) (OuB_w_order s (fun j => if j < i then nI j else OuB_order s j)) = f_X8_orderAsStored_B_L2_5 (fun (s0_2 : OuBT) => some (s0_2)) n (nI (i + 1)) (OuB_w_order s (fun j => if j < i + 1 then nI j else OuB_order s j))
    rw [f_X8_orderAsStored_B_L2_5, ixN (by omega), show nI i + (1 : Int32) = nI (i + 1) from nI_1 i]
    refine (if_neg (nI_ge hi (by omega) : ¬ nI 60 ≤ nI i)).trans ((if_pos (inbN hi (by omega))).trans ?_)
    show f_X8_orderAsStored_B_L2_5 (fun (s0_2 : OuBT) => some (s0_2)) n (nI (i + 1)) (OuB_w_order s (upd (fun j => if j < i then nI j else OuB_order s j) i (nI i))) = _
    rw [e]
theorem fin_t {n kc vc : Nat} {s : OuBT} {sm s' : MoT} {fB : Option (Int32 × OuBT)} {fm : Option (Int32 × MoT)} (h : RB n kc vc s sm) (oc : Nat → Int32) (bd : BdT) (hc : SC sm s') (hx : ∀ i, (i < 6571 ∨ 13142 ≤ i) → Mo_x s' i = Mo_x sm i) (v : Int32) (e1 : fB = some (v, OuB_w_trouble (OuB_w_trial (OuB_w_order s oc) bd) 0)) (e2 : fm = some (v, mG s')) : ∃ r t' sm', fB = some (r, t') ∧ fm = some (r, sm') ∧ RB (n + 1) kc vc t' sm' ∧ KS s sm t' sm' := by
  have h' : RB n kc vc (OuB_w_trial (OuB_w_order s oc) bd) sm := h
  obtain ⟨r, t', sm', a1, a2, a3, a4⟩ := fin_gs h' hc hx v e1 e2
  exact ⟨r, t', sm', a1, a2, a3, a4⟩
theorem st_cost (n : Nat) (p1 : Int32) : StpR n (fun cs => fc_cost cs p1) (fun sm => f_X9_cost sm p1) := stp1 (fN := fun s => f_X8_cost_N s p1) (fB := fun s => f_X8_cost_B s p1) (fun _ => rfl) (fun _ => rfl) (fun _ _ => rfl)
  (fun sm s h => fin_n h _ 1 tr1 rfl ((if_pos h.2.2.2.1).trans rfl))
  (fun hn sm s kc vc h => by
    have nT := h.nT
    have hh := h
    obtain ⟨_, _, _, T, _, _, _, _, _, _, _, ⟨c, d1, d2, d3, d4⟩, _⟩ := hh
    rcases how_ok p1 with ⟨j, hj, rfl, a, b⟩ | ⟨a, b⟩
    · have r1 : ∀ (K : MoT → Option (Int32 × MoT)), f_X9_cost_L35_15 K 10000 0 (mT sm) = K (mO sm (fun j => if j < 60 then nI j else Mo_order (mT sm) j)) := by
        intro K
        have main := lpc (L := fun n i t => f_X9_cost_L35_15 K n i t) (K := K) 60 (fun i => mO sm (fun j => if j < i then nI j else Mo_order (mT sm) j)) (fuel := 10000) ?_ ?_ (by omega)
        · have e0 : mO sm (fun j => if j < 0 then nI j else Mo_order (mT sm) j) = mT sm := by
            have e : (fun j => if j < 0 then nI j else Mo_order (mT sm) j) = Mo_order (mT sm) := by funext j; rw [if_neg (by omega)]
            exact (congrArg (Mo_w_order (mT sm)) e).trans (q_ro (mT sm))
          simp only [e0] at main
          exact main
        · intro n
          show f_X9_cost_L35_15 K (n + 1) (nI 60) _ = _
          rw [f_X9_cost_L35_15]
          exact if_pos (Int32.le_refl _)
        · intro n i hi
          have e : upd (fun j => if j < i then nI j else Mo_order (mT sm) j) i (nI i) = (fun j => if j < i + 1 then nI j else Mo_order (mT sm) j) := by
            funext j
            by_cases q : j = i
            · rw [ue q, if_pos (by omega), q]
            · rw [un q]
              by_cases g : j < i
              · rw [if_pos g, if_pos (by omega)]
              · rw [if_neg g, if_neg (by omega)]
          show f_X9_cost_L35_15 K (n + 1) (nI i) (mO sm (fun j => if j < i then nI j else Mo_order (mT sm) j)) = f_X9_cost_L35_15 K n (nI (i + 1)) (mO sm (fun j => if j < i + 1 then nI j else Mo_order (mT sm) j))
          rw [f_X9_cost_L35_15, show nI i + (1 : Int32) = nI (i + 1) from nI_1 i]
          refine (if_neg (nI_ge hi (by omega) : ¬ nI 60 ≤ nI i)).trans ((if_pos (inbN hi (by omega))).trans (congrArg (f_X9_cost_L35_15 K n (nI (i + 1))) ?_))
          refine (congrArg (Mo_w_order (mO sm (fun j => if j < i then nI j else Mo_order (mT sm) j))) ((congrArg (fun z => upd z (ix (nI i)) (nI i)) (order_mO sm (fun j => if j < i then nI j else Mo_order (mT sm) j))).trans ?_)).trans (mO_w sm _ _)
          show upd (fun j => if j < i then nI j else Mo_order (mT sm) j) (ix (nI i)) (nI i) = _
          rw [ixN (by omega)]
          exact e
      obtain ⟨bd, y, T', t1, t2, t3, t4, t5, t6, t7⟩ := trial2 (oc := fun j => if j < 60 then nI j else OuB_order s j) (orr := fun j => if j < 60 then nI j else Mo_order (mT sm) j) hn h hj d2 d1 (fun q hq => by
        show (if q < 60 then nI q else _) = (if q < 60 then nI q else _) ∧ ∃ e, e < c ∧ (if q < 60 then nI q else _) = nI e
        rw [if_pos (by omega), if_pos (by omega)]
        exact ⟨rfl, q, hq, rfl⟩)
      have g11 := r_get (mO sm (fun j => if j < 60 then nI j else Mo_order (mT sm) j)) y (b := 1) (i := 11) (by omega) (by omega)
      rw [t3.2.2.2.2.2.1.2.2.1] at g11
      have e1 : f_X8_cost_B s (nI j) = some (nI T', OuB_w_trouble (OuB_w_trial (OuB_w_order s (fun j => if j < 60 then nI j else OuB_order s j)) bd) 0) := by
        unfold f_X8_cost_B
        refine eb a ((if_neg (by decide)).trans (eb (c_order s) (eb t1 ?_)))
        show some (Lg_total (Bd_ledger bd), _) = _
        rw [t3.2.2.2.2.2.1.2.1]
      have e2 : f_X9_cost sm (nI j) = some (nI T', mG (mo (mO sm (fun j => if j < 60 then nI j else Mo_order (mT sm) j)) y)) := by
        unfold f_X9_cost
        exact (if_neg nT).trans (eb b ((if_neg (by decide)).trans (eg ((r1 _).trans (eb t2 (eb g11 rfl))))))
      exact fin_t h (fun j => if j < 60 then nI j else OuB_order s j) bd (SC.mo (SC.mO sm _) y) (fun i hi => by rw [mo_x]; exact t6 i hi) (nI T') e1 e2
    · unfold f_X8_cost_B f_X9_cost
      exact fin_r h _ 2 tr2 (eb a rfl) ((if_neg nT).trans (eb b rfl)))

