/-! the calls one by one: what answers and changes nothing -/
theorem RN.th {s : OuNT} {sm : MoT} (h : RN s sm) : RN s (mT sm) :=
  ⟨h.1.sc (SC.mT sm), ⟨(trouble_mT sm).trans h.2.1.1, (fault_mT sm).trans h.2.1.2.1, (wrongAt_mT sm).trans h.2.1.2.2⟩, h.2.2.1, (isThere_mT sm).trans h.2.2.2.1, (hasImage_mT sm).trans h.2.2.2.2⟩
theorem RB.th {n kc vc : Nat} {s : OuBT} {sm : MoT} (h : RB n kc vc s sm) : RB (n + 1) kc vc s (mT sm) ∧ KS s sm s (mT sm) := by
  obtain ⟨h1, h2, h3, T, h5, h6⟩ := h
  refine ⟨⟨h1.sc (SC.mT sm), ⟨(trouble_mT sm).trans h2.1, (fault_mT sm).trans h2.2.1, (wrongAt_mT sm).trans h2.2.2⟩, (isThere_mT sm).trans h3, T, by omega, ?_⟩, rfl, hasImage_mT sm, words_mT sm, fun i _ _ => congrFun (x_mT sm) i⟩
  rw [words_mT, x_mT]
  exact h6.mono (by omega)
theorem RB.nT {n kc vc : Nat} {s : OuBT} {sm : MoT} (h : RB n kc vc s sm) : ¬ Mo_isThere sm = 0 := by rw [h.2.2.1]; decide
theorem gTx (sm : MoT) {i : Nat} (hi : i < 6571) : f_X9_get (mT sm) 0 (nI i) = some (Mo_x sm i) := by
  have := r_get (mT sm) (Mo_x sm) (b := 0) (i := i) (by omega) hi
  rw [show 6571 * 0 + i = i by omega] at this
  exact this
theorem st_fault (n : Nat) : StpR n (fun cs => fc_fault cs) (fun sm => f_X9_fault sm) := stp0 (fN := fun s => f_X8_fault_N s) (fB := fun s => f_X8_fault_B s) (fun _ => rfl) (fun _ => rfl) (fun _ _ => rfl)
  (fun sm s h => ⟨_, mT sm, rfl, by rw [← show Mo_fault sm = OuN_fault s from h.2.1.2.1]; rfl, h.th⟩) (fun hn sm s kc vc h => ⟨_, mT sm, rfl, by rw [← show Mo_fault sm = OuB_fault s from h.2.1.2.1]; rfl, h.th⟩)
theorem st_trouble (n : Nat) : StpR n (fun cs => fc_trouble cs) (fun sm => f_X9_trouble sm) := stp0 (fN := fun s => f_X8_trouble_N s) (fB := fun s => f_X8_trouble_B s) (fun _ => rfl) (fun _ => rfl) (fun _ _ => rfl)
  (fun sm s h => ⟨_, mT sm, rfl, by rw [← show Mo_trouble sm = OuN_trouble s from h.2.1.1]; rfl, h.th⟩) (fun hn sm s kc vc h => ⟨_, mT sm, rfl, by rw [← show Mo_trouble sm = OuB_trouble s from h.2.1.1]; rfl, h.th⟩)
theorem st_where (n : Nat) : StpR n (fun cs => fc_where cs) (fun sm => f_X9_where sm) := stp0 (fN := fun s => f_X8_where_N s) (fB := fun s => f_X8_where_B s) (fun _ => rfl) (fun _ => rfl) (fun _ _ => rfl)
  (fun sm s h => ⟨Mo_wrongAt sm, mT sm, by
    have e := h.2.1.2.2
    unfold f_X8_where_N
    by_cases q : OuN_trouble s = nI 4
    · rw [if_pos q] at e; rw [e]; exact if_pos q
    · rw [if_neg q] at e; rw [e]; exact if_neg q, rfl, h.th⟩)
  (fun hn sm s kc vc h => ⟨Mo_wrongAt sm, mT sm, by
    have e := h.2.1.2.2
    unfold f_X8_where_B
    by_cases q : OuB_trouble s = nI 4
    · rw [if_pos q] at e; rw [e]; exact if_pos q
    · rw [if_neg q] at e; rw [e]; exact if_neg q, rfl, h.th⟩)
theorem side2 (p : Int32) : (∃ j, j < 2 ∧ p = nI j ∧ f_X8_isSide p = some 1 ∧ f_X9_isSide p = some 1) ∨ (f_X8_isSide p = some 0 ∧ f_X9_isSide p = some 0) := by
  rcases pk_ix p (n := 2) (by omega) with h | h | ⟨j, hj, rfl⟩
  · refine Or.inr ⟨?_, ?_⟩
    · unfold f_X8_isSide
      rw [if_neg (fun e => by rw [e] at h; exact absurd h (by decide)), if_neg (fun e => by rw [e] at h; exact absurd h (by decide))]
    · unfold f_X9_isSide f_X9_in
      rw [if_pos h]
      rfl
  · have h' : (1 : Int32) < p := by
      rw [leI] at h
      rw [ltI]
      have : (nI 2).toInt = 2 := rfl
      have : (1 : Int32).toInt = 1 := rfl
      omega
    refine Or.inr ⟨?_, ?_⟩
    · unfold f_X8_isSide
      rw [if_neg (fun e => by rw [e] at h; exact absurd h (by decide)), if_neg (fun e => by rw [e] at h; exact absurd h (by decide))]
    · unfold f_X9_isSide f_X9_in
      rw [if_neg (fun e => ?_), if_pos h']
      · rfl
      · rw [ltI] at e h'
        have : (0 : Int32).toInt = 0 := rfl
        have : (1 : Int32).toInt = 1 := rfl
        omega
  · refine Or.inl ⟨j, hj, rfl, ?_, ?_⟩
    · rcases (show j = 0 ∨ j = 1 by omega) with rfl | rfl <;> rfl
    · rcases (show j = 0 ∨ j = 1 by omega) with rfl | rfl <;> rfl
theorem inP (p : Int32) {c : Nat} (hc : c < 1000000) : (∃ j, j < c ∧ p = nI j ∧ f_X9_in p 0 (nI c - 1) = some 1) ∨ ((p < 0 ∨ nI c ≤ p) ∧ f_X9_in p 0 (nI c - 1) = some 0) := by
  have e1 : (nI c - 1).toInt = (c : Int) - 1 := by
    rw [subI] <;> rw [tI (by omega)] <;> (have : (1 : Int32).toInt = 1 := rfl) <;> omega
  have e0 : (0 : Int32).toInt = 0 := rfl
  unfold f_X9_in
  rcases pk_ix p (n := c) (by omega) with h | h | ⟨j, hj, rfl⟩
  · exact Or.inr ⟨Or.inl h, by rw [if_pos h]⟩
  · refine Or.inr ⟨Or.inr h, ?_⟩
    rw [leI, tI (by omega)] at h
    by_cases q : p < 0
    · rw [if_pos q]
    · rw [if_neg q, if_pos (by rw [ltI, e1]; omega)]
  · refine Or.inl ⟨j, hj, rfl, ?_⟩
    have e2 := tI (n := j) (by omega)
    rw [if_neg (by rw [ltI, e2, e0]; omega), if_neg (by rw [ltI, e1, e2]; omega)]
theorem knows2 (w : WdT) (p : Int32) {c : Nat} (hc : c ≤ 8) (h : Wd_count w = nI c) : ((∃ j, j < c ∧ p = nI j) → f_X7_knows w p = some 1) ∧ ((p < 0 ∨ nI c ≤ p) → f_X7_knows w p = some 0) := by
  unfold f_X7_knows
  rw [h]
  constructor
  · rintro ⟨j, hj, rfl⟩
    simp (disch := omega) only [li_0, li_1, li_2, li_3, li_4, li_5, li_6, li_7, li_8, li_9, li_10, li_11, li_12, li_13, li_14, li_15, li_16, li_20, li_30, li_31, li_32, li_40, li_42, li_45, li_48, li_57, li_58, li_59, li_60, li_64, li_74, li_75, li_81, li_97, li_122, li_124, li_143, li_151, li_159, li_167, li_175, li_200, li_255, li_648, li_650, li_823, li_900, li_999, li_1123, li_1298, li_1363, li_1379, li_2592, li_6571, li_9999, li_65536, li_65537, ng1, ng2, nI_add, pk_mul, remN, divN, inbI, ixN, leN, ltN, eqN, m1E, m1E', m2E, m12, m21, bsm, glE, b2iT, b2iF, if_pos, if_neg, ite_true, ite_false, not_true, not_false_iff, reduceCtorEq]
  · intro q
    by_cases q1 : p < 0
    · rw [if_pos q1]
    · rw [if_neg q1, if_pos (q.resolve_left q1)]
theorem key2 {n kc vc : Nat} {s : OuBT} {sm : MoT} (h : RB n kc vc s sm) (p : Int32) : (∃ j, j < kc ∧ j < 8 ∧ p = nI j ∧ f_X8_isKey_B s p = some 1 ∧ f_X9_isKey (mT sm) p = some 1) ∨ (f_X8_isKey_B s p = some 0 ∧ f_X9_isKey (mT sm) p = some 0) := by
  have nT := h.nT
  obtain ⟨_, _, _, T, _, _, hW, _⟩ := h
  have hk := knows2 (Bk_keys (OuB_books s)) p hW.1 hW.2.2.1
  have g := gTx sm (i := 3) (by omega)
  rw [show Mo_x sm 3 = nI kc from hW.2.2.2.1] at g
  unfold f_X8_isKey_B f_X9_isKey
  rcases inP p (c := kc) (by have := hW.1; omega) with ⟨j, hj, rfl, e⟩ | ⟨q, e⟩
  · have := hW.1
    exact Or.inl ⟨j, hj, by omega, rfl, eb (hk.1 ⟨j, hj, rfl⟩) rfl, (if_neg nT).trans (eb g (eb e rfl))⟩
  · exact Or.inr ⟨eb (hk.2 q) rfl, (if_neg nT).trans (eb g (eb e rfl))⟩
theorem val2 {n kc vc : Nat} {s : OuBT} {sm : MoT} (h : RB n kc vc s sm) (p : Int32) : (∃ j, j < vc ∧ j < 8 ∧ p = nI j ∧ f_X8_isValue_B s p = some 1 ∧ f_X9_isValue (mT sm) p = some 1) ∨ (f_X8_isValue_B s p = some 0 ∧ f_X9_isValue (mT sm) p = some 0) := by
  have nT := h.nT
  obtain ⟨_, _, _, T, _, _, hW, _⟩ := h
  have hk := knows2 (Bk_values (OuB_books s)) p hW.2.1 hW.2.2.2.2.1
  have g := gTx sm (i := 4) (by omega)
  rw [show Mo_x sm 4 = nI vc from hW.2.2.2.2.2.1] at g
  unfold f_X8_isValue_B f_X9_isValue
  rcases inP p (c := vc) (by have := hW.2.1; omega) with ⟨j, hj, rfl, e⟩ | ⟨q, e⟩
  · have := hW.2.1
    exact Or.inl ⟨j, hj, by omega, rfl, eb (hk.1 ⟨j, hj, rfl⟩) rfl, (if_neg nT).trans (eb g (eb e rfl))⟩
  · exact Or.inr ⟨eb (hk.2 q) rfl, (if_neg nT).trans (eb g (eb e rfl))⟩
/-- a refusal, an answer -/
theorem fin_r {n kc vc : Nat} {s : OuBT} {sm : MoT} {fB : Option (Int32 × OuBT)} {fm : Option (Int32 × MoT)} (h : RB n kc vc s sm) (v w : Int32) (hw : w ≠ nI 4) (e1 : fB = some (v, OuB_w_trouble s w)) (e2 : fm = some (v, mR (mT sm) w)) : ∃ r s' sm', fB = some (r, s') ∧ fm = some (r, sm') ∧ RB (n + 1) kc vc s' sm' ∧ KS s sm s' sm' :=
  ⟨v, _, _, e1, e2, (h.ref hw).1, (h.ref hw).2⟩
theorem fin_g {n kc vc : Nat} {s : OuBT} {sm : MoT} {fB : Option (Int32 × OuBT)} {fm : Option (Int32 × MoT)} (h : RB n kc vc s sm) (v : Int32) (e1 : fB = some (v, OuB_w_trouble s 0)) (e2 : fm = some (v, mG (mT sm))) : ∃ r s' sm', fB = some (r, s') ∧ fm = some (r, sm') ∧ RB (n + 1) kc vc s' sm' ∧ KS s sm s' sm' :=
  ⟨v, _, _, e1, e2, h.good.1, h.good.2⟩
theorem fin_n {s : OuNT} {sm : MoT} {fN : Option (Int32 × OuNT)} {fm : Option (Int32 × MoT)} (h : RN s sm) (v w : Int32) (hw : w ≠ nI 4) (e1 : fN = some (v, OuN_w_trouble s w)) (e2 : fm = some (v, mR (mT sm) w)) : ∃ r s' sm', fN = some (r, s') ∧ fm = some (r, sm') ∧ RN s' sm' :=
  ⟨v, _, _, e1, e2, h.ref hw⟩
theorem nKey {s : OuNT} {sm : MoT} (h : RN s sm) (p : Int32) : f_X9_isKey (mT sm) p = some 0 := if_pos h.2.2.2.1
theorem nVal {s : OuNT} {sm : MoT} (h : RN s sm) (p : Int32) : f_X9_isValue (mT sm) p = some 0 := if_pos h.2.2.2.1
theorem st_net (n : Nat) (p1 p2 p3 : Int32) : StpR n (fun cs => fc_net cs p1 p2 p3) (fun sm => f_X9_net sm p1 p2 p3) := stp1 (fN := fun s => f_X8_net_N s p1 p2 p3) (fB := fun s => f_X8_net_B s p1 p2 p3) (fun _ => rfl) (fun _ => rfl) (fun _ _ => rfl)
  (fun sm s h => by
    unfold f_X8_net_N f_X9_net
    rcases side2 p1 with ⟨j, _, _, a, b⟩ | ⟨a, b⟩
    · exact fin_n h _ 1 tr1 (eb a rfl) (eb b ((if_neg (by decide)).trans (eb (nKey h p2) rfl)))
    · exact fin_n h _ 1 tr1 (eb a rfl) (eb b rfl))
  (fun hn sm s kc vc h => by
    unfold f_X8_net_B f_X9_net
    rcases side2 p1 with ⟨j, hj, rfl, a, b⟩ | ⟨a, b⟩
    · rcases key2 h p2 with ⟨k, hk, hk8, rfl, c, d⟩ | ⟨c, d⟩
      · rcases val2 h p3 with ⟨v, hv, hv8, rfl, e, f⟩ | ⟨e, f⟩
        · have hh := h
          obtain ⟨_, _, _, T, _, ⟨g, hBd⟩, _⟩ := hh
          have c1 := c_no (Bk_board (OuB_books s)) hj hk8 hv8
          rw [hBd.1 _ (by omega)] at c1
          have n1 : f_X9_netAt (nI j) (nI k) (nI v) = some (nI (15 + 64 * j + 8 * k + v)) := by
            unfold f_X9_netAt
            simp (disch := omega) only [li_0, li_1, li_2, li_3, li_4, li_5, li_6, li_7, li_8, li_9, li_10, li_11, li_12, li_13, li_14, li_15, li_16, li_20, li_30, li_31, li_32, li_40, li_42, li_45, li_48, li_57, li_58, li_59, li_60, li_64, li_74, li_75, li_81, li_97, li_122, li_124, li_143, li_151, li_159, li_167, li_175, li_200, li_255, li_648, li_650, li_823, li_900, li_999, li_1123, li_1298, li_1363, li_1379, li_2592, li_6571, li_9999, li_65536, li_65537, ng1, ng2, nI_add, pk_mul, remN, divN, inbI, ixN, leN, ltN, eqN, m1E, m1E', m2E, m12, m21, bsm, glE, b2iT, b2iF, if_pos, if_neg, ite_true, ite_false, not_true, not_false_iff, reduceCtorEq]
          have g1 := gTx sm (i := 15 + 64 * j + 8 * k + v) (by omega)
          have e0 : xn (Mo_x sm) 0 ((j * 8 + k) * 8 + v) = Mo_x sm (15 + 64 * j + 8 * k + v) := by
            unfold xn
            congr 1
            omega
          rw [e0] at c1
          exact fin_g h _ (eb a ((if_neg (by decide)).trans (eb c ((if_neg (by decide)).trans (eb e ((if_neg (by decide)).trans (eb c1 rfl))))))) (eb b ((if_neg (by decide)).trans (eb d ((if_neg (by decide)).trans (eb f ((if_neg (by decide)).trans (eb n1 (eb g1 rfl))))))))
        · exact fin_r h _ 1 tr1 (eb a ((if_neg (by decide)).trans (eb c ((if_neg (by decide)).trans (eb e rfl))))) (eb b ((if_neg (by decide)).trans (eb d ((if_neg (by decide)).trans (eb f rfl)))))
      · exact fin_r h _ 1 tr1 (eb a ((if_neg (by decide)).trans (eb c rfl))) (eb b ((if_neg (by decide)).trans (eb d rfl)))
    · exact fin_r h _ 1 tr1 (eb a rfl) (eb b rfl))
