/-! time goes on: all keys that are due lapse -/
theorem c_lives (bk : BkT) {k : Nat} (hk : k < 8) : f_X1_lives bk (nI k) = some (b2i (!decide (Bk_latest bk k = m2))) := by
  unfold f_X1_lives
  by_cases q : Bk_latest bk k = m2
  · simp (disch := omega) only [li_0, li_1, li_2, li_3, li_4, li_5, li_6, li_7, li_8, li_9, li_10, li_11, li_12, li_13, li_14, li_15, li_16, li_20, li_30, li_31, li_32, li_40, li_42, li_45, li_48, li_57, li_58, li_59, li_60, li_64, li_74, li_75, li_81, li_97, li_122, li_124, li_143, li_151, li_159, li_167, li_175, li_200, li_255, li_648, li_650, li_823, li_900, li_999, li_1123, li_1298, li_1363, li_1379, li_2592, li_6571, li_9999, li_65536, li_65537, ng1, ng2, nI_add, pk_mul, remN, divN, inbI, ixN, leN, ltN, eqN, m1E, m1E', m2E, m12, m21, bsm, glE, b2iT, b2iF, if_pos, if_neg, ite_true, ite_false, not_true, not_false_iff, reduceCtorEq, q]
    simp [q, b2iF]
  · simp (disch := omega) only [li_0, li_1, li_2, li_3, li_4, li_5, li_6, li_7, li_8, li_9, li_10, li_11, li_12, li_13, li_14, li_15, li_16, li_20, li_30, li_31, li_32, li_40, li_42, li_45, li_48, li_57, li_58, li_59, li_60, li_64, li_74, li_75, li_81, li_97, li_122, li_124, li_143, li_151, li_159, li_167, li_175, li_200, li_255, li_648, li_650, li_823, li_900, li_999, li_1123, li_1298, li_1363, li_1379, li_2592, li_6571, li_9999, li_65536, li_65537, ng1, ng2, nI_add, pk_mul, remN, divN, inbI, ixN, leN, ltN, eqN, m1E, m1E', m2E, m12, m21, bsm, glE, b2iT, b2iF, if_pos, if_neg, ite_true, ite_false, not_true, not_false_iff, reduceCtorEq, q]
    simp [q, b2iT]
def dueB (bk : BkT) (k : Nat) (c : Int32) : Bool := !decide (Bk_latest bk k = m2) && !decide (c ≤ Bk_latest bk k + Bk_keep bk)
theorem c_due (bk : BkT) {k : Nat} (c : Int32) (hk : k < 8) : f_X1_lapsesAt bk (nI k) c = some (b2i (dueB bk k c)) := by
  have c1 := c_lives bk hk
  unfold f_X1_lapsesAt dueB
  by_cases q : Bk_latest bk k = m2
  · simp only [q, decide_true, Bool.not_true, Bool.false_and] at c1 ⊢
    simp (disch := omega) only [li_0, li_1, li_2, li_3, li_4, li_5, li_6, li_7, li_8, li_9, li_10, li_11, li_12, li_13, li_14, li_15, li_16, li_20, li_30, li_31, li_32, li_40, li_42, li_45, li_48, li_57, li_58, li_59, li_60, li_64, li_74, li_75, li_81, li_97, li_122, li_124, li_143, li_151, li_159, li_167, li_175, li_200, li_255, li_648, li_650, li_823, li_900, li_999, li_1123, li_1298, li_1363, li_1379, li_2592, li_6571, li_9999, li_65536, li_65537, ng1, ng2, nI_add, pk_mul, remN, divN, inbI, ixN, leN, ltN, eqN, m1E, m1E', m2E, m12, m21, bsm, glE, b2iT, b2iF, if_pos, if_neg, ite_true, ite_false, not_true, not_false_iff, reduceCtorEq, c1]
  · simp only [q, decide_false, Bool.not_false, Bool.true_and] at c1 ⊢
    simp (disch := omega) only [li_0, li_1, li_2, li_3, li_4, li_5, li_6, li_7, li_8, li_9, li_10, li_11, li_12, li_13, li_14, li_15, li_16, li_20, li_30, li_31, li_32, li_40, li_42, li_45, li_48, li_57, li_58, li_59, li_60, li_64, li_74, li_75, li_81, li_97, li_122, li_124, li_143, li_151, li_159, li_167, li_175, li_200, li_255, li_648, li_650, li_823, li_900, li_999, li_1123, li_1298, li_1363, li_1379, li_2592, li_6571, li_9999, li_65536, li_65537, ng1, ng2, nI_add, pk_mul, remN, divN, inbI, ixN, leN, ltN, eqN, m1E, m1E', m2E, m12, m21, bsm, glE, b2iT, b2iF, if_pos, if_neg, ite_true, ite_false, not_true, not_false_iff, reduceCtorEq, c1]
    by_cases q2 : c ≤ Bk_latest bk k + Bk_keep bk
    · simp only [q2, decide_true, if_true]
      rfl
    · simp only [q2, decide_false, if_false]
      rfl
theorem r_lives (sm : MoT) (x : Nat → Int32) {b k : Nat} (hb : b < 3) (hk : k < 8) : f_X9_lives (mo sm x) (nI b) (nI k) = some (b2i (decide (x (6571 * b + (143 + k)) = nI 1))) := by
  have c1 := r_get sm x (b := b) (i := 143 + k) hb (by omega)
  unfold f_X9_lives
  simp (disch := omega) only [li_0, li_1, li_2, li_3, li_4, li_5, li_6, li_7, li_8, li_9, li_10, li_11, li_12, li_13, li_14, li_15, li_16, li_20, li_30, li_31, li_32, li_40, li_42, li_45, li_48, li_57, li_58, li_59, li_60, li_64, li_74, li_75, li_81, li_97, li_122, li_124, li_143, li_151, li_159, li_167, li_175, li_200, li_255, li_648, li_650, li_823, li_900, li_999, li_1123, li_1298, li_1363, li_1379, li_2592, li_6571, li_9999, li_65536, li_65537, ng1, ng2, nI_add, pk_mul, remN, divN, inbI, ixN, leN, ltN, eqN, m1E, m1E', m2E, m12, m21, bsm, glE, b2iT, b2iF, if_pos, if_neg, ite_true, ite_false, not_true, not_false_iff, reduceCtorEq, c1]
  by_cases q : x (6571 * b + (143 + k)) = nI 1
  · simp only [q, decide_true, if_true, b2iT]
  · simp only [q, decide_false, if_false, b2iF]
/-- of the bank's other parts nothing has changed -/
def FrO (b : Nat) (x y : Nat → Int32) : Prop := ∀ i, (i < 6571 * b ∨ 6571 * b + 6571 ≤ i) → y i = x i
theorem FrO.rf (b : Nat) (x : Nat → Int32) : FrO b x x := fun _ _ => rfl
theorem FrO.tr {b : Nat} {x y z : Nat → Int32} (h : FrO b x y) (h2 : FrO b y z) : FrO b x z := fun i hi => (h2 i hi).trans (h i hi)
theorem FrO.u {b : Nat} {x y : Nat → Int32} (h : FrO b x y) {j : Nat} {v : Int32} (hj : j < 6571) : FrO b x (upd y (6571 * b + j) v) := fun i hi => by rw [un (by omega)]; exact h i hi
theorem lapX_O {x : Nat → Int32} {b h k : Nat} (hk : k < 8) : FrO b x (lapX x b h k) := fun i hi => lapX_n hk (by omega)
theorem c_adv1 (s : BkT) {i n : Nat} {c : Int32} (K : BkT → Option (Int32 × BkT)) (hi : i < 8) (hc : Bk_clock s = c) : f_X1_advance_L19_5 K (n + 1) (nI i) s = f_X1_advance_L19_5 K n (nI (i + 1)) (if dueB s i c = true then lapB s i else s) := by
  have c1 := c_due s c hi
  have c2 := c_empty (Bk_board s) hi
  cases hd : dueB s i c <;> rw [hd] at c1
  · simp (disch := omega) only [li_0, li_1, li_2, li_3, li_4, li_5, li_6, li_7, li_8, li_9, li_10, li_11, li_12, li_13, li_14, li_15, li_16, li_20, li_30, li_31, li_32, li_40, li_42, li_45, li_48, li_57, li_58, li_59, li_60, li_64, li_74, li_75, li_81, li_97, li_122, li_124, li_143, li_151, li_159, li_167, li_175, li_200, li_255, li_648, li_650, li_823, li_900, li_999, li_1123, li_1298, li_1363, li_1379, li_2592, li_6571, li_9999, li_65536, li_65537, ng1, ng2, nI_add, pk_mul, remN, divN, inbI, ixN, leN, ltN, eqN, m1E, m1E', m2E, m12, m21, bsm, glE, b2iT, b2iF, if_pos, if_neg, ite_true, ite_false, not_true, not_false_iff, reduceCtorEq, f_X1_advance_L19_5, hc, c1]
  · simp (disch := omega) only [li_0, li_1, li_2, li_3, li_4, li_5, li_6, li_7, li_8, li_9, li_10, li_11, li_12, li_13, li_14, li_15, li_16, li_20, li_30, li_31, li_32, li_40, li_42, li_45, li_48, li_57, li_58, li_59, li_60, li_64, li_74, li_75, li_81, li_97, li_122, li_124, li_143, li_151, li_159, li_167, li_175, li_200, li_255, li_648, li_650, li_823, li_900, li_999, li_1123, li_1298, li_1363, li_1379, li_2592, li_6571, li_9999, li_65536, li_65537, ng1, ng2, nI_add, pk_mul, remN, divN, inbI, ixN, leN, ltN, eqN, m1E, m1E', m2E, m12, m21, bsm, glE, b2iT, b2iF, if_pos, if_neg, ite_true, ite_false, not_true, not_false_iff, reduceCtorEq, f_X1_advance_L19_5, hc, c1, c2]
    rfl
theorem r_adv1 (sm : MoT) (x : Nat → Int32) {b h i n lt kp ck : Nat} (c : Int32) (K : Int32 → MoT → Option (Int32 × MoT)) (hb : b < 3) (hi : i < 8) (hh : h < 4) (he : x (6571 * b) = nI h) (hB : nB (xn x b)) (h1 : x (6571 * b + (143 + i)) = nI 1) (h2 : x (6571 * b + (151 + i)) = nI lt) (h3 : x (6571 * b + 1) = nI kp) (h4 : x (6571 * b + 5) = nI ck) (b1 : lt ≤ 9999) (b2 : kp ≤ 999) (b3 : ck ≤ 9999) :
    f_X9_lapses_L4_7 (nI b) K (n + 1) c (nI i) (mo sm x) = if lt + kp < ck then f_X9_lapses_L4_7 (nI b) K n (c + nI 1) (nI (i + 1)) (mo sm (lapX x b h i)) else f_X9_lapses_L4_7 (nI b) K n c (nI (i + 1)) (mo sm x) := by
  have c1 := r_lives sm x hb hi
  simp only [h1, decide_true] at c1
  have g1 := r_get sm x (b := b) (i := 151 + i) hb (by omega)
  have g2 := r_get sm x (b := b) (i := 1) hb (by omega)
  have g3 := r_get sm x (b := b) (i := 5) hb (by omega)
  rw [h2] at g1
  rw [h3] at g2
  rw [h4] at g3
  by_cases q : lt + kp < ck
  · have e1 := fun K => r_clo sm x K hb hh he hi hB
    have e2 := fun K => r_fl sm (clo x b i 81 (fun q => J (xn x b) h i (q / 9) (q % 9))) (xn x b) K hb hi (fun j hj => by rw [clo_xn j hj]; exact hB j hj) (fun j hj => clo_xn j hj)
    have e3 := fun K => r_nz sm (flX (clo x b i 81 (fun q => J (xn x b) h i (q / 9) (q % 9))) (xn x b) b i 2) K hb hi
    have e4 := r_set sm (lapY x b h i) (b := b) (i := 143 + i) (nI 0) hb (by omega)
    have e5 := r_more sm (upd (lapY x b h i) (6571 * b + (143 + i)) (nI 0)) (b := b) (i := 159 + i) (nI 1) hb (by omega)
    have e6 := r_more sm (upd (upd (lapY x b h i) (6571 * b + (143 + i)) (nI 0)) (6571 * b + (159 + i)) (upd (lapY x b h i) (6571 * b + (143 + i)) (nI 0) (6571 * b + (159 + i)) + nI 1)) (b := b) (i := 8) (nI 1) hb (by omega)
    have e7 : upd (upd (upd (lapY x b h i) (6571 * b + (143 + i)) (nI 0)) (6571 * b + (159 + i)) (upd (lapY x b h i) (6571 * b + (143 + i)) (nI 0) (6571 * b + (159 + i)) + nI 1)) (6571 * b + 8) (upd (upd (lapY x b h i) (6571 * b + (143 + i)) (nI 0)) (6571 * b + (159 + i)) (upd (lapY x b h i) (6571 * b + (143 + i)) (nI 0) (6571 * b + (159 + i)) + nI 1) (6571 * b + 8) + nI 1) = lapX x b h i := by
      unfold lapX
      rw [un (show 6571 * b + (159 + i) ≠ 6571 * b + (143 + i) by omega), un (show 6571 * b + 8 ≠ 6571 * b + (159 + i) by omega), un (show 6571 * b + 8 ≠ 6571 * b + (143 + i) by omega)]
    rw [e7] at e6
    rw [if_pos q, f_X9_lapses_L4_7]
    refine (if_neg (nI_ge hi (by omega))).trans (eb c1 ((if_neg b10).trans ?_))
    have i1 : (151 : Int32) + nI i = nI (151 + i) := nI_add 151 i
    have i2 : (143 : Int32) + nI i = nI (143 + i) := nI_add 143 i
    have i3 : (159 : Int32) + nI i = nI (159 + i) := nI_add 159 i
    have i4 : nI i + (1 : Int32) = nI (i + 1) := nI_1 i
    rw [i1, i2, i3, i4]
    refine eb g1 (eb g2 (eb g3 ((if_pos ?_).trans (eg ((e1 _).trans (eg ((e2 _).trans (eg ((e3 _).trans ?_)))))))))
    · rw [nI_add]
      exact nI_lt q (by omega)
    · exact eb e4 (eb e5 (eb e6 rfl))
  · rw [if_neg q]
    simp (disch := omega) only [li_0, li_1, li_2, li_3, li_4, li_5, li_6, li_7, li_8, li_9, li_10, li_11, li_12, li_13, li_14, li_15, li_16, li_20, li_30, li_31, li_32, li_40, li_42, li_45, li_48, li_57, li_58, li_59, li_60, li_64, li_74, li_75, li_81, li_97, li_122, li_124, li_143, li_151, li_159, li_167, li_175, li_200, li_255, li_648, li_650, li_823, li_900, li_999, li_1123, li_1298, li_1363, li_1379, li_2592, li_6571, li_9999, li_65536, li_65537, ng1, ng2, nI_add, pk_mul, remN, divN, inbI, ixN, leN, ltN, eqN, m1E, m1E', m2E, m12, m21, bsm, glE, b2iT, b2iF, if_pos, if_neg, ite_true, ite_false, not_true, not_false_iff, reduceCtorEq, f_X9_lapses_L4_7, c1, g1, g2, g3]
