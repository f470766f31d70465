/-! another way of joining, on both sides -/
def eA (nt : Nat → Int32) (h g k : Nat) (sg : Int32) (q n : Nat) : Int32 := itr (fun s a => a + (if (outB h s && (!outB g s && !hsB nt (1 - s) k)) = true then dO nt s k sg q 8 else nI 0)) (nI 0) n
theorem r_exch (sm : MoT) (x : Nat → Int32) {h g k s : Nat} (sg : Int32) (hh : h < 4) (hg : g < 4) (hs : s < 2) (hk : k < 8) (hB : nB (xn x 0)) : f_X9_exchanges (mo sm x) (nI k) (nI s) (nI h) (nI g) sg = rA (outB h s && (!outB g s && !hsB (xn x 0) (1 - s) k)) (mo sm x) (nI 0) (nI s) (nI k) sg := by
  have o1 := r_out h hh s hs
  have o2 := r_out g hg s hs
  have s1 := oneSub s hs
  have t1 := r_has sm x (show 0 < 3 by omega) (show 1 - s < 2 by omega) hk hB
  unfold f_X9_exchanges rA
  cases e1 : outB h s <;> rw [e1] at o1
  · simp (disch := omega) only [li_0, li_1, li_2, li_3, li_4, li_5, li_6, li_7, li_8, li_9, li_10, li_11, li_12, li_13, li_14, li_15, li_16, li_20, li_30, li_31, li_32, li_40, li_42, li_45, li_48, li_57, li_58, li_59, li_60, li_64, li_74, li_75, li_81, li_97, li_122, li_124, li_143, li_151, li_159, li_167, li_175, li_200, li_255, li_648, li_650, li_823, li_900, li_999, li_1123, li_1298, li_1363, li_1379, li_2592, li_6571, li_9999, li_65536, li_65537, ng1, ng2, nI_add, pk_mul, remN, divN, inbI, ixN, leN, ltN, eqN, m1E, m1E', m2E, m12, m21, bsm, glE, b2iT, b2iF, if_pos, if_neg, ite_true, ite_false, not_true, not_false_iff, reduceCtorEq, o1]
    rfl
  · cases e2 : outB g s <;> rw [e2] at o2
    · cases e3 : hsB (xn x 0) (1 - s) k <;> rw [e3] at t1
      · simp (disch := omega) only [li_0, li_1, li_2, li_3, li_4, li_5, li_6, li_7, li_8, li_9, li_10, li_11, li_12, li_13, li_14, li_15, li_16, li_20, li_30, li_31, li_32, li_40, li_42, li_45, li_48, li_57, li_58, li_59, li_60, li_64, li_74, li_75, li_81, li_97, li_122, li_124, li_143, li_151, li_159, li_167, li_175, li_200, li_255, li_648, li_650, li_823, li_900, li_999, li_1123, li_1298, li_1363, li_1379, li_2592, li_6571, li_9999, li_65536, li_65537, ng1, ng2, nI_add, pk_mul, remN, divN, inbI, ixN, leN, ltN, eqN, m1E, m1E', m2E, m12, m21, bsm, glE, b2iT, b2iF, if_pos, if_neg, ite_true, ite_false, not_true, not_false_iff, reduceCtorEq, o1, o2, s1, t1]
        cases f_X9_sendsOuter (mo sm x) (nI 0) (nI s) (nI k) sg <;> rfl
      · simp (disch := omega) only [li_0, li_1, li_2, li_3, li_4, li_5, li_6, li_7, li_8, li_9, li_10, li_11, li_12, li_13, li_14, li_15, li_16, li_20, li_30, li_31, li_32, li_40, li_42, li_45, li_48, li_57, li_58, li_59, li_60, li_64, li_74, li_75, li_81, li_97, li_122, li_124, li_143, li_151, li_159, li_167, li_175, li_200, li_255, li_648, li_650, li_823, li_900, li_999, li_1123, li_1298, li_1363, li_1379, li_2592, li_6571, li_9999, li_65536, li_65537, ng1, ng2, nI_add, pk_mul, remN, divN, inbI, ixN, leN, ltN, eqN, m1E, m1E', m2E, m12, m21, bsm, glE, b2iT, b2iF, if_pos, if_neg, ite_true, ite_false, not_true, not_false_iff, reduceCtorEq, o1, o2, s1, t1]
        rfl
    · simp (disch := omega) only [li_0, li_1, li_2, li_3, li_4, li_5, li_6, li_7, li_8, li_9, li_10, li_11, li_12, li_13, li_14, li_15, li_16, li_20, li_30, li_31, li_32, li_40, li_42, li_45, li_48, li_57, li_58, li_59, li_60, li_64, li_74, li_75, li_81, li_97, li_122, li_124, li_143, li_151, li_159, li_167, li_175, li_200, li_255, li_648, li_650, li_823, li_900, li_999, li_1123, li_1298, li_1363, li_1379, li_2592, li_6571, li_9999, li_65536, li_65537, ng1, ng2, nI_add, pk_mul, remN, divN, inbI, ixN, leN, ltN, eqN, m1E, m1E', m2E, m12, m21, bsm, glE, b2iT, b2iF, if_pos, if_neg, ite_true, ite_false, not_true, not_false_iff, reduceCtorEq, o1, o2]
      rfl
theorem exA {h g k T0 T m0 : Nat} {am : Int32} {bd0 bd : BdT} {x0 x D : Nat → Int32} {sm : MoT} {Kc : BdT → Option BdT} {Kr : MoT → Option (Int32 × MoT)} (hh : h < 4) (hg : g < 4) (hhow : Bd_how bd0 = nI h) (hk : k < 8) (hT : T + 16 < 2147483647) (hm : m0 < 2147483648) (hN : ∀ i, i < 128 → Bd_nets bd0 i = xn x0 0 i) (hB : nB (Bd_nets bd0)) (hS : SI 0 bd0 x0 T0 m0 am bd x T D)
    : ∃ bd' x' T', f_X0_exchangeOuters_L2_23 (nI k) (nI g) Kc 10000 0 bd = Kc bd' ∧ f_X9_how_L89_40 (nI g) (nI h) (nI k) Kr 10000 0 (mo sm x) = Kr (mo sm x') ∧ T ≤ T' ∧ T' ≤ T + 16 ∧ SI 0 bd0 x0 T0 m0 am bd' x' T' (fun q => D q + eA (Bd_nets bd0) h g k m1 q 2) := by
  rw [li_0]
  refine lpp (L := fun n i s => f_X0_exchangeOuters_L2_23 (nI k) (nI g) Kc n i s) (M := fun n i t => f_X9_how_L89_40 (nI g) (nI h) (nI k) Kr n i t) 2
    (fun i s t => ∃ x' T', t = mo sm x' ∧ T ≤ T' ∧ T' ≤ T + 8 * i ∧ SI 0 bd0 x0 T0 m0 am s x' T' (fun q => D q + eA (Bd_nets bd0) h g k m1 q i)) (fun o q => ∃ bd' x' T', o = Kc bd' ∧ q = Kr (mo sm x') ∧ T ≤ T' ∧ T' ≤ T + 16 ∧ SI 0 bd0 x0 T0 m0 am bd' x' T' _) ?_ ?_ 10000 10000 0 bd (mo sm x) (by omega) (by omega) (by omega) ⟨x, T, rfl, by omega, by omega, ?_⟩
  · rintro n n2 s t ⟨x', T', rfl, h1, h2, h3⟩
    refine ⟨s, x', T', ?_, ?_, h1, by omega, h3⟩
    · simp (disch := omega) only [li_0, li_1, li_2, li_3, li_4, li_5, li_6, li_7, li_8, li_9, li_10, li_11, li_12, li_13, li_14, li_15, li_16, li_20, li_30, li_31, li_32, li_40, li_42, li_45, li_48, li_57, li_58, li_59, li_60, li_64, li_74, li_75, li_81, li_97, li_122, li_124, li_143, li_151, li_159, li_167, li_175, li_200, li_255, li_648, li_650, li_823, li_900, li_999, li_1123, li_1298, li_1363, li_1379, li_2592, li_6571, li_9999, li_65536, li_65537, ng1, ng2, nI_add, pk_mul, remN, divN, inbI, ixN, leN, ltN, eqN, m1E, m1E', m2E, m12, m21, bsm, glE, b2iT, b2iF, if_pos, if_neg, ite_true, ite_false, not_true, not_false_iff, reduceCtorEq, f_X0_exchangeOuters_L2_23]
    · simp (disch := omega) only [li_0, li_1, li_2, li_3, li_4, li_5, li_6, li_7, li_8, li_9, li_10, li_11, li_12, li_13, li_14, li_15, li_16, li_20, li_30, li_31, li_32, li_40, li_42, li_45, li_48, li_57, li_58, li_59, li_60, li_64, li_74, li_75, li_81, li_97, li_122, li_124, li_143, li_151, li_159, li_167, li_175, li_200, li_255, li_648, li_650, li_823, li_900, li_999, li_1123, li_1298, li_1363, li_1379, li_2592, li_6571, li_9999, li_65536, li_65537, ng1, ng2, nI_add, pk_mul, remN, divN, inbI, ixN, leN, ltN, eqN, m1E, m1E', m2E, m12, m21, bsm, glE, b2iT, b2iF, if_pos, if_neg, ite_true, ite_false, not_true, not_false_iff, reduceCtorEq, f_X9_how_L89_40]
  · rintro n n2 i s t hi ⟨x', T', rfl, h1, h2, h3⟩
    have hx : ∀ j, j < 128 → xn x' 0 j = Bd_nets bd0 j := fun j hj => (fr_xn h3.2.2.2.2.1 j hj).trans (hN j hj).symm
    obtain ⟨bd', sm', o1, o2, x'', T'', rfl, p1, p2, p3⟩ := stage2 (outB h i && (!outB g i && !hsB (Bd_nets bd0) (1 - i) k)) sm m1 (show 0 < 3 by omega) hi hk (by omega) hm hN h3
    have r1 := r_exch sm x' m1 hh hg hi hk (fun j hj => by rw [hx j hj]; exact hB j hj)
    rw [hsB_congr (by omega) hk hx, o2] at r1
    refine ⟨bd', mo sm x'', ⟨x'', T'', rfl, by omega, by omega, ?_⟩, ?_, ?_⟩
    · have e : (fun q => D q + eA (Bd_nets bd0) h g k m1 q (i + 1)) = (fun q => D q + eA (Bd_nets bd0) h g k m1 q i + (if (outB h i && (!outB g i && !hsB (Bd_nets bd0) (1 - i) k)) = true then dO (Bd_nets bd0) i k m1 q 8 else nI 0)) := by
        funext q
        rw [Int32.add_assoc]
        rfl
      rw [e]
      exact p3
    · have c1 : f_X0_hasOuter (Bd_how s) (nI i) = some (b2i (outB h i)) := by rw [h3.2.2.1, hhow, c_out h hh i hi]
      have c2 := c_out g hg i hi
      have c3 : f_X0_has s (nI (1 - i)) (nI k) = some (b2i (hsB (Bd_nets bd0) (1 - i) k)) := by rw [c_has s (by omega) hk, h3.1]
      have s1 := oneSub i hi
      unfold cA at o1
      cases e1 : outB h i <;> rw [e1] at c1 o1
      · cases o1
        simp (disch := omega) only [li_0, li_1, li_2, li_3, li_4, li_5, li_6, li_7, li_8, li_9, li_10, li_11, li_12, li_13, li_14, li_15, li_16, li_20, li_30, li_31, li_32, li_40, li_42, li_45, li_48, li_57, li_58, li_59, li_60, li_64, li_74, li_75, li_81, li_97, li_122, li_124, li_143, li_151, li_159, li_167, li_175, li_200, li_255, li_648, li_650, li_823, li_900, li_999, li_1123, li_1298, li_1363, li_1379, li_2592, li_6571, li_9999, li_65536, li_65537, ng1, ng2, nI_add, pk_mul, remN, divN, inbI, ixN, leN, ltN, eqN, m1E, m1E', m2E, m12, m21, bsm, glE, b2iT, b2iF, if_pos, if_neg, ite_true, ite_false, not_true, not_false_iff, reduceCtorEq, f_X0_exchangeOuters_L2_23, c1]
      · cases e2 : outB g i <;> rw [e2] at c2 o1
        · cases e3 : hsB (Bd_nets bd0) (1 - i) k <;> rw [e3] at c3 o1
          · have o1 : f_X0_sendOuters s (nI i) (nI k) m1 = some bd' := o1
            simp (disch := omega) only [li_0, li_1, li_2, li_3, li_4, li_5, li_6, li_7, li_8, li_9, li_10, li_11, li_12, li_13, li_14, li_15, li_16, li_20, li_30, li_31, li_32, li_40, li_42, li_45, li_48, li_57, li_58, li_59, li_60, li_64, li_74, li_75, li_81, li_97, li_122, li_124, li_143, li_151, li_159, li_167, li_175, li_200, li_255, li_648, li_650, li_823, li_900, li_999, li_1123, li_1298, li_1363, li_1379, li_2592, li_6571, li_9999, li_65536, li_65537, ng1, ng2, nI_add, pk_mul, remN, divN, inbI, ixN, leN, ltN, eqN, m1E, m1E', m2E, m12, m21, bsm, glE, b2iT, b2iF, if_pos, if_neg, ite_true, ite_false, not_true, not_false_iff, reduceCtorEq, f_X0_exchangeOuters_L2_23, c1, c2, s1, c3, o1]
          · cases o1
            simp (disch := omega) only [li_0, li_1, li_2, li_3, li_4, li_5, li_6, li_7, li_8, li_9, li_10, li_11, li_12, li_13, li_14, li_15, li_16, li_20, li_30, li_31, li_32, li_40, li_42, li_45, li_48, li_57, li_58, li_59, li_60, li_64, li_74, li_75, li_81, li_97, li_122, li_124, li_143, li_151, li_159, li_167, li_175, li_200, li_255, li_648, li_650, li_823, li_900, li_999, li_1123, li_1298, li_1363, li_1379, li_2592, li_6571, li_9999, li_65536, li_65537, ng1, ng2, nI_add, pk_mul, remN, divN, inbI, ixN, leN, ltN, eqN, m1E, m1E', m2E, m12, m21, bsm, glE, b2iT, b2iF, if_pos, if_neg, ite_true, ite_false, not_true, not_false_iff, reduceCtorEq, f_X0_exchangeOuters_L2_23, c1, c2, s1, c3]
        · cases o1
          simp (disch := omega) only [li_0, li_1, li_2, li_3, li_4, li_5, li_6, li_7, li_8, li_9, li_10, li_11, li_12, li_13, li_14, li_15, li_16, li_20, li_30, li_31, li_32, li_40, li_42, li_45, li_48, li_57, li_58, li_59, li_60, li_64, li_74, li_75, li_81, li_97, li_122, li_124, li_143, li_151, li_159, li_167, li_175, li_200, li_255, li_648, li_650, li_823, li_900, li_999, li_1123, li_1298, li_1363, li_1379, li_2592, li_6571, li_9999, li_65536, li_65537, ng1, ng2, nI_add, pk_mul, remN, divN, inbI, ixN, leN, ltN, eqN, m1E, m1E', m2E, m12, m21, bsm, glE, b2iT, b2iF, if_pos, if_neg, ite_true, ite_false, not_true, not_false_iff, reduceCtorEq, f_X0_exchangeOuters_L2_23, c1, c2]
    · simp (disch := omega) only [li_0, li_1, li_2, li_3, li_4, li_5, li_6, li_7, li_8, li_9, li_10, li_11, li_12, li_13, li_14, li_15, li_16, li_20, li_30, li_31, li_32, li_40, li_42, li_45, li_48, li_57, li_58, li_59, li_60, li_64, li_74, li_75, li_81, li_97, li_122, li_124, li_143, li_151, li_159, li_167, li_175, li_200, li_255, li_648, li_650, li_823, li_900, li_999, li_1123, li_1298, li_1363, li_1379, li_2592, li_6571, li_9999, li_65536, li_65537, ng1, ng2, nI_add, pk_mul, remN, divN, inbI, ixN, leN, ltN, eqN, m1E, m1E', m2E, m12, m21, bsm, glE, b2iT, b2iF, if_pos, if_neg, ite_true, ite_false, not_true, not_false_iff, reduceCtorEq, f_X9_how_L89_40, r1]
  · have e : (fun q => D q + eA (Bd_nets bd0) h g k m1 q 0) = D := by
      funext q
      exact Int32.add_zero (D q)
    rw [e]
    exact hS
theorem exB {h g k T0 T m0 : Nat} {am : Int32} {bd0 bd : BdT} {x0 x D : Nat → Int32} {sm : MoT} {Kc : BdT → Option BdT} {Kr : MoT → Option (Int32 × MoT)} (hh : h < 4) (hg : g < 4) (hhow : Bd_how bd0 = nI h) (hk : k < 8) (hT : T + 16 < 2147483647) (hm : m0 < 2147483648) (hN : ∀ i, i < 128 → Bd_nets bd0 i = xn x0 0 i) (hB : nB (Bd_nets bd0)) (hS : SI 0 bd0 x0 T0 m0 am bd x T D)
    : ∃ bd' x' T', f_X0_exchangeOuters_L52_7 (nI k) (nI g) Kc 10000 0 bd = Kc bd' ∧ f_X9_how_L115_33 (nI g) (nI h) (nI k) Kr 10000 0 (mo sm x) = Kr (mo sm x') ∧ T ≤ T' ∧ T' ≤ T + 16 ∧ SI 0 bd0 x0 T0 m0 am bd' x' T' (fun q => D q + eA (Bd_nets bd0) g h k (nI 1) q 2) := by
  rw [li_0]
  refine lpp (L := fun n i s => f_X0_exchangeOuters_L52_7 (nI k) (nI g) Kc n i s) (M := fun n i t => f_X9_how_L115_33 (nI g) (nI h) (nI k) Kr n i t) 2
    (fun i s t => ∃ x' T', t = mo sm x' ∧ T ≤ T' ∧ T' ≤ T + 8 * i ∧ SI 0 bd0 x0 T0 m0 am s x' T' (fun q => D q + eA (Bd_nets bd0) g h k (nI 1) q i)) (fun o q => ∃ bd' x' T', o = Kc bd' ∧ q = Kr (mo sm x') ∧ T ≤ T' ∧ T' ≤ T + 16 ∧ SI 0 bd0 x0 T0 m0 am bd' x' T' _) ?_ ?_ 10000 10000 0 bd (mo sm x) (by omega) (by omega) (by omega) ⟨x, T, rfl, by omega, by omega, ?_⟩
  · rintro n n2 s t ⟨x', T', rfl, h1, h2, h3⟩
    refine ⟨s, x', T', ?_, ?_, h1, by omega, h3⟩
    · simp (disch := omega) only [li_0, li_1, li_2, li_3, li_4, li_5, li_6, li_7, li_8, li_9, li_10, li_11, li_12, li_13, li_14, li_15, li_16, li_20, li_30, li_31, li_32, li_40, li_42, li_45, li_48, li_57, li_58, li_59, li_60, li_64, li_74, li_75, li_81, li_97, li_122, li_124, li_143, li_151, li_159, li_167, li_175, li_200, li_255, li_648, li_650, li_823, li_900, li_999, li_1123, li_1298, li_1363, li_1379, li_2592, li_6571, li_9999, li_65536, li_65537, ng1, ng2, nI_add, pk_mul, remN, divN, inbI, ixN, leN, ltN, eqN, m1E, m1E', m2E, m12, m21, bsm, glE, b2iT, b2iF, if_pos, if_neg, ite_true, ite_false, not_true, not_false_iff, reduceCtorEq, f_X0_exchangeOuters_L52_7]
    · simp (disch := omega) only [li_0, li_1, li_2, li_3, li_4, li_5, li_6, li_7, li_8, li_9, li_10, li_11, li_12, li_13, li_14, li_15, li_16, li_20, li_30, li_31, li_32, li_40, li_42, li_45, li_48, li_57, li_58, li_59, li_60, li_64, li_74, li_75, li_81, li_97, li_122, li_124, li_143, li_151, li_159, li_167, li_175, li_200, li_255, li_648, li_650, li_823, li_900, li_999, li_1123, li_1298, li_1363, li_1379, li_2592, li_6571, li_9999, li_65536, li_65537, ng1, ng2, nI_add, pk_mul, remN, divN, inbI, ixN, leN, ltN, eqN, m1E, m1E', m2E, m12, m21, bsm, glE, b2iT, b2iF, if_pos, if_neg, ite_true, ite_false, not_true, not_false_iff, reduceCtorEq, f_X9_how_L115_33]
  · rintro n n2 i s t hi ⟨x', T', rfl, h1, h2, h3⟩
    have hx : ∀ j, j < 128 → xn x' 0 j = Bd_nets bd0 j := fun j hj => (fr_xn h3.2.2.2.2.1 j hj).trans (hN j hj).symm
    obtain ⟨bd', sm', o1, o2, x'', T'', rfl, p1, p2, p3⟩ := stage2 (outB g i && (!outB h i && !hsB (Bd_nets bd0) (1 - i) k)) sm (nI 1) (show 0 < 3 by omega) hi hk (by omega) hm hN h3
    have r1 := r_exch sm x' (nI 1) hg hh hi hk (fun j hj => by rw [hx j hj]; exact hB j hj)
    rw [hsB_congr (by omega) hk hx, o2] at r1
    refine ⟨bd', mo sm x'', ⟨x'', T'', rfl, by omega, by omega, ?_⟩, ?_, ?_⟩
    · have e : (fun q => D q + eA (Bd_nets bd0) g h k (nI 1) q (i + 1)) = (fun q => D q + eA (Bd_nets bd0) g h k (nI 1) q i + (if (outB g i && (!outB h i && !hsB (Bd_nets bd0) (1 - i) k)) = true then dO (Bd_nets bd0) i k (nI 1) q 8 else nI 0)) := by
        funext q
        rw [Int32.add_assoc]
        rfl
      rw [e]
      exact p3
    · have c1 : f_X0_hasOuter (Bd_how s) (nI i) = some (b2i (outB h i)) := by rw [h3.2.2.1, hhow, c_out h hh i hi]
      have c2 := c_out g hg i hi
      have c3 : f_X0_has s (nI (1 - i)) (nI k) = some (b2i (hsB (Bd_nets bd0) (1 - i) k)) := by rw [c_has s (by omega) hk, h3.1]
      have s1 := oneSub i hi
      unfold cA at o1
      cases e1 : outB g i <;> rw [e1] at c2 o1
      · cases o1
        cases e2 : outB h i <;> rw [e2] at c1
        · simp (disch := omega) only [li_0, li_1, li_2, li_3, li_4, li_5, li_6, li_7, li_8, li_9, li_10, li_11, li_12, li_13, li_14, li_15, li_16, li_20, li_30, li_31, li_32, li_40, li_42, li_45, li_48, li_57, li_58, li_59, li_60, li_64, li_74, li_75, li_81, li_97, li_122, li_124, li_143, li_151, li_159, li_167, li_175, li_200, li_255, li_648, li_650, li_823, li_900, li_999, li_1123, li_1298, li_1363, li_1379, li_2592, li_6571, li_9999, li_65536, li_65537, ng1, ng2, nI_add, pk_mul, remN, divN, inbI, ixN, leN, ltN, eqN, m1E, m1E', m2E, m12, m21, bsm, glE, b2iT, b2iF, if_pos, if_neg, ite_true, ite_false, not_true, not_false_iff, reduceCtorEq, f_X0_exchangeOuters_L52_7, c1, c2]
        · simp (disch := omega) only [li_0, li_1, li_2, li_3, li_4, li_5, li_6, li_7, li_8, li_9, li_10, li_11, li_12, li_13, li_14, li_15, li_16, li_20, li_30, li_31, li_32, li_40, li_42, li_45, li_48, li_57, li_58, li_59, li_60, li_64, li_74, li_75, li_81, li_97, li_122, li_124, li_143, li_151, li_159, li_167, li_175, li_200, li_255, li_648, li_650, li_823, li_900, li_999, li_1123, li_1298, li_1363, li_1379, li_2592, li_6571, li_9999, li_65536, li_65537, ng1, ng2, nI_add, pk_mul, remN, divN, inbI, ixN, leN, ltN, eqN, m1E, m1E', m2E, m12, m21, bsm, glE, b2iT, b2iF, if_pos, if_neg, ite_true, ite_false, not_true, not_false_iff, reduceCtorEq, f_X0_exchangeOuters_L52_7, c1]
      · cases e2 : outB h i <;> rw [e2] at c1 o1
        · cases e3 : hsB (Bd_nets bd0) (1 - i) k <;> rw [e3] at c3 o1
          · have o1 : f_X0_sendOuters s (nI i) (nI k) (nI 1) = some bd' := o1
            simp (disch := omega) only [li_0, li_1, li_2, li_3, li_4, li_5, li_6, li_7, li_8, li_9, li_10, li_11, li_12, li_13, li_14, li_15, li_16, li_20, li_30, li_31, li_32, li_40, li_42, li_45, li_48, li_57, li_58, li_59, li_60, li_64, li_74, li_75, li_81, li_97, li_122, li_124, li_143, li_151, li_159, li_167, li_175, li_200, li_255, li_648, li_650, li_823, li_900, li_999, li_1123, li_1298, li_1363, li_1379, li_2592, li_6571, li_9999, li_65536, li_65537, ng1, ng2, nI_add, pk_mul, remN, divN, inbI, ixN, leN, ltN, eqN, m1E, m1E', m2E, m12, m21, bsm, glE, b2iT, b2iF, if_pos, if_neg, ite_true, ite_false, not_true, not_false_iff, reduceCtorEq, f_X0_exchangeOuters_L52_7, c1, c2, s1, c3, o1]
          · cases o1
            simp (disch := omega) only [li_0, li_1, li_2, li_3, li_4, li_5, li_6, li_7, li_8, li_9, li_10, li_11, li_12, li_13, li_14, li_15, li_16, li_20, li_30, li_31, li_32, li_40, li_42, li_45, li_48, li_57, li_58, li_59, li_60, li_64, li_74, li_75, li_81, li_97, li_122, li_124, li_143, li_151, li_159, li_167, li_175, li_200, li_255, li_648, li_650, li_823, li_900, li_999, li_1123, li_1298, li_1363, li_1379, li_2592, li_6571, li_9999, li_65536, li_65537, ng1, ng2, nI_add, pk_mul, remN, divN, inbI, ixN, leN, ltN, eqN, m1E, m1E', m2E, m12, m21, bsm, glE, b2iT, b2iF, if_pos, if_neg, ite_true, ite_false, not_true, not_false_iff, reduceCtorEq, f_X0_exchangeOuters_L52_7, c1, c2, s1, c3]
        · cases o1
          simp (disch := omega) only [li_0, li_1, li_2, li_3, li_4, li_5, li_6, li_7, li_8, li_9, li_10, li_11, li_12, li_13, li_14, li_15, li_16, li_20, li_30, li_31, li_32, li_40, li_42, li_45, li_48, li_57, li_58, li_59, li_60, li_64, li_74, li_75, li_81, li_97, li_122, li_124, li_143, li_151, li_159, li_167, li_175, li_200, li_255, li_648, li_650, li_823, li_900, li_999, li_1123, li_1298, li_1363, li_1379, li_2592, li_6571, li_9999, li_65536, li_65537, ng1, ng2, nI_add, pk_mul, remN, divN, inbI, ixN, leN, ltN, eqN, m1E, m1E', m2E, m12, m21, bsm, glE, b2iT, b2iF, if_pos, if_neg, ite_true, ite_false, not_true, not_false_iff, reduceCtorEq, f_X0_exchangeOuters_L52_7, c1]
    · simp (disch := omega) only [li_0, li_1, li_2, li_3, li_4, li_5, li_6, li_7, li_8, li_9, li_10, li_11, li_12, li_13, li_14, li_15, li_16, li_20, li_30, li_31, li_32, li_40, li_42, li_45, li_48, li_57, li_58, li_59, li_60, li_64, li_74, li_75, li_81, li_97, li_122, li_124, li_143, li_151, li_159, li_167, li_175, li_200, li_255, li_648, li_650, li_823, li_900, li_999, li_1123, li_1298, li_1363, li_1379, li_2592, li_6571, li_9999, li_65536, li_65537, ng1, ng2, nI_add, pk_mul, remN, divN, inbI, ixN, leN, ltN, eqN, m1E, m1E', m2E, m12, m21, bsm, glE, b2iT, b2iF, if_pos, if_neg, ite_true, ite_false, not_true, not_false_iff, reduceCtorEq, f_X9_how_L115_33, r1]
  · have e : (fun q => D q + eA (Bd_nets bd0) g h k (nI 1) q 0) = D := by
      funext q
      exact Int32.add_zero (D q)
    rw [e]
    exact hS
theorem eA_J {nt : Nat → Int32} {h g k k' l r : Nat} (hk : k < 8) (hk' : k' < 8) (hl : l < 9) (hr : r < 9) :
    eA nt h g k m1 (81 * k' + 9 * l + r) 2 + eA nt g h k (nI 1) (81 * k' + 9 * l + r) 2 = if k' = k then J nt g k' l r - J nt h k' l r else nI 0 := by
  show (nI 0 + (if (outB h 0 && (!outB g 0 && !hsB nt 1 k)) = true then dO nt 0 k m1 (81 * k' + 9 * l + r) 8 else nI 0) + (if (outB h 1 && (!outB g 1 && !hsB nt 0 k)) = true then dO nt 1 k m1 (81 * k' + 9 * l + r) 8 else nI 0))
    + (nI 0 + (if (outB g 0 && (!outB h 0 && !hsB nt 1 k)) = true then dO nt 0 k (nI 1) (81 * k' + 9 * l + r) 8 else nI 0) + (if (outB g 1 && (!outB h 1 && !hsB nt 0 k)) = true then dO nt 1 k (nI 1) (81 * k' + 9 * l + r) 8 else nI 0)) = _
  by_cases e : k' = k
  · subst e
    rw [if_pos rfl]
    unfold J
    by_cases hl8 : l < 8
    · rw [dO_0 (sd := 1) (fun w hw => by unfold pl; simp; omega), dO_0 (sd := 1) (fun w hw => by unfold pl; simp; omega)]
      by_cases hr8 : r < 8
      · rw [dO_0 (sd := 0) (fun w hw => by unfold pl; simp; omega), dO_0 (sd := 0) (fun w hw => by unfold pl; simp; omega)]
        simp only [ite_self, z1, if_pos hl8, if_pos hr8, z3]
      · have : r = 8 := by omega
        subst this
        rw [dO_1 (w0 := l) (sd := 0) hl8 (by unfold pl; simp) (fun w hw => by unfold pl; simp; omega), dO_1 (w0 := l) (sd := 0) hl8 (by unfold pl; simp) (fun w hw => by unfold pl; simp; omega), z5, z6]
        simp only [ite_self, z1, z2, if_pos hl8, if_neg hr8]
        cases outB h 0 <;> cases outB g 0 <;> cases hsB nt 1 k' <;> simp [z1, z2, z3, z4] <;> rfl
    · have : l = 8 := by omega
      subst this
      rw [dO_0 (sd := 0) (fun w hw => by unfold pl; simp; omega), dO_0 (sd := 0) (fun w hw => by unfold pl; simp; omega)]
      by_cases hr8 : r < 8
      · rw [dO_1 (w0 := r) (sd := 1) hr8 (by unfold pl; simp) (fun w hw => by unfold pl; simp; omega), dO_1 (w0 := r) (sd := 1) hr8 (by unfold pl; simp) (fun w hw => by unfold pl; simp; omega), z5, z6]
        simp only [ite_self, z1, z2, if_neg hl8, if_pos hr8]
        cases outB h 1 <;> cases outB g 1 <;> cases hsB nt 0 k' <;> simp [z1, z2, z3, z4] <;> rfl
      · rw [dO_0 (sd := 1) (fun w hw => by unfold pl; simp; omega), dO_0 (sd := 1) (fun w hw => by unfold pl; simp; omega)]
        simp only [ite_self, z1, if_neg hl8, if_neg hr8, z3]
  · rw [if_neg e, dO_0 (sd := 0) (fun w hw => by unfold pl; simp; omega), dO_0 (sd := 1) (fun w hw => by unfold pl; simp; omega), dO_0 (sd := 0) (fun w hw => by unfold pl; simp; omega), dO_0 (sd := 1) (fun w hw => by unfold pl; simp; omega)]
    simp only [ite_self, z1]
