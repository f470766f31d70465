/-! a change of a net, and what it sends, on both sides -/
def dO (nt : Nat → Int32) (sd k : Nat) (sg : Int32) (q n : Nat) : Int32 := itr (fun v a => a + (if q = pl sd k v 8 then sg * th nt sd k v else nI 0)) (nI 0) n
theorem fr_xn {b : Nat} {x0 x : Nat → Int32} (h : FrS b x0 x) : ∀ i, i < 128 → xn x b i = xn x0 b i := fun i hi => h _ (by omega)
theorem outers2 {b sd k T0 T m0 : Nat} {am : Int32} {bd0 bd : BdT} {x0 x D : Nat → Int32} (sm : MoT) (sg : Int32) (hb : b < 3) (hs : sd < 2) (hk : k < 8) (hT : T + 8 < 2147483647) (hm : m0 < 2147483648) (hN : ∀ i, i < 128 → Bd_nets bd0 i = xn x0 b i) (h : SI b bd0 x0 T0 m0 am bd x T D) :
    Ok2 (f_X0_sendOuters bd (nI sd) (nI k) sg) (f_X9_sendsOuter (mo sm x) (nI b) (nI sd) (nI k) sg)
      (fun bd' sm' => ∃ x' T', sm' = mo sm x' ∧ T ≤ T' ∧ T' ≤ T + 8 ∧ SI b bd0 x0 T0 m0 am bd' x' T' (fun q => D q + dO (Bd_nets bd0) sd k sg q 8)) := by
  unfold f_X0_sendOuters f_X9_sendsOuter
  simp only [glE, li_0, li_1, li_2, li_3, li_4, li_5, li_6, li_7, li_8, li_9, li_10, li_11, li_12, li_13, li_14, li_15, li_16, li_20, li_30, li_31, li_32, li_40, li_42, li_45, li_48, li_57, li_58, li_59, li_60, li_64, li_74, li_75, li_81, li_97, li_122, li_124, li_143, li_151, li_159, li_167, li_175, li_200, li_255, li_648, li_650, li_823, li_900, li_999, li_1123, li_1298, li_1363, li_1379, li_2592, li_6571, li_9999, li_65536, li_65537, ng1, ng2]
  refine lpp (L := fun n i s => f_X0_sendOuters_L3_5 (nI sd) (nI k) sg (fun s => some s) n i s) (M := fun n i t => f_X9_sendsOuter_L3_5 (nI b) (nI sd) (nI k) sg (fun s => some s) n i t) 8
    (fun i s t => ∃ x' T', t = mo sm x' ∧ T ≤ T' ∧ T' ≤ T + i ∧ SI b bd0 x0 T0 m0 am s x' T' (fun q => D q + dO (Bd_nets bd0) sd k sg q i)) (fun o q => Ok2 o q _) ?_ ?_ 10000 10000 0 bd (mo sm x) (by omega) (by omega) (by omega) ⟨x, T, rfl, by omega, by omega, ?_⟩
  · intro n n2 s t hI
    simp (disch := omega) only [li_0, li_1, li_2, li_3, li_4, li_5, li_6, li_7, li_8, li_9, li_10, li_11, li_12, li_13, li_14, li_15, li_16, li_20, li_30, li_31, li_32, li_40, li_42, li_45, li_48, li_57, li_58, li_59, li_60, li_64, li_74, li_75, li_81, li_97, li_122, li_124, li_143, li_151, li_159, li_167, li_175, li_200, li_255, li_648, li_650, li_823, li_900, li_999, li_1123, li_1298, li_1363, li_1379, li_2592, li_6571, li_9999, li_65536, li_65537, ng1, ng2, nI_add, pk_mul, remN, divN, inbI, ixN, leN, ltN, eqN, m1E, m1E', m2E, m12, m21, bsm, glE, b2iT, b2iF, if_pos, if_neg, ite_true, ite_false, not_true, not_false_iff, reduceCtorEq, f_X0_sendOuters_L3_5, f_X9_sendsOuter_L3_5]
    exact Ok2.ret hI
  · rintro n n2 i s t hi ⟨x', T', rfl, hT1, hT2, hS⟩
    obtain ⟨bd', sm', e1, e2, x'', T'', rfl, g1, g2, g3⟩ := send2 (k := k) (w := 8) sm (sg * th (Bd_nets bd0) sd k i) hb hs hk hi (by omega) (by omega) hm hS
    have t1 : f_X0_thereOf s (nI sd) (nI k) (nI i) = some (th (Bd_nets bd0) sd k i) := by rw [c_th s hs hk hi, hS.1]
    have t2 : f_X9_thereOf (mo sm x') (nI b) (nI sd) (nI k) (nI i) = some (th (Bd_nets bd0) sd k i) := by
      rw [r_th sm x' hb hs hk hi, th_congr hs hk (fun j hj => (fr_xn hS.2.2.2.2.1 j hj).trans (hN j hj).symm) i hi]
    refine ⟨bd', mo sm x'', ⟨x'', T'', rfl, by omega, by omega, ?_⟩, ?_, ?_⟩
    · have e : (fun q => D q + dO (Bd_nets bd0) sd k sg q (i + 1)) = (fun q => D q + dO (Bd_nets bd0) sd k sg q i + (if q = pl sd k i 8 then sg * th (Bd_nets bd0) sd k i else nI 0)) := by
        funext q
        rw [Int32.add_assoc]
        rfl
      rw [e]
      exact g3
    · rw [vN8] at e1
      simp (disch := omega) only [li_0, li_1, li_2, li_3, li_4, li_5, li_6, li_7, li_8, li_9, li_10, li_11, li_12, li_13, li_14, li_15, li_16, li_20, li_30, li_31, li_32, li_40, li_42, li_45, li_48, li_57, li_58, li_59, li_60, li_64, li_74, li_75, li_81, li_97, li_122, li_124, li_143, li_151, li_159, li_167, li_175, li_200, li_255, li_648, li_650, li_823, li_900, li_999, li_1123, li_1298, li_1363, li_1379, li_2592, li_6571, li_9999, li_65536, li_65537, ng1, ng2, nI_add, pk_mul, remN, divN, inbI, ixN, leN, ltN, eqN, m1E, m1E', m2E, m12, m21, bsm, glE, b2iT, b2iF, if_pos, if_neg, ite_true, ite_false, not_true, not_false_iff, reduceCtorEq, f_X0_sendOuters_L3_5, t1, e1]
    · simp (disch := omega) only [li_0, li_1, li_2, li_3, li_4, li_5, li_6, li_7, li_8, li_9, li_10, li_11, li_12, li_13, li_14, li_15, li_16, li_20, li_30, li_31, li_32, li_40, li_42, li_45, li_48, li_57, li_58, li_59, li_60, li_64, li_74, li_75, li_81, li_97, li_122, li_124, li_143, li_151, li_159, li_167, li_175, li_200, li_255, li_648, li_650, li_823, li_900, li_999, li_1123, li_1298, li_1363, li_1379, li_2592, li_6571, li_9999, li_65536, li_65537, ng1, ng2, nI_add, pk_mul, remN, divN, inbI, ixN, leN, ltN, eqN, m1E, m1E', m2E, m12, m21, bsm, glE, b2iT, b2iF, if_pos, if_neg, ite_true, ite_false, not_true, not_false_iff, reduceCtorEq, f_X9_sendsOuter_L3_5, t2, e2]
  · have e : (fun q => D q + dO (Bd_nets bd0) sd k sg q 0) = D := by
      funext q
      exact Int32.add_zero (D q)
    rw [e]
    exact h
theorem chL_K (p1 p2 p3 p4 r5 r11 : Int32) (K : MoT → Option MoT) : ∀ (n : Nat) (i : Int32) (s : MoT), f_X9_changes_L138_40 p1 p2 p3 p4 r5 r11 K n i s = (f_X9_changes_L138_40 p1 p2 p3 p4 r5 r11 (fun s => some s) n i s).bind K
  | 0, _, _ => rfl
  | n + 1, i, s => by
    rw [f_X9_changes_L138_40, f_X9_changes_L138_40]
    by_cases q : (8 : Int32) ≤ i
    · rw [if_pos q, if_pos q]; rfl
    · rw [if_neg q, if_neg q]
      cases f_X9_thereOf s p1 (1 - p2) p3 i with
      | none => rfl
      | some a =>
        simp only [bsm]
        cases f_X9_sendsBy s p1 p2 p3 p4 i ((r11 - r5) * a) with
        | none => rfl
        | some c =>
          simp only [bsm]
          exact chL_K p1 p2 p3 p4 r5 r11 K n _ c
def dR (nt : Nat → Int32) (h sd k v : Nat) (d : Int32) (q : Nat) : Int32 :=
  if hsB nt (1 - sd) k = true then itr (fun w a => a + (if q = pl sd k v w then d * th nt (1 - sd) k w else nI 0)) (nI 0) 8 else if outB h sd = true then (if q = pl sd k v 8 then d else nI 0) else nI 0
def rRow (s : MoT) (p1 p2 p3 p4 r1 r5 r11 r15 : Int32) : Option MoT :=
  if r15 = nI 0 then (f_X9_isOuter r1 p2).bind fun r31 => if r31 = nI 0 then some s else f_X9_sendsBy s p1 p2 p3 p4 (nI 8) (r11 - r5)
  else f_X9_changes_L138_40 p1 p2 p3 p4 r5 r11 (fun s => some s) 10000 (nI 0) s
theorem rows2 {b h sd k v T0 T m0 : Nat} {am : Int32} {bd0 bd : BdT} {x0 x D : Nat → Int32} (sm : MoT) (r5 r11 : Int32) (hb : b < 3) (hs : sd < 2) (hk : k < 8) (hv : v < 8) (hh : h < 4) (hhow : Bd_how bd0 = nI h) (hT : T + 8 < 2147483647) (hm : m0 < 2147483648) (hN : ∀ i, i < 128 → Bd_nets bd0 i = xn x0 b i) (hS0 : SI b bd0 x0 T0 m0 am bd x T D) :
    Ok2 (f_X0_sendRowsWith bd (nI sd) (nI k) (nI v) (r11 - r5)) (rRow (mo sm x) (nI b) (nI sd) (nI k) (nI v) (nI h) r5 r11 (b2i (hsB (Bd_nets bd0) (1 - sd) k)))
      (fun bd' sm' => ∃ x' T', sm' = mo sm x' ∧ T ≤ T' ∧ T' ≤ T + 8 ∧ SI b bd0 x0 T0 m0 am bd' x' T' (fun q => D q + dR (Bd_nets bd0) h sd k v (r11 - r5) q)) := by
  have c1 : f_X0_has bd (nI (1 - sd)) (nI k) = some (b2i (hsB (Bd_nets bd0) (1 - sd) k)) := by rw [c_has bd (by omega) hk, hS0.1]
  have c2 : f_X0_hasOuter (Bd_how bd) (nI sd) = some (b2i (outB h sd)) := by rw [hS0.2.2.1, hhow, c_out h hh sd hs]
  have c3 := r_out h hh sd hs
  have c4 := oneSub sd hs
  unfold f_X0_sendRowsWith rRow dR
  cases ho : hsB (Bd_nets bd0) (1 - sd) k with
  | false =>
    rw [ho] at c1
    cases ho2 : outB h sd with
    | false =>
      rw [ho2] at c2 c3
      simp (disch := omega) only [li_0, li_1, li_2, li_3, li_4, li_5, li_6, li_7, li_8, li_9, li_10, li_11, li_12, li_13, li_14, li_15, li_16, li_20, li_30, li_31, li_32, li_40, li_42, li_45, li_48, li_57, li_58, li_59, li_60, li_64, li_74, li_75, li_81, li_97, li_122, li_124, li_143, li_151, li_159, li_167, li_175, li_200, li_255, li_648, li_650, li_823, li_900, li_999, li_1123, li_1298, li_1363, li_1379, li_2592, li_6571, li_9999, li_65536, li_65537, ng1, ng2, nI_add, pk_mul, remN, divN, inbI, ixN, leN, ltN, eqN, m1E, m1E', m2E, m12, m21, bsm, glE, b2iT, b2iF, if_pos, if_neg, ite_true, ite_false, not_true, not_false_iff, reduceCtorEq, c1, c2, c3, c4]
      refine Ok2.ret ⟨x, T, rfl, by omega, by omega, ?_⟩
      have e : (fun q => D q + nI 0) = D := by
        funext q
        exact Int32.add_zero (D q)
      rw [e]
      exact hS0
    | true =>
      rw [ho2] at c2 c3
      obtain ⟨bd', sm', e1, e2, x'', T'', rfl, g1, g2, g3⟩ := send2 (k := k) (w := 8) sm (r11 - r5) hb hs hk hv (by omega) (by omega) hm hS0
      rw [vN8] at e1
      simp (disch := omega) only [li_0, li_1, li_2, li_3, li_4, li_5, li_6, li_7, li_8, li_9, li_10, li_11, li_12, li_13, li_14, li_15, li_16, li_20, li_30, li_31, li_32, li_40, li_42, li_45, li_48, li_57, li_58, li_59, li_60, li_64, li_74, li_75, li_81, li_97, li_122, li_124, li_143, li_151, li_159, li_167, li_175, li_200, li_255, li_648, li_650, li_823, li_900, li_999, li_1123, li_1298, li_1363, li_1379, li_2592, li_6571, li_9999, li_65536, li_65537, ng1, ng2, nI_add, pk_mul, remN, divN, inbI, ixN, leN, ltN, eqN, m1E, m1E', m2E, m12, m21, bsm, glE, b2iT, b2iF, if_pos, if_neg, ite_true, ite_false, not_true, not_false_iff, reduceCtorEq, c1, c2, c3, c4, e1, e2]
      exact Ok2.ret ⟨x'', T'', rfl, by omega, by omega, g3⟩
  | true =>
    rw [ho] at c1
    simp (disch := omega) only [li_0, li_1, li_2, li_3, li_4, li_5, li_6, li_7, li_8, li_9, li_10, li_11, li_12, li_13, li_14, li_15, li_16, li_20, li_30, li_31, li_32, li_40, li_42, li_45, li_48, li_57, li_58, li_59, li_60, li_64, li_74, li_75, li_81, li_97, li_122, li_124, li_143, li_151, li_159, li_167, li_175, li_200, li_255, li_648, li_650, li_823, li_900, li_999, li_1123, li_1298, li_1363, li_1379, li_2592, li_6571, li_9999, li_65536, li_65537, ng1, ng2, nI_add, pk_mul, remN, divN, inbI, ixN, leN, ltN, eqN, m1E, m1E', m2E, m12, m21, bsm, glE, b2iT, b2iF, if_pos, if_neg, ite_true, ite_false, not_true, not_false_iff, reduceCtorEq, c1, c4]
    refine lpp (L := fun n i s => f_X0_sendRowsWith_L18_13 (nI sd) (nI k) (nI v) (r11 - r5) (fun s => some s) n i s) (M := fun n i t => f_X9_changes_L138_40 (nI b) (nI sd) (nI k) (nI v) r5 r11 (fun s => some s) n i t) 8
      (fun i s t => ∃ x' T', t = mo sm x' ∧ T ≤ T' ∧ T' ≤ T + i ∧ SI b bd0 x0 T0 m0 am s x' T' (fun q => D q + itr (fun w a => a + (if q = pl sd k v w then (r11 - r5) * th (Bd_nets bd0) (1 - sd) k w else nI 0)) (nI 0) i)) (fun o q => Ok2 o q _) ?_ ?_ 10000 10000 0 bd (mo sm x) (by omega) (by omega) (by omega) ⟨x, T, rfl, by omega, by omega, ?_⟩
    · rintro n n2 s t ⟨x', T', rfl, q1, q2, q3⟩
      simp (disch := omega) only [li_0, li_1, li_2, li_3, li_4, li_5, li_6, li_7, li_8, li_9, li_10, li_11, li_12, li_13, li_14, li_15, li_16, li_20, li_30, li_31, li_32, li_40, li_42, li_45, li_48, li_57, li_58, li_59, li_60, li_64, li_74, li_75, li_81, li_97, li_122, li_124, li_143, li_151, li_159, li_167, li_175, li_200, li_255, li_648, li_650, li_823, li_900, li_999, li_1123, li_1298, li_1363, li_1379, li_2592, li_6571, li_9999, li_65536, li_65537, ng1, ng2, nI_add, pk_mul, remN, divN, inbI, ixN, leN, ltN, eqN, m1E, m1E', m2E, m12, m21, bsm, glE, b2iT, b2iF, if_pos, if_neg, ite_true, ite_false, not_true, not_false_iff, reduceCtorEq, f_X0_sendRowsWith_L18_13, f_X9_changes_L138_40]
      refine Ok2.ret ⟨x', T', rfl, q1, q2, ?_⟩
      have e : (fun q => D q + (if true = true then itr (fun w a => a + (if q = pl sd k v w then (r11 - r5) * th (Bd_nets bd0) (1 - sd) k w else nI 0)) (nI 0) 8 else if outB h sd = true then (if q = pl sd k v 8 then (r11 - r5) else nI 0) else nI 0)) = (fun q => D q + itr (fun w a => a + (if q = pl sd k v w then (r11 - r5) * th (Bd_nets bd0) (1 - sd) k w else nI 0)) (nI 0) 8) := by
        funext q
        rw [if_pos rfl]
      first | exact q3 | (rw [e]; exact q3)
    · rintro n n2 i s t hi ⟨x', T', rfl, hT1, hT2, hS⟩
      obtain ⟨bd', sm', e1, e2, x'', T'', rfl, g1, g2, g3⟩ := send2 (k := k) (v := v) (w := i) sm ((r11 - r5) * th (Bd_nets bd0) (1 - sd) k i) hb hs hk hv (by omega) (by omega) hm hS
      rw [← vNe hi] at e1
      have t1 : f_X0_thereOf s (nI (1 - sd)) (nI k) (nI i) = some (th (Bd_nets bd0) (1 - sd) k i) := by rw [c_th s (by omega) hk hi, hS.1]
      have t2 : f_X9_thereOf (mo sm x') (nI b) (nI (1 - sd)) (nI k) (nI i) = some (th (Bd_nets bd0) (1 - sd) k i) := by
        rw [r_th sm x' hb (by omega) hk hi, th_congr (by omega) hk (fun j hj => (fr_xn hS.2.2.2.2.1 j hj).trans (hN j hj).symm) i hi]
      refine ⟨bd', mo sm x'', ⟨x'', T'', rfl, by omega, by omega, ?_⟩, ?_, ?_⟩
      · have e : (fun q => D q + itr (fun w a => a + (if q = pl sd k v w then (r11 - r5) * th (Bd_nets bd0) (1 - sd) k w else nI 0)) (nI 0) (i + 1)) = (fun q => D q + itr (fun w a => a + (if q = pl sd k v w then (r11 - r5) * th (Bd_nets bd0) (1 - sd) k w else nI 0)) (nI 0) i + (if q = pl sd k v i then (r11 - r5) * th (Bd_nets bd0) (1 - sd) k i else nI 0)) := by
          funext q
          rw [Int32.add_assoc]
          rfl
        rw [e]
        exact g3
      · simp (disch := omega) only [li_0, li_1, li_2, li_3, li_4, li_5, li_6, li_7, li_8, li_9, li_10, li_11, li_12, li_13, li_14, li_15, li_16, li_20, li_30, li_31, li_32, li_40, li_42, li_45, li_48, li_57, li_58, li_59, li_60, li_64, li_74, li_75, li_81, li_97, li_122, li_124, li_143, li_151, li_159, li_167, li_175, li_200, li_255, li_648, li_650, li_823, li_900, li_999, li_1123, li_1298, li_1363, li_1379, li_2592, li_6571, li_9999, li_65536, li_65537, ng1, ng2, nI_add, pk_mul, remN, divN, inbI, ixN, leN, ltN, eqN, m1E, m1E', m2E, m12, m21, bsm, glE, b2iT, b2iF, if_pos, if_neg, ite_true, ite_false, not_true, not_false_iff, reduceCtorEq, f_X0_sendRowsWith_L18_13, c4, t1, e1]
      · simp (disch := omega) only [li_0, li_1, li_2, li_3, li_4, li_5, li_6, li_7, li_8, li_9, li_10, li_11, li_12, li_13, li_14, li_15, li_16, li_20, li_30, li_31, li_32, li_40, li_42, li_45, li_48, li_57, li_58, li_59, li_60, li_64, li_74, li_75, li_81, li_97, li_122, li_124, li_143, li_151, li_159, li_167, li_175, li_200, li_255, li_648, li_650, li_823, li_900, li_999, li_1123, li_1298, li_1363, li_1379, li_2592, li_6571, li_9999, li_65536, li_65537, ng1, ng2, nI_add, pk_mul, remN, divN, inbI, ixN, leN, ltN, eqN, m1E, m1E', m2E, m12, m21, bsm, glE, b2iT, b2iF, if_pos, if_neg, ite_true, ite_false, not_true, not_false_iff, reduceCtorEq, f_X9_changes_L138_40, c4, t2, e2]
    · have e : (fun q => D q + itr (fun w a => a + (if q = pl sd k v w then (r11 - r5) * th (Bd_nets bd0) (1 - sd) k w else nI 0)) (nI 0) 0) = D := by
        funext q
        exact Int32.add_zero (D q)
      rw [e]
      exact hS0
def rA (c : Bool) (s : MoT) (p1 p2 p3 sg : Int32) : Option MoT := if c = true then f_X9_sendsOuter s p1 p2 p3 sg else some s
def cA (c : Bool) (s : BdT) (p2 p3 sg : Int32) : Option BdT := if c = true then f_X0_sendOuters s p2 p3 sg else some s
theorem stage2 {b sd k T0 T m0 : Nat} {am : Int32} {bd0 bd : BdT} {x0 x D : Nat → Int32} (c : Bool) (sm : MoT) (sg : Int32) (hb : b < 3) (hs : sd < 2) (hk : k < 8) (hT : T + 8 < 2147483647) (hm : m0 < 2147483648) (hN : ∀ i, i < 128 → Bd_nets bd0 i = xn x0 b i) (h : SI b bd0 x0 T0 m0 am bd x T D) :
    Ok2 (cA c bd (nI sd) (nI k) sg) (rA c (mo sm x) (nI b) (nI sd) (nI k) sg)
      (fun bd' sm' => ∃ x' T', sm' = mo sm x' ∧ T ≤ T' ∧ T' ≤ T + 8 ∧ SI b bd0 x0 T0 m0 am bd' x' T' (fun q => D q + (if c = true then dO (Bd_nets bd0) sd k sg q 8 else nI 0))) := by
  cases c with
  | true => exact outers2 sm sg hb hs hk hT hm hN h
  | false =>
    refine Ok2.ret ⟨x, T, rfl, by omega, by omega, ?_⟩
    have e : (fun q => D q + (if false = true then dO (Bd_nets bd0) sd k sg q 8 else nI 0)) = D := by
      funext q
      exact Int32.add_zero (D q)
    rw [e]
    exact h
