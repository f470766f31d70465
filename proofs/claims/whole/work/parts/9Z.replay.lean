/-! replay: the order mixed, counting down, on both sides -/
theorem mix_d (s : OuBT) (sm : MoT) {c : Nat} (hc : c ≤ 60) : ∀ (i n1 n2 x : Nat) (oc orr : Nat → Int32), i < c → x ≤ 65536 → i < n1 → i < n2 → Ag c oc orr →
    ∃ oc' orr', Ag c oc' orr' ∧ f_X8_mix_B_L7_6 (fun (s0_2 : OuBT) => some (s0_2)) n1 (nI x) (nI i) (OuB_w_order s oc) = some (OuB_w_order s oc') ∧ ∀ K : MoT → Option (Int32 × MoT), f_X9_replay_L84_35 K n2 (nI x) (nI i) (mO sm orr) = K (mO sm orr')
  | 0, n1 + 1, n2 + 1, x, oc, orr, _, _, _, _, hA => by
    refine ⟨oc, orr, hA, ?_, fun K => ?_⟩
    · rw [f_X8_mix_B_L7_6]
      exact if_pos (show nI 0 < (1 : Int32) by decide)
    · rw [f_X9_replay_L84_35]
      exact if_pos (show nI 0 ≤ (0 : Int32) by decide)
  | i + 1, n1 + 1, n2 + 1, x, oc, orr, hi, hx, h1, h2, hA => by
    have ea : irem (((75 : Int32) * nI x) + (74 : Int32)) (65537 : Int32) = nI ((75 * x + 74) % 65537) := by
      simp (disch := omega) only [li_0, li_1, li_2, li_3, li_4, li_5, li_6, li_7, li_8, li_9, li_10, li_11, li_12, li_13, li_14, li_15, li_16, li_20, li_30, li_31, li_32, li_40, li_42, li_45, li_48, li_57, li_58, li_59, li_60, li_64, li_74, li_75, li_81, li_97, li_122, li_124, li_143, li_151, li_159, li_167, li_175, li_200, li_255, li_648, li_650, li_823, li_900, li_999, li_1123, li_1298, li_1363, li_1379, li_2592, li_6571, li_9999, li_65536, li_65537, ng1, ng2, nI_add, pk_mul, remN, divN, inbI, ixN, leN, ltN, eqN, m1E, m1E', m2E, m12, m21, bsm, glE, b2iT, b2iF, if_pos, if_neg, ite_true, ite_false, not_true, not_false_iff, reduceCtorEq]
    have hx' : (75 * x + 74) % 65537 ≤ 65536 := by omega
    generalize (75 * x + 74) % 65537 = x' at ea hx'
    have e2 : nI (i + 1) + (1 : Int32) = nI (i + 2) := nI_1 (i + 1)
    have hj : x' % (i + 2) < i + 2 := Nat.mod_lt _ (by omega)
    have e3 : irem (nI x') (nI (i + 2)) = nI (x' % (i + 2)) := remN (by omega) (by omega) (by omega)
    generalize x' % (i + 2) = j at e3 hj
    have em : nI (i + 1) + (-1 : Int32) = nI i := by
      rw [← nI_1 i, Int32.add_assoc, show (1 : Int32) + (-1) = 0 by decide, Int32.add_zero]
    have z1 : ¬ nI (i + 1) < (1 : Int32) := fun h => absurd ((ltN (a := i + 1) (b := 1) (by omega) (by omega)).mp h) (by omega)
    have z2 : ¬ nI (i + 2) = (0 : Int32) := fun h => absurd ((nI_eq (a := i + 2) (b := 0) (by omega) (by omega)).mp h) (by omega)
    have z3 : ¬ nI (i + 1) ≤ (0 : Int32) := fun h => absurd ((leN (a := i + 1) (b := 0) (by omega) (by omega)).mp h) (by omega)
    have b1 : inb (nI (i + 1)) 60 := inbN (by omega) (by omega)
    have b2 : inb (nI j) 60 := inbN (by omega) (by omega)
    have x1 : ix (nI (i + 1)) = i + 1 := ixN (by omega)
    have x2 : ix (nI j) = j := ixN (by omega)
    obtain ⟨oc', orr', w1, w2, w3⟩ := mix_d s sm hc i n1 n2 x' _ _ (by omega) hx' (by omega) (by omega) (hA.swap (i := i + 1) (j := j) hi (by omega))
    refine ⟨oc', orr', w1, ?_, fun K => ?_⟩
    · rw [f_X8_mix_B_L7_6, ea, e2, e3, em]
      refine (if_neg z1).trans ((if_pos z2).trans ((if_pos b1).trans ((if_pos b2).trans ((if_pos b1).trans ((if_pos b2).trans ?_)))))
      show f_X8_mix_B_L7_6 (fun (s0_2 : OuBT) => some (s0_2)) n1 (nI x') (nI i) (OuB_w_order s (upd (upd oc (ix (nI (i + 1))) (oc (ix (nI j)))) (ix (nI j)) (oc (ix (nI (i + 1)))))) = _
      rw [x1, x2]
      exact w2
    · rw [f_X9_replay_L84_35, ea, e2, e3, em, order_mO, mO_w, x1, x2]
      exact (if_neg z3).trans ((if_pos z2).trans ((if_pos b1).trans ((if_pos b2).trans ((if_pos b1).trans ((if_pos b2).trans (w3 K))))))
theorem mix2 (s : OuBT) (sm : MoT) {c x : Nat} (hc : c ≤ 60) (hx : x ≤ 65536) {oc orr : Nat → Int32} (hA : Ag c oc orr) :
    ∃ oc' orr', Ag c oc' orr' ∧ f_X8_mix_B (OuB_w_order s oc) (nI c) (nI x) = some (OuB_w_order s oc') ∧ ∀ K : MoT → Option (Int32 × MoT), f_X9_replay_L84_35 K 10000 (nI x) (nI c - (1 : Int32)) (mO sm orr) = K (mO sm orr') := by
  unfold f_X8_mix_B
  rcases c with _ | c
  · have e : nI 0 - (1 : Int32) = (-1 : Int32) := by decide
    rw [e]
    refine ⟨oc, orr, hA, eg ?_, fun K => ?_⟩
    · rw [f_X8_mix_B_L7_6]
      exact if_pos (by decide)
    · rw [f_X9_replay_L84_35]
      exact if_pos (by decide)
  · have e : nI (c + 1) - (1 : Int32) = nI c := subN (b := 1) (by omega)
    rw [e]
    obtain ⟨oc', orr', w1, w2, w3⟩ := mix_d s sm hc c 10000 10000 x oc orr (by omega) hx (by omega) (by omega) hA
    exact ⟨oc', orr', w1, eg w2, w3⟩
theorem c_sumAll (bd : BdT) : f_X0_sumOfAll bd = some (sumS (Bd_sums bd) 648) := by
  unfold f_X0_sumOfAll
  rw [glE, li_0]
  have main := lpi (L := fun n i (a : Int32) => f_X0_sumOfAll_L4_5 bd (fun (x1_2 : Int32) => some (x1_2)) n a i) (K := fun (x1_2 : Int32) => some (x1_2)) 648 (fun p a => a + Bd_sums bd p) ?_ ?_ (nI 0) (fuel := 10000) (by omega)
  · exact main
  · intro n a
    show f_X0_sumOfAll_L4_5 bd _ (n + 1) a (nI 648) = _
    rw [f_X0_sumOfAll_L4_5]
    exact if_pos (Int32.le_refl _)
  · intro n i a hi
    show f_X0_sumOfAll_L4_5 bd _ (n + 1) a (nI i) = f_X0_sumOfAll_L4_5 bd _ n (a + Bd_sums bd i) (nI (i + 1))
    rw [f_X0_sumOfAll_L4_5, ixN (by omega), show nI i + (1 : Int32) = nI (i + 1) from nI_1 i]
    exact (if_neg (nI_ge hi (by omega) : ¬ nI 648 ≤ nI i)).trans (if_pos (inbN hi (by omega)))
