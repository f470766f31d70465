/-! what is sent: the class's ledger beside the reference's bank -/
theorem ue {f : Nat → Int32} {k j : Nat} {x : Int32} (h : j = k) : upd f k x j = x := by subst h; exact us
def pl (sd k v w : Nat) : Nat := if sd = 0 then 81 * k + 9 * v + w else 81 * k + 9 * w + v
def lf (sd v w : Nat) : Nat := if sd = 0 then v else w
def noteP (lg : LgT) (k : Nat) (p a : Int32) (j : Nat) : LgT :=
  (upd (Lg_places lg) j p, upd (Lg_amounts lg) j a, upd (Lg_numbers lg) j (Lg_acts lg), upd (Lg_byKey lg) k (Lg_byKey lg k + nI 1), Lg_total lg + nI 1,
    (if a ≤ nI 0 then Lg_came lg else Lg_came lg + a), (if a ≤ nI 0 then Lg_went lg - a else Lg_went lg), Lg_acts lg, Lg_inAct lg + nI 1,
    (if Lg_inAct lg + nI 1 ≤ Lg_most lg then Lg_most lg else Lg_inAct lg + nI 1), (if Lg_inAct lg + nI 1 ≤ Lg_most lg then Lg_actOfMost lg else Lg_acts lg))
theorem c_note (lg : LgT) {k T : Nat} (p a : Int32) (hk : k < 8) (hT : T < 2147483648) (e : Lg_total lg = nI T) : f_X2_note lg (nI k) p a = some (noteP lg k p a (T % 60)) := by
  unfold f_X2_note
  simp (disch := omega) only [li_0, li_1, li_2, li_3, li_4, li_5, li_6, li_7, li_8, li_9, li_10, li_11, li_12, li_13, li_14, li_15, li_16, li_20, li_30, li_31, li_32, li_40, li_42, li_45, li_48, li_57, li_58, li_59, li_60, li_64, li_74, li_75, li_81, li_97, li_122, li_124, li_143, li_151, li_159, li_167, li_175, li_200, li_255, li_648, li_650, li_823, li_900, li_999, li_1123, li_1298, li_1363, li_1379, li_2592, li_6571, li_9999, li_65536, li_65537, ng1, ng2, nI_add, pk_mul, remN, divN, inbI, ixN, leN, ltN, eqN, m1E, m1E', m2E, m12, m21, bsm, glE, b2iT, b2iF, if_pos, if_neg, ite_true, ite_false, not_true, not_false_iff, reduceCtorEq, e]
  by_cases q : a ≤ nI 0
  · by_cases q2 : Lg_inAct lg + nI 1 ≤ Lg_most lg
    · simp only [if_pos q]
      refine (if_pos q2).trans ?_
      unfold noteP
      rw [if_pos q, if_pos q, if_pos q2, if_pos q2, e, nI_add]
      try rfl
    · simp only [if_pos q]
      refine (if_neg q2).trans ?_
      unfold noteP
      rw [if_pos q, if_pos q, if_neg q2, if_neg q2, e, nI_add]
      try rfl
  · by_cases q2 : Lg_inAct lg + nI 1 ≤ Lg_most lg
    · simp only [if_neg q]
      refine (if_pos q2).trans ?_
      unfold noteP
      rw [if_neg q, if_neg q, if_pos q2, if_pos q2, e, nI_add]
      try rfl
    · simp only [if_neg q]
      refine (if_neg q2).trans ?_
      unfold noteP
      rw [if_neg q, if_neg q, if_neg q2, if_neg q2, e, nI_add]
      try rfl
theorem vNe {v : Nat} (h : v < 8) : nI v = vN v := by unfold vN; rw [if_neg (by omega)]
theorem vN8 : vN 8 = m1 := rfl
theorem c_send (bd : BdT) {sd k v w T : Nat} (a : Int32) (hs : sd < 2) (hk : k < 8) (hv : v < 8) (hw : w < 9) (hT : T < 2147483648) (e : Lg_total (Bd_ledger bd) = nI T) (ha : ¬ a = nI 0) :
    f_X0_send bd (nI sd) (nI k) (nI v) (vN w) a = some (Bd_w_ledger (Bd_w_sums bd (upd (Bd_sums bd) (pl sd k v w) (Bd_sums bd (pl sd k v w) + a))) (noteP (Bd_ledger bd) k (nI (pl sd k v w)) a (T % 60))) := by
  have hp : pl sd k v w < 648 := by unfold pl; split <;> omega
  have hn := c_note (Bd_ledger bd) (nI (pl sd k v w)) a hk hT e
  unfold f_X0_send
  rcases (show sd = 0 ∨ sd = 1 by omega) with q | q
  · subst q
    have h1 : f_X8_placeOf (nI k) (nI v) (vN w) = some (nI (pl 0 k v w)) := by
      rw [vNe hv, c_pl hk (by omega) hw]; rfl
    simp (disch := omega) only [li_0, li_1, li_2, li_3, li_4, li_5, li_6, li_7, li_8, li_9, li_10, li_11, li_12, li_13, li_14, li_15, li_16, li_20, li_30, li_31, li_32, li_40, li_42, li_45, li_48, li_57, li_58, li_59, li_60, li_64, li_74, li_75, li_81, li_97, li_122, li_124, li_143, li_151, li_159, li_167, li_175, li_200, li_255, li_648, li_650, li_823, li_900, li_999, li_1123, li_1298, li_1363, li_1379, li_2592, li_6571, li_9999, li_65536, li_65537, ng1, ng2, nI_add, pk_mul, remN, divN, inbI, ixN, leN, ltN, eqN, m1E, m1E', m2E, m12, m21, bsm, glE, b2iT, b2iF, if_pos, if_neg, ite_true, ite_false, not_true, not_false_iff, reduceCtorEq, ha, h1, hn]
  · subst q
    have h1 : f_X8_placeOf (nI k) (vN w) (nI v) = some (nI (pl 1 k v w)) := by
      rw [vNe hv, c_pl hk hw (by omega)]; rfl
    simp (disch := omega) only [li_0, li_1, li_2, li_3, li_4, li_5, li_6, li_7, li_8, li_9, li_10, li_11, li_12, li_13, li_14, li_15, li_16, li_20, li_30, li_31, li_32, li_40, li_42, li_45, li_48, li_57, li_58, li_59, li_60, li_64, li_74, li_75, li_81, li_97, li_122, li_124, li_143, li_151, li_159, li_167, li_175, li_200, li_255, li_648, li_650, li_823, li_900, li_999, li_1123, li_1298, li_1363, li_1379, li_2592, li_6571, li_9999, li_65536, li_65537, ng1, ng2, nI_add, pk_mul, remN, divN, inbI, ixN, leN, ltN, eqN, m1E, m1E', m2E, m12, m21, bsm, glE, b2iT, b2iF, if_pos, if_neg, ite_true, ite_false, not_true, not_false_iff, reduceCtorEq, ha, h1, hn]
theorem c_send0 (bd : BdT) (p q r t : Int32) : f_X0_send bd p q r t (nI 0) = some bd := by
  unfold f_X0_send
  simp (disch := omega) only [li_0, li_1, li_2, li_3, li_4, li_5, li_6, li_7, li_8, li_9, li_10, li_11, li_12, li_13, li_14, li_15, li_16, li_20, li_30, li_31, li_32, li_40, li_42, li_45, li_48, li_57, li_58, li_59, li_60, li_64, li_74, li_75, li_81, li_97, li_122, li_124, li_143, li_151, li_159, li_167, li_175, li_200, li_255, li_648, li_650, li_823, li_900, li_999, li_1123, li_1298, li_1363, li_1379, li_2592, li_6571, li_9999, li_65536, li_65537, ng1, ng2, nI_add, pk_mul, remN, divN, inbI, ixN, leN, ltN, eqN, m1E, m1E', m2E, m12, m21, bsm, glE, b2iT, b2iF, if_pos, if_neg, ite_true, ite_false, not_true, not_false_iff, reduceCtorEq]
def rS (b k l r : Nat) (a : Int32) (T : Nat) (x : Nat → Int32) : Nat → Int32 :=
  glt (upd (upd (upd (upd x (6571 * b + (823 + 5 * (T % 60))) (nI k)) (6571 * b + (823 + 5 * (T % 60) + 1)) (nI l)) (6571 * b + (823 + 5 * (T % 60) + 2)) (nI r)) (6571 * b + (823 + 5 * (T % 60) + 3)) a) fun x1 =>
  glt (upd x1 (6571 * b + (823 + 5 * (T % 60) + 4)) (x1 (6571 * b + 6))) fun x2 =>
  glt (upd x2 (6571 * b + 11) (x2 (6571 * b + 11) + nI 1)) fun x3 =>
  glt (upd x3 (6571 * b + (167 + k)) (x3 (6571 * b + (167 + k)) + nI 1)) fun x4 =>
  if a ≤ nI 0 then upd x4 (6571 * b + 10) (x4 (6571 * b + 10) + -a) else upd x4 (6571 * b + 9) (x4 (6571 * b + 9) + a)
theorem r_sends (sm : MoT) (x : Nat → Int32) {b k l r T : Nat} (a : Int32) (hb : b < 3) (hk : k < 8) (hT : T < 2147483648) (e : x (6571 * b + 11) = nI T) (ha : ¬ a = nI 0) :
    f_X9_sends (mo sm x) (nI b) (nI k) (nI l) (nI r) a = some (mo sm (rS b k l r a T x)) := by
  unfold f_X9_sends rS
  simp (disch := omega) only [li_0, li_1, li_2, li_3, li_4, li_5, li_6, li_7, li_8, li_9, li_10, li_11, li_12, li_13, li_14, li_15, li_16, li_20, li_30, li_31, li_32, li_40, li_42, li_45, li_48, li_57, li_58, li_59, li_60, li_64, li_74, li_75, li_81, li_97, li_122, li_124, li_143, li_151, li_159, li_167, li_175, li_200, li_255, li_648, li_650, li_823, li_900, li_999, li_1123, li_1298, li_1363, li_1379, li_2592, li_6571, li_9999, li_65536, li_65537, ng1, ng2, nI_add, pk_mul, remN, divN, inbI, ixN, leN, ltN, eqN, m1E, m1E', m2E, m12, m21, bsm, glE, b2iT, b2iF, if_pos, if_neg, ite_true, ite_false, not_true, not_false_iff, reduceCtorEq, ha, r_get, e, r_set, r_more]
  by_cases q : a ≤ nI 0
  · simp (disch := omega) only [li_0, li_1, li_2, li_3, li_4, li_5, li_6, li_7, li_8, li_9, li_10, li_11, li_12, li_13, li_14, li_15, li_16, li_20, li_30, li_31, li_32, li_40, li_42, li_45, li_48, li_57, li_58, li_59, li_60, li_64, li_74, li_75, li_81, li_97, li_122, li_124, li_143, li_151, li_159, li_167, li_175, li_200, li_255, li_648, li_650, li_823, li_900, li_999, li_1123, li_1298, li_1363, li_1379, li_2592, li_6571, li_9999, li_65536, li_65537, ng1, ng2, nI_add, pk_mul, remN, divN, inbI, ixN, leN, ltN, eqN, m1E, m1E', m2E, m12, m21, bsm, glE, b2iT, b2iF, if_pos, if_neg, ite_true, ite_false, not_true, not_false_iff, reduceCtorEq, q, r_more]
  · simp (disch := omega) only [li_0, li_1, li_2, li_3, li_4, li_5, li_6, li_7, li_8, li_9, li_10, li_11, li_12, li_13, li_14, li_15, li_16, li_20, li_30, li_31, li_32, li_40, li_42, li_45, li_48, li_57, li_58, li_59, li_60, li_64, li_74, li_75, li_81, li_97, li_122, li_124, li_143, li_151, li_159, li_167, li_175, li_200, li_255, li_648, li_650, li_823, li_900, li_999, li_1123, li_1298, li_1363, li_1379, li_2592, li_6571, li_9999, li_65536, li_65537, ng1, ng2, nI_add, pk_mul, remN, divN, inbI, ixN, leN, ltN, eqN, m1E, m1E', m2E, m12, m21, bsm, glE, b2iT, b2iF, if_pos, if_neg, ite_true, ite_false, not_true, not_false_iff, reduceCtorEq, q, r_more]
theorem r_send (sm : MoT) (x : Nat → Int32) {b sd k v w T : Nat} (a : Int32) (hb : b < 3) (hs : sd < 2) (hk : k < 8) (hT : T < 2147483648) (e : x (6571 * b + 11) = nI T) (ha : ¬ a = nI 0) :
    f_X9_sendsBy (mo sm x) (nI b) (nI sd) (nI k) (nI v) (nI w) a = some (mo sm (rS b k (lf sd v w) (lf sd w v) a T x)) := by
  unfold f_X9_sendsBy lf
  by_cases q : sd = 0
  · have h := r_sends sm x (l := v) (r := w) a hb hk hT e ha
    simp (disch := omega) only [li_0, li_1, li_2, li_3, li_4, li_5, li_6, li_7, li_8, li_9, li_10, li_11, li_12, li_13, li_14, li_15, li_16, li_20, li_30, li_31, li_32, li_40, li_42, li_45, li_48, li_57, li_58, li_59, li_60, li_64, li_74, li_75, li_81, li_97, li_122, li_124, li_143, li_151, li_159, li_167, li_175, li_200, li_255, li_648, li_650, li_823, li_900, li_999, li_1123, li_1298, li_1363, li_1379, li_2592, li_6571, li_9999, li_65536, li_65537, ng1, ng2, nI_add, pk_mul, remN, divN, inbI, ixN, leN, ltN, eqN, m1E, m1E', m2E, m12, m21, bsm, glE, b2iT, b2iF, if_pos, if_neg, ite_true, ite_false, not_true, not_false_iff, reduceCtorEq, q, h]
  · have h := r_sends sm x (l := w) (r := v) a hb hk hT e ha
    simp (disch := omega) only [li_0, li_1, li_2, li_3, li_4, li_5, li_6, li_7, li_8, li_9, li_10, li_11, li_12, li_13, li_14, li_15, li_16, li_20, li_30, li_31, li_32, li_40, li_42, li_45, li_48, li_57, li_58, li_59, li_60, li_64, li_74, li_75, li_81, li_97, li_122, li_124, li_143, li_151, li_159, li_167, li_175, li_200, li_255, li_648, li_650, li_823, li_900, li_999, li_1123, li_1298, li_1363, li_1379, li_2592, li_6571, li_9999, li_65536, li_65537, ng1, ng2, nI_add, pk_mul, remN, divN, inbI, ixN, leN, ltN, eqN, m1E, m1E', m2E, m12, m21, bsm, glE, b2iT, b2iF, if_pos, if_neg, ite_true, ite_false, not_true, not_false_iff, reduceCtorEq, q, h]
theorem r_send0 (s : MoT) (p q r t u : Int32) : f_X9_sendsBy s p q r t u (nI 0) = some s := by
  unfold f_X9_sendsBy f_X9_sends
  simp (disch := omega) only [li_0, li_1, li_2, li_3, li_4, li_5, li_6, li_7, li_8, li_9, li_10, li_11, li_12, li_13, li_14, li_15, li_16, li_20, li_30, li_31, li_32, li_40, li_42, li_45, li_48, li_57, li_58, li_59, li_60, li_64, li_74, li_75, li_81, li_97, li_122, li_124, li_143, li_151, li_159, li_167, li_175, li_200, li_255, li_648, li_650, li_823, li_900, li_999, li_1123, li_1298, li_1363, li_1379, li_2592, li_6571, li_9999, li_65536, li_65537, ng1, ng2, nI_add, pk_mul, remN, divN, inbI, ixN, leN, ltN, eqN, m1E, m1E', m2E, m12, m21, bsm, glE, b2iT, b2iF, if_pos, if_neg, ite_true, ite_false, not_true, not_false_iff, reduceCtorEq]
  split <;> rfl
/-- the ledger beside the bank: T changes -/
def RLg (b : Nat) (lg : LgT) (x : Nat → Int32) (T : Nat) : Prop :=
  (∀ k, k < 8 → Lg_byKey lg k = x (6571 * b + (167 + k))) ∧ Lg_total lg = nI T ∧ x (6571 * b + 11) = nI T ∧ Lg_came lg = x (6571 * b + 9) ∧ Lg_went lg = x (6571 * b + 10) ∧ Lg_acts lg = x (6571 * b + 6) ∧
  (∀ j, j < 60 → j < T → ∃ k l r, k < 8 ∧ l < 9 ∧ r < 9 ∧ x (6571 * b + (823 + 5 * j)) = nI k ∧ x (6571 * b + (823 + 5 * j + 1)) = nI l ∧ x (6571 * b + (823 + 5 * j + 2)) = nI r ∧ Lg_places lg j = nI (81 * k + 9 * l + r) ∧ x (6571 * b + (823 + 5 * j + 3)) = Lg_amounts lg j ∧ x (6571 * b + (823 + 5 * j + 4)) = Lg_numbers lg j) ∧
  (∀ k, k < 8 → ∃ c, c ≤ T ∧ Lg_byKey lg k = nI c) ∧ (0 < T → ∃ k c, k < 8 ∧ 0 < c ∧ c ≤ T ∧ Lg_byKey lg k = nI c)
/-- the act that is on: it began at T0 -/
def LM (lg : LgT) (T0 T m0 : Nat) (am : Int32) : Prop := T0 ≤ T ∧ Lg_inAct lg = nI (T - T0) ∧ (if m0 < T - T0 then Lg_most lg = nI (T - T0) ∧ Lg_actOfMost lg = Lg_acts lg else Lg_most lg = nI m0 ∧ Lg_actOfMost lg = am)
/-- nothing but counts, log and traffic has changed in the bank -/
def FrS (b : Nat) (x y : Nat → Int32) : Prop := ∀ i, (i < 6571 * b + 9 ∨ (6571 * b + 12 ≤ i ∧ i < 6571 * b + 167) ∨ (6571 * b + 175 ≤ i ∧ i < 6571 * b + 823) ∨ 6571 * b + 1123 ≤ i) → y i = x i
theorem rS_fr (b k l r : Nat) (a : Int32) (T : Nat) (x : Nat → Int32) (hk : k < 8) : FrS b x (rS b k l r a T x) := by
  intro i hi
  unfold rS
  simp only [glE]
  split
  · simp (disch := omega) only [un]
  · simp (disch := omega) only [un]
theorem rS_RL {b k l r T : Nat} {a : Int32} {lg : LgT} {x : Nat → Int32} (hk : k < 8) (hl : l < 9) (hr : r < 9) (hT : T < 2147483647) (h : RLg b lg x T) : RLg b (noteP lg k (nI (81 * k + 9 * l + r)) a (T % 60)) (rS b k l r a T x) (T + 1) := by
  obtain ⟨h1, h2, h3, h4, h5, h6, h7, h8, h9⟩ := h
  obtain ⟨ca, hca, hca2⟩ := h8 k hk
  have e0 : rS b k l r a T x (6571 * b + 11) = nI (T + 1) := by
    unfold rS
    simp only [glE]
    split <;> simp (disch := omega) only [un, ue, h3, nI_add]
  have e1 : ∀ q, q < 8 → upd (Lg_byKey lg) k (Lg_byKey lg k + nI 1) q = rS b k l r a T x (6571 * b + (167 + q)) := by
    intro q hq
    unfold rS
    simp only [glE]
    by_cases e : q = k
    · subst e
      split <;> simp (disch := omega) only [un, ue, h1 q hq]
    · split <;> simp (disch := omega) only [un, h1 q hq]
  refine ⟨e1, ?_, e0, ?_, ?_, ?_, ?_, ?_, ?_⟩
  · show Lg_total lg + nI 1 = _
    rw [h2, nI_add]
  · show (if a ≤ nI 0 then Lg_came lg else Lg_came lg + a) = _
    unfold rS
    simp only [glE]
    split <;> simp (disch := omega) only [un, ue, h4]
  · show (if a ≤ nI 0 then Lg_went lg - a else Lg_went lg) = _
    unfold rS
    simp only [glE]
    split <;> simp (disch := omega) only [un, ue, h5, Int32.sub_eq_add_neg]
  · show Lg_acts lg = _
    unfold rS
    simp only [glE]
    split <;> simp (disch := omega) only [un, ue, h6]
  · intro j hj hj2
    show ∃ k' l' r', _ ∧ _ ∧ _ ∧ _ ∧ _ ∧ _ ∧ upd (Lg_places lg) (T % 60) _ j = _ ∧ _ = upd (Lg_amounts lg) (T % 60) _ j ∧ _ = upd (Lg_numbers lg) (T % 60) _ j
    by_cases e : j = T % 60
    · refine ⟨k, l, r, hk, hl, hr, ?_, ?_, ?_, ?_, ?_, ?_⟩
      · unfold rS; simp only [glE]; split <;> simp (disch := omega) only [un, ue]
      · unfold rS; simp only [glE]; split <;> simp (disch := omega) only [un, ue]
      · unfold rS; simp only [glE]; split <;> simp (disch := omega) only [un, ue]
      · rw [ue e]
      · rw [ue e]; unfold rS; simp only [glE]; split <;> simp (disch := omega) only [un, ue]
      · rw [ue e, h6]; unfold rS; simp only [glE]; split <;> simp (disch := omega) only [un, ue]
    · obtain ⟨k', l', r', g1, g2, g3, g4, g5, g6, g7, g8, g9⟩ := h7 j hj (by
        by_cases q : T < 60
        · rw [Nat.mod_eq_of_lt q] at e; omega
        · omega)
      refine ⟨k', l', r', g1, g2, g3, ?_, ?_, ?_, ?_, ?_, ?_⟩
      · rw [← g4]; unfold rS; simp only [glE]; split <;> simp (disch := omega) only [un]
      · rw [← g5]; unfold rS; simp only [glE]; split <;> simp (disch := omega) only [un]
      · rw [← g6]; unfold rS; simp only [glE]; split <;> simp (disch := omega) only [un]
      · rw [un e]; exact g7
      · rw [un e, ← g8]; unfold rS; simp only [glE]; split <;> simp (disch := omega) only [un]
      · rw [un e, ← g9]; unfold rS; simp only [glE]; split <;> simp (disch := omega) only [un]
  · intro q hq
    show ∃ c, c ≤ T + 1 ∧ upd (Lg_byKey lg) k (Lg_byKey lg k + nI 1) q = nI c
    by_cases e : q = k
    · exact ⟨ca + 1, by omega, by rw [ue e, hca2, nI_add]⟩
    · obtain ⟨c, g1, g2⟩ := h8 q hq
      exact ⟨c, by omega, by rw [un e]; exact g2⟩
  · intro _
    exact ⟨k, ca + 1, hk, by omega, by omega, by show upd (Lg_byKey lg) k (Lg_byKey lg k + nI 1) k = _; rw [us, hca2, nI_add]⟩
theorem note_LM {lg : LgT} {k j T0 T m0 : Nat} {am p a : Int32} (hT : T < 2147483647) (hm : m0 < 2147483648) (h : LM lg T0 T m0 am) : LM (noteP lg k p a j) T0 (T + 1) m0 am := by
  obtain ⟨h1, h2, h3⟩ := h
  refine ⟨by omega, ?_, ?_⟩
  · show Lg_inAct lg + nI 1 = _
    rw [h2, nI_add]; congr 1; omega
  · show if m0 < T + 1 - T0 then (if Lg_inAct lg + nI 1 ≤ Lg_most lg then Lg_most lg else Lg_inAct lg + nI 1) = nI (T + 1 - T0) ∧ (if Lg_inAct lg + nI 1 ≤ Lg_most lg then Lg_actOfMost lg else Lg_acts lg) = Lg_acts lg else (if Lg_inAct lg + nI 1 ≤ Lg_most lg then Lg_most lg else Lg_inAct lg + nI 1) = nI m0 ∧ (if Lg_inAct lg + nI 1 ≤ Lg_most lg then Lg_actOfMost lg else Lg_acts lg) = am
    have e : Lg_inAct lg + nI 1 = nI (T + 1 - T0) := by rw [h2, nI_add]; congr 1; omega
    rw [e]
    by_cases q : m0 < T - T0
    · rw [if_pos q] at h3
      rw [if_pos (by omega), h3.1]
      simp (disch := omega) only [leN, if_neg]
      exact ⟨trivial, trivial⟩
    · rw [if_neg q] at h3
      rw [h3.1]
      by_cases q2 : m0 < T + 1 - T0
      · rw [if_pos q2]
        simp (disch := omega) only [leN, if_neg]
        exact ⟨trivial, trivial⟩
      · rw [if_neg q2]
        simp (disch := omega) only [leN, if_pos]
        exact ⟨trivial, h3.2⟩
/-- a row of sends on both sides: since (bd0, x0) sums have grown by D -/
def SI (b : Nat) (bd0 : BdT) (x0 : Nat → Int32) (T0 m0 : Nat) (am : Int32) (bd : BdT) (x : Nat → Int32) (T : Nat) (D : Nat → Int32) : Prop :=
  Bd_nets bd = Bd_nets bd0 ∧ Bd_turns bd = Bd_turns bd0 ∧ Bd_how bd = Bd_how bd0 ∧ RLg b (Bd_ledger bd) x T ∧ FrS b x0 x ∧ (∀ p, Bd_sums bd p = Bd_sums bd0 p + D p) ∧ LM (Bd_ledger bd) T0 T m0 am
theorem pl_lf {sd k v w : Nat} (hs : sd < 2) : pl sd k v w = 81 * k + 9 * lf sd v w + lf sd w v := by
  unfold pl lf
  split <;> rfl
theorem send2 {b sd k v w T0 T m0 : Nat} {am : Int32} {bd0 bd : BdT} {x0 x D : Nat → Int32} (sm : MoT) (a : Int32) (hb : b < 3) (hs : sd < 2) (hk : k < 8) (hv : v < 8) (hw : w < 9) (hT : T < 2147483647) (hm : m0 < 2147483648) (h : SI b bd0 x0 T0 m0 am bd x T D) :
    Ok2 (f_X0_send bd (nI sd) (nI k) (nI v) (vN w) a) (f_X9_sendsBy (mo sm x) (nI b) (nI sd) (nI k) (nI v) (nI w) a)
      (fun bd' sm' => ∃ x' T', sm' = mo sm x' ∧ T ≤ T' ∧ T' ≤ T + 1 ∧ SI b bd0 x0 T0 m0 am bd' x' T' (fun q => D q + (if q = pl sd k v w then a else nI 0))) := by
  obtain ⟨h1, h2, h3, h4, h5, h6, h7⟩ := h
  by_cases ha : a = nI 0
  · rw [ha]
    refine ⟨bd, mo sm x, c_send0 _ _ _ _ _, r_send0 _ _ _ _ _ _, x, T, rfl, by omega, by omega, h1, h2, h3, h4, h5, ?_, h7⟩
    intro p
    show Bd_sums bd p = Bd_sums bd0 p + (D p + (if p = pl sd k v w then nI 0 else nI 0))
    rw [ite_self, h6 p]
    exact (congrArg (Bd_sums bd0 p + ·) (Int32.add_zero (D p))).symm
  · refine ⟨_, _, c_send bd a hs hk hv hw (by omega) h4.2.1 ha, r_send sm x a hb hs hk (by omega) h4.2.2.1 ha, _, T + 1, rfl, by omega, by omega, h1, h2, h3, ?_, ?_, ?_, ?_⟩
    · have := rS_RL (a := a) hk (show lf sd v w < 9 by unfold lf; split <;> omega) (show lf sd w v < 9 by unfold lf; split <;> omega) hT h4
      rw [← pl_lf hs] at this
      exact this
    · intro i hi
      rw [rS_fr b k _ _ a T x hk i hi, h5 i hi]
    · intro p
      show upd (Bd_sums bd) (pl sd k v w) (Bd_sums bd (pl sd k v w) + a) p = Bd_sums bd0 p + (D p + (if p = pl sd k v w then a else nI 0))
      by_cases e : p = pl sd k v w
      · rw [ue e, if_pos e, ← e, h6 p, Int32.add_assoc]
      · rw [un e, if_neg e, h6 p]
        exact (congrArg (Bd_sums bd0 p + ·) (Int32.add_zero (D p))).symm
    · exact note_LM hT hm h7
