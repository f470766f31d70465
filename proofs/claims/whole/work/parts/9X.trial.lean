/-! a board made anew, beside a bank made anew -/
theorem c_lclear (lg : LgT) : ∃ l', f_X2_clear lg = some l' ∧ (∀ i, i < 8 → Lg_byKey l' i = nI 0) ∧ Lg_total l' = nI 0 ∧ Lg_came l' = nI 0 ∧ Lg_went l' = nI 0 ∧ Lg_acts l' = nI 0 ∧ Lg_inAct l' = nI 0 ∧ Lg_most l' = nI 0 ∧ Lg_actOfMost l' = m2 := by
  refine ⟨_, eb (c_fill 8 (Lg_byKey lg) (0 : Int32) (by omega)) rfl, fun i hi => ?_, rfl, rfl, rfl, rfl, rfl, rfl, rfl⟩
  show (if i < 8 then (0 : Int32) else Lg_byKey lg i) = nI 0
  rw [if_pos hi]
  rfl
theorem c_clear (bd : BdT) (h : Int32) : ∃ bd', f_X0_clear bd h = some bd' ∧ (∀ i, i < 128 → Bd_nets bd' i = nI 0) ∧ (∀ i, i < 648 → Bd_sums bd' i = nI 0) ∧ (∀ i, i < 16 → Bd_turns bd' i = nI 0) ∧ Bd_how bd' = h ∧ (∀ i, i < 8 → Lg_byKey (Bd_ledger bd') i = nI 0) ∧ Lg_total (Bd_ledger bd') = nI 0 ∧ Lg_came (Bd_ledger bd') = nI 0 ∧ Lg_went (Bd_ledger bd') = nI 0 ∧ Lg_acts (Bd_ledger bd') = nI 0 ∧ Lg_inAct (Bd_ledger bd') = nI 0 ∧ Lg_most (Bd_ledger bd') = nI 0 ∧ Lg_actOfMost (Bd_ledger bd') = m2 := by
  obtain ⟨l', e1, e2⟩ := c_lclear (Bd_ledger bd)
  refine ⟨_, eb (c_fill 128 (Bd_nets bd) (0 : Int32) (by omega)) (eb (c_fill 648 (Bd_sums bd) (0 : Int32) (by omega)) (eb (c_fill 16 (Bd_turns bd) (0 : Int32) (by omega)) (eb e1 rfl))), fun i hi => ?_, fun i hi => ?_, fun i hi => ?_, rfl, e2⟩
  · show (if i < 128 then (0 : Int32) else Bd_nets bd i) = nI 0
    rw [if_pos hi]
    rfl
  · show (if i < 648 then (0 : Int32) else Bd_sums bd i) = nI 0
    rw [if_pos hi]
    rfl
  · show (if i < 16 then (0 : Int32) else Bd_turns bd i) = nI 0
    rw [if_pos hi]
    rfl
theorem r_begins (m : MoT) (x : Nat → Int32) {b : Nat} (hw kp lt : Int32) (hb : b < 3) : ∃ y, f_X9_begins (mo m x) (nI b) hw kp lt = some (mo m y) ∧ y (6571 * b) = hw ∧ y (6571 * b + 1) = kp ∧ y (6571 * b + 2) = lt ∧ (∀ i, 3 ≤ i → i < 6571 → y (6571 * b + i) = nI 0) ∧ FrO b x y := by
  unfold f_X9_begins
  rw [glE]
  have main := lpc (L := fun n i t => f_X9_begins_L3_11 (nI b) (fun (s0_2 : MoT) => (f_X9_set s0_2 (nI b) (0 : Int32) hw).bind fun r3 => (f_X9_set r3 (nI b) (1 : Int32) kp).bind fun r5 => (f_X9_set r5 (nI b) (2 : Int32) lt).bind fun r7 => some (r7)) n i t) (K := fun (s0_2 : MoT) => (f_X9_set s0_2 (nI b) (0 : Int32) hw).bind fun r3 => (f_X9_set r3 (nI b) (1 : Int32) kp).bind fun r5 => (f_X9_set r5 (nI b) (2 : Int32) lt).bind fun r7 => some (r7)) 6571 (fun i => mo m (zS x (6571 * b) i)) (fuel := 10000) ?_ ?_ (by omega)
  · simp only [zS_0] at main
    have s0 := r_set m (zS x (6571 * b) 6571) (b := b) (i := 0) hw hb (by omega)
    have s1 := r_set m (upd (zS x (6571 * b) 6571) (6571 * b + 0) hw) (b := b) (i := 1) kp hb (by omega)
    have s2 := r_set m (upd (upd (zS x (6571 * b) 6571) (6571 * b + 0) hw) (6571 * b + 1) kp) (b := b) (i := 2) lt hb (by omega)
    refine ⟨upd (upd (upd (zS x (6571 * b) 6571) (6571 * b + 0) hw) (6571 * b + 1) kp) (6571 * b + 2) lt, main.trans (eb s0 (eb s1 (eb s2 rfl))), ?_, ?_, ?_, fun i h1 h2 => ?_, fun i hi => ?_⟩
    · rw [un (by omega), un (by omega), ue (by omega)]
    · rw [un (by omega), us]
    · rw [us]
    · rw [un (by omega), un (by omega), un (by omega)]
      unfold zS
      rw [if_pos (by omega)]
    · rw [un (by omega), un (by omega), un (by omega)]
      unfold zS
      rw [if_neg (by omega)]
  · intro n
    show f_X9_begins_L3_11 (nI b) _ (n + 1) (nI 6571) _ = _
    rw [f_X9_begins_L3_11]
    exact if_pos (Int32.le_refl _)
  · intro n i hi
    have e1 : (6571 : Int32) * nI b + nI i = nI (6571 * b + i) := by
      simp (disch := omega) only [li_0, li_1, li_2, li_3, li_4, li_5, li_6, li_7, li_8, li_9, li_10, li_11, li_12, li_13, li_14, li_15, li_16, li_20, li_30, li_31, li_32, li_40, li_42, li_45, li_48, li_57, li_58, li_59, li_60, li_64, li_74, li_75, li_81, li_97, li_122, li_124, li_143, li_151, li_159, li_167, li_175, li_200, li_255, li_648, li_650, li_823, li_900, li_999, li_1123, li_1298, li_1363, li_1379, li_2592, li_6571, li_9999, li_65536, li_65537, ng1, ng2, nI_add, pk_mul, remN, divN, inbI, ixN, leN, ltN, eqN, m1E, m1E', m2E, m12, m21, bsm, glE, b2iT, b2iF, if_pos, if_neg, ite_true, ite_false, not_true, not_false_iff, reduceCtorEq]
    show f_X9_begins_L3_11 (nI b) _ (n + 1) (nI i) (mo m (zS x (6571 * b) i)) = f_X9_begins_L3_11 (nI b) _ n (nI (i + 1)) (mo m (zS x (6571 * b) (i + 1)))
    rw [f_X9_begins_L3_11, e1, ixN (by omega), show nI i + (1 : Int32) = nI (i + 1) from nI_1 i, mo_x, mo_mo, zS_step]
    exact (if_neg (nI_ge hi (by omega) : ¬ nI 6571 ≤ nI i)).trans (if_pos (inbN (by omega) (by omega)))
theorem RBd.new {b h : Nat} {bd : BdT} {y : Nat → Int32} (hh : h < 4) (h1 : ∀ i, i < 128 → Bd_nets bd i = nI 0) (h2 : ∀ i, i < 648 → Bd_sums bd i = nI 0) (h3 : ∀ i, i < 16 → Bd_turns bd i = nI 0) (h4 : Bd_how bd = nI h)
    (h5 : (∀ i, i < 8 → Lg_byKey (Bd_ledger bd) i = nI 0) ∧ Lg_total (Bd_ledger bd) = nI 0 ∧ Lg_came (Bd_ledger bd) = nI 0 ∧ Lg_went (Bd_ledger bd) = nI 0 ∧ Lg_acts (Bd_ledger bd) = nI 0 ∧ Lg_inAct (Bd_ledger bd) = nI 0 ∧ Lg_most (Bd_ledger bd) = nI 0 ∧ Lg_actOfMost (Bd_ledger bd) = m2)
    (y0 : y (6571 * b) = nI h) (yz : ∀ i, 3 ≤ i → i < 6571 → y (6571 * b + i) = nI 0) : RBd b h 0 bd y ∧ LM (Bd_ledger bd) 0 0 0 m2 := by
  obtain ⟨a1, a2, a3, a4, a5, a6, a7, a8⟩ := h5
  refine ⟨⟨fun i hi => ?_, h4, y0, hh, fun i hi => by rw [h3 i hi, yz _ (by omega) (by omega)], ⟨fun k hk => by rw [a1 k hk, yz _ (by omega) (by omega)], a2, yz _ (by omega) (by omega), by rw [a3, yz _ (by omega) (by omega)], by rw [a4, yz _ (by omega) (by omega)], by rw [a5, yz _ (by omega) (by omega)], fun j _ hj => absurd hj (Nat.not_lt_zero _), fun k hk => ⟨0, Nat.le_refl _, a1 k hk⟩, fun hT => absurd hT (Nat.lt_irrefl _)⟩, fun k l r p1 p2 p3 => ?_⟩, ⟨Nat.le_refl _, a6, ?_⟩⟩
  · rw [h1 i hi]
    unfold xn
    rw [Nat.add_assoc, yz _ (by omega) (by omega)]
  · rw [h2 _ (by omega), yz _ (by omega) (by omega), J_zero (fun s v q1 q2 => h1 _ (by omega))]
    rfl
  · rw [if_neg (by omega)]
    exact ⟨a7, a8⟩
/-- a board beside a bank, through a change -/
theorem RBd.chg {b h sd k v T T0 m0 T' : Nat} {am many : Int32} {bd bd' : BdT} {x x' : Nat → Int32} (hR : RBd b h T bd x) (hC : CH b h sd k v many bd x T0 m0 am bd' x' T') : RBd b h T' bd' x' := by
  obtain ⟨a1, a2, a3, a4, a5, a6, a7⟩ := hR
  obtain ⟨c1, c2, c3, c4, c5, c6, c7, c8⟩ := hC
  refine ⟨c5, c2.trans a2, by rw [c8 _ (by omega)]; exact a3, a4, c6 a5, c3, fun k' l r p1 p2 p3 => ?_⟩
  rw [c7 k' l r p1 p2 p3, c8 _ (by omega), a7 k' l r p1 p2 p3]
  generalize J (Bd_nets bd') h k' l r = A
  generalize J (Bd_nets bd) h k' l r = C
  rw [Int32.add_comm C, Int32.add_assoc, Int32.add_comm C, Int32.sub_add_cancel, Int32.add_comm]
/-- orders alike as far as they are used -/
def Ag (c : Nat) (o q : Nat → Int32) : Prop := ∀ j, j < c → o j = q j ∧ ∃ e, e < c ∧ o j = nI e
theorem Ag.swap {c i j : Nat} {o q : Nat → Int32} (h : Ag c o q) (hi : i < c) (hj : j < c) : Ag c (upd (upd o i (o j)) j (o i)) (upd (upd q i (q j)) j (q i)) := by
  intro k hk
  by_cases e : k = j
  · rw [ue e, ue e]
    exact h i hi
  · rw [un e, un e]
    by_cases e2 : k = i
    · rw [ue e2, ue e2]
      exact h j hj
    · rw [un e2, un e2]
      exact h k hk
