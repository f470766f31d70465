/-! the change itself, both sides together -/
theorem rows2k {b h sd k v T0 T m0 : Nat} {am : Int32} {bd0 bd : BdT} {x0 x D : Nat → Int32} {R : Type} (sm : MoT) (r5 r11 : Int32) (Jc : BdT → Option R) (Jr : MoT → Option MoT) (P : R → MoT → Prop) (hb : b < 3) (hs : sd < 2) (hk : k < 8) (hv : v < 8) (hh : h < 4) (hhow : Bd_how bd0 = nI h) (hT : T + 8 < 2147483647) (hm : m0 < 2147483648) (hN : ∀ i, i < 128 → Bd_nets bd0 i = xn x0 b i) (hS0 : SI b bd0 x0 T0 m0 am bd x T D)
    (next : ∀ bd' x' T', T ≤ T' → T' ≤ T + 8 → SI b bd0 x0 T0 m0 am bd' x' T' (fun q => D q + dR (Bd_nets bd0) h sd k v (r11 - r5) q) → Ok2 (Jc bd') (Jr (mo sm x')) P) :
    Ok2 ((f_X0_sendRowsWith bd (nI sd) (nI k) (nI v) (r11 - r5)).bind Jc)
      (if b2i (hsB (Bd_nets bd0) (1 - sd) k) = nI 0 then (f_X9_isOuter (nI h) (nI sd)).bind fun r31 => if r31 = nI 0 then Jr (mo sm x) else (f_X9_sendsBy (mo sm x) (nI b) (nI sd) (nI k) (nI v) (nI 8) (r11 - r5)).bind fun r34 => Jr r34
        else f_X9_changes_L138_40 (nI b) (nI sd) (nI k) (nI v) r5 r11 (fun s => Jr s) 10000 (nI 0) (mo sm x)) P := by
  have e : (if b2i (hsB (Bd_nets bd0) (1 - sd) k) = nI 0 then (f_X9_isOuter (nI h) (nI sd)).bind fun r31 => if r31 = nI 0 then Jr (mo sm x) else (f_X9_sendsBy (mo sm x) (nI b) (nI sd) (nI k) (nI v) (nI 8) (r11 - r5)).bind fun r34 => Jr r34
        else f_X9_changes_L138_40 (nI b) (nI sd) (nI k) (nI v) r5 r11 (fun s => Jr s) 10000 (nI 0) (mo sm x)) = (rRow (mo sm x) (nI b) (nI sd) (nI k) (nI v) (nI h) r5 r11 (b2i (hsB (Bd_nets bd0) (1 - sd) k))).bind Jr := by
    unfold rRow
    rw [chL_K]
    by_cases q : b2i (hsB (Bd_nets bd0) (1 - sd) k) = nI 0
    · rw [if_pos q, if_pos q]
      cases f_X9_isOuter (nI h) (nI sd) with
      | none => rfl
      | some o =>
        simp only [bsm]
        by_cases q2 : o = nI 0
        · rw [if_pos q2, if_pos q2]; rfl
        · rw [if_neg q2, if_neg q2]
    · rw [if_neg q, if_neg q]
  rw [e]
  refine Ok2.b (rows2 sm r5 r11 hb hs hk hv hh hhow hT hm hN hS0) ?_
  rintro bd' sm' ⟨x', T', rfl, h1, h2, h3⟩
  exact next bd' x' T' h1 h2 h3
theorem xn_upd {b sd k v : Nat} (x : Nat → Int32) (a : Int32) : xn (upd x (6571 * b + (15 + 64 * sd + 8 * k + v)) a) b = upd (xn x b) ((sd * 8 + k) * 8 + v) a := by
  funext i
  unfold xn
  by_cases e : i = (sd * 8 + k) * 8 + v
  · rw [ue e, ue (by omega)]
  · rw [un e, un (by omega)]
theorem xn_n {b i : Nat} (x : Nat → Int32) (a : Int32) (h : i < 6571 * b + 15 ∨ 6571 * b + 143 ≤ i) : ∀ j, j < 128 → xn (upd x i a) b j = xn x b j := fun j hj => by
  unfold xn
  rw [un (by omega)]
/-- what a change leaves as it was in the bank -/
def FrC (b : Nat) (x y : Nat → Int32) : Prop := ∀ i, (i < 6571 * b + 9 ∨ (6571 * b + 12 ≤ i ∧ i < 6571 * b + 15) ∨ (6571 * b + 143 ≤ i ∧ i < 6571 * b + 167) ∨ (6571 * b + 175 ≤ i ∧ i < 6571 * b + 823) ∨ (6571 * b + 1123 ≤ i ∧ i < 6571 * b + 1363) ∨ 6571 * b + 1379 ≤ i) → y i = x i
def CH (b h sd k v : Nat) (many : Int32) (bd : BdT) (x : Nat → Int32) (T0 m0 : Nat) (am : Int32) (bd' : BdT) (x' : Nat → Int32) (T' : Nat) : Prop :=
  Bd_nets bd' = upd (Bd_nets bd) ((sd * 8 + k) * 8 + v) (Bd_nets bd ((sd * 8 + k) * 8 + v) + many) ∧ Bd_how bd' = Bd_how bd ∧ RLg b (Bd_ledger bd') x' T' ∧ LM (Bd_ledger bd') T0 T' m0 am ∧ (∀ i, i < 128 → Bd_nets bd' i = xn x' b i) ∧
  ((∀ i, i < 16 → Bd_turns bd i = x (6571 * b + (1363 + i))) → ∀ i, i < 16 → Bd_turns bd' i = x' (6571 * b + (1363 + i))) ∧
  (∀ k' l r, k' < 8 → l < 9 → r < 9 → Bd_sums bd' (81 * k' + 9 * l + r) = Bd_sums bd (81 * k' + 9 * l + r) + (J (Bd_nets bd') h k' l r - J (Bd_nets bd) h k' l r)) ∧ FrC b x x'
theorem ch_fin {b h sd k v T0 m0 T' : Nat} {am many : Int32} {bd bd' : BdT} {x x2 x' D : Nat → Int32} (tu : Nat → Int32) (hs : sd < 2) (hk : k < 8) (hv : v < 8)
    (hN : ∀ i, i < 128 → Bd_nets bd i = xn x b i)
    (hx2 : FrC b x x2) (hx3 : ∀ i, i < 128 → xn x2 b i = upd (xn x b) ((sd * 8 + k) * 8 + v) (xn x b ((sd * 8 + k) * 8 + v) + many) i)
    (ht : (∀ i, i < 16 → Bd_turns bd i = x (6571 * b + (1363 + i))) → ∀ i, i < 16 → tu i = x2 (6571 * b + (1363 + i)))
    (hS : SI b (Bd_w_nets bd (upd (Bd_nets bd) ((sd * 8 + k) * 8 + v) (Bd_nets bd ((sd * 8 + k) * 8 + v) + many))) x2 T0 m0 am bd' x' T' D)
    (hD : D = chD (Bd_nets bd) h sd k v (Bd_nets bd ((sd * 8 + k) * 8 + v) + many)) : CH b h sd k v many bd x T0 m0 am (Bd_w_turns bd' tu) x' T' := by
  obtain ⟨h1, h2, h3, h4, h5, h6, h7⟩ := hS
  have e1 : Bd_nets bd' = upd (Bd_nets bd) ((sd * 8 + k) * 8 + v) (Bd_nets bd ((sd * 8 + k) * 8 + v) + many) := h1
  refine ⟨h1, h3, h4, h7, ?_, ?_, ?_, ?_⟩
  · intro i hi
    show Bd_nets bd' i = _
    rw [fr_xn h5 i hi, hx3 i hi, e1, ← hN _ (by omega)]
    by_cases e : i = (sd * 8 + k) * 8 + v
    · rw [ue e, ue e]
    · rw [un e, un e, hN i hi]
  · intro hq i hi
    show tu i = _
    rw [ht hq i hi, h5 _ (by omega)]
  · intro k' l r g1 g2 g3
    show Bd_sums bd' _ = _ + (J (Bd_nets bd') h k' l r - _)
    rw [h6, hD, chD_J hs hk hv g1 g2 g3, e1]
  · intro i hi
    rw [h5 i (by omega), hx2 i hi]
theorem ch_zero (sm : MoT) (x : Nat → Int32) (b sd k v h o : Nat) (r5 r11 : Int32) (hb : b < 3) (hs : sd < 2) (hk : k < 8) (hh : h < 4) (hd : r11 - r5 = nI 0) : rRow (mo sm x) (nI b) (nI sd) (nI k) (nI v) (nI h) r5 r11 (nI o) = some (mo sm x) := by
  have c3 := r_out h hh sd hs
  unfold rRow
  by_cases q : nI o = nI 0
  · rw [if_pos q, c3, bsm, hd, r_send0]
    simp only [ite_self]
  · rw [if_neg q]
    refine lp (L := fun n i (_ : Unit) => f_X9_changes_L138_40 (nI b) (nI sd) (nI k) (nI v) r5 r11 (fun s => some s) n i (mo sm x)) 8 (fun _ _ => True) (fun o => o = some (mo sm x)) ?_ ?_ 10000 0 () (by omega) (by omega) trivial
    · intro n _ _
      simp (disch := omega) only [li_0, li_1, li_2, li_3, li_4, li_5, li_6, li_7, li_8, li_9, li_10, li_11, li_12, li_13, li_14, li_15, li_16, li_20, li_30, li_31, li_32, li_40, li_42, li_45, li_48, li_57, li_58, li_59, li_60, li_64, li_74, li_75, li_81, li_97, li_122, li_124, li_143, li_151, li_159, li_167, li_175, li_200, li_255, li_648, li_650, li_823, li_900, li_999, li_1123, li_1298, li_1363, li_1379, li_2592, li_6571, li_9999, li_65536, li_65537, ng1, ng2, nI_add, pk_mul, remN, divN, inbI, ixN, leN, ltN, eqN, m1E, m1E', m2E, m12, m21, bsm, glE, b2iT, b2iF, if_pos, if_neg, ite_true, ite_false, not_true, not_false_iff, reduceCtorEq, f_X9_changes_L138_40]
    · intro n i _ hi _
      refine Or.inr ⟨(), trivial, ?_⟩
      have t := r_th sm x hb (show 1 - sd < 2 by omega) hk hi
      have c4 := oneSub sd hs
      simp (disch := omega) only [li_0, li_1, li_2, li_3, li_4, li_5, li_6, li_7, li_8, li_9, li_10, li_11, li_12, li_13, li_14, li_15, li_16, li_20, li_30, li_31, li_32, li_40, li_42, li_45, li_48, li_57, li_58, li_59, li_60, li_64, li_74, li_75, li_81, li_97, li_122, li_124, li_143, li_151, li_159, li_167, li_175, li_200, li_255, li_648, li_650, li_823, li_900, li_999, li_1123, li_1298, li_1363, li_1379, li_2592, li_6571, li_9999, li_65536, li_65537, ng1, ng2, nI_add, pk_mul, remN, divN, inbI, ixN, leN, ltN, eqN, m1E, m1E', m2E, m12, m21, bsm, glE, b2iT, b2iF, if_pos, if_neg, ite_true, ite_false, not_true, not_false_iff, reduceCtorEq, f_X9_changes_L138_40, c4, t, hd, z8, r_send0]
