/-! an event on both sides -/
theorem c_late (bk : BkT) (t : Int32) : f_X1_isTooLate bk t = some (if (Bk_clock bk - Bk_late bk) ≤ t then 0 else 1) := by
  unfold f_X1_isTooLate
  split <;> rfl
theorem c_open (lg : LgT) : f_X2_openAct lg = some (Lg_w_inAct (Lg_w_acts lg (Lg_acts lg + 1)) 0) := rfl
/-- the reference's own count of an act -/
theorem r_most (sm : MoT) (y : Nat → Int32) {b T T' m : Nat} {lg : LgT} {am : Int32} (hb : b < 3) (hT : T' < 2147483648) (hTT : T ≤ T') (h11 : y (6571 * b + 11) = nI T') (h12 : y (6571 * b + 12) = nI m) (hm : m ≤ T') (hM : LM lg T T' m am) (h6 : Lg_acts lg = y (6571 * b + 6)) (hq : if m = 0 then am = m2 else am = y (6571 * b + 14)) :
    ∃ y', f_X9_countsMost (mo sm y) (nI b) (nI T) = some (Lg_inAct lg, mo sm y') ∧ (∀ i, i ≠ 6571 * b + 12 → i ≠ 6571 * b + 14 → y' i = y i) ∧ RMx b T' lg y' := by
  obtain ⟨l1, l2, l3⟩ := hM
  have g1 := r_get sm y (b := b) (i := 11) hb (by omega)
  have g2 := r_get sm y (b := b) (i := 12) hb (by omega)
  rw [h11] at g1
  rw [h12] at g2
  have e1 : nI T' - nI T = nI (T' - T) := subN hTT
  unfold f_X9_countsMost
  by_cases q : m < T' - T
  · rw [if_pos q] at l3
    have g3 := r_set sm y (b := b) (i := 12) (nI (T' - T)) hb (by omega)
    have g4 := r_get sm (upd y (6571 * b + 12) (nI (T' - T))) (b := b) (i := 6) hb (by omega)
    rw [un (by omega)] at g4
    have g5 := r_set sm (upd y (6571 * b + 12) (nI (T' - T))) (b := b) (i := 14) (y (6571 * b + 6)) hb (by omega)
    refine ⟨upd (upd y (6571 * b + 12) (nI (T' - T))) (6571 * b + 14) (y (6571 * b + 6)), ?_, ?_, ?_⟩
    · rw [l2]
      simp (disch := omega) only [li_0, li_1, li_2, li_3, li_4, li_5, li_6, li_7, li_8, li_9, li_10, li_11, li_12, li_13, li_14, li_15, li_16, li_20, li_30, li_31, li_32, li_40, li_42, li_45, li_48, li_57, li_58, li_59, li_60, li_64, li_74, li_75, li_81, li_97, li_122, li_124, li_143, li_151, li_159, li_167, li_175, li_200, li_255, li_648, li_650, li_823, li_900, li_999, li_1123, li_1298, li_1363, li_1379, li_2592, li_6571, li_9999, li_65536, li_65537, ng1, ng2, nI_add, pk_mul, remN, divN, inbI, ixN, leN, ltN, eqN, m1E, m1E', m2E, m12, m21, bsm, glE, b2iT, b2iF, if_pos, if_neg, ite_true, ite_false, not_true, not_false_iff, reduceCtorEq, g1, g2, e1, g3, g4, g5]
    · intro i h1 h2
      rw [un h2, un h1]
    · refine ⟨T' - T, by omega, l3.1, by rw [un (by omega), us], ?_⟩
      rw [if_neg (by omega), us, l3.2, h6]
  · rw [if_neg q] at l3
    refine ⟨y, ?_, fun _ _ _ => rfl, m, hm, l3.1, h12, ?_⟩
    · rw [l2]
      simp (disch := omega) only [li_0, li_1, li_2, li_3, li_4, li_5, li_6, li_7, li_8, li_9, li_10, li_11, li_12, li_13, li_14, li_15, li_16, li_20, li_30, li_31, li_32, li_40, li_42, li_45, li_48, li_57, li_58, li_59, li_60, li_64, li_74, li_75, li_81, li_97, li_122, li_124, li_143, li_151, li_159, li_167, li_175, li_200, li_255, li_648, li_650, li_823, li_900, li_999, li_1123, li_1298, li_1363, li_1379, li_2592, li_6571, li_9999, li_65536, li_65537, ng1, ng2, nI_add, pk_mul, remN, divN, inbI, ixN, leN, ltN, eqN, m1E, m1E', m2E, m12, m21, bsm, glE, b2iT, b2iF, if_pos, if_neg, ite_true, ite_false, not_true, not_false_iff, reduceCtorEq, g1, g2, e1]
    · rw [l3.2]
      exact hq
theorem add1 {a : Int32} {many : Int32} {B : Nat} (h1 : -(B : Int) ≤ a.toInt) (h2 : a.toInt ≤ B) (h3 : -9 ≤ many.toInt) (h4 : many.toInt ≤ 9) (hB : B ≤ 100000000) : -((B + 9 : Nat) : Int) ≤ (a + many).toInt ∧ (a + many).toInt ≤ ((B + 9 : Nat) : Int) := by
  rw [addI (by omega) (by omega)]
  omega
theorem RNb.upd {B i : Nat} {nt : Nat → Int32} {many : Int32} (h : RNb B nt) (hi : i < 128) (h3 : -9 ≤ many.toInt) (h4 : many.toInt ≤ 9) (hB : B ≤ 100000000) : RNb (B + 9) (upd nt i (nt i + many)) := by
  intro j hj
  by_cases e : j = i
  · rw [ue e]
    exact add1 (h i hi).1 (h i hi).2 h3 h4 hB
  · rw [un e]
    have := h j hj
    omega
theorem does_tail {b h kc vc T B m sd k v t : Nat} {am many : Int32} {bk1 : BkT} {lg1 : LgT} {st' : StT} {wd : Nat → Int64} {x3 : Nat → Int32} (sm : MoT) (hb : b < 3) (hs : sd < 2) (hk : k < kc) (hv : v < vc) (ht : t ≤ 9999) (hm1 : -9 ≤ many.toInt) (hm2 : many.toInt ≤ 9) (hB : B + 9 ≤ 100000000) (hT : T + 24 < 2147483647)
    (hadd : f_X4_add (Bk_store bk1) (nI sd) (nI k) (nI v) many = some st') (hSt : RSt b st' x3) (hBd : RBd b h T (Bd_w_ledger (Bk_board bk1) lg1) x3) (hM : LM lg1 T T m am) (hm : m ≤ T) (h12 : x3 (6571 * b + 12) = nI m) (h14 : if m = 0 then am = m2 else am = x3 (6571 * b + 14))
    (hLv : RLv b (Bd_nets (Bk_board bk1)) (Bk_latest bk1) x3) (hTm : RTm b bk1 x3) (hKn : RKn b kc vc (Bd_nets (Bk_board bk1)) x3) (hSb : RSb b T (Bk_subscribers bk1) x3) (hNb : RNb B (Bd_nets (Bk_board bk1))) (hWd : RWd b kc vc (Bk_keys bk1) (Bk_values bk1) wd x3) :
    Ok2 ((f_X0_change (Bd_w_ledger (Bk_board bk1) lg1) (nI sd) (nI k) (nI v) many).bind fun r8 => if inb (nI k) 8 then if inb (nI k) 8 then (f_X4_add (Bk_store bk1) (nI sd) (nI k) (nI v) many).bind fun r12 =>
        some ((Lg_inAct (Bd_ledger r8)), (Bk_w_latest (Bk_w_store (Bk_w_board bk1 r8) r12) (upd (Bk_latest bk1) (ix (nI k)) (if ((Bk_latest bk1) (ix (nI k))) < nI t then nI t else ((Bk_latest bk1) (ix (nI k))))))) else none else none)
      ((f_X9_get (mo sm x3) (nI b) (11 : Int32)).bind fun r14 => (f_X9_changes (mo sm x3) (nI b) (nI sd) (nI k) (nI v) many).bind fun r16 => (f_X9_lives r16 (nI b) (nI k)).bind fun r18 =>
        glt (fun (s0_21 : MoT) => (f_X9_set s0_21 (nI b) ((143 : Int32) + nI k) (1 : Int32)).bind fun r22 => (f_X9_countsMost r22 (nI b) r14).bind fun r24 => some ((r24.1), (r24.2))) fun J20 =>
        glt (fun (_ : Unit) => (f_X9_set r16 (nI b) ((151 : Int32) + nI k) (nI t)).bind fun r27 => J20 r27) fun J26 =>
        if r18 = 0 then J26 () else (f_X9_get r16 (nI b) ((151 : Int32) + nI k)).bind fun r30 => if nI t ≤ r30 then J20 r16 else J26 ())
      (fun r r' => r.1 = r'.1 ∧ ∃ x' T', r'.2 = mo sm x' ∧ T ≤ T' ∧ T' ≤ T + 24 ∧ r.1 = nI (T' - T) ∧ RBk b kc vc T' (B + 9) r.2 wd x' ∧ FrO b x3 x') := by
  have hk8 : k < 8 := by have := hWd.1; omega
  have hv8 : v < 8 := by have := hWd.2.1; omega
  have hI : inb (nI k) 8 := inbN hk8 (by omega)
  have hix : ix (nI k) = k := ixN (by omega)
  obtain ⟨a1, a2, a3, a4, a5, a6, a7⟩ := hBd
  have hnB : nB (Bd_nets (Bk_board bk1)) := hNb.nB (by omega)
  have hNb' : RNb (B + 9) (upd (Bd_nets (Bk_board bk1)) ((sd * 8 + k) * 8 + v) (Bd_nets (Bk_board bk1) ((sd * 8 + k) * 8 + v) + many)) := hNb.upd (by omega) hm1 hm2 (by omega)
  have i1 : (151 : Int32) + nI k = nI (151 + k) := nI_add 151 k
  have i2 : (143 : Int32) + nI k = nI (143 + k) := nI_add 143 k
  have g11 := r_get sm x3 (b := b) (i := 11) hb (by omega)
  rw [a6.2.2.1] at g11
  refine Ok2.br g11 ?_
  rw [i1, i2]
  refine Ok2.b (change2 (m0 := m) (am := am) (T0 := T) sm hb hs hk8 hv8 a4 hT (by omega) a2 a3 a1 hnB (hNb'.nB hB) a6 hM) ?_
  rintro bd' sm' ⟨x4, T', rfl, t1, t2, c1, c2, c3, c4, c5, c6, c7, c8⟩
  have c1 : Bd_nets bd' = upd (Bd_nets (Bk_board bk1)) ((sd * 8 + k) * 8 + v) (Bd_nets (Bk_board bk1) ((sd * 8 + k) * 8 + v) + many) := c1
  refine Ok2.lt hI (Ok2.lt hI (Ok2.bl hadd ?_))
  rw [hix]
  have gl := r_lives sm x4 hb hk8
  have el : x4 (6571 * b + (143 + k)) = x3 (6571 * b + (143 + k)) := c8 _ (by omega)
  have el2 : x4 (6571 * b + (151 + k)) = x3 (6571 * b + (151 + k)) := c8 _ (by omega)
  -- the latest time of the key
  have hlat : ∃ y1 tm, tm ≤ 9999 ∧ (if Bk_latest bk1 k < nI t then nI t else Bk_latest bk1 k) = nI tm ∧ (∀ i, i ≠ 6571 * b + (151 + k) → y1 i = x4 i) ∧ y1 (6571 * b + (151 + k)) = nI tm ∧
      ∀ (J20 : MoT → Option (Int32 × MoT)), ((f_X9_lives (mo sm x4) (nI b) (nI k)).bind fun r18 => glt J20 fun J20 => glt (fun (_ : Unit) => (f_X9_set (mo sm x4) (nI b) (nI (151 + k)) (nI t)).bind fun r27 => J20 r27) fun J26 =>
        if r18 = 0 then J26 () else (f_X9_get (mo sm x4) (nI b) (nI (151 + k))).bind fun r30 => if nI t ≤ r30 then J20 (mo sm x4) else J26 ()) = J20 (mo sm y1) := by
    have gs := r_set sm x4 (b := b) (i := 151 + k) (nI t) hb (by omega)
    have gg := r_get sm x4 (b := b) (i := 151 + k) hb (by omega)
    rcases hLv k hk8 with ⟨q1, q2, q3⟩ | ⟨lt, q1, q2, q3, q4⟩
    · simp only [el, q1, show (nI 0 = nI 1) = False from eq_false (by decide), decide_false] at gl
      refine ⟨upd x4 (6571 * b + (151 + k)) (nI t), t, ht, ?_, fun i hi => un hi, us, fun J20 => ?_⟩
      · rw [q2, if_pos]
        rw [ltI, tI (by omega)]
        have : m2.toInt = -2 := rfl
        omega
      · refine eb gl (eg (eg ((if_pos rfl).trans (eb gs rfl))))
    · simp only [el, q2, decide_true] at gl
      rw [el2, q3] at gg
      by_cases q : lt < t
      · refine ⟨upd x4 (6571 * b + (151 + k)) (nI t), t, ht, ?_, fun i hi => un hi, us, fun J20 => ?_⟩
        · rw [q4, if_pos (nI_lt q (by omega))]
        · exact eb gl (eg (eg ((if_neg b10).trans (eb gg ((if_neg (nI_ge q (by omega))).trans (eb gs rfl))))))
      · refine ⟨x4, lt, q1, ?_, fun i hi => rfl, by rw [el2, q3], fun J20 => ?_⟩
        · rw [q4, if_neg (nI_nlt (by omega) (by omega))]
        · exact eb gl (eg (eg ((if_neg b10).trans (eb gg (if_pos (nI_le (by omega) (by omega)))))))
  obtain ⟨y1, tm, n1, n2, n3, n4, n5⟩ := hlat
  rw [n5, n2]
  have gs := r_set sm y1 (b := b) (i := 143 + k) (nI 1) hb (by omega)
  refine Ok2.br gs ?_
  have y2e : ∀ i, i ≠ 6571 * b + (151 + k) → i ≠ 6571 * b + (143 + k) → upd y1 (6571 * b + (143 + k)) (nI 1) i = x4 i := fun i h1 h2 => by rw [un h2, n3 i h1]
  obtain ⟨y3, m1, m2', m3⟩ := r_most sm (upd y1 (6571 * b + (143 + k)) (nI 1)) (lg := Bd_ledger bd') (m := m) (am := am) (T := T) (T' := T') hb (by omega) t1 (by rw [y2e _ (by omega) (by omega)]; exact c3.2.2.1) (by rw [y2e _ (by omega) (by omega), c8 _ (by omega)]; exact h12) (by omega) c4 (by rw [y2e _ (by omega) (by omega)]; exact c3.2.2.2.2.2.1) (by rw [y2e _ (by omega) (by omega), c8 _ (by omega)]; exact h14)
  refine Ok2.br m1 ?_
  have ye : ∀ i, i ≠ 6571 * b + (151 + k) → i ≠ 6571 * b + (143 + k) → i ≠ 6571 * b + 12 → i ≠ 6571 * b + 14 → y3 i = x4 i := fun i h1 h2 h3 h4 => by rw [m2' i h3 h4, y2e i h1 h2]
  have ye3 : ∀ i, i ≠ 6571 * b + (151 + k) → i ≠ 6571 * b + (143 + k) → i ≠ 6571 * b + 12 → i ≠ 6571 * b + 14 → (i < 6571 * b + 9 ∨ (6571 * b + 12 ≤ i ∧ i < 6571 * b + 15) ∨ (6571 * b + 143 ≤ i ∧ i < 6571 * b + 167) ∨ (6571 * b + 175 ≤ i ∧ i < 6571 * b + 823) ∨ (6571 * b + 1123 ≤ i ∧ i < 6571 * b + 1363) ∨ 6571 * b + 1379 ≤ i) → y3 i = x3 i := fun i h1 h2 h3 h4 h5 => by rw [ye i h1 h2 h3 h4, c8 i h5]
  refine Ok2.ret ⟨rfl, y3, T', rfl, t1, t2, c4.2.1, ?_, ?_⟩
  · refine ⟨⟨h, ?_⟩, hWd.fr (ye3 _ (by omega) (by omega) (by omega) (by omega) (by omega)) (ye3 _ (by omega) (by omega) (by omega) (by omega) (by omega)), m3, ?_, ?_, ?_, ?_, ?_, ?_⟩
    · refine ⟨?_, ?_, ?_, a4, ?_, ?_, ?_⟩
      · intro i hi
        show Bd_nets bd' i = _
        rw [c5 i hi]
        unfold xn
        rw [ye _ (by omega) (by omega) (by omega) (by omega)]
      · exact c2.trans a2
      · rw [ye3 _ (by omega) (by omega) (by omega) (by omega) (by omega)]
        exact a3
      · intro i hi
        show Bd_turns bd' i = _
        rw [ye _ (by omega) (by omega) (by omega) (by omega)]
        exact c6 a5 i hi
      · exact RL_fr c3 (fun i hi => ye _ (by omega) (by omega) (by omega) (by omega))
      · intro k' l r p1 p2 p3
        show Bd_sums bd' _ = J (Bd_nets bd') h k' l r + _
        rw [c7 k' l r p1 p2 p3, ye3 _ (by omega) (by omega) (by omega) (by omega) (by omega)]
        have a7' : Bd_sums (Bk_board bk1) (81 * k' + 9 * l + r) = J (Bd_nets (Bk_board bk1)) h k' l r + x3 (6571 * b + (175 + (81 * k' + 9 * l + r))) := a7 k' l r p1 p2 p3
        show Bd_sums (Bk_board bk1) _ + (J (Bd_nets bd') h k' l r - J (Bd_nets (Bk_board bk1)) h k' l r) = _
        rw [a7']
        generalize J (Bd_nets bd') h k' l r = A
        generalize J (Bd_nets (Bk_board bk1)) h k' l r = C
        rw [Int32.add_comm C, Int32.add_assoc, Int32.add_comm C, Int32.sub_add_cancel, Int32.add_comm]
    · intro k' hk'
      show (_ ∧ upd (Bk_latest bk1) k (nI tm) k' = _ ∧ ∀ s v', s < 2 → v' < 8 → Bd_nets bd' ((s * 8 + k') * 8 + v') = nI 0) ∨ ∃ t', _ ∧ _ ∧ _ ∧ upd (Bk_latest bk1) k (nI tm) k' = nI t'
      by_cases e : k' = k
      · subst e
        refine Or.inr ⟨tm, n1, ?_, ?_, us⟩
        · rw [m2' _ (by omega) (by omega), us]
        · rw [m2' _ (by omega) (by omega), un (by omega)]
          exact n4
      · rw [un e, ye3 _ (by omega) (by omega) (by omega) (by omega) (by omega), ye3 _ (by omega) (by omega) (by omega) (by omega) (by omega)]
        rcases hLv k' hk' with ⟨q1, q2, q3⟩ | q
        · refine Or.inl ⟨q1, q2, fun s v' p1 p2 => ?_⟩
          rw [c1, un (by omega)]
          exact q3 s v' p1 p2
        · exact Or.inr q
    · obtain ⟨⟨kp, p1, p2, p3⟩, ⟨lt, q1, q2, q3⟩, ⟨ck, r1, r2, r3⟩, f4, f5, f6⟩ := hTm
      exact ⟨⟨kp, p1, p2, by rw [ye3 _ (by omega) (by omega) (by omega) (by omega) (by omega)]; exact p3⟩, ⟨lt, q1, q2, by rw [ye3 _ (by omega) (by omega) (by omega) (by omega) (by omega)]; exact q3⟩, ⟨ck, r1, r2, by rw [ye3 _ (by omega) (by omega) (by omega) (by omega) (by omega)]; exact r3⟩,
        by rw [ye3 _ (by omega) (by omega) (by omega) (by omega) (by omega)]; exact f4, by rw [ye3 _ (by omega) (by omega) (by omega) (by omega) (by omega)]; exact f5, fun k' hk' => by rw [ye3 _ (by omega) (by omega) (by omega) (by omega) (by omega)]; exact f6 k' hk'⟩
    · refine ⟨fun s k' v' p1 p2 p3 p4 => ?_, fun k' l r p1 p2 p3 p4 => ?_⟩
      · have p4 : Bd_nets bd' ((s * 8 + k') * 8 + v') ≠ nI 0 := p4
        by_cases e : (s * 8 + k') * 8 + v' = (sd * 8 + k) * 8 + v
        · have e1 : k' = k := by omega
          have e2 : v' = v := by omega
          rw [e1, e2]
          exact ⟨hk, hv⟩
        · rw [c1, un e] at p4
          exact hKn.1 s k' v' p1 p2 p3 p4
      · rw [ye3 _ (by omega) (by omega) (by omega) (by omega) (by omega)] at p4
        exact hKn.2 k' l r p1 p2 p3 p4
    · exact hSt.fr (ye3 _ (by omega) (by omega) (by omega) (by omega) (by omega)) (fun i p1 p2 => ye3 _ (by omega) (by omega) (by omega) (by omega) (by omega))
    · exact hSb.fr t1 (fun i p1 p2 => ye3 _ (by omega) (by omega) (by omega) (by omega) (by omega))
    · show RNb (B + 9) (Bd_nets bd')
      rw [c1]
      exact hNb'
  · intro i hi
    exact ye3 _ (by omega) (by omega) (by omega) (by omega) (by omega)
