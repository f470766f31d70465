theorem how2 {h g kc vc T B : Nat} {bk : BkT} {wd : Nat → Int64} {x : Nat → Int32} (sm : MoT) (hg : g < 4) (hB : B ≤ 100000000) (hT : T + 256 < 2147483647) (hBd : RBd 0 h T (Bk_board bk) x) (hR : RBk 0 kc vc T B bk wd x) (Kr : Int32 × MoT → Option (Int32 × MoT)) :
    ∃ ans bk' x' T', f_X1_exchange bk (nI g) = some (ans, bk') ∧ T ≤ T' ∧ T' ≤ T + 256 ∧ RBk 0 kc vc T' B bk' wd x' ∧ FrO 0 x x' ∧
      ((f_X9_get (mo sm x) (0 : Int32) (0 : Int32)).bind fun r5 => (f_X9_get (mo sm x) (0 : Int32) (11 : Int32)).bind fun r7 => (f_X9_more (mo sm x) (0 : Int32) (6 : Int32) (1 : Int32)).bind fun r9 => (f_X9_set r9 (0 : Int32) (0 : Int32) (nI g)).bind fun r11 =>
        glt (fun (s0_14 : MoT) => (f_X9_countsMost s0_14 (0 : Int32) r7).bind fun r15 => Kr r15) fun K13 => f_X9_how_L66_21 (nI g) r5 K13 10000 (0 : Int32) r11) = Kr (ans, mo sm x') := by
  obtain ⟨_, q2, ⟨m, m1', m2', m3, m4⟩, q4, q5, q6, q7, q8, q9⟩ := hR
  obtain ⟨a1, a2, a3, a4, a5, a6, a7⟩ := hBd
  have h0 : (0 : Nat) < 3 := by omega
  have g0 := r_get sm x (b := 0) (i := 0) h0 (by omega)
  have g11 := r_get sm x (b := 0) (i := 11) h0 (by omega)
  have g6 := r_more sm x (b := 0) (i := 6) (nI 1) h0 (by omega)
  have gs := r_set sm (upd x (6571 * 0 + 6) (x (6571 * 0 + 6) + nI 1)) (b := 0) (i := 0) (nI g) h0 (by omega)
  have a3' : x (6571 * 0 + 0) = nI h := a3
  rw [a3'] at g0
  rw [a6.2.2.1] at g11
  -- the start
  generalize hx0 : upd (upd x (6571 * 0 + 6) (x (6571 * 0 + 6) + nI 1)) (6571 * 0 + 0) (nI g) = x0 at gs
  have x0e : ∀ i, i ≠ 6571 * 0 + 6 → i ≠ 6571 * 0 + 0 → x0 i = x i := fun i e1 e2 => by rw [← hx0, un e2, un e1]
  have x06 : x0 (6571 * 0 + 6) = x (6571 * 0 + 6) + nI 1 := by rw [← hx0, un (by omega), us]
  have x00 : x0 (6571 * 0 + 0) = nI g := by rw [← hx0, us]
  have hnB : nB (Bd_nets (Bk_board bk)) := q9.nB hB
  have hRL : RLg 0 (Lg_w_inAct (Lg_w_acts (Bd_ledger (Bk_board bk)) (Lg_acts (Bd_ledger (Bk_board bk)) + 1)) 0) x0 T := by
    obtain ⟨b1, b2, b3, b4, b5, b6, b7, b8, b9⟩ := a6
    refine ⟨fun k' hk' => by rw [x0e _ (by omega) (by omega)]; exact b1 k' hk', b2, by rw [x0e _ (by omega) (by omega)]; exact b3, by rw [x0e _ (by omega) (by omega)]; exact b4, by rw [x0e _ (by omega) (by omega)]; exact b5, ?_, fun j hj hj2 => ?_, b8, b9⟩
    · show Lg_acts (Bd_ledger (Bk_board bk)) + 1 = _
      rw [x06, b6]
      rfl
    · obtain ⟨k', l, r, e1, e2, e3, e4, e5, e6, e7, e8, e9⟩ := b7 j hj hj2
      exact ⟨k', l, r, e1, e2, e3, by rw [x0e _ (by omega) (by omega)]; exact e4, by rw [x0e _ (by omega) (by omega)]; exact e5, by rw [x0e _ (by omega) (by omega)]; exact e6, e7, by rw [x0e _ (by omega) (by omega)]; exact e8, by rw [x0e _ (by omega) (by omega)]; exact e9⟩
  have hLM : LM (Lg_w_inAct (Lg_w_acts (Bd_ledger (Bk_board bk)) (Lg_acts (Bd_ledger (Bk_board bk)) + 1)) 0) T T m (Lg_actOfMost (Bd_ledger (Bk_board bk))) := by
    refine ⟨Nat.le_refl _, ?_, ?_⟩
    · show (0 : Int32) = nI (T - T)
      rw [Nat.sub_self]
      rfl
    · rw [if_neg (by omega)]
      exact ⟨m2', rfl⟩
  have hN0 : ∀ i, i < 128 → Bd_nets (Bd_w_ledger (Bk_board bk) (Lg_w_inAct (Lg_w_acts (Bd_ledger (Bk_board bk)) (Lg_acts (Bd_ledger (Bk_board bk)) + 1)) 0)) i = xn x0 0 i := fun i hi => by
    show Bd_nets (Bk_board bk) i = _
    rw [a1 i hi]
    unfold xn
    rw [x0e _ (by omega) (by omega)]
  generalize hbd0 : Bd_w_ledger (Bk_board bk) (Lg_w_inAct (Lg_w_acts (Bd_ledger (Bk_board bk)) (Lg_acts (Bd_ledger (Bk_board bk)) + 1)) 0) = bd0 at hN0
  have hS0 : SI 0 bd0 x0 T m (Lg_actOfMost (Bd_ledger (Bk_board bk))) bd0 x0 T (fun _ => nI 0) := ⟨rfl, rfl, rfl, by rw [← hbd0]; exact hRL, fun _ _ => rfl, fun p => (z1 _).symm, by rw [← hbd0]; exact hLM⟩
  have hnt : Bd_nets bd0 = Bd_nets (Bk_board bk) := by rw [← hbd0]
  have hhow : Bd_how bd0 = nI h := by rw [← hbd0]; exact a2
  have hnB0 : nB (Bd_nets bd0) := by rw [hnt]; exact hnB
  have loop : ∀ (Kc : BkT → Option (Int32 × BkT)) (Kr : MoT → Option (Int32 × MoT)), ∃ bd' x' T' D, f_X1_exchange_L12_7 (nI g) Kc 10000 0 (Bk_w_board bk bd0) = Kc (Bk_w_board bk bd') ∧ f_X9_how_L66_21 (nI g) (nI h) Kr 10000 0 (mo sm x0) = Kr (mo sm x') ∧ T ≤ T' ∧ T' ≤ T + 256 ∧ SI 0 bd0 x0 T m (Lg_actOfMost (Bd_ledger (Bk_board bk))) bd' x' T' D ∧
      ∀ k' l r, k' < 8 → l < 9 → r < 9 → D (81 * k' + 9 * l + r) = J (Bd_nets bd0) g k' l r - J (Bd_nets bd0) h k' l r := by
    intro Kc Kr
    rw [li_0]
    refine lpp (L := fun n i s => f_X1_exchange_L12_7 (nI g) Kc n i s) (M := fun n i t => f_X9_how_L66_21 (nI g) (nI h) Kr n i t) 8
      (fun i s t => ∃ bd' x' T' D, s = Bk_w_board bk bd' ∧ t = mo sm x' ∧ T ≤ T' ∧ T' ≤ T + 32 * i ∧ SI 0 bd0 x0 T m (Lg_actOfMost (Bd_ledger (Bk_board bk))) bd' x' T' D ∧ ∀ k' l r, k' < 8 → l < 9 → r < 9 → D (81 * k' + 9 * l + r) = if k' < i then J (Bd_nets bd0) g k' l r - J (Bd_nets bd0) h k' l r else nI 0)
      (fun o q => ∃ bd' x' T' D, o = Kc (Bk_w_board bk bd') ∧ q = Kr (mo sm x') ∧ T ≤ T' ∧ T' ≤ T + 256 ∧ SI 0 bd0 x0 T m (Lg_actOfMost (Bd_ledger (Bk_board bk))) bd' x' T' D ∧ ∀ k' l r, k' < 8 → l < 9 → r < 9 → D (81 * k' + 9 * l + r) = J (Bd_nets bd0) g k' l r - J (Bd_nets bd0) h k' l r) ?_ ?_ 10000 10000 0 (Bk_w_board bk bd0) (mo sm x0) (by omega) (by omega) (by omega) ⟨bd0, x0, T, fun _ => nI 0, rfl, rfl, by omega, by omega, hS0, fun k' l r _ _ _ => by rw [if_neg (by omega)]⟩
    · rintro n n2 s t ⟨bd', x', T', D, rfl, rfl, e1, e2, e3, e4⟩
      refine ⟨bd', x', T', D, ?_, ?_, e1, by omega, e3, fun k' l r p1 p2 p3 => by rw [e4 k' l r p1 p2 p3, if_pos p1]⟩
      · simp (disch := omega) only [li_0, li_1, li_2, li_3, li_4, li_5, li_6, li_7, li_8, li_9, li_10, li_11, li_12, li_13, li_14, li_15, li_16, li_20, li_30, li_31, li_32, li_40, li_42, li_45, li_48, li_57, li_58, li_59, li_60, li_64, li_74, li_75, li_81, li_97, li_122, li_124, li_143, li_151, li_159, li_167, li_175, li_200, li_255, li_648, li_650, li_823, li_900, li_999, li_1123, li_1298, li_1363, li_1379, li_2592, li_6571, li_9999, li_65536, li_65537, ng1, ng2, nI_add, pk_mul, remN, divN, inbI, ixN, leN, ltN, eqN, m1E, m1E', m2E, m12, m21, bsm, glE, b2iT, b2iF, if_pos, if_neg, ite_true, ite_false, not_true, not_false_iff, reduceCtorEq, f_X1_exchange_L12_7]
      · simp (disch := omega) only [li_0, li_1, li_2, li_3, li_4, li_5, li_6, li_7, li_8, li_9, li_10, li_11, li_12, li_13, li_14, li_15, li_16, li_20, li_30, li_31, li_32, li_40, li_42, li_45, li_48, li_57, li_58, li_59, li_60, li_64, li_74, li_75, li_81, li_97, li_122, li_124, li_143, li_151, li_159, li_167, li_175, li_200, li_255, li_648, li_650, li_823, li_900, li_999, li_1123, li_1298, li_1363, li_1379, li_2592, li_6571, li_9999, li_65536, li_65537, ng1, ng2, nI_add, pk_mul, remN, divN, inbI, ixN, leN, ltN, eqN, m1E, m1E', m2E, m12, m21, bsm, glE, b2iT, b2iF, if_pos, if_neg, ite_true, ite_false, not_true, not_false_iff, reduceCtorEq, f_X9_how_L66_21]
    · rintro n n2 i s t hi ⟨bd', x', T', D, rfl, rfl, e1, e2, e3, e4⟩
      have ex : x' (6571 * 0 + (143 + i)) = x (6571 * 0 + (143 + i)) := by rw [e3.2.2.2.2.1 _ (by omega), x0e _ (by omega) (by omega)]
      have cl := c_lives (Bk_w_board bk bd') hi
      have rl := r_lives sm x' h0 hi
      rw [ex] at rl
      have cl : f_X1_lives (Bk_w_board bk bd') (nI i) = some (b2i (!decide (Bk_latest bk i = m2))) := cl
      rcases q4 i hi with ⟨p1, p2, p3⟩ | ⟨lt, p1, p2, p3, p4⟩
      · simp only [p2, decide_true, Bool.not_true] at cl
        simp only [p1, show (nI 0 = nI 1) = False from eq_false (by decide), decide_false] at rl
        refine ⟨Bk_w_board bk bd', mo sm x', ⟨bd', x', T', D, rfl, rfl, e1, by omega, e3, fun k' l r w1 w2 w3 => ?_⟩, ?_, ?_⟩
        · rw [e4 k' l r w1 w2 w3]
          by_cases e : k' = i
          · subst e
            rw [if_neg (by omega), if_pos (by omega), hnt, J_zero p3, J_zero p3]
            rfl
          · by_cases e' : k' < i
            · rw [if_pos e', if_pos (by omega)]
            · rw [if_neg e', if_neg (by omega)]
        · simp (disch := omega) only [li_0, li_1, li_2, li_3, li_4, li_5, li_6, li_7, li_8, li_9, li_10, li_11, li_12, li_13, li_14, li_15, li_16, li_20, li_30, li_31, li_32, li_40, li_42, li_45, li_48, li_57, li_58, li_59, li_60, li_64, li_74, li_75, li_81, li_97, li_122, li_124, li_143, li_151, li_159, li_167, li_175, li_200, li_255, li_648, li_650, li_823, li_900, li_999, li_1123, li_1298, li_1363, li_1379, li_2592, li_6571, li_9999, li_65536, li_65537, ng1, ng2, nI_add, pk_mul, remN, divN, inbI, ixN, leN, ltN, eqN, m1E, m1E', m2E, m12, m21, bsm, glE, b2iT, b2iF, if_pos, if_neg, ite_true, ite_false, not_true, not_false_iff, reduceCtorEq, f_X1_exchange_L12_7, cl]
        · simp (disch := omega) only [li_0, li_1, li_2, li_3, li_4, li_5, li_6, li_7, li_8, li_9, li_10, li_11, li_12, li_13, li_14, li_15, li_16, li_20, li_30, li_31, li_32, li_40, li_42, li_45, li_48, li_57, li_58, li_59, li_60, li_64, li_74, li_75, li_81, li_97, li_122, li_124, li_143, li_151, li_159, li_167, li_175, li_200, li_255, li_648, li_650, li_823, li_900, li_999, li_1123, li_1298, li_1363, li_1379, li_2592, li_6571, li_9999, li_65536, li_65537, ng1, ng2, nI_add, pk_mul, remN, divN, inbI, ixN, leN, ltN, eqN, m1E, m1E', m2E, m12, m21, bsm, glE, b2iT, b2iF, if_pos, if_neg, ite_true, ite_false, not_true, not_false_iff, reduceCtorEq, f_X9_how_L66_21, rl]
      · simp only [p4, m2E (show lt < 2147483648 by omega), decide_false, Bool.not_false] at cl
        simp only [p2, decide_true] at rl
        obtain ⟨bdA, xA, TA, o1, o2, o3, o4, o5⟩ := exA (sm := sm) (k := i) (Kc := fun (s0_2 : BdT) => glt (fun (s0_4 : BdT) => some (s0_4)) fun K3 => f_X0_exchangeOuters_L52_7 (nI i) (nI g) K3 10000 (0 : Int32) s0_2) (Kr := fun (s0_28 : MoT) => glt (fun (s0_30 : MoT) => f_X9_how_L66_21 (nI g) (nI h) Kr n2 (nI i + (1 : Int32)) s0_30) fun K29 => f_X9_how_L115_33 (nI g) (nI h) (nI i) K29 10000 (0 : Int32) s0_28) a4 hg hhow hi (by omega) (by omega) hN0 hnB0 e3
        obtain ⟨bdB, xB, TB, u1, u2, u3, u4, u5⟩ := exB (sm := sm) (k := i) (Kc := fun (s0_4 : BdT) => some (s0_4)) (Kr := fun (s0_30 : MoT) => f_X9_how_L66_21 (nI g) (nI h) Kr n2 (nI i + (1 : Int32)) s0_30) a4 hg hhow hi (by omega) (by omega) hN0 hnB0 o5
        have i1 : nI i + (1 : Int32) = nI (i + 1) := nI_1 i
        refine ⟨Bk_w_board bk bdB, mo sm xB, ⟨bdB, xB, TB, _, rfl, rfl, by omega, by omega, u5, fun k' l r w1 w2 w3 => ?_⟩, ?_, ?_⟩
        · show D (81 * k' + 9 * l + r) + eA (Bd_nets bd0) h g i m1 (81 * k' + 9 * l + r) 2 + eA (Bd_nets bd0) g h i (nI 1) (81 * k' + 9 * l + r) 2 = _
          rw [Int32.add_assoc, eA_J hi w1 w2 w3, e4 k' l r w1 w2 w3]
          by_cases e : k' = i
          · subst e
            rw [if_neg (by omega), if_pos rfl, if_pos (by omega), z2]
          · rw [if_neg e, z1]
            by_cases e' : k' < i
            · rw [if_pos e', if_pos (by omega)]
            · rw [if_neg e', if_neg (by omega)]
        · have c2 : f_X0_exchangeOuters bd' (nI i) (nI g) = some bdB := by
            unfold f_X0_exchangeOuters
            exact eg (o1.trans (eg u1))
          have c2 : f_X0_exchangeOuters (Bk_board (Bk_w_board bk bd')) (nI i) (nI g) = some bdB := c2
          simp (disch := omega) only [li_0, li_1, li_2, li_3, li_4, li_5, li_6, li_7, li_8, li_9, li_10, li_11, li_12, li_13, li_14, li_15, li_16, li_20, li_30, li_31, li_32, li_40, li_42, li_45, li_48, li_57, li_58, li_59, li_60, li_64, li_74, li_75, li_81, li_97, li_122, li_124, li_143, li_151, li_159, li_167, li_175, li_200, li_255, li_648, li_650, li_823, li_900, li_999, li_1123, li_1298, li_1363, li_1379, li_2592, li_6571, li_9999, li_65536, li_65537, ng1, ng2, nI_add, pk_mul, remN, divN, inbI, ixN, leN, ltN, eqN, m1E, m1E', m2E, m12, m21, bsm, glE, b2iT, b2iF, if_pos, if_neg, ite_true, ite_false, not_true, not_false_iff, reduceCtorEq, f_X1_exchange_L12_7, cl, c2]
        · rw [f_X9_how_L66_21]
          refine (if_neg (nI_ge hi (by omega))).trans (eb rl ((if_neg b10).trans (eg (o2.trans (eg (u2.trans ?_))))))
          rw [i1]
  obtain ⟨bd', x', T', D, l1, l2, l3, l4, l5, l6⟩ := loop (fun (s0_4 : BkT) => some ((Lg_inAct (Bd_ledger (Bk_board s0_4))), (Bk_w_board s0_4 (Bd_w_how (Bk_board s0_4) (nI g))))) (fun s0_14 => (f_X9_countsMost s0_14 (0 : Int32) (nI T)).bind fun r15 => Kr r15)
  obtain ⟨s1, s2, s3, s4, s5, s6, s7⟩ := l5
  have xe : ∀ i, (i < 6571 * 0 + 9 ∨ (6571 * 0 + 12 ≤ i ∧ i < 6571 * 0 + 167) ∨ (6571 * 0 + 175 ≤ i ∧ i < 6571 * 0 + 823) ∨ 6571 * 0 + 1123 ≤ i) → i ≠ 6571 * 0 + 6 → i ≠ 6571 * 0 + 0 → x' i = x i := fun i e1 e2 e3 => by rw [s5 i e1, x0e i e2 e3]
  obtain ⟨y3, t1, t2, t3⟩ := r_most sm x' (b := 0) (lg := Bd_ledger bd') (m := m) (am := Lg_actOfMost (Bd_ledger (Bk_board bk))) (T := T) (T' := T') h0 (by omega) l3 s4.2.2.1 (by rw [xe _ (by omega) (by omega) (by omega)]; exact m3) (by omega) s7 s4.2.2.2.2.2.1 (by rw [xe _ (by omega) (by omega) (by omega)]; exact m4)
  have ye : ∀ i, (i < 6571 * 0 + 9 ∨ (6571 * 0 + 12 ≤ i ∧ i < 6571 * 0 + 167) ∨ (6571 * 0 + 175 ≤ i ∧ i < 6571 * 0 + 823) ∨ 6571 * 0 + 1123 ≤ i) → i ≠ 6571 * 0 + 6 → i ≠ 6571 * 0 + 0 → i ≠ 6571 * 0 + 12 → i ≠ 6571 * 0 + 14 → y3 i = x i := fun i e1 e2 e3 e4 e5 => by rw [t2 i e4 e5, xe i e1 e2 e3]
  refine ⟨Lg_inAct (Bd_ledger bd'), Bk_w_board (Bk_w_board bk bd') (Bd_w_how bd' (nI g)), y3, T', ?_, l3, l4, ?_, ?_, ?_⟩
  · unfold f_X1_exchange
    refine eb (c_open _) (eg ?_)
    show f_X1_exchange_L12_7 (nI g) _ 10000 0 (Bk_w_board bk (Bd_w_ledger (Bk_board bk) _)) = _
    rw [hbd0]
    exact l1
  · refine ⟨⟨g, ?_, rfl, ?_, hg, ?_, ?_, ?_⟩, ?_, t3, ?_, ?_, ?_, ?_, ?_, ?_⟩
    · intro i hi
      show Bd_nets bd' i = _
      rw [s1, hnt, a1 i hi]
      unfold xn
      rw [ye _ (by omega) (by omega) (by omega) (by omega) (by omega)]
    · rw [t2 _ (by omega) (by omega), s5 _ (by omega)]
      exact x00
    · intro i hi
      show Bd_turns bd' i = _
      rw [s2, ← hbd0]
      show Bd_turns (Bk_board bk) i = _
      rw [ye _ (by omega) (by omega) (by omega) (by omega) (by omega)]
      exact a5 i hi
    · exact RL_fr s4 (fun i hi => t2 _ (by omega) (by omega))
    · intro k' l r p1 p2 p3
      show Bd_sums bd' _ = J (Bd_nets bd') g k' l r + _
      rw [s6, l6 k' l r p1 p2 p3, s1, ye _ (by omega) (by omega) (by omega) (by omega) (by omega), hnt]
      have a7' := a7 k' l r p1 p2 p3
      have e0 : Bd_sums bd0 (81 * k' + 9 * l + r) = Bd_sums (Bk_board bk) (81 * k' + 9 * l + r) := by rw [← hbd0]
      rw [e0, a7']
      generalize J (Bd_nets (Bk_board bk)) g k' l r = A
      generalize J (Bd_nets (Bk_board bk)) h k' l r = C
      rw [Int32.add_comm C, Int32.add_assoc, Int32.add_comm C, Int32.sub_add_cancel, Int32.add_comm]
    · exact q2.fr (ye _ (by omega) (by omega) (by omega) (by omega) (by omega)) (ye _ (by omega) (by omega) (by omega) (by omega) (by omega))
    · intro k' hk'
      show (_ ∧ Bk_latest bk k' = _ ∧ ∀ s v, s < 2 → v < 8 → Bd_nets bd' ((s * 8 + k') * 8 + v) = nI 0) ∨ ∃ t', _ ∧ _ ∧ _ ∧ Bk_latest bk k' = nI t'
      rw [s1, hnt, ye _ (by omega) (by omega) (by omega) (by omega) (by omega), ye _ (by omega) (by omega) (by omega) (by omega) (by omega)]
      exact q4 k' hk'
    · obtain ⟨⟨kp', e1, e2, e3⟩, ⟨lt', e4, e5, e6⟩, ⟨ck', e7, e8, e9⟩, e10, e11, e12⟩ := q5
      exact ⟨⟨kp', e1, e2, by rw [ye _ (by omega) (by omega) (by omega) (by omega) (by omega)]; exact e3⟩, ⟨lt', e4, e5, by rw [ye _ (by omega) (by omega) (by omega) (by omega) (by omega)]; exact e6⟩, ⟨ck', e7, e8, by rw [ye _ (by omega) (by omega) (by omega) (by omega) (by omega)]; exact e9⟩, by rw [ye _ (by omega) (by omega) (by omega) (by omega) (by omega)]; exact e10, by rw [ye _ (by omega) (by omega) (by omega) (by omega) (by omega)]; exact e11, fun k' hk' => by rw [ye _ (by omega) (by omega) (by omega) (by omega) (by omega)]; exact e12 k' hk'⟩
    · refine ⟨fun s k' v e1 e2 e3 e4 => ?_, fun k' l r e1 e2 e3 e4 => q6.2 k' l r e1 e2 e3 (by rw [ye _ (by omega) (by omega) (by omega) (by omega) (by omega)] at e4; exact e4)⟩
      have e4 : Bd_nets bd' ((s * 8 + k') * 8 + v) ≠ nI 0 := e4
      rw [s1, hnt] at e4
      exact q6.1 s k' v e1 e2 e3 e4
    · exact q7.fr (ye _ (by omega) (by omega) (by omega) (by omega) (by omega)) (fun i e1 e2 => ye _ (by omega) (by omega) (by omega) (by omega) (by omega))
    · exact q8.fr l3 (fun i e1 e2 => ye _ (by omega) (by omega) (by omega) (by omega) (by omega))
    · show RNb B (Bd_nets bd')
      rw [s1, hnt]
      exact q9
  · intro i hi
    exact ye _ (by omega) (by omega) (by omega) (by omega) (by omega)
  · exact eb g0 (eb g11 (eb g6 (eb gs (eg (l2.trans (eb t1 rfl))))))
