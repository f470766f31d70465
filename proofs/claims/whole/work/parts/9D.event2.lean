theorem store2 {b sd k v : Nat} {many : Int32} {st : StT} {x : Nat → Int32} (sm : MoT) (hb : b < 3) (hs : sd < 2) (hk : k < 8) (hv : v < 8) (hm1 : -9 ≤ many.toInt) (hm2 : many.toInt ≤ 9) (h : RSt b st x) :
    ∃ st' y, f_X4_add st (nI sd) (nI k) (nI v) many = some st' ∧ RSt b st' y ∧ (∀ i, i ≠ 6571 * b + 13 → (i < 6571 * b + 1123 ∨ 6571 * b + 1363 ≤ i) → y i = x i) ∧
      ∀ {R : Type} (J12 : MoT → Option R), ((f_X9_get (mo sm x) (nI b) (13 : Int32)).bind fun r10 => glt J12 fun J12 => if (60 : Int32) ≤ r10 then J12 (mo sm x) else (f_X9_get (mo sm x) (nI b) (13 : Int32)).bind fun r34 =>
        (f_X9_set (mo sm x) (nI b) ((1123 : Int32) + ((4 : Int32) * r34)) (nI sd)).bind fun r36 =>
        (f_X9_set r36 (nI b) (((1123 : Int32) + ((4 : Int32) * r34)) + (1 : Int32)) (nI k)).bind fun r38 =>
        (f_X9_set r38 (nI b) (((1123 : Int32) + ((4 : Int32) * r34)) + (2 : Int32)) (nI v)).bind fun r40 =>
        (f_X9_set r40 (nI b) (((1123 : Int32) + ((4 : Int32) * r34)) + (3 : Int32)) many).bind fun r42 =>
        (f_X9_more r42 (nI b) (13 : Int32) (1 : Int32)).bind fun r44 => J12 r44) = J12 (mo sm y) := by
  obtain ⟨c, h1, h2, h3, h4⟩ := h
  have g := r_get sm x (b := b) (i := 13) hb (by omega)
  rw [h3] at g
  by_cases q : c < 60
  · have g1 := r_set sm x (b := b) (i := 1123 + 4 * c) (nI sd) hb (by omega)
    have g2 := r_set sm (upd x (6571 * b + (1123 + 4 * c)) (nI sd)) (b := b) (i := 1123 + 4 * c + 1) (nI k) hb (by omega)
    have g3 := r_set sm (upd (upd x (6571 * b + (1123 + 4 * c)) (nI sd)) (6571 * b + (1123 + 4 * c + 1)) (nI k)) (b := b) (i := 1123 + 4 * c + 2) (nI v) hb (by omega)
    have g4 := r_set sm (upd (upd (upd x (6571 * b + (1123 + 4 * c)) (nI sd)) (6571 * b + (1123 + 4 * c + 1)) (nI k)) (6571 * b + (1123 + 4 * c + 2)) (nI v)) (b := b) (i := 1123 + 4 * c + 3) many hb (by omega)
    have g5 := r_more sm (upd (upd (upd (upd x (6571 * b + (1123 + 4 * c)) (nI sd)) (6571 * b + (1123 + 4 * c + 1)) (nI k)) (6571 * b + (1123 + 4 * c + 2)) (nI v)) (6571 * b + (1123 + 4 * c + 3)) many) (b := b) (i := 13) (nI 1) hb (by omega)
    refine ⟨(upd (St_sides st) c (nI sd), upd (St_keys st) c (nI k), upd (St_values st) c (nI v), upd (St_manies st) c many, nI (c + 1)), (upd (upd (upd (upd (upd x (6571 * b + (1123 + 4 * c)) (nI sd)) (6571 * b + (1123 + 4 * c + 1)) (nI k)) (6571 * b + (1123 + 4 * c + 2)) (nI v)) (6571 * b + (1123 + 4 * c + 3)) many) (6571 * b + 13) ((upd (upd (upd (upd x (6571 * b + (1123 + 4 * c)) (nI sd)) (6571 * b + (1123 + 4 * c + 1)) (nI k)) (6571 * b + (1123 + 4 * c + 2)) (nI v)) (6571 * b + (1123 + 4 * c + 3)) many) (6571 * b + 13) + nI 1)), ?_, ?_, ?_, fun J12 => ?_⟩
    rotate_left
    rotate_left
    rotate_left
    · refine eb g (eg ((if_neg (nI_ge q (by omega))).trans (eb g ?_)))
      have i0 : (1123 : Int32) + ((4 : Int32) * nI c) = nI (1123 + 4 * c) := by
        simp (disch := omega) only [li_0, li_1, li_2, li_3, li_4, li_5, li_6, li_7, li_8, li_9, li_10, li_11, li_12, li_13, li_14, li_15, li_16, li_20, li_30, li_31, li_32, li_40, li_42, li_45, li_48, li_57, li_58, li_59, li_60, li_64, li_74, li_75, li_81, li_97, li_122, li_124, li_143, li_151, li_159, li_167, li_175, li_200, li_255, li_648, li_650, li_823, li_900, li_999, li_1123, li_1298, li_1363, li_1379, li_2592, li_6571, li_9999, li_65536, li_65537, ng1, ng2, nI_add, pk_mul, remN, divN, inbI, ixN, leN, ltN, eqN, m1E, m1E', m2E, m12, m21, bsm, glE, b2iT, b2iF, if_pos, if_neg, ite_true, ite_false, not_true, not_false_iff, reduceCtorEq]
      have i1 : nI (1123 + 4 * c) + (1 : Int32) = nI (1123 + 4 * c + 1) := nI_1 _
      have i2 : nI (1123 + 4 * c) + (2 : Int32) = nI (1123 + 4 * c + 2) := nI_add _ _
      have i3 : nI (1123 + 4 * c) + (3 : Int32) = nI (1123 + 4 * c + 3) := nI_add _ _
      rw [i0, i1, i2, i3]
      exact eb g1 (eb g2 (eb g3 (eb g4 (eb g5 rfl))))
    · unfold f_X4_add
      simp (disch := omega) only [li_0, li_1, li_2, li_3, li_4, li_5, li_6, li_7, li_8, li_9, li_10, li_11, li_12, li_13, li_14, li_15, li_16, li_20, li_30, li_31, li_32, li_40, li_42, li_45, li_48, li_57, li_58, li_59, li_60, li_64, li_74, li_75, li_81, li_97, li_122, li_124, li_143, li_151, li_159, li_167, li_175, li_200, li_255, li_648, li_650, li_823, li_900, li_999, li_1123, li_1298, li_1363, li_1379, li_2592, li_6571, li_9999, li_65536, li_65537, ng1, ng2, nI_add, pk_mul, remN, divN, inbI, ixN, leN, ltN, eqN, m1E, m1E', m2E, m12, m21, bsm, glE, b2iT, b2iF, if_pos, if_neg, ite_true, ite_false, not_true, not_false_iff, reduceCtorEq, h2]
    · refine ⟨c + 1, by omega, rfl, ?_, fun j hj => ?_⟩
      · rw [us]
        simp (disch := omega) only [un]
        rw [h3, nI_add]
      · show ∃ sd' k' v', _ ∧ _ ∧ _ ∧ upd (St_sides st) c (nI sd) j = _ ∧ upd (St_keys st) c (nI k) j = _ ∧ upd (St_values st) c (nI v) j = _ ∧ _ ≤ (upd (St_manies st) c many j).toInt ∧ (upd (St_manies st) c many j).toInt ≤ _ ∧ _ ∧ _ ∧ _ ∧ _ = upd (St_manies st) c many j
        by_cases e : j = c
        · subst e
          refine ⟨sd, k, v, hs, hk, hv, us, us, us, by rw [us]; exact hm1, by rw [us]; exact hm2, ?_, ?_, ?_, ?_⟩
          · simp (disch := omega) only [un, us]
          · simp (disch := omega) only [un, us]
          · simp (disch := omega) only [un, us]
          · simp (disch := omega) only [un, us]
        · obtain ⟨sd', k', v', p1, p2, p3, p4, p5, p6, p7, p8, p9, p10, p11, p12⟩ := h4 j (by omega)
          refine ⟨sd', k', v', p1, p2, p3, by rw [un e]; exact p4, by rw [un e]; exact p5, by rw [un e]; exact p6, by rw [un e]; exact p7, by rw [un e]; exact p8, ?_, ?_, ?_, ?_⟩
          · simp (disch := omega) only [un]; exact p9
          · simp (disch := omega) only [un]; exact p10
          · simp (disch := omega) only [un]; exact p11
          · rw [un e]; simp (disch := omega) only [un]; exact p12
    · intro i p1 p2
      simp (disch := omega) only [un]
  · have hc : c = 60 := by omega
    refine ⟨st, x, ?_, ⟨c, h1, h2, h3, h4⟩, fun _ _ _ => rfl, fun J12 => ?_⟩
    · unfold f_X4_add
      simp (disch := omega) only [li_0, li_1, li_2, li_3, li_4, li_5, li_6, li_7, li_8, li_9, li_10, li_11, li_12, li_13, li_14, li_15, li_16, li_20, li_30, li_31, li_32, li_40, li_42, li_45, li_48, li_57, li_58, li_59, li_60, li_64, li_74, li_75, li_81, li_97, li_122, li_124, li_143, li_151, li_159, li_167, li_175, li_200, li_255, li_648, li_650, li_823, li_900, li_999, li_1123, li_1298, li_1363, li_1379, li_2592, li_6571, li_9999, li_65536, li_65537, ng1, ng2, nI_add, pk_mul, remN, divN, inbI, ixN, leN, ltN, eqN, m1E, m1E', m2E, m12, m21, bsm, glE, b2iT, b2iF, if_pos, if_neg, ite_true, ite_false, not_true, not_false_iff, reduceCtorEq, h2]
    · exact eb g (eg (if_pos (show nI 60 ≤ nI c from nI_le (by omega) (by omega))))
theorem happen2 {b h kc vc T B sd k v t : Nat} {many : Int32} {bk : BkT} {wd : Nat → Int64} {x : Nat → Int32} (sm : MoT) (hb : b < 3) (hs : sd < 2) (hk : k < kc) (hv : v < vc) (ht : t ≤ 9999) (hm1 : -9 ≤ many.toInt) (hm2 : many.toInt ≤ 9) (hB : B + 9 ≤ 100000000) (hT : T + 24 < 2147483647) (hBd : RBd b h T (Bk_board bk) x) (hR : RBk b kc vc T B bk wd x) :
    Ok2 (f_X1_happen bk (nI sd) (nI k) (nI v) many (nI t)) (f_X9_does (mo sm x) (nI b) (nI sd) (nI k) (nI v) many (nI t))
      (fun r r' => r.1 = r'.1 ∧ ∃ x' T', r'.2 = mo sm x' ∧ T ≤ T' ∧ T' ≤ T + 24 ∧ RBk b kc vc T' (B + 9) r.2 wd x' ∧ FrO b x x' ∧ (Bk_clock bk - Bk_late bk ≤ nI t → r.1 = nI (T' - T))) := by
  have hk8 : k < 8 := by have := hR.2.1.1; omega
  have hv8 : v < 8 := by have := hR.2.1.2.1; omega
  obtain ⟨⟨kp, k1, k2, k3⟩, ⟨lt, l1, l2, l3⟩, ⟨ck, c1, c2, c3⟩, f4, f5, f6⟩ := hR.2.2.2.2.1
  have g5 := r_get sm x (b := b) (i := 5) hb (by omega)
  have g2 := r_get sm x (b := b) (i := 2) hb (by omega)
  rw [c3] at g5
  rw [l3] at g2
  have cl := c_late bk (nI t)
  rw [c2, l2] at cl
  unfold f_X1_happen f_X9_does
  refine Ok2.br g5 (Ok2.br g2 (Ok2.bl cl ?_))
  by_cases q : nI ck - nI lt ≤ nI t
  · rw [if_pos q]
    refine Ok2.rt q (Ok2.lt rfl (Ok2.b (advance2 sm hb ht (by omega) hBd hR) ?_))
    rintro ⟨ans, bk1⟩ ⟨ans', s1⟩ ⟨p0, x1, p1, p2, p3, p4, p5⟩
    have p1 : s1 = mo sm x1 := p1
    subst p1
    have p2 : RBd b h T (Bk_board bk1) x1 := p2
    have p3 : RBk b kc vc T B bk1 wd x1 := p3
    have g6 := r_more sm x1 (b := b) (i := 6) (nI 1) hb (by omega)
    refine Ok2.br g6 (Ok2.bl (c_open _) ?_)
    obtain ⟨_, q2, ⟨m, m1, m2', m3, m4⟩, q4, q5, q6, q7, q8, q9⟩ := p3
    have hSt0 : RSt b (Bk_store bk1) (upd x1 (6571 * b + 6) (x1 (6571 * b + 6) + nI 1)) := q7.fr (un (by omega)) (fun i _ _ => un (by omega))
    obtain ⟨st', x3, s1, s2, s3, s4⟩ := store2 sm hb hs hk8 hv8 hm1 hm2 hSt0
    show Ok2 _ ((f_X9_get (mo sm (upd x1 (6571 * b + 6) (x1 (6571 * b + 6) + nI 1))) (nI b) (13 : Int32)).bind _) _
    rw [s4]
    have x3e : ∀ i, i ≠ 6571 * b + 6 → i ≠ 6571 * b + 13 → (i < 6571 * b + 1123 ∨ 6571 * b + 1363 ≤ i) → x3 i = x1 i := fun i h1 h2 h3 => by rw [s3 i h2 h3, un h1]
    have hBd3 : RBd b h T (Bd_w_ledger (Bk_board bk1) (Lg_w_inAct (Lg_w_acts (Bd_ledger (Bk_board bk1)) (Lg_acts (Bd_ledger (Bk_board bk1)) + 1)) 0)) x3 := by
      obtain ⟨a1, a2, a3, a4, a5, a6, a7⟩ := p2
      refine ⟨?_, a2, ?_, a4, ?_, ?_, ?_⟩
      · intro i hi
        show Bd_nets (Bk_board bk1) i = _
        rw [a1 i hi]
        unfold xn
        rw [x3e _ (by omega) (by omega) (by omega)]
      · rw [x3e _ (by omega) (by omega) (by omega)]
        exact a3
      · intro i hi
        rw [x3e _ (by omega) (by omega) (by omega)]
        exact a5 i hi
      · obtain ⟨b1, b2, b3, b4, b5, b6, b7, b8, b9⟩ := a6
        refine ⟨fun k' hk' => by rw [x3e _ (by omega) (by omega) (by omega)]; exact b1 k' hk', b2, by rw [x3e _ (by omega) (by omega) (by omega)]; exact b3, by rw [x3e _ (by omega) (by omega) (by omega)]; exact b4, by rw [x3e _ (by omega) (by omega) (by omega)]; exact b5, ?_, fun j hj hj2 => ?_, b8, b9⟩
        · show Lg_acts (Bd_ledger (Bk_board bk1)) + 1 = _
          rw [s3 _ (by omega) (by omega), us, b6]
          rfl
        · obtain ⟨k', l, r, e1, e2, e3, e4, e5, e6, e7, e8, e9⟩ := b7 j hj hj2
          exact ⟨k', l, r, e1, e2, e3, by rw [x3e _ (by omega) (by omega) (by omega)]; exact e4, by rw [x3e _ (by omega) (by omega) (by omega)]; exact e5, by rw [x3e _ (by omega) (by omega) (by omega)]; exact e6, e7, by rw [x3e _ (by omega) (by omega) (by omega)]; exact e8, by rw [x3e _ (by omega) (by omega) (by omega)]; exact e9⟩
      · intro k' l r e1 e2 e3
        rw [x3e _ (by omega) (by omega) (by omega)]
        exact a7 k' l r e1 e2 e3
    have hM3 : LM (Lg_w_inAct (Lg_w_acts (Bd_ledger (Bk_board bk1)) (Lg_acts (Bd_ledger (Bk_board bk1)) + 1)) 0) T T m (Lg_actOfMost (Bd_ledger (Bk_board bk1))) := by
      refine ⟨Nat.le_refl _, ?_, ?_⟩
      · show (0 : Int32) = nI (T - T)
        rw [Nat.sub_self]
        rfl
      · rw [if_neg (by omega)]
        exact ⟨m2', rfl⟩
    have h12 : x3 (6571 * b + 12) = nI m := by
      rw [x3e _ (by omega) (by omega) (by omega)]
      exact m3
    have h14 : if m = 0 then Lg_actOfMost (Bd_ledger (Bk_board bk1)) = m2 else Lg_actOfMost (Bd_ledger (Bk_board bk1)) = x3 (6571 * b + 14) := by
      rw [x3e _ (by omega) (by omega) (by omega)]
      exact m4
    have hLv3 : RLv b (Bd_nets (Bk_board bk1)) (Bk_latest bk1) x3 := by
      intro k' hk'
      rw [x3e _ (by omega) (by omega) (by omega), x3e _ (by omega) (by omega) (by omega)]
      exact q4 k' hk'
    have hTm3 : RTm b bk1 x3 := by
      obtain ⟨⟨kp', e1, e2, e3⟩, ⟨lt', e4, e5, e6⟩, ⟨ck', e7, e8, e9⟩, e10, e11, e12⟩ := q5
      exact ⟨⟨kp', e1, e2, by rw [x3e _ (by omega) (by omega) (by omega)]; exact e3⟩, ⟨lt', e4, e5, by rw [x3e _ (by omega) (by omega) (by omega)]; exact e6⟩, ⟨ck', e7, e8, by rw [x3e _ (by omega) (by omega) (by omega)]; exact e9⟩, by rw [x3e _ (by omega) (by omega) (by omega)]; exact e10, by rw [x3e _ (by omega) (by omega) (by omega)]; exact e11, fun k' hk' => by rw [x3e _ (by omega) (by omega) (by omega)]; exact e12 k' hk'⟩
    have hKn3 : RKn b kc vc (Bd_nets (Bk_board bk1)) x3 := by
      exact ⟨q6.1, fun k' l r e1 e2 e3 e4 => q6.2 k' l r e1 e2 e3 (by rw [x3e _ (by omega) (by omega) (by omega)] at e4; exact e4)⟩
    have hSb3 : RSb b T (Bk_subscribers bk1) x3 := by
      exact q8.fr (Nat.le_refl _) (fun i e1 e2 => x3e _ (by omega) (by omega) (by omega))
    have hWd3 : RWd b kc vc (Bk_keys bk1) (Bk_values bk1) wd x3 := by
      exact q2.fr (x3e _ (by omega) (by omega) (by omega)) (x3e _ (by omega) (by omega) (by omega))
    obtain ⟨r, r', w1, w2, w3, x', T', w4, w5, w6, w7, w8, w9⟩ := does_tail sm hb hs hk hv ht hm1 hm2 hB hT s1 s2 hBd3 hM3 m1 h12 h14 hLv3 hTm3 hKn3 hSb3 q9 hWd3
    refine ⟨r, r', w1, w2, w3, x', T', w4, w5, w6, w8, ?_, fun _ => w7⟩
    refine FrO.tr p4 (FrO.tr (fun i hi => ?_) w9)
    exact x3e i (by omega) (by omega) (by omega)
  · rw [if_neg q]
    have g7 := r_more sm x (b := b) (i := 7) (nI 1) hb (by omega)
    refine Ok2.rf q (Ok2.lf (by decide) (Ok2.br g7 ?_))
    refine Ok2.ret ⟨rfl, _, T, rfl, Nat.le_refl _, by omega, ?_, (FrO.rf b x).u (by omega), fun g => absurd (by rw [← c2, ← l2]; exact g) q⟩
    obtain ⟨_, q2, q3, q4, q5, q6, q7, q8, q9⟩ := hR
    refine ⟨⟨h, ?_⟩, q2.fr (un (by omega)) (un (by omega)), q3.fr (fun i _ _ => un (by omega)), ?_, ?_, ⟨q6.1, fun k' l r e1 e2 e3 e4 => q6.2 k' l r e1 e2 e3 (by rw [un (by omega)] at e4; exact e4)⟩, q7.fr (un (by omega)) (fun i _ _ => un (by omega)), q8.fr (Nat.le_refl _) (fun i _ _ => un (by omega)), q9.mono (by omega)⟩
    · obtain ⟨a1, a2, a3, a4, a5, a6, a7⟩ := hBd
      exact ⟨fun i hi => by rw [xn_n x _ (by omega) i hi]; exact a1 i hi, a2, by rw [un (by omega)]; exact a3, a4, fun i hi => by rw [un (by omega)]; exact a5 i hi, RL_fr a6 (fun i hi => un (by omega)), fun k' l r e1 e2 e3 => by rw [un (by omega)]; exact a7 k' l r e1 e2 e3⟩
    · intro k' hk'
      rw [un (by omega), un (by omega)]
      exact q4 k' hk'
    · refine ⟨⟨kp, k1, k2, by rw [un (by omega)]; exact k3⟩, ⟨lt, l1, l2, by rw [un (by omega)]; exact l3⟩, ⟨ck, c1, c2, by rw [un (by omega)]; exact c3⟩, ?_, by rw [un (by omega)]; exact f5, fun k' hk' => by rw [un (by omega)]; exact f6 k' hk'⟩
      show Bk_tooLate bk + 1 = _
      rw [us, f4]
      rfl
