/-! rows asked for, a key, the log -/
theorem vN_ne {v : Nat} (h : v < 8) : ¬ nI v = -1 := fun e => (m1E (n := v) (by omega)).mp e
theorem row2 {n kc vc : Nat} {s : OuBT} {sm : MoT} (h : RB n kc vc s sm) (p1 p2 p3 : Int32) :
    (∃ k l r, k < kc ∧ k < 8 ∧ l < 9 ∧ r < 9 ∧ (l < 8 ∨ r < 8) ∧ p1 = nI k ∧ p2 = vN l ∧ p3 = vN r ∧ f_X8_isRow_B s p1 p2 p3 = some 1 ∧ f_X9_isRow (mT sm) p1 p2 p3 = some 1 ∧ f_X9_place p2 = some (nI l) ∧ f_X9_place p3 = some (nI r)) ∨ (f_X8_isRow_B s p1 p2 p3 = some 0 ∧ f_X9_isRow (mT sm) p1 p2 p3 = some 0) := by
  have end2 : ∀ p : Int32, (p = -1) ∨ (¬ p = -1 ∧ ∃ v, v < 8 ∧ p = vN v ∧ f_X8_isValue_B s p = some 1 ∧ f_X9_isValue (mT sm) p = some 1 ∧ f_X9_place p = some (nI v)) ∨ (¬ p = -1 ∧ f_X8_isValue_B s p = some 0 ∧ f_X9_isValue (mT sm) p = some 0) := by
    intro p
    by_cases q : p = -1
    · exact Or.inl q
    · rcases val2 h p with ⟨v, hv, hv8, rfl, e, f⟩ | ⟨e, f⟩
      · exact Or.inr (Or.inl ⟨q, v, hv8, vNe hv8, e, f, if_neg q⟩)
      · exact Or.inr (Or.inr ⟨q, e, f⟩)
  have p8 : f_X9_place (-1) = some (nI 8) := rfl
  unfold f_X8_isRow_B f_X9_isRow
  rcases key2 h p1 with ⟨k, hk, hk8, rfl, c, d⟩ | ⟨c, d⟩
  · rcases end2 p2 with rfl | ⟨n2, l, hl, e2, c2, d2, g2⟩ | ⟨n2, c2, d2⟩
    · rcases end2 p3 with rfl | ⟨n3, r, hr, e3, c3, d3, g3⟩ | ⟨n3, c3, d3⟩
      · exact Or.inr ⟨by simp [glE, bsm, c], by simp [glE, bsm, d]⟩
      · exact Or.inl ⟨k, 8, r, hk, hk8, by omega, by omega, Or.inr hr, rfl, rfl, e3, by simp [glE, bsm, c, c3, n3], by simp [glE, bsm, d, d3, n3], p8, g3⟩
      · exact Or.inr ⟨by simp [glE, bsm, c, c3, n3], by simp [glE, bsm, d, d3, n3]⟩
    · rcases end2 p3 with rfl | ⟨n3, r, hr, e3, c3, d3, g3⟩ | ⟨n3, c3, d3⟩
      · exact Or.inl ⟨k, l, 8, hk, hk8, by omega, by omega, Or.inl hl, rfl, e2, rfl, by simp [glE, bsm, c, c2, n2], by simp [glE, bsm, d, d2, n2], g2, p8⟩
      · exact Or.inl ⟨k, l, r, hk, hk8, by omega, by omega, Or.inl hl, rfl, e2, e3, by simp [glE, bsm, c, c2, n2, c3, n3], by simp [glE, bsm, d, d2, n2, d3, n3], g2, g3⟩
      · exact Or.inr ⟨by simp [glE, bsm, c, c2, n2, c3, n3], by simp [glE, bsm, d, d2, n2, d3, n3]⟩
    · exact Or.inr ⟨by simp [glE, bsm, c, c2, n2], by simp [glE, bsm, d, d2, n2]⟩
  · exact Or.inr ⟨eb c rfl, eb d rfl⟩
theorem nRow {s : OuNT} {sm : MoT} (h : RN s sm) (p1 p2 p3 : Int32) : f_X8_isRow_N s p1 p2 p3 = some 0 ∧ f_X9_isRow (mT sm) p1 p2 p3 = some 0 := ⟨rfl, eb (nKey h p1) rfl⟩
/-- what is sent of a row, on the reference's side -/
theorem r_sent (sm : MoT) (x : Nat → Int32) {b h k l r : Nat} (hb : b < 3) (hh : h < 4) (he : x (6571 * b) = nI h) (hk : k < 8) (hl : l < 9) (hr : r < 9) (hlr : l < 8 ∨ r < 8) (hB : nB (xn x b)) : f_X9_sentOf (mo sm x) (nI b) (nI k) (nI l) (nI r) = some (J (xn x b) h k l r + x (6571 * b + (175 + (81 * k + 9 * l + r)))) := by
  have c1 : f_X9_closedAt (nI k) (nI l) (nI r) = some (nI (175 + (81 * k + 9 * l + r))) := by
    unfold f_X9_closedAt
    simp (disch := omega) only [li_0, li_1, li_2, li_3, li_4, li_5, li_6, li_7, li_8, li_9, li_10, li_11, li_12, li_13, li_14, li_15, li_16, li_20, li_30, li_31, li_32, li_40, li_42, li_45, li_48, li_57, li_58, li_59, li_60, li_64, li_74, li_75, li_81, li_97, li_122, li_124, li_143, li_151, li_159, li_167, li_175, li_200, li_255, li_648, li_650, li_823, li_900, li_999, li_1123, li_1298, li_1363, li_1379, li_2592, li_6571, li_9999, li_65536, li_65537, ng1, ng2, nI_add, pk_mul, remN, divN, inbI, ixN, leN, ltN, eqN, m1E, m1E', m2E, m12, m21, bsm, glE, b2iT, b2iF, if_pos, if_neg, ite_true, ite_false, not_true, not_false_iff, reduceCtorEq]
    congr 2
    omega
  have c2 := r_jn sm x hb hh he hk hl hr hlr hB
  have c3 := r_get sm x (b := b) (i := 175 + (81 * k + 9 * l + r)) hb (by omega)
  unfold f_X9_sentOf
  rw [c2, bsm, c1, bsm, c3, bsm]
theorem RB.sum {n kc vc : Nat} {s : OuBT} {sm : MoT} (h : RB n kc vc s sm) (hn : n < 512) : ∃ g, RBd 0 g (Classical.choose h.2.2.2) (Bk_board (OuB_books s)) (Mo_x sm) ∧ g < 4 ∧ nB (xn (Mo_x sm) 0) ∧
    (∀ k l r, k < 8 → l < 9 → r < 9 → (l < 8 ∨ r < 8) → f_X9_sentOf (mT sm) 0 (nI k) (nI l) (nI r) = some (Bd_sums (Bk_board (OuB_books s)) (81 * k + 9 * l + r))) ∧
    (∀ k l r, k < 8 → l < 9 → r < 9 → (l < 8 ∨ r < 8) → f_X9_joined (mT sm) 0 (nI k) (nI l) (nI r) = some (J (Bd_nets (Bk_board (OuB_books s))) g k l r)) := by
  obtain ⟨hT, ⟨g, hBd⟩, _, _, _, _, _, _, _, hNb⟩ := Classical.choose_spec h.2.2.2
  have hnB : nB (xn (Mo_x sm) 0) := fun i hi => by rw [← hBd.1 i hi]; exact hNb.nB (by omega) i hi
  refine ⟨g, hBd, hBd.2.2.2.1, hnB, fun k l r h1 h2 h3 h4 => ?_, fun k l r h1 h2 h3 h4 => ?_⟩
  · have e := r_sent (mT sm) (Mo_x sm) (b := 0) (by omega) hBd.2.2.2.1 hBd.2.2.1 h1 h2 h3 h4 hnB
    rw [hBd.2.2.2.2.2.2 k l r h1 h2 h3, J_congr h1 hBd.1]
    exact e
  · have e := r_jn (mT sm) (Mo_x sm) (b := 0) (by omega) hBd.2.2.2.1 hBd.2.2.1 h1 h2 h3 h4 hnB
    rw [J_congr h1 hBd.1]
    exact e
theorem st_sent (n : Nat) (p1 p2 p3 : Int32) : StpR n (fun cs => fc_sent cs p1 p2 p3) (fun sm => f_X9_sent sm p1 p2 p3) := stp1 (fN := fun s => f_X8_sent_N s p1 p2 p3) (fB := fun s => f_X8_sent_B s p1 p2 p3) (fun _ => rfl) (fun _ => rfl) (fun _ _ => rfl)
  (fun sm s h => fin_n h _ 1 tr1 rfl (eb (nRow h p1 p2 p3).2 rfl))
  (fun hn sm s kc vc h => by
    obtain ⟨g, hBd, hg, hnB, hs, hj⟩ := h.sum hn
    unfold f_X8_sent_B f_X9_sent
    rcases row2 h p1 p2 p3 with ⟨k, l, r, _, h1, h2, h3, h4, rfl, rfl, rfl, a, b, c, d⟩ | ⟨a, b⟩
    · have e := hs k l r h1 h2 h3 h4
      have hp := c_pl h1 h2 h3
      have hI : inb (nI (81 * k + 9 * l + r)) 648 := inbN (by omega) (by omega)
      refine fin_g h (Bd_sums (Bk_board (OuB_books s)) (81 * k + 9 * l + r)) (eb a ((if_neg (by decide)).trans (eb hp ((if_pos hI).trans ?_)))) (eb b ((if_neg (by decide)).trans (eb c (eb d (eb e rfl)))))
      rw [ixN (by omega)]
      rfl
    · exact fin_r h _ 1 tr1 (eb a rfl) (eb b rfl))
theorem st_join (n : Nat) (p1 p2 p3 : Int32) : StpR n (fun cs => fc_join cs p1 p2 p3) (fun sm => f_X9_join sm p1 p2 p3) := stp1 (fN := fun s => f_X8_join_N s p1 p2 p3) (fB := fun s => f_X8_join_B s p1 p2 p3) (fun _ => rfl) (fun _ => rfl) (fun _ _ => rfl)
  (fun sm s h => fin_n h _ 1 tr1 rfl (eb (nRow h p1 p2 p3).2 rfl))
  (fun hn sm s kc vc h => by
    obtain ⟨g, hBd, hg, hnB, hs, hj⟩ := h.sum hn
    unfold f_X8_join_B f_X9_join
    rcases row2 h p1 p2 p3 with ⟨k, l, r, _, h1, h2, h3, h4, rfl, rfl, rfl, a, b, c, d⟩ | ⟨a, b⟩
    · have e := hj k l r h1 h2 h3 h4
      have e2 := c_jn (Bk_board (OuB_books s)) hg hBd.2.1 h1 h2 h3 h4
      exact fin_g h _ (eb a ((if_neg (by decide)).trans (eb e2 rfl))) (eb b ((if_neg (by decide)).trans (eb c (eb d (eb e rfl)))))
    · exact fin_r h _ 1 tr1 (eb a rfl) (eb b rfl))
theorem st_closed (n : Nat) (p1 p2 p3 : Int32) : StpR n (fun cs => fc_closed cs p1 p2 p3) (fun sm => f_X9_closed sm p1 p2 p3) := stp1 (fN := fun s => f_X8_closed_N s p1 p2 p3) (fB := fun s => f_X8_closed_B s p1 p2 p3) (fun _ => rfl) (fun _ => rfl) (fun _ _ => rfl)
  (fun sm s h => fin_n h _ 1 tr1 rfl (eb (nRow h p1 p2 p3).2 rfl))
  (fun hn sm s kc vc h => by
    obtain ⟨g, hBd, hg, hnB, hs, hj⟩ := h.sum hn
    unfold f_X8_closed_B f_X9_closed
    rcases row2 h p1 p2 p3 with ⟨k, l, r, _, h1, h2, h3, h4, rfl, rfl, rfl, a, b, c, d⟩ | ⟨a, b⟩
    · have e2 := c_jn (Bk_board (OuB_books s)) hg hBd.2.1 h1 h2 h3 h4
      have hp := c_pl h1 h2 h3
      have hI : inb (nI (81 * k + 9 * l + r)) 648 := inbN (by omega) (by omega)
      have c1 : f_X9_closedAt (nI k) (nI l) (nI r) = some (nI (175 + (81 * k + 9 * l + r))) := by
        unfold f_X9_closedAt
        simp (disch := omega) only [li_0, li_1, li_2, li_3, li_4, li_5, li_6, li_7, li_8, li_9, li_10, li_11, li_12, li_13, li_14, li_15, li_16, li_20, li_30, li_31, li_32, li_40, li_42, li_45, li_48, li_57, li_58, li_59, li_60, li_64, li_74, li_75, li_81, li_97, li_122, li_124, li_143, li_151, li_159, li_167, li_175, li_200, li_255, li_648, li_650, li_823, li_900, li_999, li_1123, li_1298, li_1363, li_1379, li_2592, li_6571, li_9999, li_65536, li_65537, ng1, ng2, nI_add, pk_mul, remN, divN, inbI, ixN, leN, ltN, eqN, m1E, m1E', m2E, m12, m21, bsm, glE, b2iT, b2iF, if_pos, if_neg, ite_true, ite_false, not_true, not_false_iff, reduceCtorEq]
        congr 2
        omega
      have g1 := gTx sm (i := 175 + (81 * k + 9 * l + r)) (by omega)
      refine fin_g h (Mo_x sm (175 + (81 * k + 9 * l + r))) (eb a ((if_neg (by decide)).trans (eb hp ((if_pos hI).trans (eb e2 ?_))))) (eb b ((if_neg (by decide)).trans (eb c (eb d (eb c1 (eb g1 rfl))))))
      rw [ixN (by omega), hBd.2.2.2.2.2.2 k l r h1 h2 h3, Int32.add_comm, Int32.add_sub_cancel]
      show some (_, _) = some (_, _)
      rw [show 6571 * 0 + (175 + (81 * k + 9 * l + r)) = 175 + (81 * k + 9 * l + r) by omega]
    · exact fin_r h _ 1 tr1 (eb a rfl) (eb b rfl))
theorem st_key (n : Nat) (p1 p2 : Int32) : StpR n (fun cs => fc_key cs p1 p2) (fun sm => f_X9_key sm p1 p2) := stp1 (fN := fun s => f_X8_key_N s p1 p2) (fB := fun s => f_X8_key_B s p1 p2) (fun _ => rfl) (fun _ => rfl) (fun _ _ => rfl)
  (fun sm s h => fin_n h _ 1 tr1 rfl (eb (nKey h p1) rfl))
  (fun hn sm s kc vc h => by
    have hh := h
    obtain ⟨_, _, _, T, hT, ⟨g, hBd⟩, hW, _, hLv, ⟨⟨kp, _, k2, k3⟩, _, _, f4, f5, f6⟩, _⟩ := hh
    unfold f_X8_key_B f_X9_key
    rcases key2 h p1 with ⟨k, hk, hk8, rfl, c, d⟩ | ⟨c, d⟩
    · have i1 : (151 : Int32) + nI k = nI (151 + k) := nI_add 151 k
      have i2 : (159 : Int32) + nI k = nI (159 + k) := nI_add 159 k
      have i3 : (167 : Int32) + nI k = nI (167 + k) := nI_add 167 k
      have g1 := gTx sm (i := 151 + k) (by omega)
      have g2 := gTx sm (i := 159 + k) (by omega)
      have g3 := gTx sm (i := 167 + k) (by omega)
      have g4 := gTx sm (i := 1) (by omega)
      have hI : inb (nI k) 8 := inbN hk8 (by omega)
      have hix : ix (nI k) = k := ixN (by omega)
      have cl := c_lives (OuB_books s) hk8
      have rl : f_X9_lives (mT sm) 0 (nI k) = some (b2i (decide (Mo_x sm (6571 * 0 + (143 + k)) = nI 1))) := r_lives (mT sm) (Mo_x sm) (b := 0) (by omega) hk8
      rw [i1, i2, i3]
      rcases rng p2 4 (by omega) with ⟨j, hj, rfl, q1, q2⟩ | ⟨q, q'⟩
      · unfold f_X1_toldOfKey
        rw [hix]
        have pre : ∀ {A B : Option (Int32 × OuBT)}, A = B → ((f_X8_isKey_B s (nI k)).bind fun r1 => if r1 = 0 then (f_X8_refuse_B s (1 : Int32) (-1 : Int32)).bind fun r4 => some ((r4.1), (r4.2)) else if nI j < 0 then (f_X8_refuse_B s (1 : Int32) (-1 : Int32)).bind fun r7 => some ((r7.1), (r7.2)) else if nI j ≤ (4 : Int32) then A else (f_X8_refuse_B s (1 : Int32) (-1 : Int32)).bind fun r14 => some ((r14.1), (r14.2))) = B := fun e => eb c ((if_neg (by decide)).trans ((if_neg q1).trans ((if_pos q2).trans e)))
        rcases (show j = 0 ∨ j = 1 ∨ j = 2 ∨ j = 3 ∨ j = 4 by omega) with rfl | rfl | rfl | rfl | rfl
        · rcases hLv k hk8 with ⟨p1, p2, p3⟩ | ⟨lt, p1, p2, p3, p4⟩
          · simp only [p2, decide_true, Bool.not_true] at cl
            simp only [p1, show (nI 0 = nI 1) = False from eq_false (by decide), decide_false] at rl
            exact fin_g h _ (pre (eb ((if_pos rfl).trans (eb cl rfl)) rfl)) (eb d ((if_neg (by decide)).trans (eb g1 ((if_pos rfl).trans (eb rl rfl)))))
          · simp only [p4, m2E (show lt < 2147483648 by omega), decide_false, Bool.not_false] at cl
            simp only [p2, decide_true] at rl
            exact fin_g h _ (pre (eb ((if_pos rfl).trans (eb cl rfl)) rfl)) (eb d ((if_neg (by decide)).trans (eb g1 ((if_pos rfl).trans (eb rl rfl)))))
        · rcases hLv k hk8 with ⟨p1, p2, p3⟩ | ⟨lt, p1, p2, p3, p4⟩
          · simp only [p1, show (nI 0 = nI 1) = False from eq_false (by decide), decide_false] at rl
            rw [p2]
            exact fin_g h m2 (pre (eb ((if_neg (by decide)).trans ((if_pos rfl).trans (if_pos hI))) rfl)) (eb d ((if_neg (by decide)).trans (eb g1 ((if_neg (by decide)).trans ((if_pos rfl).trans (eb rl rfl))))))
          · simp only [p2, decide_true] at rl
            rw [p4]
            have p3 : Mo_x sm (151 + k) = nI lt := (congrArg (Mo_x sm) (by omega)).trans p3
            rw [p3] at g1
            exact fin_g h (nI lt) (pre (eb ((if_neg (by decide)).trans ((if_pos rfl).trans (if_pos hI))) rfl)) (eb d ((if_neg (by decide)).trans (eb g1 ((if_neg (by decide)).trans ((if_pos rfl).trans (eb rl rfl))))))
        · rcases hLv k hk8 with ⟨p1, p2, p3⟩ | ⟨lt, p1, p2, p3, p4⟩
          · simp only [p2, decide_true, Bool.not_true] at cl
            simp only [p1, show (nI 0 = nI 1) = False from eq_false (by decide), decide_false] at rl
            exact fin_g h m2 (pre (eb ((if_neg (by decide)).trans ((if_neg (by decide)).trans ((if_pos rfl).trans (eb cl rfl)))) rfl)) (eb d ((if_neg (by decide)).trans (eb g1 ((if_neg (by decide)).trans ((if_neg (by decide)).trans ((if_pos rfl).trans (eb rl rfl)))))))
          · rw [p4]
            simp only [p4, m2E (show lt < 2147483648 by omega), decide_false, Bool.not_false] at cl
            simp only [p2, decide_true] at rl
            have p3 : Mo_x sm (151 + k) = nI lt := (congrArg (Mo_x sm) (by omega)).trans p3
            rw [p3] at g1
            rw [show Mo_x sm 1 = nI kp from k3] at g4
            rw [k2]
            exact fin_g h (nI lt + nI kp + 1) (pre (eb ((if_neg (by decide)).trans ((if_neg (by decide)).trans ((if_pos rfl).trans (eb cl ((if_neg (by decide)).trans (if_pos hI)))))) rfl)) (eb d ((if_neg (by decide)).trans (eb g1 ((if_neg (by decide)).trans ((if_neg (by decide)).trans ((if_pos rfl).trans (eb rl ((if_neg (by decide)).trans (eb g4 rfl)))))))))
        · have e : Bk_lapses (OuB_books s) k = Mo_x sm (159 + k) := (f6 k hk8).trans (congrArg (Mo_x sm) (by omega))
          rw [e]
          exact fin_g h _ (pre (eb ((if_neg (by decide)).trans ((if_neg (by decide)).trans ((if_neg (by decide)).trans ((if_pos rfl).trans (if_pos hI))))) rfl)) (eb d ((if_neg (by decide)).trans (eb g1 ((if_neg (by decide)).trans ((if_neg (by decide)).trans ((if_neg (by decide)).trans ((if_pos rfl).trans (eb g2 rfl))))))))
        · have e : Lg_byKey (Bd_ledger (Bk_board (OuB_books s))) k = Mo_x sm (167 + k) := (hBd.2.2.2.2.2.1.1 k hk8).trans (congrArg (Mo_x sm) (by omega))
          rw [e]
          exact fin_g h _ (pre (eb ((if_neg (by decide)).trans ((if_neg (by decide)).trans ((if_neg (by decide)).trans ((if_neg (by decide)).trans (if_pos hI))))) rfl)) (eb d ((if_neg (by decide)).trans (eb g1 ((if_neg (by decide)).trans ((if_neg (by decide)).trans ((if_neg (by decide)).trans ((if_neg (by decide)).trans ((if_pos rfl).trans (eb g3 rfl)))))))))
      · rcases q' with q' | ⟨w1, w2⟩
        · exact fin_r h _ 1 tr1 (eb c ((if_neg (by decide)).trans ((if_pos q').trans rfl))) (eb d ((if_neg (by decide)).trans (eb g1 ((if_neg (ne2 (j := 0) q (by omega) (by omega))).trans ((if_neg (ne2 (j := 1) q (by omega) (by omega))).trans ((if_neg (ne2 (j := 2) q (by omega) (by omega))).trans ((if_neg (ne2 (j := 3) q (by omega) (by omega))).trans ((if_neg (ne2 (j := 4) q (by omega) (by omega))).trans rfl))))))))
        · exact fin_r h _ 1 tr1 (eb c ((if_neg (by decide)).trans ((if_neg w1).trans ((if_neg w2).trans rfl)))) (eb d ((if_neg (by decide)).trans (eb g1 ((if_neg (ne2 (j := 0) q (by omega) (by omega))).trans ((if_neg (ne2 (j := 1) q (by omega) (by omega))).trans ((if_neg (ne2 (j := 2) q (by omega) (by omega))).trans ((if_neg (ne2 (j := 3) q (by omega) (by omega))).trans ((if_neg (ne2 (j := 4) q (by omega) (by omega))).trans rfl))))))))
    · exact fin_r h _ 1 tr1 (eb c rfl) (eb d rfl))
