/-! the log, the busiest key, the next lapse, debts -/
def tl (l : Nat) : Int32 := if l = 8 then m2 else nI l
theorem r_told (l : Nat) (hl : l < 9) : f_X9_told (nI l) = some (tl l) := by
  unfold f_X9_told tl
  by_cases e : l = 8
  · subst e; rfl
  · rw [if_neg e]
    exact if_neg (fun q => e ((nI_eq (a := l) (b := 8) (by omega) (by omega)).mp q))
theorem part2 {k l r : Nat} (hk : k < 8) (hl : l < 9) (hr : r < 9) (a : Int32) :
    f_X8_partOfRow (nI (81 * k + 9 * l + r)) (nI 0) a = some (nI k) ∧ f_X8_partOfRow (nI (81 * k + 9 * l + r)) (nI 1) a = some (tl l) ∧ f_X8_partOfRow (nI (81 * k + 9 * l + r)) (nI 2) a = some (tl r) ∧ f_X8_partOfRow (nI (81 * k + 9 * l + r)) (nI 3) a = some a := by
  have e1 : nI (81 * k + 9 * l + r) / (81 : Int32) = nI k := by
    rw [show (81 : Int32) = nI 81 from rfl, divN (by omega) (by omega) (by omega)]
    congr 1
    omega
  have e2 : irem (nI (81 * k + 9 * l + r) / (9 : Int32)) (9 : Int32) = nI l := by
    rw [show (9 : Int32) = nI 9 from rfl, divN (by omega) (by omega) (by omega), remN (by omega) (by omega) (by omega)]
    congr 1
    omega
  have e3 : irem (nI (81 * k + 9 * l + r)) (9 : Int32) = nI r := by
    rw [show (9 : Int32) = nI 9 from rfl, remN (by omega) (by omega) (by omega)]
    congr 1
    omega
  have k1 : f_X8_keyOfPlace (nI (81 * k + 9 * l + r)) = some (nI k) := congrArg some e1
  have l1 : f_X8_leftOfPlace (nI (81 * k + 9 * l + r)) = some (tl l) := by
    unfold f_X8_leftOfPlace
    rw [e2]
    exact r_told l hl
  have r1 : f_X8_rightOfPlace (nI (81 * k + 9 * l + r)) = some (tl r) := by
    unfold f_X8_rightOfPlace
    rw [e3]
    exact r_told r hr
  unfold f_X8_partOfRow
  exact ⟨(if_pos rfl).trans (eb k1 rfl), (if_neg (by decide)).trans ((if_pos rfl).trans (eb l1 rfl)), (if_neg (by decide)).trans ((if_neg (by decide)).trans ((if_pos rfl).trans (eb r1 rfl))), (if_neg (by decide)).trans ((if_neg (by decide)).trans (if_neg (by decide)))⟩
theorem logged2 {n kc vc : Nat} {s : OuBT} {sm : MoT} {g T : Nat} (hn : n < 512) (hT : T ≤ 960 * n) (hBd : RBd 0 g T (Bk_board (OuB_books s)) (Mo_x sm)) :
    f_X2_remembered (Bd_ledger (Bk_board (OuB_books s))) = some (nI (min T 60)) ∧ f_X9_logged (mT sm) = some (nI (min T 60)) := by
  have b2 := hBd.2.2.2.2.2.1.2.1
  have g1 := gTx sm (i := 11) (by omega)
  rw [show Mo_x sm 11 = nI T from hBd.2.2.2.2.2.1.2.2.1] at g1
  unfold f_X2_remembered f_X9_logged
  rw [b2]
  by_cases q : T < 60
  · refine ⟨?_, eb g1 ((if_neg (nI_ge q (by omega) : ¬ nI 60 ≤ nI T)).trans (eb g1 ?_))⟩
    · show some (if nI 60 < nI T then nI 60 else nI T) = _
      rw [if_neg (nI_nlt (show T ≤ 60 by omega) (by omega) : ¬ nI 60 < nI T)]
      congr 2
      omega
    · congr 2
      omega
  · refine ⟨?_, eb g1 ((if_pos (nI_le (show 60 ≤ T by omega) (by omega) : nI 60 ≤ nI T)).trans ?_)⟩
    · by_cases q2 : T = 60
      · subst q2; rfl
      · show some (if nI 60 < nI T then nI 60 else nI T) = _
        rw [if_pos (nI_lt (show 60 < T by omega) (by omega) : nI 60 < nI T)]
        congr 2
        omega
    · show some (nI 60) = _
      congr 2
      omega
theorem st_log (n : Nat) (p1 p2 : Int32) : StpR n (fun cs => fc_log cs p1 p2) (fun sm => f_X9_log sm p1 p2) := stp1 (fN := fun s => f_X8_log_N s p1 p2) (fB := fun s => f_X8_log_B s p1 p2) (fun _ => rfl) (fun _ => rfl) (fun _ _ => rfl)
  (fun sm s h => fin_n h _ 1 tr1 rfl ((if_pos h.2.2.2.1).trans rfl))
  (fun hn sm s kc vc h => by
    have nT := h.nT
    have hh := h
    obtain ⟨_, _, _, T, hT, ⟨g, hBd⟩, _⟩ := hh
    obtain ⟨c1, r1⟩ := logged2 (kc := kc) (vc := vc) hn hT hBd
    obtain ⟨b1, b2, b3, b4, b5, b6, b7, _⟩ := hBd.2.2.2.2.2.1
    have gx := gTx sm (i := 11) (by omega)
    rw [show Mo_x sm 11 = nI T from b3] at gx
    unfold f_X8_log_B f_X9_log
    rcases inP p1 (c := min T 60) (by omega) with ⟨i, hi, rfl, e⟩ | ⟨q, e⟩
    · have cr : f_X2_remembers (Bd_ledger (Bk_board (OuB_books s))) (nI i) = some 1 := by
        unfold f_X2_remembers
        exact (if_neg (nI_pos (by omega))).trans (eb c1 (if_neg (nI_ge hi (by omega))))
      rcases rng p2 4 (by omega) with ⟨j, hj, rfl, q1, q2⟩ | ⟨q, q'⟩
      · have q3 : ¬ (4 : Int32) < nI j := nI_nlt (a := 4) hj (by omega)
        have i2 := (inQ (nI j) (m := 4) (by omega)).1 ⟨j, hj, rfl⟩
        have es : nI T - (1 : Int32) - nI i = nI (T - 1 - i) := by
          rw [show (1 : Int32) = nI 1 from rfl, subN (by omega), subN (by omega)]
        have er : irem (nI (T - 1 - i)) (60 : Int32) = nI ((T - 1 - i) % 60) := remN (d := 60) (by omega) (by omega) (by omega)
        have hsl : (T - 1 - i) % 60 < T := by
          by_cases q : T ≤ 60
          · rw [Nat.mod_eq_of_lt (by omega)]; omega
          · omega
        obtain ⟨k, l, r, w1, w2, w3, w4, w5, w6, w7, w8, w9⟩ := b7 ((T - 1 - i) % 60) (by omega) hsl
        have hI : inb (nI ((T - 1 - i) % 60)) 60 := inbN (by omega) (by omega)
        have hix : ix (nI ((T - 1 - i) % 60)) = (T - 1 - i) % 60 := ixN (by omega)
        obtain ⟨pt0, pt1, pt2, pt3⟩ := part2 w1 w2 w3 (Lg_amounts (Bd_ledger (Bk_board (OuB_books s))) ((T - 1 - i) % 60))
        have ei : ((823 : Int32) + ((5 : Int32) * nI ((T - 1 - i) % 60))) + nI j = nI (823 + 5 * ((T - 1 - i) % 60) + j) := by
          simp (disch := omega) only [li_0, li_1, li_2, li_3, li_4, li_5, li_6, li_7, li_8, li_9, li_10, li_11, li_12, li_13, li_14, li_15, li_16, li_20, li_30, li_31, li_32, li_40, li_42, li_45, li_48, li_57, li_58, li_59, li_60, li_64, li_74, li_75, li_81, li_97, li_122, li_124, li_143, li_151, li_159, li_167, li_175, li_200, li_255, li_648, li_650, li_823, li_900, li_999, li_1123, li_1298, li_1363, li_1379, li_2592, li_6571, li_9999, li_65536, li_65537, ng1, ng2, nI_add, pk_mul, remN, divN, inbI, ixN, leN, ltN, eqN, m1E, m1E', m2E, m12, m21, bsm, glE, b2iT, b2iF, if_pos, if_neg, ite_true, ite_false, not_true, not_false_iff, reduceCtorEq]
        have gj := gTx sm (i := 823 + 5 * ((T - 1 - i) % 60) + j) (by omega)
        unfold f_X2_toldOfChange
        rw [b2, es, er, hix, w7]
        have preC : ∀ {A B : Option (Int32 × OuBT)}, A = B → (if nI j < 0 then (f_X8_refuse_B s (1 : Int32) (-2147483648 : Int32)).bind fun r2 => some ((r2.1), (r2.2)) else if (4 : Int32) < nI j then (f_X8_refuse_B s (1 : Int32) (-2147483648 : Int32)).bind fun r5 => some ((r5.1), (r5.2)) else (f_X2_remembers (Bd_ledger (Bk_board (OuB_books s))) (nI i)).bind fun r7 => if r7 = 0 then (f_X8_refuse_B s (1 : Int32) (-2147483648 : Int32)).bind fun r14 => some ((r14.1), (r14.2)) else A) = B := fun e => (if_neg q1).trans ((if_neg q3).trans (eb cr ((if_neg (by decide)).trans e)))
        have preR : ∀ {v : Int32} {C : Option (Int32 × MoT)}, Mo_x sm (823 + 5 * ((T - 1 - i) % 60) + j) = v → (if nI j = (1 : Int32) then (f_X9_told v).bind fun r19 => (f_X9_good (mT sm) r19).bind fun r21 => some ((r21.1), (r21.2)) else if nI j = (2 : Int32) then (f_X9_told v).bind fun r26 => (f_X9_good (mT sm) r26).bind fun r28 => some ((r28.1), (r28.2)) else (f_X9_good (mT sm) v).bind fun r24 => some ((r24.1), (r24.2))) = C → (if (Mo_isThere sm) = 0 then (f_X9_refusedLow (Mo_w_thrown sm (0 : Int32)) (1 : Int32)).bind fun r2 => some ((r2.1), (r2.2)) else (f_X9_logged (Mo_w_thrown sm (0 : Int32))).bind fun r4 => (f_X9_in (nI i) (0 : Int32) (r4 - (1 : Int32))).bind fun r6 => if r6 = 0 then (f_X9_refusedLow (Mo_w_thrown sm (0 : Int32)) (1 : Int32)).bind fun r9 => some ((r9.1), (r9.2)) else (f_X9_in (nI j) (0 : Int32) (4 : Int32)).bind fun r11 => if r11 = 0 then (f_X9_refusedLow (Mo_w_thrown sm (0 : Int32)) (1 : Int32)).bind fun r30 => some ((r30.1), (r30.2)) else (f_X9_get (Mo_w_thrown sm (0 : Int32)) (0 : Int32) (11 : Int32)).bind fun r14 => (f_X9_get (Mo_w_thrown sm (0 : Int32)) (0 : Int32) (((823 : Int32) + ((5 : Int32) * (irem ((r14 - (1 : Int32)) - nI i) (60 : Int32)))) + nI j)).bind fun r16 => if nI j = (1 : Int32) then (f_X9_told r16).bind fun r19 => (f_X9_good (Mo_w_thrown sm (0 : Int32)) r19).bind fun r21 => some ((r21.1), (r21.2)) else if nI j = (2 : Int32) then (f_X9_told r16).bind fun r26 => (f_X9_good (Mo_w_thrown sm (0 : Int32)) r26).bind fun r28 => some ((r28.1), (r28.2)) else (f_X9_good (Mo_w_thrown sm (0 : Int32)) r16).bind fun r24 => some ((r24.1), (r24.2))) = C := by
          intro v C hv hC
          refine (if_neg nT).trans (eb r1 (eb e ((if_neg (by decide)).trans (eb i2 ((if_neg (by decide)).trans (eb gx ?_))))))
          rw [es, er, ei]
          refine eb gj ?_
          rw [hv]
          exact hC
        rcases (show j = 0 ∨ j = 1 ∨ j = 2 ∨ j = 3 ∨ j = 4 by omega) with rfl | rfl | rfl | rfl | rfl
        · exact fin_g h (nI k) (preC (eb (eb cr ((if_neg (by decide)).trans ((if_neg (by decide)).trans ((if_pos hI).trans ((if_pos hI).trans (eb pt0 rfl)))))) rfl)) (preR ((congrArg (Mo_x sm) (by omega)).trans w4) ((if_neg (by decide)).trans (if_neg (by decide))))
        · exact fin_g h (tl l) (preC (eb (eb cr ((if_neg (by decide)).trans ((if_neg (by decide)).trans ((if_pos hI).trans ((if_pos hI).trans (eb pt1 rfl)))))) rfl)) (preR ((congrArg (Mo_x sm) (by omega)).trans w5) ((if_pos rfl).trans (eb (r_told l w2) rfl)))
        · exact fin_g h (tl r) (preC (eb (eb cr ((if_neg (by decide)).trans ((if_neg (by decide)).trans ((if_pos hI).trans ((if_pos hI).trans (eb pt2 rfl)))))) rfl)) (preR ((congrArg (Mo_x sm) (by omega)).trans w6) ((if_neg (by decide)).trans ((if_pos rfl).trans (eb (r_told r w3) rfl))))
        · exact fin_g h _ (preC (eb (eb cr ((if_neg (by decide)).trans ((if_neg (by decide)).trans ((if_pos hI).trans ((if_pos hI).trans (eb pt3 rfl)))))) rfl)) (preR ((congrArg (Mo_x sm) (by omega)).trans w8) ((if_neg (by decide)).trans (if_neg (by decide))))
        · exact fin_g h _ (preC (eb (eb cr ((if_neg (by decide)).trans ((if_pos rfl).trans (if_pos hI)))) rfl)) (preR ((congrArg (Mo_x sm) (by omega)).trans w9) ((if_neg (by decide)).trans (if_neg (by decide))))
      · have i2 := (inQ p2 (m := 4) (by omega)).2 q
        rcases q with q | q
        · exact fin_r h _ 1 tr1 ((if_pos q).trans rfl) ((if_neg nT).trans (eb r1 (eb e ((if_neg (by decide)).trans (eb i2 rfl)))))
        · exact fin_r h _ 1 tr1 ((if_neg (ge2 q (by omega)).1).trans ((if_pos (ge2 q (by omega)).2.2).trans rfl)) ((if_neg nT).trans (eb r1 (eb e ((if_neg (by decide)).trans (eb i2 rfl)))))
    · have cr : f_X2_remembers (Bd_ledger (Bk_board (OuB_books s))) p1 = some 0 := by
        unfold f_X2_remembers
        by_cases q0 : p1 < 0
        · exact if_pos q0
        · exact (if_neg q0).trans (eb c1 (if_pos (q.resolve_left q0)))
      by_cases w1 : p2 < 0
      · exact fin_r h _ 1 tr1 ((if_pos w1).trans rfl) ((if_neg nT).trans (eb r1 (eb e rfl)))
      · by_cases w2 : (4 : Int32) < p2
        · exact fin_r h _ 1 tr1 ((if_neg w1).trans ((if_pos w2).trans rfl)) ((if_neg nT).trans (eb r1 (eb e rfl)))
        · exact fin_r h _ 1 tr1 ((if_neg w1).trans ((if_neg w2).trans (eb cr rfl))) ((if_neg nT).trans (eb r1 (eb e rfl))))
theorem st_nextLapse (n : Nat) : StpR n (fun cs => fc_nextLapse cs) (fun sm => f_X9_nextLapse sm) := stp1 (fN := fun s => f_X8_nextLapse_N s) (fB := fun s => f_X8_nextLapse_B s) (fun _ => rfl) (fun _ => rfl) (fun _ _ => rfl)
  (fun sm s h => fin_n h _ 1 tr1 rfl ((if_pos h.2.2.2.1).trans rfl))
  (fun hn sm s kc vc h => by
    have nT := h.nT
    have hh := h
    obtain ⟨_, _, _, T, hT, _, _, _, hLv, _⟩ := hh
    unfold f_X8_nextLapse_B f_X9_nextLapse
    have loop : ∃ c, f_X1_keyOfNextLapse (OuB_books s) = some c ∧ (∀ (K : Int32 → Option (Int32 × MoT)), f_X9_nextLapse_L23_8 sm K 10000 (-2) 0 = K c) := by
      have main : ∀ (K : Int32 → Option (Int32 × MoT)), ∃ c, f_X1_keyOfNextLapse_L5_5 (OuB_books s) (fun x => some x) 10000 (-2) 0 = some c ∧ f_X9_nextLapse_L23_8 sm K 10000 (-2) 0 = K c := by
        intro K
        rw [li_0]
        refine lpp (L := fun n i c => f_X1_keyOfNextLapse_L5_5 (OuB_books s) (fun x => some x) n c i) (M := fun n i c => f_X9_nextLapse_L23_8 sm K n c i) 8 (fun _ c d => c = d ∧ (c = -2 ∨ ∃ j lt, j < 8 ∧ lt ≤ 9999 ∧ c = nI j ∧ Bk_latest (OuB_books s) j = nI lt ∧ Mo_x sm (151 + j) = nI lt)) (fun o q => ∃ c, o = some c ∧ q = K c) ?_ ?_ 10000 10000 0 (-2) (-2) (by omega) (by omega) (by omega) ⟨rfl, Or.inl rfl⟩
        · rintro n n2 c d ⟨rfl, _⟩
          refine ⟨c, ?_, ?_⟩
          · simp (disch := omega) only [li_0, li_1, li_2, li_3, li_4, li_5, li_6, li_7, li_8, li_9, li_10, li_11, li_12, li_13, li_14, li_15, li_16, li_20, li_30, li_31, li_32, li_40, li_42, li_45, li_48, li_57, li_58, li_59, li_60, li_64, li_74, li_75, li_81, li_97, li_122, li_124, li_143, li_151, li_159, li_167, li_175, li_200, li_255, li_648, li_650, li_823, li_900, li_999, li_1123, li_1298, li_1363, li_1379, li_2592, li_6571, li_9999, li_65536, li_65537, ng1, ng2, nI_add, pk_mul, remN, divN, inbI, ixN, leN, ltN, eqN, m1E, m1E', m2E, m12, m21, bsm, glE, b2iT, b2iF, if_pos, if_neg, ite_true, ite_false, not_true, not_false_iff, reduceCtorEq, f_X1_keyOfNextLapse_L5_5]
          · simp (disch := omega) only [li_0, li_1, li_2, li_3, li_4, li_5, li_6, li_7, li_8, li_9, li_10, li_11, li_12, li_13, li_14, li_15, li_16, li_20, li_30, li_31, li_32, li_40, li_42, li_45, li_48, li_57, li_58, li_59, li_60, li_64, li_74, li_75, li_81, li_97, li_122, li_124, li_143, li_151, li_159, li_167, li_175, li_200, li_255, li_648, li_650, li_823, li_900, li_999, li_1123, li_1298, li_1363, li_1379, li_2592, li_6571, li_9999, li_65536, li_65537, ng1, ng2, nI_add, pk_mul, remN, divN, inbI, ixN, leN, ltN, eqN, m1E, m1E', m2E, m12, m21, bsm, glE, b2iT, b2iF, if_pos, if_neg, ite_true, ite_false, not_true, not_false_iff, reduceCtorEq, f_X9_nextLapse_L23_8]
        · rintro n n2 i c d hi ⟨rfl, hc⟩
          have cl := c_lives (OuB_books s) hi
          have rl : f_X9_lives (mT sm) 0 (nI i) = some (b2i (decide (Mo_x sm (6571 * 0 + (143 + i)) = nI 1))) := r_lives (mT sm) (Mo_x sm) (b := 0) (by omega) hi
          have hI : inb (nI i) 8 := inbN hi (by omega)
          have hix : ix (nI i) = i := ixN (by omega)
          have i1 : (151 : Int32) + nI i = nI (151 + i) := nI_add 151 i
          have n1 : nI i + (1 : Int32) = nI (i + 1) := nI_1 i
          have gi := gTx sm (i := 151 + i) (by omega)
          rcases hLv i hi with ⟨p1, p2, p3⟩ | ⟨lt, p1, p2, p3, p4⟩
          · simp only [p2, decide_true, Bool.not_true] at cl
            simp only [p1, show (nI 0 = nI 1) = False from eq_false (by decide), decide_false] at rl
            refine ⟨c, c, ⟨rfl, hc⟩, ?_, ?_⟩
            · show f_X1_keyOfNextLapse_L5_5 (OuB_books s) (fun x => some x) (n + 1) c (nI i) = _
              rw [f_X1_keyOfNextLapse_L5_5, n1]
              exact (if_neg (nI_ge hi (by omega))).trans (eb cl (if_pos rfl))
            · show f_X9_nextLapse_L23_8 sm K (n2 + 1) c (nI i) = _
              rw [f_X9_nextLapse_L23_8, n1]
              exact (if_neg (nI_ge hi (by omega))).trans (eb rl (if_pos rfl))
          · have p3 : Mo_x sm (151 + i) = nI lt := (congrArg (Mo_x sm) (by omega)).trans p3
            rw [p3] at gi
            simp only [p4, m2E (show lt < 2147483648 by omega), decide_false, Bool.not_false] at cl
            simp only [p2, decide_true] at rl
            rcases hc with rfl | ⟨j, lt2, hj, hl2, rfl, w1, w2⟩
            · refine ⟨nI i, nI i, ⟨rfl, Or.inr ⟨i, lt, hi, p1, rfl, p4, p3⟩⟩, ?_, ?_⟩
              · show f_X1_keyOfNextLapse_L5_5 (OuB_books s) (fun x => some x) (n + 1) (-2) (nI i) = _
                rw [f_X1_keyOfNextLapse_L5_5, n1]
                exact (if_neg (nI_ge hi (by omega))).trans (eb cl ((if_neg (by decide)).trans (if_pos rfl)))
              · show f_X9_nextLapse_L23_8 sm K (n2 + 1) (-2) (nI i) = _
                rw [f_X9_nextLapse_L23_8, n1]
                exact (if_neg (nI_ge hi (by omega))).trans (eb rl ((if_neg (by decide)).trans (if_pos rfl)))
            · have hIj : inb (nI j) 8 := inbN hj (by omega)
              have hixj : ix (nI j) = j := ixN (by omega)
              have ij : (151 : Int32) + nI j = nI (151 + j) := nI_add 151 j
              have gj := gTx sm (i := 151 + j) (by omega)
              rw [w2] at gj
              have hne : ¬ nI j = (-2 : Int32) := fun e => (m2E (n := j) (by omega)).mp e
              by_cases q : lt2 ≤ lt
              · refine ⟨nI j, nI j, ⟨rfl, Or.inr ⟨j, lt2, hj, hl2, rfl, w1, w2⟩⟩, ?_, ?_⟩
                · show f_X1_keyOfNextLapse_L5_5 (OuB_books s) (fun x => some x) (n + 1) (nI j) (nI i) = _
                  rw [f_X1_keyOfNextLapse_L5_5, n1, hix, hixj, w1, p4]
                  exact (if_neg (nI_ge hi (by omega))).trans (eb cl ((if_neg (by decide)).trans ((if_neg hne).trans ((if_pos hI).trans ((if_pos hIj).trans (if_pos (nI_le q (by omega))))))))
                · show f_X9_nextLapse_L23_8 sm K (n2 + 1) (nI j) (nI i) = _
                  rw [f_X9_nextLapse_L23_8, n1, i1, ij]
                  exact (if_neg (nI_ge hi (by omega))).trans (eb rl ((if_neg (by decide)).trans ((if_neg hne).trans (eb gi (eb gj (if_pos (nI_le q (by omega))))))))
              · refine ⟨nI i, nI i, ⟨rfl, Or.inr ⟨i, lt, hi, p1, rfl, p4, p3⟩⟩, ?_, ?_⟩
                · show f_X1_keyOfNextLapse_L5_5 (OuB_books s) (fun x => some x) (n + 1) (nI j) (nI i) = _
                  rw [f_X1_keyOfNextLapse_L5_5, n1, hix, hixj, w1, p4]
                  exact (if_neg (nI_ge hi (by omega))).trans (eb cl ((if_neg (by decide)).trans ((if_neg hne).trans ((if_pos hI).trans ((if_pos hIj).trans (if_neg (nI_ge (show lt < lt2 by omega) (by omega))))))))
                · show f_X9_nextLapse_L23_8 sm K (n2 + 1) (nI j) (nI i) = _
                  rw [f_X9_nextLapse_L23_8, n1, i1, ij]
                  exact (if_neg (nI_ge hi (by omega))).trans (eb rl ((if_neg (by decide)).trans ((if_neg hne).trans (eb gi (eb gj (if_neg (nI_ge (show lt < lt2 by omega) (by omega))))))))
      obtain ⟨c, a1, a2⟩ := main (fun _ => none)
      refine ⟨c, ?_, fun K => ?_⟩
      · unfold f_X1_keyOfNextLapse
        exact eg a1
      · obtain ⟨c', a3, a4⟩ := main K
        rw [a1] at a3
        cases a3
        exact a4
    obtain ⟨c, a1, a2⟩ := loop
    exact fin_g h c (eb a1 rfl) ((if_neg nT).trans (eg ((a2 _).trans rfl))))
