/-! more calls -/
theorem itr_congr {S : Type} {f g : Nat → S → S} {s : S} : ∀ n, (∀ i a, i < n → f i a = g i a) → itr f s n = itr g s n
  | 0, _ => rfl
  | n + 1, h => by
    show f n (itr f s n) = g n (itr g s n)
    rw [itr_congr n (fun i a hi => h i a (by omega)), h n _ (by omega)]
theorem thA_congr {nt nt' : Nat → Int32} {sd k : Nat} (hs : sd < 2) (hk : k < 8) (h : ∀ i, i < 128 → nt i = nt' i) : thA nt sd k = thA nt' sd k := by
  unfold thA
  exact itr_congr 8 (fun i a hi => by rw [th_congr hs hk h i hi])
theorem st_there (n : Nat) (p1 p2 : Int32) : StpR n (fun cs => fc_there cs p1 p2) (fun sm => f_X9_there sm p1 p2) := stp1 (fN := fun s => f_X8_there_N s p1 p2) (fB := fun s => f_X8_there_B s p1 p2) (fun _ => rfl) (fun _ => rfl) (fun _ _ => rfl)
  (fun sm s h => by
    unfold f_X8_there_N f_X9_there
    rcases side2 p1 with ⟨j, _, _, a, b⟩ | ⟨a, b⟩
    · exact fin_n h _ 1 tr1 (eb a rfl) (eb b ((if_neg (by decide)).trans (eb (nKey h p2) rfl)))
    · exact fin_n h _ 1 tr1 (eb a rfl) (eb b rfl))
  (fun hn sm s kc vc h => by
    unfold f_X8_there_B f_X9_there
    rcases side2 p1 with ⟨j, hj, rfl, a, b⟩ | ⟨a, b⟩
    · rcases key2 h p2 with ⟨k, hk, hk8, rfl, c, d⟩ | ⟨c, d⟩
      · have hh := h
        obtain ⟨_, _, _, T, _, ⟨g, hBd⟩, _⟩ := hh
        have c1 := c_all (Bk_board (OuB_books s)) hj hk8
        have r1 : f_X9_thereAll (mT sm) 0 (nI j) (nI k) = some (thA (xn (Mo_x sm) 0) j k) := r_all (mT sm) (Mo_x sm) (b := 0) (by omega) hj hk8
        rw [thA_congr hj hk8 hBd.1] at c1
        exact fin_g h _ (eb a ((if_neg (by decide)).trans (eb c ((if_neg (by decide)).trans (eb c1 rfl))))) (eb b ((if_neg (by decide)).trans (eb d ((if_neg (by decide)).trans (eb r1 rfl)))))
      · exact fin_r h _ 1 tr1 (eb a ((if_neg (by decide)).trans (eb c rfl))) (eb b ((if_neg (by decide)).trans (eb d rfl)))
    · exact fin_r h _ 1 tr1 (eb a rfl) (eb b rfl))
theorem st_flips (n : Nat) (p1 p2 : Int32) : StpR n (fun cs => fc_flips cs p1 p2) (fun sm => f_X9_flips sm p1 p2) := stp1 (fN := fun s => f_X8_flips_N s p1 p2) (fB := fun s => f_X8_flips_B s p1 p2) (fun _ => rfl) (fun _ => rfl) (fun _ _ => rfl)
  (fun sm s h => by
    unfold f_X8_flips_N f_X9_flips
    rcases side2 p1 with ⟨j, _, _, a, b⟩ | ⟨a, b⟩
    · exact fin_n h _ 1 tr1 (eb a rfl) (eb b ((if_neg (by decide)).trans (eb (nKey h p2) rfl)))
    · exact fin_n h _ 1 tr1 (eb a rfl) (eb b rfl))
  (fun hn sm s kc vc h => by
    unfold f_X8_flips_B f_X9_flips
    rcases side2 p1 with ⟨j, hj, rfl, a, b⟩ | ⟨a, b⟩
    · rcases key2 h p2 with ⟨k, hk, hk8, rfl, c, d⟩ | ⟨c, d⟩
      · have hh := h
        obtain ⟨_, _, _, T, _, ⟨g, hBd⟩, _⟩ := hh
        have e1 : nI j * (8 : Int32) + nI k = nI (j * 8 + k) := by
          simp (disch := omega) only [li_0, li_1, li_2, li_3, li_4, li_5, li_6, li_7, li_8, li_9, li_10, li_11, li_12, li_13, li_14, li_15, li_16, li_20, li_30, li_31, li_32, li_40, li_42, li_45, li_48, li_57, li_58, li_59, li_60, li_64, li_74, li_75, li_81, li_97, li_122, li_124, li_143, li_151, li_159, li_167, li_175, li_200, li_255, li_648, li_650, li_823, li_900, li_999, li_1123, li_1298, li_1363, li_1379, li_2592, li_6571, li_9999, li_65536, li_65537, ng1, ng2, nI_add, pk_mul, remN, divN, inbI, ixN, leN, ltN, eqN, m1E, m1E', m2E, m12, m21, bsm, glE, b2iT, b2iF, if_pos, if_neg, ite_true, ite_false, not_true, not_false_iff, reduceCtorEq]
        have e2 : ((1363 : Int32) + (8 : Int32) * nI j) + nI k = nI (1363 + 8 * j + k) := by
          simp (disch := omega) only [li_0, li_1, li_2, li_3, li_4, li_5, li_6, li_7, li_8, li_9, li_10, li_11, li_12, li_13, li_14, li_15, li_16, li_20, li_30, li_31, li_32, li_40, li_42, li_45, li_48, li_57, li_58, li_59, li_60, li_64, li_74, li_75, li_81, li_97, li_122, li_124, li_143, li_151, li_159, li_167, li_175, li_200, li_255, li_648, li_650, li_823, li_900, li_999, li_1123, li_1298, li_1363, li_1379, li_2592, li_6571, li_9999, li_65536, li_65537, ng1, ng2, nI_add, pk_mul, remN, divN, inbI, ixN, leN, ltN, eqN, m1E, m1E', m2E, m12, m21, bsm, glE, b2iT, b2iF, if_pos, if_neg, ite_true, ite_false, not_true, not_false_iff, reduceCtorEq]
        have g1 := gTx sm (i := 1363 + 8 * j + k) (by omega)
        have hI : inb (nI (j * 8 + k)) 16 := inbN (by omega) (by omega)
        have hix : ix (nI (j * 8 + k)) = j * 8 + k := ixN (by omega)
        have ht : Bd_turns (Bk_board (OuB_books s)) (j * 8 + k) = Mo_x sm (1363 + 8 * j + k) := by
          rw [hBd.2.2.2.2.1 _ (by omega)]
          congr 1
          omega
        rw [e1, e2, hix, ht]
        exact fin_g h _ (eb a ((if_neg (by decide)).trans (eb c ((if_neg (by decide)).trans ((if_pos hI).trans rfl))))) (eb b ((if_neg (by decide)).trans (eb d ((if_neg (by decide)).trans (eb g1 rfl)))))
      · exact fin_r h _ 1 tr1 (eb a ((if_neg (by decide)).trans (eb c rfl))) (eb b ((if_neg (by decide)).trans (eb d rfl)))
    · exact fin_r h _ 1 tr1 (eb a rfl) (eb b rfl))
theorem ge2 {p : Int32} {a : Nat} (h : nI (a + 1) ≤ p) (ha : a < 1000000) : ¬ p < 0 ∧ ¬ p ≤ nI a ∧ nI a < p := by
  rw [leI, tI (by omega)] at h
  refine ⟨?_, ?_, ?_⟩
  · rw [ltI]; have : (0 : Int32).toInt = 0 := rfl; omega
  · rw [leI, tI (by omega)]; omega
  · rw [ltI, tI (by omega)]; omega
theorem ne2 {p : Int32} {a j : Nat} (h : p < 0 ∨ nI a ≤ p) (hj : j < a) (ha : a < 1000000) : ¬ p = nI j := by
  intro e
  rcases h with h | h
  · rw [e, ltI, tI (by omega)] at h
    have : (0 : Int32).toInt = 0 := rfl
    omega
  · rw [e, leI, tI (by omega), tI (by omega)] at h
    omega
/-- a number of 0 to m, or one that isn't -/
theorem rng (p : Int32) (m : Nat) (hm : m < 1000000) : (∃ j, j ≤ m ∧ p = nI j ∧ ¬ p < 0 ∧ p ≤ nI m) ∨ ((p < 0 ∨ nI (m + 1) ≤ p) ∧ (p < 0 ∨ (¬ p < 0 ∧ ¬ p ≤ nI m))) := by
  rcases pk_ix p (n := m + 1) (by omega) with h | h | ⟨j, hj, rfl⟩
  · exact Or.inr ⟨Or.inl h, Or.inl h⟩
  · exact Or.inr ⟨Or.inr h, Or.inr ⟨(ge2 h hm).1, (ge2 h hm).2.1⟩⟩
  · exact Or.inl ⟨j, by omega, rfl, nI_pos (by omega), nI_le (by omega) (by omega)⟩
theorem inQ (p : Int32) {m : Nat} (hm : m < 1000000) : ((∃ j, j ≤ m ∧ p = nI j) → f_X9_in p 0 (nI m) = some 1) ∧ ((p < 0 ∨ nI (m + 1) ≤ p) → f_X9_in p 0 (nI m) = some 0) := by
  unfold f_X9_in
  constructor
  · rintro ⟨j, hj, rfl⟩
    rw [if_neg (nI_pos (by omega)), if_neg (nI_nlt hj (by omega))]
  · rintro (h | h)
    · rw [if_pos h]
    · rw [if_neg (ge2 h hm).1, if_pos (ge2 h hm).2.2]
theorem fin_i {n kc vc : Nat} {s : OuBT} {sm : MoT} {p : Int32} {m : Nat} {A : Option (Int32 × OuBT)} {fm : Option (Int32 × MoT)} (h : RB n kc vc s sm) (v : Int32) (q : p < 0 ∨ (¬ p < 0 ∧ ¬ p ≤ nI m)) (e2 : fm = some (v, mR (mT sm) 1)) :
    ∃ r s' sm', (if p < 0 then (f_X8_refuse_B s (1 : Int32) v).bind fun r2 => some ((r2.1), (r2.2)) else if p ≤ nI m then A else (f_X8_refuse_B s (1 : Int32) v).bind fun r9 => some ((r9.1), (r9.2))) = some (r, s') ∧ fm = some (r, sm') ∧ RB (n + 1) kc vc s' sm' ∧ KS s sm s' sm' := by
  rcases q with q | ⟨q1, q2⟩
  · exact fin_r h v 1 tr1 (if_pos q) e2
  · exact fin_r h v 1 tr1 ((if_neg q1).trans (if_neg q2)) e2

theorem st_about (n : Nat) (p1 : Int32) : StpR n (fun cs => fc_about cs p1) (fun sm => f_X9_about sm p1) := stp1 (fN := fun s => f_X8_about_N s p1) (fB := fun s => f_X8_about_B s p1) (fun _ => rfl) (fun _ => rfl) (fun _ _ => rfl)
  (fun sm s h => fin_n h _ 1 tr1 rfl (if_pos h.2.2.2.1))
  (fun hn sm s kc vc h => by
    have nT := h.nT
    have hh := h
    obtain ⟨_, _, _, T, _, ⟨g, hBd⟩, hW, _, hLv, ⟨⟨kp, _, k2, k3⟩, ⟨lt, _, l2, l3⟩, ⟨ck, _, c2, c3⟩, f4, f5, f6⟩, _⟩ := hh
    unfold f_X8_about_B f_X9_about
    rcases rng p1 9 (by omega) with ⟨j, hj, rfl, q1, q2⟩ | ⟨q, q'⟩
    · have living : ∃ c, f_X1_countLiving (OuB_books s) = some c ∧ f_X9_living (mT sm) = some c := by
        unfold f_X1_countLiving f_X9_living
        rw [glE, glE, li_0]
        refine lpp (L := fun n i c => f_X1_countLiving_L4_5 (OuB_books s) (fun x => some x) n c i) (M := fun n i c => f_X9_living_L4_5 (mT sm) (fun x => some x) n c i) 8 (fun _ c d => c = d) (fun o q => ∃ c, o = some c ∧ q = some c) ?_ ?_ 10000 10000 0 (nI 0) (nI 0) (by omega) (by omega) (by omega) rfl
        · rintro n n2 c d rfl
          refine ⟨c, ?_, ?_⟩
          · simp (disch := omega) only [li_0, li_1, li_2, li_3, li_4, li_5, li_6, li_7, li_8, li_9, li_10, li_11, li_12, li_13, li_14, li_15, li_16, li_20, li_30, li_31, li_32, li_40, li_42, li_45, li_48, li_57, li_58, li_59, li_60, li_64, li_74, li_75, li_81, li_97, li_122, li_124, li_143, li_151, li_159, li_167, li_175, li_200, li_255, li_648, li_650, li_823, li_900, li_999, li_1123, li_1298, li_1363, li_1379, li_2592, li_6571, li_9999, li_65536, li_65537, ng1, ng2, nI_add, pk_mul, remN, divN, inbI, ixN, leN, ltN, eqN, m1E, m1E', m2E, m12, m21, bsm, glE, b2iT, b2iF, if_pos, if_neg, ite_true, ite_false, not_true, not_false_iff, reduceCtorEq, f_X1_countLiving_L4_5]
          · simp (disch := omega) only [li_0, li_1, li_2, li_3, li_4, li_5, li_6, li_7, li_8, li_9, li_10, li_11, li_12, li_13, li_14, li_15, li_16, li_20, li_30, li_31, li_32, li_40, li_42, li_45, li_48, li_57, li_58, li_59, li_60, li_64, li_74, li_75, li_81, li_97, li_122, li_124, li_143, li_151, li_159, li_167, li_175, li_200, li_255, li_648, li_650, li_823, li_900, li_999, li_1123, li_1298, li_1363, li_1379, li_2592, li_6571, li_9999, li_65536, li_65537, ng1, ng2, nI_add, pk_mul, remN, divN, inbI, ixN, leN, ltN, eqN, m1E, m1E', m2E, m12, m21, bsm, glE, b2iT, b2iF, if_pos, if_neg, ite_true, ite_false, not_true, not_false_iff, reduceCtorEq, f_X9_living_L4_5]
        · rintro n n2 i c d hi rfl
          have cl := c_lives (OuB_books s) hi
          have rl : f_X9_lives (mT sm) (nI 0) (nI i) = some (b2i (decide (Mo_x sm (6571 * 0 + (143 + i)) = nI 1))) := r_lives (mT sm) (Mo_x sm) (b := 0) (by omega) hi
          rcases hLv i hi with ⟨p1, p2, p3⟩ | ⟨lt, p1, p2, p3, p4⟩
          · simp only [p2, decide_true, Bool.not_true] at cl
            simp only [p1, show (nI 0 = nI 1) = False from eq_false (by decide), decide_false] at rl
            refine ⟨c, c, rfl, ?_, ?_⟩
            · simp (disch := omega) only [li_0, li_1, li_2, li_3, li_4, li_5, li_6, li_7, li_8, li_9, li_10, li_11, li_12, li_13, li_14, li_15, li_16, li_20, li_30, li_31, li_32, li_40, li_42, li_45, li_48, li_57, li_58, li_59, li_60, li_64, li_74, li_75, li_81, li_97, li_122, li_124, li_143, li_151, li_159, li_167, li_175, li_200, li_255, li_648, li_650, li_823, li_900, li_999, li_1123, li_1298, li_1363, li_1379, li_2592, li_6571, li_9999, li_65536, li_65537, ng1, ng2, nI_add, pk_mul, remN, divN, inbI, ixN, leN, ltN, eqN, m1E, m1E', m2E, m12, m21, bsm, glE, b2iT, b2iF, if_pos, if_neg, ite_true, ite_false, not_true, not_false_iff, reduceCtorEq, f_X1_countLiving_L4_5, cl]
            · simp (disch := omega) only [li_0, li_1, li_2, li_3, li_4, li_5, li_6, li_7, li_8, li_9, li_10, li_11, li_12, li_13, li_14, li_15, li_16, li_20, li_30, li_31, li_32, li_40, li_42, li_45, li_48, li_57, li_58, li_59, li_60, li_64, li_74, li_75, li_81, li_97, li_122, li_124, li_143, li_151, li_159, li_167, li_175, li_200, li_255, li_648, li_650, li_823, li_900, li_999, li_1123, li_1298, li_1363, li_1379, li_2592, li_6571, li_9999, li_65536, li_65537, ng1, ng2, nI_add, pk_mul, remN, divN, inbI, ixN, leN, ltN, eqN, m1E, m1E', m2E, m12, m21, bsm, glE, b2iT, b2iF, if_pos, if_neg, ite_true, ite_false, not_true, not_false_iff, reduceCtorEq, f_X9_living_L4_5, rl, z1]
          · simp only [p4, m2E (show lt < 2147483648 by omega), decide_false, Bool.not_false] at cl
            simp only [p2, decide_true] at rl
            refine ⟨c + nI 1, c + nI 1, rfl, ?_, ?_⟩
            · simp (disch := omega) only [li_0, li_1, li_2, li_3, li_4, li_5, li_6, li_7, li_8, li_9, li_10, li_11, li_12, li_13, li_14, li_15, li_16, li_20, li_30, li_31, li_32, li_40, li_42, li_45, li_48, li_57, li_58, li_59, li_60, li_64, li_74, li_75, li_81, li_97, li_122, li_124, li_143, li_151, li_159, li_167, li_175, li_200, li_255, li_648, li_650, li_823, li_900, li_999, li_1123, li_1298, li_1363, li_1379, li_2592, li_6571, li_9999, li_65536, li_65537, ng1, ng2, nI_add, pk_mul, remN, divN, inbI, ixN, leN, ltN, eqN, m1E, m1E', m2E, m12, m21, bsm, glE, b2iT, b2iF, if_pos, if_neg, ite_true, ite_false, not_true, not_false_iff, reduceCtorEq, f_X1_countLiving_L4_5, cl]
            · simp (disch := omega) only [li_0, li_1, li_2, li_3, li_4, li_5, li_6, li_7, li_8, li_9, li_10, li_11, li_12, li_13, li_14, li_15, li_16, li_20, li_30, li_31, li_32, li_40, li_42, li_45, li_48, li_57, li_58, li_59, li_60, li_64, li_74, li_75, li_81, li_97, li_122, li_124, li_143, li_151, li_159, li_167, li_175, li_200, li_255, li_648, li_650, li_823, li_900, li_999, li_1123, li_1298, li_1363, li_1379, li_2592, li_6571, li_9999, li_65536, li_65537, ng1, ng2, nI_add, pk_mul, remN, divN, inbI, ixN, leN, ltN, eqN, m1E, m1E', m2E, m12, m21, bsm, glE, b2iT, b2iF, if_pos, if_neg, ite_true, ite_false, not_true, not_false_iff, reduceCtorEq, f_X9_living_L4_5, rl]
      obtain ⟨lv, v1, v2⟩ := living

      rcases (show j = 0 ∨ j = 1 ∨ j = 2 ∨ j = 3 ∨ j = 4 ∨ j = 5 ∨ j = 6 ∨ j = 7 ∨ j = 8 ∨ j = 9 by omega) with rfl | rfl | rfl | rfl | rfl | rfl | rfl | rfl | rfl | rfl
      · have e : Bd_how (Bk_board (OuB_books s)) = Mo_x sm 0 := (hBd.2.1.trans hBd.2.2.1.symm)
        refine fin_g h (Mo_x sm 0) ((if_neg q1).trans ((if_pos q2).trans (eb (a := Mo_x sm 0) ?_ rfl))) ((if_neg nT).trans ((if_pos rfl).trans (eb (gTx sm (i := 0) (by omega)) rfl)))
        rw [← e]
        exact (if_pos rfl).trans (rfl)
      · have e : Bk_keep (OuB_books s) = Mo_x sm 1 := (k2.trans k3.symm)
        refine fin_g h (Mo_x sm 1) ((if_neg q1).trans ((if_pos q2).trans (eb (a := Mo_x sm 1) ?_ rfl))) ((if_neg nT).trans ((if_neg (by decide)).trans ((if_pos rfl).trans (eb (gTx sm (i := 1) (by omega)) rfl))))
        rw [← e]
        exact (if_neg (by decide)).trans ((if_pos rfl).trans (rfl))
      · have e : Bk_late (OuB_books s) = Mo_x sm 2 := (l2.trans l3.symm)
        refine fin_g h (Mo_x sm 2) ((if_neg q1).trans ((if_pos q2).trans (eb (a := Mo_x sm 2) ?_ rfl))) ((if_neg nT).trans ((if_neg (by decide)).trans ((if_neg (by decide)).trans ((if_pos rfl).trans (eb (gTx sm (i := 2) (by omega)) rfl)))))
        rw [← e]
        exact (if_neg (by decide)).trans ((if_neg (by decide)).trans ((if_pos rfl).trans (rfl)))
      · have e : Wd_count (Bk_keys (OuB_books s)) = Mo_x sm 3 := (hW.2.2.1.trans hW.2.2.2.1.symm)
        refine fin_g h (Mo_x sm 3) ((if_neg q1).trans ((if_pos q2).trans (eb (a := Mo_x sm 3) ?_ rfl))) ((if_neg nT).trans ((if_neg (by decide)).trans ((if_neg (by decide)).trans ((if_neg (by decide)).trans ((if_pos rfl).trans (eb (gTx sm (i := 3) (by omega)) rfl))))))
        rw [← e]
        exact (if_neg (by decide)).trans ((if_neg (by decide)).trans ((if_neg (by decide)).trans ((if_pos rfl).trans (rfl))))
      · have e : Wd_count (Bk_values (OuB_books s)) = Mo_x sm 4 := (hW.2.2.2.2.1.trans hW.2.2.2.2.2.1.symm)
        refine fin_g h (Mo_x sm 4) ((if_neg q1).trans ((if_pos q2).trans (eb (a := Mo_x sm 4) ?_ rfl))) ((if_neg nT).trans ((if_neg (by decide)).trans ((if_neg (by decide)).trans ((if_neg (by decide)).trans ((if_neg (by decide)).trans ((if_pos rfl).trans (eb (gTx sm (i := 4) (by omega)) rfl)))))))
        rw [← e]
        exact (if_neg (by decide)).trans ((if_neg (by decide)).trans ((if_neg (by decide)).trans ((if_neg (by decide)).trans ((if_pos rfl).trans (rfl)))))
      · have e : Bk_clock (OuB_books s) = Mo_x sm 5 := (c2.trans c3.symm)
        refine fin_g h (Mo_x sm 5) ((if_neg q1).trans ((if_pos q2).trans (eb (a := Mo_x sm 5) ?_ rfl))) ((if_neg nT).trans ((if_neg (by decide)).trans ((if_neg (by decide)).trans ((if_neg (by decide)).trans ((if_neg (by decide)).trans ((if_neg (by decide)).trans ((if_pos rfl).trans (eb (gTx sm (i := 5) (by omega)) rfl))))))))
        rw [← e]
        exact (if_neg (by decide)).trans ((if_neg (by decide)).trans ((if_neg (by decide)).trans ((if_neg (by decide)).trans ((if_neg (by decide)).trans ((if_pos rfl).trans (rfl))))))
      · exact fin_g h lv ((if_neg q1).trans ((if_pos q2).trans (eb ((if_neg (by decide)).trans ((if_neg (by decide)).trans ((if_neg (by decide)).trans ((if_neg (by decide)).trans ((if_neg (by decide)).trans ((if_neg (by decide)).trans ((if_pos rfl).trans (eb v1 rfl)))))))) rfl))) ((if_neg nT).trans ((if_neg (by decide)).trans ((if_neg (by decide)).trans ((if_neg (by decide)).trans ((if_neg (by decide)).trans ((if_neg (by decide)).trans ((if_neg (by decide)).trans ((if_pos rfl).trans (eb v2 rfl)))))))))
      · have e : Lg_acts (Bd_ledger (Bk_board (OuB_books s))) = Mo_x sm 6 := hBd.2.2.2.2.2.1.2.2.2.2.2.1
        refine fin_g h (Mo_x sm 6) ((if_neg q1).trans ((if_pos q2).trans (eb (a := Mo_x sm 6) ?_ rfl))) ((if_neg nT).trans ((if_neg (by decide)).trans ((if_neg (by decide)).trans ((if_neg (by decide)).trans ((if_neg (by decide)).trans ((if_neg (by decide)).trans ((if_neg (by decide)).trans ((if_neg (by decide)).trans ((if_pos rfl).trans (eb (gTx sm (i := 6) (by omega)) rfl))))))))))
        rw [← e]
        exact (if_neg (by decide)).trans ((if_neg (by decide)).trans ((if_neg (by decide)).trans ((if_neg (by decide)).trans ((if_neg (by decide)).trans ((if_neg (by decide)).trans ((if_neg (by decide)).trans ((if_pos rfl).trans (rfl))))))))
      · have e : Bk_tooLate (OuB_books s) = Mo_x sm 7 := f4
        refine fin_g h (Mo_x sm 7) ((if_neg q1).trans ((if_pos q2).trans (eb (a := Mo_x sm 7) ?_ rfl))) ((if_neg nT).trans ((if_neg (by decide)).trans ((if_neg (by decide)).trans ((if_neg (by decide)).trans ((if_neg (by decide)).trans ((if_neg (by decide)).trans ((if_neg (by decide)).trans ((if_neg (by decide)).trans ((if_neg (by decide)).trans ((if_pos rfl).trans (eb (gTx sm (i := 7) (by omega)) rfl)))))))))))
        rw [← e]
        exact (if_neg (by decide)).trans ((if_neg (by decide)).trans ((if_neg (by decide)).trans ((if_neg (by decide)).trans ((if_neg (by decide)).trans ((if_neg (by decide)).trans ((if_neg (by decide)).trans ((if_neg (by decide)).trans ((if_pos rfl).trans (rfl)))))))))
      · have e : Bk_lapsed (OuB_books s) = Mo_x sm 8 := f5
        refine fin_g h (Mo_x sm 8) ((if_neg q1).trans ((if_pos q2).trans (eb (a := Mo_x sm 8) ?_ rfl))) ((if_neg nT).trans ((if_neg (by decide)).trans ((if_neg (by decide)).trans ((if_neg (by decide)).trans ((if_neg (by decide)).trans ((if_neg (by decide)).trans ((if_neg (by decide)).trans ((if_neg (by decide)).trans ((if_neg (by decide)).trans ((if_neg (by decide)).trans ((if_pos rfl).trans (eb (gTx sm (i := 8) (by omega)) rfl))))))))))))
        rw [← e]
        exact (if_neg (by decide)).trans ((if_neg (by decide)).trans ((if_neg (by decide)).trans ((if_neg (by decide)).trans ((if_neg (by decide)).trans ((if_neg (by decide)).trans ((if_neg (by decide)).trans ((if_neg (by decide)).trans ((if_neg (by decide)).trans (rfl)))))))))
    · exact fin_i (m := 9) h _ q' ((if_neg nT).trans ((if_neg (ne2 (j := 0) q (by omega) (by omega))).trans ((if_neg (ne2 (j := 1) q (by omega) (by omega))).trans ((if_neg (ne2 (j := 2) q (by omega) (by omega))).trans ((if_neg (ne2 (j := 3) q (by omega) (by omega))).trans ((if_neg (ne2 (j := 4) q (by omega) (by omega))).trans ((if_neg (ne2 (j := 5) q (by omega) (by omega))).trans ((if_neg (ne2 (j := 6) q (by omega) (by omega))).trans ((if_neg (ne2 (j := 7) q (by omega) (by omega))).trans ((if_neg (ne2 (j := 8) q (by omega) (by omega))).trans ((if_neg (ne2 (j := 9) q (by omega) (by omega))).trans (rfl)))))))))))))
theorem st_traffic (n : Nat) (p1 : Int32) : StpR n (fun cs => fc_traffic cs p1) (fun sm => f_X9_traffic sm p1) := stp1 (fN := fun s => f_X8_traffic_N s p1) (fB := fun s => f_X8_traffic_B s p1) (fun _ => rfl) (fun _ => rfl) (fun _ _ => rfl)
  (fun sm s h => fin_n h _ 1 tr1 rfl (if_pos h.2.2.2.1))
  (fun hn sm s kc vc h => by
    have nT := h.nT
    have hh := h
    obtain ⟨_, _, _, T, _, ⟨g, hBd⟩, _, ⟨m, m1', m2', m3, m4⟩, _⟩ := hh
    obtain ⟨b1, b2, b3, b4, b5, b6, _⟩ := hBd.2.2.2.2.2.1
    unfold f_X8_traffic_B f_X9_traffic
    rcases rng p1 3 (by omega) with ⟨j, hj, rfl, q1, q2⟩ | ⟨q, q'⟩
    · have i1 := (inQ (nI j) (m := 3) (by omega)).1 ⟨j, hj, rfl⟩
      have g1 := gTx sm (i := 9 + j) (by omega)
      have e9 : (9 : Int32) + nI j = nI (9 + j) := nI_add 9 j
      rw [e9]
      refine fin_g h (Mo_x sm (9 + j)) ((if_neg q1).trans ((if_pos q2).trans (eb (a := Mo_x sm (9 + j)) ?_ rfl))) ((if_neg nT).trans (eb i1 ((if_neg (by decide)).trans (eb g1 rfl))))
      unfold f_X2_told
      rcases (show j = 0 ∨ j = 1 ∨ j = 2 ∨ j = 3 by omega) with rfl | rfl | rfl | rfl
      · exact (if_pos rfl).trans (congrArg some b4)
      · exact (if_neg (by decide)).trans ((if_pos rfl).trans (congrArg some b5))
      · exact (if_neg (by decide)).trans ((if_neg (by decide)).trans ((if_pos rfl).trans (congrArg some (b2.trans b3.symm))))
      · exact (if_neg (by decide)).trans ((if_neg (by decide)).trans ((if_neg (by decide)).trans (congrArg some (m2'.trans m3.symm))))
    · exact fin_i (m := 3) h _ q' ((if_neg nT).trans (eb ((inQ p1 (m := 3) (by omega)).2 q) rfl)))
theorem st_dearest (n : Nat) : StpR n (fun cs => fc_dearest cs) (fun sm => f_X9_dearest sm) := stp1 (fN := fun s => f_X8_dearest_N s) (fB := fun s => f_X8_dearest_B s) (fun _ => rfl) (fun _ => rfl) (fun _ _ => rfl)
  (fun sm s h => fin_n h _ 1 tr1 rfl (if_pos h.2.2.2.1))
  (fun hn sm s kc vc h => by
    have nT := h.nT
    have hh := h
    obtain ⟨_, _, _, T, hT, _, _, ⟨m, m1', m2', m3, m4⟩, _⟩ := hh
    have g1 := gTx sm (i := 12) (by omega)
    rw [show Mo_x sm 12 = nI m from m3] at g1
    unfold f_X8_dearest_B f_X9_dearest
    by_cases q : m = 0
    · subst q
      rw [if_pos rfl] at m4
      rw [m4]
      exact fin_g h _ rfl ((if_neg nT).trans (eb g1 ((if_pos rfl).trans rfl)))
    · rw [if_neg q] at m4
      rw [m4]
      exact fin_g h _ rfl ((if_neg nT).trans (eb g1 ((if_neg (nI_ne0 (by omega) (by omega))).trans (eb (gTx sm (i := 14) (by omega)) rfl)))))
