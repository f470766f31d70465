/-! the busiest key, debts, a single key, sizes -/
theorem st_busiest (n : Nat) : StpR n (fun cs => fc_busiest cs) (fun sm => f_X9_busiest sm) := stp1 (fN := fun s => f_X8_busiest_N s) (fB := fun s => f_X8_busiest_B s) (fun _ => rfl) (fun _ => rfl) (fun _ _ => rfl)
  (fun sm s h => fin_n h _ 1 tr1 rfl ((if_pos h.2.2.2.1).trans rfl))
  (fun hn sm s kc vc h => by
    have nT := h.nT
    have hh := h
    obtain ⟨_, _, _, T, hT, ⟨g, hBd⟩, _⟩ := hh
    obtain ⟨b1, b2, b3, b4, b5, b6, b7, b8, b9⟩ := hBd.2.2.2.2.2.1
    have hc : ∃ c : Nat → Nat, ∀ k, k < 8 → c k ≤ T ∧ Lg_byKey (Bd_ledger (Bk_board (OuB_books s))) k = nI (c k) := by
      refine ⟨fun k => ix (Lg_byKey (Bd_ledger (Bk_board (OuB_books s))) k), fun k hk => ?_⟩
      obtain ⟨c, w1, w2⟩ := b8 k hk
      show ix _ ≤ T ∧ _ = nI (ix _)
      rw [w2, ixN (by omega)]
      exact ⟨w1, rfl⟩
    obtain ⟨c, hc⟩ := hc
    have gk : ∀ k, k < 8 → f_X9_get (mT sm) 0 ((167 : Int32) + nI k) = some (nI (c k)) := fun k hk => by
      have i1 : (167 : Int32) + nI k = nI (167 + k) := nI_add 167 k
      rw [i1, gTx sm (by omega), ← (hc k hk).2, b1 k hk]
      congr 2
      omega
    unfold f_X8_busiest_B f_X9_busiest
    have main : ∀ (K : Int32 → Option (Int32 × MoT)), ∃ v, f_X2_keyOfMost (Bd_ledger (Bk_board (OuB_books s))) = some v ∧ f_X9_busiest_L25_9 sm K 10000 (-2) 0 0 = K v := by
      intro K
      unfold f_X2_keyOfMost
      rw [glE]
      have first : f_X9_busiest_L25_9 sm K 10000 (-2) 0 0 = f_X9_busiest_L25_9 sm K 9999 (if c 0 = 0 then m2 else nI 0) (nI (c 0)) (nI 1) := by
        rw [f_X9_busiest_L25_9]
        refine (if_neg (by decide)).trans (eb (gk 0 (by omega)) ?_)
        by_cases q : c 0 = 0
        · rw [q]
          exact if_neg (by decide)
        · have := (hc 0 (by omega)).1
          rw [if_neg q]
          refine (if_pos (nI_lt (a := 0) (by omega) (by omega) : nI 0 < nI (c 0))).trans (eb (gk 0 (by omega)) rfl)
      rw [first]
      refine lpp (L := fun n i b => f_X2_keyOfMost_L4_6 (Bd_ledger (Bk_board (OuB_books s))) (fun (x1_2 : Int32) => if (Lg_total (Bd_ledger (Bk_board (OuB_books s)))) = 0 then some ((-2 : Int32)) else some (x1_2)) n b i) (M := fun n i (p : Int32 × Int32) => f_X9_busiest_L25_9 sm K n p.1 p.2 i) 8
        (fun i b p => ∃ b', b = nI b' ∧ b' < 8 ∧ (∀ k, k < i → c k ≤ c b') ∧ p.2 = nI (c b') ∧ p.1 = (if c b' = 0 then m2 else nI b')) (fun o q => ∃ v, o = some v ∧ q = K v) ?_ ?_ 10000 9999 1 (nI 0) (if c 0 = 0 then m2 else nI 0, nI (c 0)) (by omega) (by omega) (by omega) ⟨0, rfl, by omega, fun k hk => by rw [show k = 0 by omega]; exact Nat.le_refl _, rfl, rfl⟩
      · rintro n n2 b ⟨B, M⟩ ⟨b', rfl, w1, w2, w3, w4⟩
        have w3 : M = nI (c b') := w3
        have w5 : B = (if c b' = 0 then m2 else nI b') := w4
        subst w3
        refine ⟨B, ?_, ?_⟩
        · show f_X2_keyOfMost_L4_6 _ _ (n + 1) (nI b') (nI 8) = _
          rw [f_X2_keyOfMost_L4_6]
          refine (if_pos (by decide)).trans ?_
          rw [b2, w5]
          by_cases q : T = 0
          · subst q
            have := (hc b' w1).1
            rw [if_pos (show c b' = 0 by omega)]
            rfl
          · obtain ⟨k, c', e1, e2, e3, e4⟩ := b9 (by omega)
            have e5 : c k = c' := (nI_eq (by have := (hc k e1).1; omega) (by omega)).mp ((hc k e1).2.symm.trans e4)
            have := w2 k e1
            rw [if_neg (show ¬ c b' = 0 by omega)]
            exact if_neg (nI_ne0 (by omega) (by omega))
        · show f_X9_busiest_L25_9 sm K (n2 + 1) B (nI (c b')) (nI 8) = _
          rw [f_X9_busiest_L25_9]
          exact if_pos (by decide)
      · rintro n n2 i b ⟨B, M⟩ hi ⟨b', rfl, w1, w2, w3, w4⟩
        have w3 : M = nI (c b') := w3
        have w4 : B = (if c b' = 0 then m2 else nI b') := w4
        subst w3
        have n1 : nI i + (1 : Int32) = nI (i + 1) := nI_1 i
        have hI : inb (nI i) 8 := inbN hi (by omega)
        have hix : ix (nI i) = i := ixN (by omega)
        have hIb : inb (nI b') 8 := inbN w1 (by omega)
        have hixb : ix (nI b') = b' := ixN (by omega)
        have ci := hc i hi
        have cb := hc b' w1
        by_cases q : c i ≤ c b'
        · refine ⟨nI b', (B, nI (c b')), ⟨b', rfl, w1, fun k hk => ?_, rfl, w4⟩, ?_, ?_⟩
          · by_cases e : k = i
            · rw [e]; exact q
            · exact w2 k (by omega)
          · show f_X2_keyOfMost_L4_6 _ _ (n + 1) (nI b') (nI i) = _
            rw [f_X2_keyOfMost_L4_6, n1, hix, hixb, ci.2, cb.2]
            exact (if_neg (nI_ge hi (by omega))).trans ((if_pos hI).trans ((if_pos hIb).trans (if_pos (nI_le q (by omega)))))
          · show f_X9_busiest_L25_9 sm K (n2 + 1) B (nI (c b')) (nI i) = _
            rw [f_X9_busiest_L25_9, n1]
            exact (if_neg (nI_ge hi (by omega))).trans (eb (gk i hi) (if_neg (nI_nlt q (by omega))))
        · refine ⟨nI i, (nI i, nI (c i)), ⟨i, rfl, hi, fun k hk => ?_, rfl, ?_⟩, ?_, ?_⟩
          · by_cases e : k = i
            · rw [e]; exact Nat.le_refl _
            · have := w2 k (by omega); omega
          · show nI i = _
            rw [if_neg (by omega)]
          · show f_X2_keyOfMost_L4_6 _ _ (n + 1) (nI b') (nI i) = _
            rw [f_X2_keyOfMost_L4_6, n1, hix, hixb, ci.2, cb.2]
            exact (if_neg (nI_ge hi (by omega))).trans ((if_pos hI).trans ((if_pos hIb).trans (if_neg (nI_ge (by omega) (by omega)))))
          · show f_X9_busiest_L25_9 sm K (n2 + 1) B (nI (c b')) (nI i) = _
            rw [f_X9_busiest_L25_9, n1]
            exact (if_neg (nI_ge hi (by omega))).trans (eb (gk i hi) ((if_pos (nI_lt (by omega) (by omega))).trans (eb (gk i hi) rfl)))
    obtain ⟨v, a1, a2⟩ := main (fun (x1_3 : Int32) => (f_X9_good (Mo_w_thrown sm (0 : Int32)) x1_3).bind fun r4 => some ((r4.1), (r4.2)))
    exact fin_g h v (eb a1 rfl) ((if_neg nT).trans (eg (a2.trans rfl))))
def cD (nt : Nat → Int32) (s n : Nat) : Int32 := itr (fun i a => if nI 0 ≤ nt (64 * s + i) then a else a + nI 1) (nI 0) n
theorem st_debts (n : Nat) (p1 : Int32) : StpR n (fun cs => fc_debts cs p1) (fun sm => f_X9_debts sm p1) := stp1 (fN := fun s => f_X8_debts_N s p1) (fB := fun s => f_X8_debts_B s p1) (fun _ => rfl) (fun _ => rfl) (fun _ _ => rfl)
  (fun sm s h => fin_n h _ 1 tr1 rfl ((if_pos h.2.2.2.1).trans rfl))
  (fun hn sm s kc vc h => by
    have nT := h.nT
    have hh := h
    obtain ⟨_, _, _, T, hT, ⟨g, hBd⟩, _⟩ := hh
    unfold f_X8_debts_B f_X9_debts
    rcases side2 p1 with ⟨j, hj, rfl, a, b⟩ | ⟨a, b⟩
    · have c1 : f_X0_countDebts (Bk_board (OuB_books s)) (nI j) = some (cD (Bd_nets (Bk_board (OuB_books s))) j 64) := by
        unfold f_X0_countDebts
        rw [glE, li_0]
        refine lpi (L := fun n i c => f_X0_countDebts_L4_5 (Bk_board (OuB_books s)) (nI j) (fun x => some x) n c i) (K := fun x => some x) 64 (fun i a => if nI 0 ≤ Bd_nets (Bk_board (OuB_books s)) (64 * j + i) then a else a + nI 1) ?_ ?_ (nI 0) (by omega)
        · intro n c
          simp (disch := omega) only [li_0, li_1, li_2, li_3, li_4, li_5, li_6, li_7, li_8, li_9, li_10, li_11, li_12, li_13, li_14, li_15, li_16, li_20, li_30, li_31, li_32, li_40, li_42, li_45, li_48, li_57, li_58, li_59, li_60, li_64, li_74, li_75, li_81, li_97, li_122, li_124, li_143, li_151, li_159, li_167, li_175, li_200, li_255, li_648, li_650, li_823, li_900, li_999, li_1123, li_1298, li_1363, li_1379, li_2592, li_6571, li_9999, li_65536, li_65537, ng1, ng2, nI_add, pk_mul, remN, divN, inbI, ixN, leN, ltN, eqN, m1E, m1E', m2E, m12, m21, bsm, glE, b2iT, b2iF, if_pos, if_neg, ite_true, ite_false, not_true, not_false_iff, reduceCtorEq, f_X0_countDebts_L4_5]
        · intro n i c hi
          have e1 : nI j * (8 : Int32) * (8 : Int32) + nI i = nI (64 * j + i) := by
            simp (disch := omega) only [li_0, li_1, li_2, li_3, li_4, li_5, li_6, li_7, li_8, li_9, li_10, li_11, li_12, li_13, li_14, li_15, li_16, li_20, li_30, li_31, li_32, li_40, li_42, li_45, li_48, li_57, li_58, li_59, li_60, li_64, li_74, li_75, li_81, li_97, li_122, li_124, li_143, li_151, li_159, li_167, li_175, li_200, li_255, li_648, li_650, li_823, li_900, li_999, li_1123, li_1298, li_1363, li_1379, li_2592, li_6571, li_9999, li_65536, li_65537, ng1, ng2, nI_add, pk_mul, remN, divN, inbI, ixN, leN, ltN, eqN, m1E, m1E', m2E, m12, m21, bsm, glE, b2iT, b2iF, if_pos, if_neg, ite_true, ite_false, not_true, not_false_iff, reduceCtorEq]
            congr 1
            omega
          show f_X0_countDebts_L4_5 (Bk_board (OuB_books s)) (nI j) (fun x => some x) (n + 1) c (nI i) = f_X0_countDebts_L4_5 (Bk_board (OuB_books s)) (nI j) (fun x => some x) n (if nI 0 ≤ Bd_nets (Bk_board (OuB_books s)) (64 * j + i) then c else c + nI 1) (nI (i + 1))
          rw [f_X0_countDebts_L4_5, e1, ixN (by omega), show nI i + (1 : Int32) = nI (i + 1) from nI_1 i]
          refine (if_neg (nI_ge hi (by omega))).trans ((if_pos (inbN (by omega) (by omega))).trans ?_)
          by_cases q : nI 0 ≤ Bd_nets (Bk_board (OuB_books s)) (64 * j + i)
          · rw [if_pos q]
            exact if_pos q
          · rw [if_neg q]
            exact if_neg q
      have r1 : ∀ (K : Int32 → Option (Int32 × MoT)) (k : Nat), k < 8 → f_X9_debts_L38_20 sm (nI j) (nI k) K 10000 (cD (Bd_nets (Bk_board (OuB_books s))) j (8 * k)) 0 = K (cD (Bd_nets (Bk_board (OuB_books s))) j (8 * (k + 1))) := by
        intro K k hk
        rw [li_0]
        refine lpc (L := fun n i c => f_X9_debts_L38_20 sm (nI j) (nI k) K n c i) (K := K) 8 (fun v => cD (Bd_nets (Bk_board (OuB_books s))) j (8 * k + v)) ?_ ?_ (by omega)
        · intro n
          show f_X9_debts_L38_20 sm (nI j) (nI k) K (n + 1) _ (nI 8) = _
          rw [f_X9_debts_L38_20]
          exact if_pos (by decide)
        · intro n v hv
          have na : f_X9_netAt (nI j) (nI k) (nI v) = some (nI (15 + 64 * j + 8 * k + v)) := by
            unfold f_X9_netAt
            simp (disch := omega) only [li_0, li_1, li_2, li_3, li_4, li_5, li_6, li_7, li_8, li_9, li_10, li_11, li_12, li_13, li_14, li_15, li_16, li_20, li_30, li_31, li_32, li_40, li_42, li_45, li_48, li_57, li_58, li_59, li_60, li_64, li_74, li_75, li_81, li_97, li_122, li_124, li_143, li_151, li_159, li_167, li_175, li_200, li_255, li_648, li_650, li_823, li_900, li_999, li_1123, li_1298, li_1363, li_1379, li_2592, li_6571, li_9999, li_65536, li_65537, ng1, ng2, nI_add, pk_mul, remN, divN, inbI, ixN, leN, ltN, eqN, m1E, m1E', m2E, m12, m21, bsm, glE, b2iT, b2iF, if_pos, if_neg, ite_true, ite_false, not_true, not_false_iff, reduceCtorEq]
          have gx := gTx sm (i := 15 + 64 * j + 8 * k + v) (by omega)
          have e0 : Mo_x sm (15 + 64 * j + 8 * k + v) = Bd_nets (Bk_board (OuB_books s)) (64 * j + (8 * k + v)) := by
            rw [hBd.1 _ (by omega)]
            unfold xn
            congr 1
            omega
          rw [e0] at gx
          show f_X9_debts_L38_20 sm (nI j) (nI k) K (n + 1) (cD (Bd_nets (Bk_board (OuB_books s))) j (8 * k + v)) (nI v) = f_X9_debts_L38_20 sm (nI j) (nI k) K n (if nI 0 ≤ Bd_nets (Bk_board (OuB_books s)) (64 * j + (8 * k + v)) then cD (Bd_nets (Bk_board (OuB_books s))) j (8 * k + v) else cD (Bd_nets (Bk_board (OuB_books s))) j (8 * k + v) + nI 1) (nI (v + 1))
          rw [f_X9_debts_L38_20, show nI v + (1 : Int32) = nI (v + 1) from nI_1 v]
          refine (if_neg (nI_ge hv (by omega))).trans (eb na (eb gx ?_))
          by_cases q : nI 0 ≤ Bd_nets (Bk_board (OuB_books s)) (64 * j + (8 * k + v))
          · rw [if_pos q]
            refine (if_pos q).trans ?_
            rw [show cD (Bd_nets (Bk_board (OuB_books s))) j (8 * k + v) + (0 : Int32) = cD (Bd_nets (Bk_board (OuB_books s))) j (8 * k + v) from z1 _]
          · rw [if_neg q]
            exact if_neg q
      have r2 : ∀ (K : Int32 → Option (Int32 × MoT)), f_X9_debts_L29_13 sm (nI j) K 10000 0 0 = K (cD (Bd_nets (Bk_board (OuB_books s))) j 64) := by
        intro K
        rw [li_0]
        refine lpc (L := fun n i c => f_X9_debts_L29_13 sm (nI j) K n c i) (K := K) 8 (fun k => cD (Bd_nets (Bk_board (OuB_books s))) j (8 * k)) ?_ ?_ (by omega)
        · intro n
          show f_X9_debts_L29_13 sm (nI j) K (n + 1) _ (nI 8) = _
          rw [f_X9_debts_L29_13]
          exact if_pos (by decide)
        · intro n k hk
          show f_X9_debts_L29_13 sm (nI j) K (n + 1) _ (nI k) = _
          rw [f_X9_debts_L29_13, show nI k + (1 : Int32) = nI (k + 1) from nI_1 k]
          exact (if_neg (nI_ge hk (by omega))).trans (eg ((r1 _ k hk).trans rfl))
      exact fin_g h _ (eb a ((if_neg (by decide)).trans (eb c1 rfl))) ((if_neg nT).trans (eb b ((if_neg (by decide)).trans (eg ((r2 _).trans rfl)))))
    · exact fin_r h _ 1 tr1 (eb a rfl) ((if_neg nT).trans (eb b rfl)))
/-- a key that lives alone -/
theorem single2 {n kc vc : Nat} {s : OuBT} {sm : MoT} (hn : n < 512) (h : RB n kc vc s sm) (p1 : Int32) :
    (∃ k : Int32, f_X8_single_B s p1 = some k ∧ f_X9_single sm p1 = some (k, mT sm)) ∨ (f_X1_lonelyKey (OuB_books s) p1 = some (-1) ∧ f_X9_single sm p1 = some (0, Mo_w_thrown sm 1)) := by
  have nT := h.nT
  obtain ⟨_, _, _, T, hT, ⟨g, hBd⟩, _, _, hLv, _, _, _, _, hNb⟩ := h
  have hnB : nB (xn (Mo_x sm) 0) := fun i hi => by rw [← hBd.1 i hi]; exact hNb.nB (by omega) i hi
  unfold f_X8_single_B f_X9_single
  have main : ∀ (K1 : Int32 → Option (Int32 × MoT)) (K3 : Unit → Option (Int32 × MoT)), (∃ k, k < 8 ∧ f_X1_lonelyKey (OuB_books s) p1 = some (nI k) ∧ f_X9_single_L9_6 sm p1 K1 K3 10000 0 0 = K1 (nI k)) ∨ (f_X1_lonelyKey (OuB_books s) p1 = some (-1) ∧ f_X9_single_L9_6 sm p1 K1 K3 10000 0 0 = K3 ()) := by
    intro K1 K3
    unfold f_X1_lonelyKey
    rw [glE, glE, li_0]
    have hk8 : ∀ fuel1 fuel2 i c, i ≤ 8 → 8 - i < fuel1 → 8 - i < fuel2 → (∃ k, k < 8 ∧ f_X1_lonelyKey_L4_6 (OuB_books s) p1 (fun (x3_2 : Int32) => some (x3_2)) (fun (_ : Unit) => some ((-1 : Int32))) fuel1 c (nI i) = some (nI k) ∧ f_X9_single_L9_6 sm p1 K1 K3 fuel2 c (nI i) = K1 (nI k)) ∨ (f_X1_lonelyKey_L4_6 (OuB_books s) p1 (fun (x3_2 : Int32) => some (x3_2)) (fun (_ : Unit) => some ((-1 : Int32))) fuel1 c (nI i) = some (-1) ∧ f_X9_single_L9_6 sm p1 K1 K3 fuel2 c (nI i) = K3 ()) := by
      intro fuel1
      induction fuel1 with
      | zero => intro fuel2 i c h1 h2; omega
      | succ f1 ih =>
        intro fuel2 i c h1 h2 h3
        cases fuel2 with
        | zero => omega
        | succ f2 =>
          rw [f_X1_lonelyKey_L4_6, f_X9_single_L9_6, show nI i + (1 : Int32) = nI (i + 1) from nI_1 i]
          by_cases e8 : i = 8
          · subst e8
            exact Or.inr ⟨if_pos (by decide), (if_neg nT).trans (if_pos (by decide))⟩
          · have hi : i < 8 := by omega
            have cl := c_lives (OuB_books s) hi
            have rl : f_X9_lives (mT sm) 0 (nI i) = some (b2i (decide (Mo_x sm (6571 * 0 + (143 + i)) = nI 1))) := r_lives (mT sm) (Mo_x sm) (b := 0) (by omega) hi
            have go := ih f2 (i + 1) c (by omega) (by omega) (by omega)
            rcases hLv i hi with ⟨p1', p2, p3⟩ | ⟨lt, p1', p2, p3, p4⟩
            · simp only [p2, decide_true, Bool.not_true] at cl
              simp only [p1', show (nI 0 = nI 1) = False from eq_false (by decide), decide_false] at rl
              have ec := fun A : Option Int32 => (if_neg (nI_ge hi (by omega)) : (if (8 : Int32) ≤ nI i then some (-1 : Int32) else A) = A)
              rcases go with ⟨k, w1, w2, w3⟩ | ⟨w2, w3⟩
              · exact Or.inl ⟨k, w1, (if_neg (nI_ge hi (by omega))).trans (eb cl ((if_pos rfl).trans w2)), (if_neg nT).trans ((if_neg (nI_ge hi (by omega))).trans (eb rl ((if_pos rfl).trans w3)))⟩
              · exact Or.inr ⟨(if_neg (nI_ge hi (by omega))).trans (eb cl ((if_pos rfl).trans w2)), (if_neg nT).trans ((if_neg (nI_ge hi (by omega))).trans (eb rl ((if_pos rfl).trans w3)))⟩
            · simp only [p4, m2E (show lt < 2147483648 by omega), decide_false, Bool.not_false] at cl
              simp only [p2, decide_true] at rl
              have c0 := c_has (Bk_board (OuB_books s)) (show 0 < 2 by omega) hi
              have c1 := c_has (Bk_board (OuB_books s)) (show 1 < 2 by omega) hi
              have r0 : f_X9_has (mT sm) 0 0 (nI i) = some (b2i (hsB (Bd_nets (Bk_board (OuB_books s))) 0 i)) := by
                rw [hsB_congr (by omega) hi hBd.1]
                exact r_has (mT sm) (Mo_x sm) (b := 0) (by omega) (show 0 < 2 by omega) hi hnB
              have r1 : f_X9_has (mT sm) 0 1 (nI i) = some (b2i (hsB (Bd_nets (Bk_board (OuB_books s))) 1 i)) := by
                rw [hsB_congr (by omega) hi hBd.1]
                exact r_has (mT sm) (Mo_x sm) (b := 0) (by omega) (show 1 < 2 by omega) hi hnB
              by_cases q : b2i (hsB (Bd_nets (Bk_board (OuB_books s))) 0 i) = b2i (hsB (Bd_nets (Bk_board (OuB_books s))) 1 i)
              · rcases go with ⟨k, w1, w2, w3⟩ | ⟨w2, w3⟩
                · exact Or.inl ⟨k, w1, (if_neg (nI_ge hi (by omega))).trans (eb cl ((if_neg (by decide)).trans (eb c0 (eb c1 ((if_pos q).trans w2))))), (if_neg nT).trans ((if_neg (nI_ge hi (by omega))).trans (eb rl ((if_neg (by decide)).trans (eb r0 (eb r1 ((if_pos q).trans w3))))))⟩
                · exact Or.inr ⟨(if_neg (nI_ge hi (by omega))).trans (eb cl ((if_neg (by decide)).trans (eb c0 (eb c1 ((if_pos q).trans w2))))), (if_neg nT).trans ((if_neg (nI_ge hi (by omega))).trans (eb rl ((if_neg (by decide)).trans (eb r0 (eb r1 ((if_pos q).trans w3))))))⟩
              · by_cases q2 : c = p1
                · exact Or.inl ⟨i, hi, (if_neg (nI_ge hi (by omega))).trans (eb cl ((if_neg (by decide)).trans (eb c0 (eb c1 ((if_neg q).trans (if_pos q2)))))), (if_neg nT).trans ((if_neg (nI_ge hi (by omega))).trans (eb rl ((if_neg (by decide)).trans (eb r0 (eb r1 ((if_neg q).trans (if_pos q2)))))))⟩
                · have go2 := ih f2 (i + 1) (c + 1) (by omega) (by omega) (by omega)
                  rcases go2 with ⟨k, w1, w2, w3⟩ | ⟨w2, w3⟩
                  · exact Or.inl ⟨k, w1, (if_neg (nI_ge hi (by omega))).trans (eb cl ((if_neg (by decide)).trans (eb c0 (eb c1 ((if_neg q).trans ((if_neg q2).trans w2)))))), (if_neg nT).trans ((if_neg (nI_ge hi (by omega))).trans (eb rl ((if_neg (by decide)).trans (eb r0 (eb r1 ((if_neg q).trans ((if_neg q2).trans w3)))))))⟩
                  · exact Or.inr ⟨(if_neg (nI_ge hi (by omega))).trans (eb cl ((if_neg (by decide)).trans (eb c0 (eb c1 ((if_neg q).trans ((if_neg q2).trans w2)))))), (if_neg nT).trans ((if_neg (nI_ge hi (by omega))).trans (eb rl ((if_neg (by decide)).trans (eb r0 (eb r1 ((if_neg q).trans ((if_neg q2).trans w3)))))))⟩
    exact hk8 10000 10000 0 (nI 0) (by omega) (by omega) (by omega)
  rcases main (fun (x3_2 : Int32) => some (x3_2, (Mo_w_thrown sm (0 : Int32)))) (fun (_ : Unit) => some ((0 : Int32), (Mo_w_thrown sm (1 : Int32)))) with ⟨k, hk, w2, w3⟩ | ⟨w2, w3⟩
  · exact Or.inl ⟨nI k, eb w2 (if_neg (fun e => (m1E (n := k) (by omega)).mp e)), eg (eg (w3.trans rfl))⟩
  · exact Or.inr ⟨w2, eg (eg (w3.trans rfl))⟩
